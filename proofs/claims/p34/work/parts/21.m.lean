theorem dgX12_scene_0 : (decode cX12_scene 0 = .ok (.iload_n 1, 1)) ∧ (decode cX12_scene 1 = .ok (.iconst 0, 1)) ∧ (decode cX12_scene 2 = .ok (.bipush 9, 2)) ∧ (decode cX12_scene 4 = .ok (.invokestatic 149, 3)) ∧ (decode cX12_scene 7 = .ok (.ifCond .eq 35, 3)) ∧ (decode cX12_scene 10 = .ok (.aload_n 0, 1)) ∧ (decode cX12_scene 11 = .ok (.iload_n 2, 1)) ∧ (decode cX12_scene 12 = .ok (.invokevirtual 166, 3)) ∧ (decode cX12_scene 15 = .ok (.ifCond .eq 27, 3)) ∧ (decode cX12_scene 18 = .ok (.iload_n 3, 1)) ∧ True := dkW [(0, .iload_n 1, 1), (1, .iconst 0, 1), (2, .bipush 9, 2), (4, .invokestatic 149, 3), (7, .ifCond .eq 35, 3), (10, .aload_n 0, 1), (11, .iload_n 2, 1), (12, .invokevirtual 166, 3), (15, .ifCond .eq 27, 3), (18, .iload_n 3, 1)] 0 (by decide +kernel)
theorem dX12_scene_0 : decode cX12_scene 0 = .ok (.iload_n 1, 1) := dgX12_scene_0.1
theorem dX12_scene_1 : decode cX12_scene 1 = .ok (.iconst 0, 1) := dgX12_scene_0.2.1
theorem dX12_scene_2 : decode cX12_scene 2 = .ok (.bipush 9, 2) := dgX12_scene_0.2.2.1
theorem dX12_scene_4 : decode cX12_scene 4 = .ok (.invokestatic 149, 3) := dgX12_scene_0.2.2.2.1
theorem dX12_scene_7 : decode cX12_scene 7 = .ok (.ifCond .eq 35, 3) := dgX12_scene_0.2.2.2.2.1
theorem dX12_scene_10 : decode cX12_scene 10 = .ok (.aload_n 0, 1) := dgX12_scene_0.2.2.2.2.2.1
theorem dX12_scene_11 : decode cX12_scene 11 = .ok (.iload_n 2, 1) := dgX12_scene_0.2.2.2.2.2.2.1
theorem dX12_scene_12 : decode cX12_scene 12 = .ok (.invokevirtual 166, 3) := dgX12_scene_0.2.2.2.2.2.2.2.1
theorem dX12_scene_15 : decode cX12_scene 15 = .ok (.ifCond .eq 27, 3) := dgX12_scene_0.2.2.2.2.2.2.2.2.1
theorem dX12_scene_18 : decode cX12_scene 18 = .ok (.iload_n 3, 1) := dgX12_scene_0.2.2.2.2.2.2.2.2.2.1
theorem dX12_scene_19 : decode cX12_scene 19 = .ok (.iconst (-1), 1) := by decide +kernel
theorem dgX12_scene_20 : (decode cX12_scene 20 = .ok (.if_icmp .eq 25, 3)) ∧ (decode cX12_scene 23 = .ok (.iload_n 3, 1)) ∧ (decode cX12_scene 24 = .ok (.aload_n 0, 1)) ∧ (decode cX12_scene 25 = .ok (.getfield 22, 3)) ∧ (decode cX12_scene 28 = .ok (.iload_n 2, 1)) ∧ (decode cX12_scene 29 = .ok (.iaload, 1)) ∧ (decode cX12_scene 30 = .ok (.aload_n 0, 1)) ∧ (decode cX12_scene 31 = .ok (.getfield 25, 3)) ∧ (decode cX12_scene 34 = .ok (.iload_n 2, 1)) ∧ (decode cX12_scene 35 = .ok (.iaload, 1)) ∧ (decode cX12_scene 36 = .ok (.invokestatic 149, 3)) ∧ (decode cX12_scene 39 = .ok (.ifCond .ne 6, 3)) ∧ True := dkW [(20, .if_icmp .eq 25, 3), (23, .iload_n 3, 1), (24, .aload_n 0, 1), (25, .getfield 22, 3), (28, .iload_n 2, 1), (29, .iaload, 1), (30, .aload_n 0, 1), (31, .getfield 25, 3), (34, .iload_n 2, 1), (35, .iaload, 1), (36, .invokestatic 149, 3), (39, .ifCond .ne 6, 3)] 20 (by decide +kernel)
theorem dX12_scene_20 : decode cX12_scene 20 = .ok (.if_icmp .eq 25, 3) := dgX12_scene_20.1
theorem dX12_scene_23 : decode cX12_scene 23 = .ok (.iload_n 3, 1) := dgX12_scene_20.2.1
theorem dX12_scene_24 : decode cX12_scene 24 = .ok (.aload_n 0, 1) := dgX12_scene_20.2.2.1
theorem dX12_scene_25 : decode cX12_scene 25 = .ok (.getfield 22, 3) := dgX12_scene_20.2.2.2.1
theorem dX12_scene_28 : decode cX12_scene 28 = .ok (.iload_n 2, 1) := dgX12_scene_20.2.2.2.2.1
theorem dX12_scene_29 : decode cX12_scene 29 = .ok (.iaload, 1) := dgX12_scene_20.2.2.2.2.2.1
theorem dX12_scene_30 : decode cX12_scene 30 = .ok (.aload_n 0, 1) := dgX12_scene_20.2.2.2.2.2.2.1
theorem dX12_scene_31 : decode cX12_scene 31 = .ok (.getfield 25, 3) := dgX12_scene_20.2.2.2.2.2.2.2.1
theorem dX12_scene_34 : decode cX12_scene 34 = .ok (.iload_n 2, 1) := dgX12_scene_20.2.2.2.2.2.2.2.2.1
theorem dX12_scene_35 : decode cX12_scene 35 = .ok (.iaload, 1) := dgX12_scene_20.2.2.2.2.2.2.2.2.2.1
theorem dX12_scene_36 : decode cX12_scene 36 = .ok (.invokestatic 149, 3) := dgX12_scene_20.2.2.2.2.2.2.2.2.2.2.1
theorem dX12_scene_39 : decode cX12_scene 39 = .ok (.ifCond .ne 6, 3) := dgX12_scene_20.2.2.2.2.2.2.2.2.2.2.2.1
theorem dgX12_scene_42 : (decode cX12_scene 42 = .ok (.bipush (-2), 2)) ∧ (decode cX12_scene 44 = .ok (.ireturn, 1)) ∧ (decode cX12_scene 45 = .ok (.aload_n 0, 1)) ∧ (decode cX12_scene 46 = .ok (.getfield 76, 3)) ∧ (decode cX12_scene 49 = .ok (.bipush 40, 2)) ∧ (decode cX12_scene 51 = .ok (.iload_n 1, 1)) ∧ (decode cX12_scene 52 = .ok (.imul, 1)) ∧ (decode cX12_scene 53 = .ok (.iload_n 2, 1)) ∧ (decode cX12_scene 54 = .ok (.iadd, 1)) ∧ (decode cX12_scene 55 = .ok (.iaload, 1)) ∧ (decode cX12_scene 56 = .ok (.istore 4, 2)) ∧ (decode cX12_scene 58 = .ok (.aload_n 0, 1)) ∧ True := dkW [(42, .bipush (-2), 2), (44, .ireturn, 1), (45, .aload_n 0, 1), (46, .getfield 76, 3), (49, .bipush 40, 2), (51, .iload_n 1, 1), (52, .imul, 1), (53, .iload_n 2, 1), (54, .iadd, 1), (55, .iaload, 1), (56, .istore 4, 2), (58, .aload_n 0, 1)] 42 (by decide +kernel)
theorem dX12_scene_42 : decode cX12_scene 42 = .ok (.bipush (-2), 2) := dgX12_scene_42.1
theorem dX12_scene_44 : decode cX12_scene 44 = .ok (.ireturn, 1) := dgX12_scene_42.2.1
theorem dX12_scene_45 : decode cX12_scene 45 = .ok (.aload_n 0, 1) := dgX12_scene_42.2.2.1
theorem dX12_scene_46 : decode cX12_scene 46 = .ok (.getfield 76, 3) := dgX12_scene_42.2.2.2.1
theorem dX12_scene_49 : decode cX12_scene 49 = .ok (.bipush 40, 2) := dgX12_scene_42.2.2.2.2.1
theorem dX12_scene_51 : decode cX12_scene 51 = .ok (.iload_n 1, 1) := dgX12_scene_42.2.2.2.2.2.1
theorem dX12_scene_52 : decode cX12_scene 52 = .ok (.imul, 1) := dgX12_scene_42.2.2.2.2.2.2.1
theorem dX12_scene_53 : decode cX12_scene 53 = .ok (.iload_n 2, 1) := dgX12_scene_42.2.2.2.2.2.2.2.1
theorem dX12_scene_54 : decode cX12_scene 54 = .ok (.iadd, 1) := dgX12_scene_42.2.2.2.2.2.2.2.2.1
theorem dX12_scene_55 : decode cX12_scene 55 = .ok (.iaload, 1) := dgX12_scene_42.2.2.2.2.2.2.2.2.2.1
theorem dX12_scene_56 : decode cX12_scene 56 = .ok (.istore 4, 2) := dgX12_scene_42.2.2.2.2.2.2.2.2.2.2.1
theorem dX12_scene_58 : decode cX12_scene 58 = .ok (.aload_n 0, 1) := dgX12_scene_42.2.2.2.2.2.2.2.2.2.2.2.1
theorem dgX12_scene_59 : (decode cX12_scene 59 = .ok (.getfield 76, 3)) ∧ (decode cX12_scene 62 = .ok (.bipush 40, 2)) ∧ (decode cX12_scene 64 = .ok (.iload_n 1, 1)) ∧ (decode cX12_scene 65 = .ok (.imul, 1)) ∧ (decode cX12_scene 66 = .ok (.iload_n 2, 1)) ∧ (decode cX12_scene 67 = .ok (.iadd, 1)) ∧ (decode cX12_scene 68 = .ok (.iload_n 3, 1)) ∧ (decode cX12_scene 69 = .ok (.iastore, 1)) ∧ (decode cX12_scene 70 = .ok (.iload 4, 2)) ∧ (decode cX12_scene 72 = .ok (.ireturn, 1)) ∧ True := dkW [(59, .getfield 76, 3), (62, .bipush 40, 2), (64, .iload_n 1, 1), (65, .imul, 1), (66, .iload_n 2, 1), (67, .iadd, 1), (68, .iload_n 3, 1), (69, .iastore, 1), (70, .iload 4, 2), (72, .ireturn, 1)] 59 (by decide +kernel)
theorem dX12_scene_59 : decode cX12_scene 59 = .ok (.getfield 76, 3) := dgX12_scene_59.1
theorem dX12_scene_62 : decode cX12_scene 62 = .ok (.bipush 40, 2) := dgX12_scene_59.2.1
theorem dX12_scene_64 : decode cX12_scene 64 = .ok (.iload_n 1, 1) := dgX12_scene_59.2.2.1
theorem dX12_scene_65 : decode cX12_scene 65 = .ok (.imul, 1) := dgX12_scene_59.2.2.2.1
theorem dX12_scene_66 : decode cX12_scene 66 = .ok (.iload_n 2, 1) := dgX12_scene_59.2.2.2.2.1
theorem dX12_scene_67 : decode cX12_scene 67 = .ok (.iadd, 1) := dgX12_scene_59.2.2.2.2.2.1
theorem dX12_scene_68 : decode cX12_scene 68 = .ok (.iload_n 3, 1) := dgX12_scene_59.2.2.2.2.2.2.1
theorem dX12_scene_69 : decode cX12_scene 69 = .ok (.iastore, 1) := dgX12_scene_59.2.2.2.2.2.2.2.1
theorem dX12_scene_70 : decode cX12_scene 70 = .ok (.iload 4, 2) := dgX12_scene_59.2.2.2.2.2.2.2.2.1
theorem dX12_scene_72 : decode cX12_scene 72 = .ok (.ireturn, 1) := dgX12_scene_59.2.2.2.2.2.2.2.2.2.1
abbrev rmX12_scene : Room := { frames := 2, cells := 0, slots := 0, locals := 43 }
noncomputable def fX12_scene_b42 (N : Nat)  (t : Nat) (h : Hs)  : Option (Int32 × Hs) :=
  some ((-2), h)
set_option maxHeartbeats 4000000 in
set_option maxRecDepth 20000 in
theorem wX12_scene_b42 {p : Program} {l : Launch} {e : Env} {s : State} {m : MethodId} {args : Array Value} {below : List Frame} {meth : Method} {c : Code} {G : Gl} {N : Nat} {h : Hs} {r : Int32 × Hs}  {t : Nat}  (C : Cx p s m args meth c cX12_scene RX12 5 G) (hret : meth.sig.returnType = (some .int))  (hf : fX12_scene_b42 N  t h  = some r) : V p l e rmX12_scene s m args below meth c G 5 (MQ below (QcG G (some (.inl r.1)) r.2) args s rmX12_scene.cells rmX12_scene.slots (AG G)) h 0 0 42 [some (.inr (some t)), none, none, none, none] [] := by
  unfold fX12_scene_b42 at hf
  refine r_bipush (v := -2) C dX12_scene_42 (by decide) ?_
  exact r_iretF C dX12_scene_44 hret hf (by decide) (by decide)
noncomputable def fX12_scene_b45 (N : Nat)  (t : Nat) (h : Hs) (x1 : Int32) (x2 : Int32) (x3 : Int32) : Option (Int32 × Hs) :=
  (oR 12 28 h (some t)).bind fun o1 =>
  (lA 20 h o1 ((40 * x1) + x2)).bind fun v2 =>
  (oR 12 28 h (some t)).bind fun o3 =>
  (sA h o3 ((40 * x1) + x2) x3).bind fun h4 =>
  some (v2, h4)
set_option maxHeartbeats 4000000 in
set_option maxRecDepth 20000 in
theorem wX12_scene_b45 {p : Program} {l : Launch} {e : Env} {s : State} {m : MethodId} {args : Array Value} {below : List Frame} {meth : Method} {c : Code} {G : Gl} {N : Nat} {h : Hs} {r : Int32 × Hs}  {t : Nat} {x1 : Int32} {x2 : Int32} {x3 : Int32} (C : Cx p s m args meth c cX12_scene RX12 5 G) (hret : meth.sig.returnType = (some .int))  (hf : fX12_scene_b45 N  t h x1 x2 x3 = some r) : V p l e rmX12_scene s m args below meth c G 5 (MQ below (QcG G (some (.inl r.1)) r.2) args s rmX12_scene.cells rmX12_scene.slots (AG G)) h 0 0 45 [some (.inr (some t)), some (.inl x1), some (.inl x2), some (.inl x3), none] [] := by
  unfold fX12_scene_b45 at hf
  refine r_aload_n C dX12_scene_45 rfl ?_
  obtain ⟨o1, eo1, hf⟩ := bS hf
  refine r_getR C dX12_scene_46 fl_X12_76 rfl eo1 ?_
  refine r_bipush (v := 40) C dX12_scene_49 (by decide) ?_
  refine r_iload_n C dX12_scene_51 rfl ?_
  refine r_imul C dX12_scene_52 ?_
  refine r_iload_n C dX12_scene_53 rfl ?_
  refine r_iadd C dX12_scene_54 ?_
  obtain ⟨v2, ev2, hf⟩ := bS hf
  refine r_iald C dX12_scene_55 ev2 ?_
  refine r_istore C dX12_scene_56 (by decide) ?_
  refine r_aload_n C dX12_scene_58 rfl ?_
  obtain ⟨o3, eo3, hf⟩ := bS hf
  refine r_getR C dX12_scene_59 fl_X12_76 rfl eo3 ?_
  refine r_bipush (v := 40) C dX12_scene_62 (by decide) ?_
  refine r_iload_n C dX12_scene_64 rfl ?_
  refine r_imul C dX12_scene_65 ?_
  refine r_iload_n C dX12_scene_66 rfl ?_
  refine r_iadd C dX12_scene_67 ?_
  refine r_iload_n C dX12_scene_68 rfl ?_
  obtain ⟨h4, eh4, hf⟩ := bS hf
  refine r_iast C dX12_scene_69 eh4 ?_
  refine r_iload C dX12_scene_70 rfl ?_
  exact r_iretF C dX12_scene_72 hret hf (by decide) (by decide)
noncomputable def fX12_scene (N : Nat) (h : Hs) (t : Nat) (p1 : Int32) (p2 : Int32) (p3 : Int32) : Option (Int32 × Hs) :=
  (fX12_in N h p1 0 9).bind fun r1 =>
  if r1.1 = 0 then (
  fX12_scene_b42 N t r1.2)
  else (rc 12 r1.2 (some t)).bind fun a3 =>
  (fX12_isThing N r1.2 a3 p2).bind fun r2 =>
  if r2.1 = 0 then (
  fX12_scene_b42 N t r2.2)
  else if p3 = (-1) then (
  fX12_scene_b45 N t r2.2 p1 p2 p3)
  else (oR 12 6 r2.2 (some t)).bind fun o4 =>
  (lA 20 r2.2 o4 p2).bind fun v5 =>
  (oR 12 7 r2.2 (some t)).bind fun o6 =>
  (lA 20 r2.2 o6 p2).bind fun v7 =>
  (fX12_in N r2.2 p3 v5 v7).bind fun r8 =>
  if r8.1 = 0 then (
  fX12_scene_b42 N t r8.2)
  else fX12_scene_b45 N t r8.2 p1 p2 p3
set_option maxHeartbeats 4000000 in
set_option maxRecDepth 20000 in
theorem kX12_scene (l : Launch) (G : Gl) {N : Nat} {h : Hs} {t : Nat} {p1 : Int32} {p2 : Int32} {p3 : Int32} {r : Int32 × Hs} (hf : fX12_scene N h t p1 p2 p3 = some r) : CT l G yX12_scene cX12_scene 5 (some .int) rmX12_scene [.inr (some t), .inl p1, .inl p2, .inl p3] h (some (.inl r.1)) r.2 := by
  refine mk_CT (by decide) (Nat.le_of_ble_eq_true rfl) ?_
  intro p e s m args below meth c C hret hin
  unfold fX12_scene at hf
  refine r_iload_n C dX12_scene_0 rfl ?_
  refine r_iconst (v := 0) C dX12_scene_1 (by decide) ?_
  refine r_bipush (v := 9) C dX12_scene_2 (by decide) ?_
  obtain ⟨r1, er1, hf⟩ := bS hf
  refine r_invS1 (As := [.inl p1, .inl 0, .inl 9]) C dX12_scene_4 mcX12_in wd_1185 wd_1186 ⟨by decide, by decide⟩ ⟨by decide, by decide⟩ rfl (Nat.le_of_ble_eq_true rfl) (kX12_in l G er1) ?_
  refine r_if_eq (tgt := 42) C dX12_scene_7 (by decide) (fun hc => ?_) (fun hc => ?_)
  · have hf := ifT hf hc
    exact V.sub (wX12_scene_b42 C hret hf) (LW_s rfl (LW_n (LW_n (LW_n (LW_n (LW_e))))))
  · have hf := ifF hf hc
    refine r_aload_n C dX12_scene_10 rfl ?_
    refine r_iload_n C dX12_scene_11 rfl ?_
    obtain ⟨a3, ea3, hf⟩ := bS hf
    obtain ⟨r2, er2, hf⟩ := bS hf
    refine r_invV1 (As := [.inl p2]) (ci := 12) C dX12_scene_12 mcX12_isThing wd_1192 wd_1194 wp_31 rfl rfl (by decide) ⟨by decide, by decide⟩ ⟨by decide, by decide⟩ rfl (Nat.le_of_ble_eq_true rfl) ea3 (kX12_isThing l G er2) ?_
    refine r_if_eq (tgt := 42) C dX12_scene_15 (by decide) (fun hc => ?_) (fun hc => ?_)
    · have hf := ifT hf hc
      exact V.sub (wX12_scene_b42 C hret hf) (LW_s rfl (LW_n (LW_n (LW_n (LW_n (LW_e))))))
    · have hf := ifF hf hc
      refine r_iload_n C dX12_scene_18 rfl ?_
      refine r_iconst (v := -1) C dX12_scene_19 (by decide) ?_
      refine r_icmp_eq (tgt := 45) C dX12_scene_20 (by decide) (fun hc => ?_) (fun hc => ?_)
      · have hf := ifT hf hc
        exact V.sub (wX12_scene_b45 C hret hf) (LW_s rfl (LW_s rfl (LW_s rfl (LW_s rfl (LW_n (LW_e))))))
      · have hf := ifF hf hc
        refine r_iload_n C dX12_scene_23 rfl ?_
        refine r_aload_n C dX12_scene_24 rfl ?_
        obtain ⟨o4, eo4, hf⟩ := bS hf
        refine r_getR C dX12_scene_25 fl_X12_22 rfl eo4 ?_
        refine r_iload_n C dX12_scene_28 rfl ?_
        obtain ⟨v5, ev5, hf⟩ := bS hf
        refine r_iald C dX12_scene_29 ev5 ?_
        refine r_aload_n C dX12_scene_30 rfl ?_
        obtain ⟨o6, eo6, hf⟩ := bS hf
        refine r_getR C dX12_scene_31 fl_X12_25 rfl eo6 ?_
        refine r_iload_n C dX12_scene_34 rfl ?_
        obtain ⟨v7, ev7, hf⟩ := bS hf
        refine r_iald C dX12_scene_35 ev7 ?_
        obtain ⟨r8, er8, hf⟩ := bS hf
        refine r_invS1 (As := [.inl p3, .inl v5, .inl v7]) C dX12_scene_36 mcX12_in wd_1185 wd_1186 ⟨by decide, by decide⟩ ⟨by decide, by decide⟩ rfl (Nat.le_of_ble_eq_true rfl) (kX12_in l G er8) ?_
        refine r_if_ne (tgt := 45) C dX12_scene_39 (by decide) (fun hc => ?_) (fun hc => ?_)
        · have hf := ifF hf hc
          exact V.sub (wX12_scene_b45 C hret hf) (LW_s rfl (LW_s rfl (LW_s rfl (LW_s rfl (LW_n (LW_e))))))
        · have hf := ifT hf hc
          exact V.sub (wX12_scene_b42 C hret hf) (LW_s rfl (LW_n (LW_n (LW_n (LW_n (LW_e))))))

theorem dgX12_brings_0 : (decode cX12_brings 0 = .ok (.iconst 0, 1)) ∧ (decode cX12_brings 1 = .ok (.istore 4, 2)) ∧ (decode cX12_brings 3 = .ok (.iload 4, 2)) ∧ (decode cX12_brings 5 = .ok (.aload_n 0, 1)) ∧ (decode cX12_brings 6 = .ok (.getfield 153, 3)) ∧ (decode cX12_brings 9 = .ok (.if_icmp .ge 127, 3)) ∧ (decode cX12_brings 12 = .ok (.aload_n 0, 1)) ∧ (decode cX12_brings 13 = .ok (.getfield 34, 3)) ∧ (decode cX12_brings 16 = .ok (.iload 4, 2)) ∧ (decode cX12_brings 18 = .ok (.iaload, 1)) ∧ (decode cX12_brings 19 = .ok (.iload_n 1, 1)) ∧ (decode cX12_brings 20 = .ok (.if_icmp .ne 110, 3)) ∧ True := dkW [(0, .iconst 0, 1), (1, .istore 4, 2), (3, .iload 4, 2), (5, .aload_n 0, 1), (6, .getfield 153, 3), (9, .if_icmp .ge 127, 3), (12, .aload_n 0, 1), (13, .getfield 34, 3), (16, .iload 4, 2), (18, .iaload, 1), (19, .iload_n 1, 1), (20, .if_icmp .ne 110, 3)] 0 (by decide +kernel)
theorem dX12_brings_0 : decode cX12_brings 0 = .ok (.iconst 0, 1) := dgX12_brings_0.1
theorem dX12_brings_1 : decode cX12_brings 1 = .ok (.istore 4, 2) := dgX12_brings_0.2.1
theorem dX12_brings_3 : decode cX12_brings 3 = .ok (.iload 4, 2) := dgX12_brings_0.2.2.1
theorem dX12_brings_5 : decode cX12_brings 5 = .ok (.aload_n 0, 1) := dgX12_brings_0.2.2.2.1
theorem dX12_brings_6 : decode cX12_brings 6 = .ok (.getfield 153, 3) := dgX12_brings_0.2.2.2.2.1
theorem dX12_brings_9 : decode cX12_brings 9 = .ok (.if_icmp .ge 127, 3) := dgX12_brings_0.2.2.2.2.2.1
theorem dX12_brings_12 : decode cX12_brings 12 = .ok (.aload_n 0, 1) := dgX12_brings_0.2.2.2.2.2.2.1
theorem dX12_brings_13 : decode cX12_brings 13 = .ok (.getfield 34, 3) := dgX12_brings_0.2.2.2.2.2.2.2.1
theorem dX12_brings_16 : decode cX12_brings 16 = .ok (.iload 4, 2) := dgX12_brings_0.2.2.2.2.2.2.2.2.1
theorem dX12_brings_18 : decode cX12_brings 18 = .ok (.iaload, 1) := dgX12_brings_0.2.2.2.2.2.2.2.2.2.1
theorem dX12_brings_19 : decode cX12_brings 19 = .ok (.iload_n 1, 1) := dgX12_brings_0.2.2.2.2.2.2.2.2.2.2.1
theorem dX12_brings_20 : decode cX12_brings 20 = .ok (.if_icmp .ne 110, 3) := dgX12_brings_0.2.2.2.2.2.2.2.2.2.2.2.1
theorem dgX12_brings_23 : (decode cX12_brings 23 = .ok (.aload_n 0, 1)) ∧ (decode cX12_brings 24 = .ok (.getfield 52, 3)) ∧ (decode cX12_brings 27 = .ok (.iload 4, 2)) ∧ (decode cX12_brings 29 = .ok (.baload, 1)) ∧ (decode cX12_brings 30 = .ok (.ifCond .ne 100, 3)) ∧ (decode cX12_brings 33 = .ok (.aload_n 0, 1)) ∧ (decode cX12_brings 34 = .ok (.getfield 43, 3)) ∧ (decode cX12_brings 37 = .ok (.iload 4, 2)) ∧ (decode cX12_brings 39 = .ok (.iaload, 1)) ∧ (decode cX12_brings 40 = .ok (.aload_n 0, 1)) ∧ (decode cX12_brings 41 = .ok (.iload 4, 2)) ∧ (decode cX12_brings 43 = .ok (.invokevirtual 178, 3)) ∧ True := dkW [(23, .aload_n 0, 1), (24, .getfield 52, 3), (27, .iload 4, 2), (29, .baload, 1), (30, .ifCond .ne 100, 3), (33, .aload_n 0, 1), (34, .getfield 43, 3), (37, .iload 4, 2), (39, .iaload, 1), (40, .aload_n 0, 1), (41, .iload 4, 2), (43, .invokevirtual 178, 3)] 23 (by decide +kernel)
theorem dX12_brings_23 : decode cX12_brings 23 = .ok (.aload_n 0, 1) := dgX12_brings_23.1
theorem dX12_brings_24 : decode cX12_brings 24 = .ok (.getfield 52, 3) := dgX12_brings_23.2.1
theorem dX12_brings_27 : decode cX12_brings 27 = .ok (.iload 4, 2) := dgX12_brings_23.2.2.1
theorem dX12_brings_29 : decode cX12_brings 29 = .ok (.baload, 1) := dgX12_brings_23.2.2.2.1
theorem dX12_brings_30 : decode cX12_brings 30 = .ok (.ifCond .ne 100, 3) := dgX12_brings_23.2.2.2.2.1
theorem dX12_brings_33 : decode cX12_brings 33 = .ok (.aload_n 0, 1) := dgX12_brings_23.2.2.2.2.2.1
theorem dX12_brings_34 : decode cX12_brings 34 = .ok (.getfield 43, 3) := dgX12_brings_23.2.2.2.2.2.2.1
theorem dX12_brings_37 : decode cX12_brings 37 = .ok (.iload 4, 2) := dgX12_brings_23.2.2.2.2.2.2.2.1
theorem dX12_brings_39 : decode cX12_brings 39 = .ok (.iaload, 1) := dgX12_brings_23.2.2.2.2.2.2.2.2.1
theorem dX12_brings_40 : decode cX12_brings 40 = .ok (.aload_n 0, 1) := dgX12_brings_23.2.2.2.2.2.2.2.2.2.1
theorem dX12_brings_41 : decode cX12_brings 41 = .ok (.iload 4, 2) := dgX12_brings_23.2.2.2.2.2.2.2.2.2.2.1
theorem dX12_brings_43 : decode cX12_brings 43 = .ok (.invokevirtual 178, 3) := dgX12_brings_23.2.2.2.2.2.2.2.2.2.2.2.1
theorem dgX12_brings_46 : (decode cX12_brings 46 = .ok (.if_icmp .ge 6, 3)) ∧ (decode cX12_brings 49 = .ok (.goto 81, 3)) ∧ (decode cX12_brings 52 = .ok (.iconst 0, 1)) ∧ (decode cX12_brings 53 = .ok (.istore 5, 2)) ∧ (decode cX12_brings 55 = .ok (.iload 5, 2)) ∧ (decode cX12_brings 57 = .ok (.aload_n 0, 1)) ∧ (decode cX12_brings 58 = .ok (.getfield 156, 3)) ∧ (decode cX12_brings 61 = .ok (.if_icmp .ge 69, 3)) ∧ (decode cX12_brings 64 = .ok (.aload_n 0, 1)) ∧ (decode cX12_brings 65 = .ok (.getfield 19, 3)) ∧ (decode cX12_brings 68 = .ok (.iload_n 1, 1)) ∧ (decode cX12_brings 69 = .ok (.iaload, 1)) ∧ True := dkW [(46, .if_icmp .ge 6, 3), (49, .goto 81, 3), (52, .iconst 0, 1), (53, .istore 5, 2), (55, .iload 5, 2), (57, .aload_n 0, 1), (58, .getfield 156, 3), (61, .if_icmp .ge 69, 3), (64, .aload_n 0, 1), (65, .getfield 19, 3), (68, .iload_n 1, 1), (69, .iaload, 1)] 46 (by decide +kernel)
theorem dX12_brings_46 : decode cX12_brings 46 = .ok (.if_icmp .ge 6, 3) := dgX12_brings_46.1
theorem dX12_brings_49 : decode cX12_brings 49 = .ok (.goto 81, 3) := dgX12_brings_46.2.1
theorem dX12_brings_52 : decode cX12_brings 52 = .ok (.iconst 0, 1) := dgX12_brings_46.2.2.1
theorem dX12_brings_53 : decode cX12_brings 53 = .ok (.istore 5, 2) := dgX12_brings_46.2.2.2.1
theorem dX12_brings_55 : decode cX12_brings 55 = .ok (.iload 5, 2) := dgX12_brings_46.2.2.2.2.1
theorem dX12_brings_57 : decode cX12_brings 57 = .ok (.aload_n 0, 1) := dgX12_brings_46.2.2.2.2.2.1
theorem dX12_brings_58 : decode cX12_brings 58 = .ok (.getfield 156, 3) := dgX12_brings_46.2.2.2.2.2.2.1
theorem dX12_brings_61 : decode cX12_brings 61 = .ok (.if_icmp .ge 69, 3) := dgX12_brings_46.2.2.2.2.2.2.2.1
theorem dX12_brings_64 : decode cX12_brings 64 = .ok (.aload_n 0, 1) := dgX12_brings_46.2.2.2.2.2.2.2.2.1
theorem dX12_brings_65 : decode cX12_brings 65 = .ok (.getfield 19, 3) := dgX12_brings_46.2.2.2.2.2.2.2.2.2.1
theorem dX12_brings_68 : decode cX12_brings 68 = .ok (.iload_n 1, 1) := dgX12_brings_46.2.2.2.2.2.2.2.2.2.2.1
theorem dX12_brings_69 : decode cX12_brings 69 = .ok (.iaload, 1) := dgX12_brings_46.2.2.2.2.2.2.2.2.2.2.2.1
theorem dgX12_brings_70 : (decode cX12_brings 70 = .ok (.aload_n 0, 1)) ∧ (decode cX12_brings 71 = .ok (.getfield 40, 3)) ∧ (decode cX12_brings 74 = .ok (.iload 4, 2)) ∧ (decode cX12_brings 76 = .ok (.iaload, 1)) ∧ (decode cX12_brings 77 = .ok (.aload_n 0, 1)) ∧ (decode cX12_brings 78 = .ok (.getfield 31, 3)) ∧ (decode cX12_brings 81 = .ok (.iload 5, 2)) ∧ (decode cX12_brings 83 = .ok (.iaload, 1)) ∧ (decode cX12_brings 84 = .ok (.iload_n 3, 1)) ∧ (decode cX12_brings 85 = .ok (.imul, 1)) ∧ (decode cX12_brings 86 = .ok (.bipush 100, 2)) ∧ (decode cX12_brings 88 = .ok (.aload_n 0, 1)) ∧ True := dkW [(70, .aload_n 0, 1), (71, .getfield 40, 3), (74, .iload 4, 2), (76, .iaload, 1), (77, .aload_n 0, 1), (78, .getfield 31, 3), (81, .iload 5, 2), (83, .iaload, 1), (84, .iload_n 3, 1), (85, .imul, 1), (86, .bipush 100, 2), (88, .aload_n 0, 1)] 70 (by decide +kernel)
theorem dX12_brings_70 : decode cX12_brings 70 = .ok (.aload_n 0, 1) := dgX12_brings_70.1
theorem dX12_brings_71 : decode cX12_brings 71 = .ok (.getfield 40, 3) := dgX12_brings_70.2.1
theorem dX12_brings_74 : decode cX12_brings 74 = .ok (.iload 4, 2) := dgX12_brings_70.2.2.1
theorem dX12_brings_76 : decode cX12_brings 76 = .ok (.iaload, 1) := dgX12_brings_70.2.2.2.1
theorem dX12_brings_77 : decode cX12_brings 77 = .ok (.aload_n 0, 1) := dgX12_brings_70.2.2.2.2.1
theorem dX12_brings_78 : decode cX12_brings 78 = .ok (.getfield 31, 3) := dgX12_brings_70.2.2.2.2.2.1
theorem dX12_brings_81 : decode cX12_brings 81 = .ok (.iload 5, 2) := dgX12_brings_70.2.2.2.2.2.2.1
theorem dX12_brings_83 : decode cX12_brings 83 = .ok (.iaload, 1) := dgX12_brings_70.2.2.2.2.2.2.2.1
theorem dX12_brings_84 : decode cX12_brings 84 = .ok (.iload_n 3, 1) := dgX12_brings_70.2.2.2.2.2.2.2.2.1
theorem dX12_brings_85 : decode cX12_brings 85 = .ok (.imul, 1) := dgX12_brings_70.2.2.2.2.2.2.2.2.2.1
theorem dX12_brings_86 : decode cX12_brings 86 = .ok (.bipush 100, 2) := dgX12_brings_70.2.2.2.2.2.2.2.2.2.2.1
theorem dX12_brings_88 : decode cX12_brings 88 = .ok (.aload_n 0, 1) := dgX12_brings_70.2.2.2.2.2.2.2.2.2.2.2.1
theorem dgX12_brings_89 : (decode cX12_brings 89 = .ok (.getfield 37, 3)) ∧ (decode cX12_brings 92 = .ok (.iload 4, 2)) ∧ (decode cX12_brings 94 = .ok (.iaload, 1)) ∧ (decode cX12_brings 95 = .ok (.imul, 1)) ∧ (decode cX12_brings 96 = .ok (.idiv, 1)) ∧ (decode cX12_brings 97 = .ok (.imul, 1)) ∧ (decode cX12_brings 98 = .ok (.iadd, 1)) ∧ (decode cX12_brings 99 = .ok (.iload_n 2, 1)) ∧ (decode cX12_brings 100 = .ok (.if_icmp .eq 6, 3)) ∧ (decode cX12_brings 103 = .ok (.goto 21, 3)) ∧ (decode cX12_brings 106 = .ok (.aload_n 0, 1)) ∧ (decode cX12_brings 107 = .ok (.getfield 79, 3)) ∧ True := dkW [(89, .getfield 37, 3), (92, .iload 4, 2), (94, .iaload, 1), (95, .imul, 1), (96, .idiv, 1), (97, .imul, 1), (98, .iadd, 1), (99, .iload_n 2, 1), (100, .if_icmp .eq 6, 3), (103, .goto 21, 3), (106, .aload_n 0, 1), (107, .getfield 79, 3)] 89 (by decide +kernel)
theorem dX12_brings_89 : decode cX12_brings 89 = .ok (.getfield 37, 3) := dgX12_brings_89.1
theorem dX12_brings_92 : decode cX12_brings 92 = .ok (.iload 4, 2) := dgX12_brings_89.2.1
theorem dX12_brings_94 : decode cX12_brings 94 = .ok (.iaload, 1) := dgX12_brings_89.2.2.1
theorem dX12_brings_95 : decode cX12_brings 95 = .ok (.imul, 1) := dgX12_brings_89.2.2.2.1
theorem dX12_brings_96 : decode cX12_brings 96 = .ok (.idiv, 1) := dgX12_brings_89.2.2.2.2.1
theorem dX12_brings_97 : decode cX12_brings 97 = .ok (.imul, 1) := dgX12_brings_89.2.2.2.2.2.1
theorem dX12_brings_98 : decode cX12_brings 98 = .ok (.iadd, 1) := dgX12_brings_89.2.2.2.2.2.2.1
theorem dX12_brings_99 : decode cX12_brings 99 = .ok (.iload_n 2, 1) := dgX12_brings_89.2.2.2.2.2.2.2.1
theorem dX12_brings_100 : decode cX12_brings 100 = .ok (.if_icmp .eq 6, 3) := dgX12_brings_89.2.2.2.2.2.2.2.2.1
theorem dX12_brings_103 : decode cX12_brings 103 = .ok (.goto 21, 3) := dgX12_brings_89.2.2.2.2.2.2.2.2.2.1
theorem dX12_brings_106 : decode cX12_brings 106 = .ok (.aload_n 0, 1) := dgX12_brings_89.2.2.2.2.2.2.2.2.2.2.1
theorem dX12_brings_107 : decode cX12_brings 107 = .ok (.getfield 79, 3) := dgX12_brings_89.2.2.2.2.2.2.2.2.2.2.2.1
theorem dgX12_brings_110 : (decode cX12_brings 110 = .ok (.iload_n 1, 1)) ∧ (decode cX12_brings 111 = .ok (.iload 4, 2)) ∧ (decode cX12_brings 113 = .ok (.iastore, 1)) ∧ (decode cX12_brings 114 = .ok (.aload_n 0, 1)) ∧ (decode cX12_brings 115 = .ok (.getfield 82, 3)) ∧ (decode cX12_brings 118 = .ok (.iload_n 1, 1)) ∧ (decode cX12_brings 119 = .ok (.iload 5, 2)) ∧ (decode cX12_brings 121 = .ok (.iastore, 1)) ∧ (decode cX12_brings 122 = .ok (.iconst 1, 1)) ∧ (decode cX12_brings 123 = .ok (.ireturn, 1)) ∧ (decode cX12_brings 124 = .ok (.iinc 5 1, 3)) ∧ (decode cX12_brings 127 = .ok (.goto (-72), 3)) ∧ True := dkW [(110, .iload_n 1, 1), (111, .iload 4, 2), (113, .iastore, 1), (114, .aload_n 0, 1), (115, .getfield 82, 3), (118, .iload_n 1, 1), (119, .iload 5, 2), (121, .iastore, 1), (122, .iconst 1, 1), (123, .ireturn, 1), (124, .iinc 5 1, 3), (127, .goto (-72), 3)] 110 (by decide +kernel)
theorem dX12_brings_110 : decode cX12_brings 110 = .ok (.iload_n 1, 1) := dgX12_brings_110.1
theorem dX12_brings_111 : decode cX12_brings 111 = .ok (.iload 4, 2) := dgX12_brings_110.2.1
theorem dX12_brings_113 : decode cX12_brings 113 = .ok (.iastore, 1) := dgX12_brings_110.2.2.1
theorem dX12_brings_114 : decode cX12_brings 114 = .ok (.aload_n 0, 1) := dgX12_brings_110.2.2.2.1
theorem dX12_brings_115 : decode cX12_brings 115 = .ok (.getfield 82, 3) := dgX12_brings_110.2.2.2.2.1
theorem dX12_brings_118 : decode cX12_brings 118 = .ok (.iload_n 1, 1) := dgX12_brings_110.2.2.2.2.2.1
theorem dX12_brings_119 : decode cX12_brings 119 = .ok (.iload 5, 2) := dgX12_brings_110.2.2.2.2.2.2.1
theorem dX12_brings_121 : decode cX12_brings 121 = .ok (.iastore, 1) := dgX12_brings_110.2.2.2.2.2.2.2.1
theorem dX12_brings_122 : decode cX12_brings 122 = .ok (.iconst 1, 1) := dgX12_brings_110.2.2.2.2.2.2.2.2.1
theorem dX12_brings_123 : decode cX12_brings 123 = .ok (.ireturn, 1) := dgX12_brings_110.2.2.2.2.2.2.2.2.2.1
theorem dX12_brings_124 : decode cX12_brings 124 = .ok (.iinc 5 1, 3) := dgX12_brings_110.2.2.2.2.2.2.2.2.2.2.1
theorem dX12_brings_127 : decode cX12_brings 127 = .ok (.goto (-72), 3) := dgX12_brings_110.2.2.2.2.2.2.2.2.2.2.2.1
theorem dgX12_brings_130 : (decode cX12_brings 130 = .ok (.iinc 4 1, 3)) ∧ (decode cX12_brings 133 = .ok (.goto (-130), 3)) ∧ (decode cX12_brings 136 = .ok (.iconst 0, 1)) ∧ (decode cX12_brings 137 = .ok (.ireturn, 1)) ∧ True := dkW [(130, .iinc 4 1, 3), (133, .goto (-130), 3), (136, .iconst 0, 1), (137, .ireturn, 1)] 130 (by decide +kernel)
theorem dX12_brings_130 : decode cX12_brings 130 = .ok (.iinc 4 1, 3) := dgX12_brings_130.1
theorem dX12_brings_133 : decode cX12_brings 133 = .ok (.goto (-130), 3) := dgX12_brings_130.2.1
theorem dX12_brings_136 : decode cX12_brings 136 = .ok (.iconst 0, 1) := dgX12_brings_130.2.2.1
theorem dX12_brings_137 : decode cX12_brings 137 = .ok (.ireturn, 1) := dgX12_brings_130.2.2.2.1
abbrev rmX12_brings : Room := { frames := 1, cells := 0, slots := 0, locals := 21 }
noncomputable def fX12_brings_b130 (N : Nat) (g3 : Hs → Int32 → Int32 → Int32 → Int32 → Option (Int32 × Hs)) (t : Nat) (h : Hs) (x1 : Int32) (x2 : Int32) (x3 : Int32) (x4 : Int32) : Option (Int32 × Hs) :=
  (some (x4 + 1)).bind fun y1 =>
  g3 h x1 x2 x3 y1
set_option maxHeartbeats 4000000 in
set_option maxRecDepth 20000 in
theorem wX12_brings_b130 {p : Program} {l : Launch} {e : Env} {s : State} {m : MethodId} {args : Array Value} {below : List Frame} {meth : Method} {c : Code} {G : Gl} {N : Nat} {h : Hs} {r : Int32 × Hs} {g3 : Hs → Int32 → Int32 → Int32 → Int32 → Option (Int32 × Hs)} {t : Nat} {x1 : Int32} {x2 : Int32} {x3 : Int32} {x4 : Int32} (C : Cx p s m args meth c cX12_brings RX12 6 G) (hret : meth.sig.returnType = (some .boolean)) (hg3 : ∀ (h : Hs) (x1 : Int32) (x2 : Int32) (x3 : Int32) (x4 : Int32), g3 h x1 x2 x3 x4 = some r → V p l e rmX12_brings s m args below meth c G 6 (MQ below (QcG G (some (.inl r.1)) r.2) args s rmX12_brings.cells rmX12_brings.slots (AG G)) h 0 0 3 [some (.inr (some t)), some (.inl x1), some (.inl x2), some (.inl x3), some (.inl x4), none] []) (hf : fX12_brings_b130 N g3 t h x1 x2 x3 x4 = some r) : V p l e rmX12_brings s m args below meth c G 6 (MQ below (QcG G (some (.inl r.1)) r.2) args s rmX12_brings.cells rmX12_brings.slots (AG G)) h 0 0 130 [some (.inr (some t)), some (.inl x1), some (.inl x2), some (.inl x3), some (.inl x4), none] [] := by
  unfold fX12_brings_b130 at hf
  obtain ⟨y1, ey1, hf⟩ := bS hf
  refine r_iincE (v := 1) C dX12_brings_130 rfl (by decide) (by decide) ey1 ?_
  refine r_goto (tgt := 3) C dX12_brings_133 (by decide) ?_
  exact V.sub (hg3 _ _ _ _ _ hf) (LW_s rfl (LW_s rfl (LW_s rfl (LW_s rfl (LW_s rfl (LW_n (LW_e)))))))
noncomputable def fX12_brings_b55_body (N : Nat) (g3 : Hs → Int32 → Int32 → Int32 → Int32 → Option (Int32 × Hs)) (g55 : Hs → Int32 → Int32 → Int32 → Int32 → Int32 → Option (Int32 × Hs)) (t : Nat) (h : Hs) (x1 : Int32) (x2 : Int32) (x3 : Int32) (x4 : Int32) (x5 : Int32) : Option (Int32 × Hs) :=
  (oI 12 9 h (some t)).bind fun v1 =>
  if v1 ≤ x5 then (
  fX12_brings_b130 N g3 t h x1 x2 x3 x4)
  else (oR 12 5 h (some t)).bind fun o2 =>
  (lA 20 h o2 x1).bind fun v3 =>
  (oR 12 14 h (some t)).bind fun o4 =>
  (lA 20 h o4 x4).bind fun v5 =>
  (oR 12 10 h (some t)).bind fun o6 =>
  (lA 20 h o6 x5).bind fun v7 =>
  (oR 12 13 h (some t)).bind fun o8 =>
  (lA 20 h o8 x4).bind fun v9 =>
  (dv (v7 * x3) (100 * v9)).bind fun v10 =>
  if (v3 + (v5 * v10)) = x2 then (
  (oR 12 31 h (some t)).bind fun o11 =>
  (sA h o11 x1 x4).bind fun h12 =>
  (oR 12 32 h12 (some t)).bind fun o13 =>
  (sA h12 o13 x1 x5).bind fun h14 =>
  some (1, h14))
  else (some (x5 + 1)).bind fun y15 =>
  g55 h x1 x2 x3 x4 y15
noncomputable def fX12_brings_b55 (N : Nat) (g3 : Hs → Int32 → Int32 → Int32 → Int32 → Option (Int32 × Hs)) (t : Nat) (n : Nat) : Hs → Int32 → Int32 → Int32 → Int32 → Int32 → Option (Int32 × Hs) := lp (fun _ _ _ _ _ _ => none) (fun g h x1 x2 x3 x4 x5 => fX12_brings_b55_body N g3 g t h x1 x2 x3 x4 x5) n
set_option maxHeartbeats 4000000 in
set_option maxRecDepth 20000 in
theorem wX12_brings_b55_body {p : Program} {l : Launch} {e : Env} {s : State} {m : MethodId} {args : Array Value} {below : List Frame} {meth : Method} {c : Code} {G : Gl} {N : Nat} {h : Hs} {r : Int32 × Hs} {g3 : Hs → Int32 → Int32 → Int32 → Int32 → Option (Int32 × Hs)} {g55 : Hs → Int32 → Int32 → Int32 → Int32 → Int32 → Option (Int32 × Hs)} {t : Nat} {x1 : Int32} {x2 : Int32} {x3 : Int32} {x4 : Int32} {x5 : Int32} (C : Cx p s m args meth c cX12_brings RX12 6 G) (hret : meth.sig.returnType = (some .boolean)) (hg3 : ∀ (h : Hs) (x1 : Int32) (x2 : Int32) (x3 : Int32) (x4 : Int32), g3 h x1 x2 x3 x4 = some r → V p l e rmX12_brings s m args below meth c G 6 (MQ below (QcG G (some (.inl r.1)) r.2) args s rmX12_brings.cells rmX12_brings.slots (AG G)) h 0 0 3 [some (.inr (some t)), some (.inl x1), some (.inl x2), some (.inl x3), some (.inl x4), none] []) (hg55 : ∀ (h : Hs) (x1 : Int32) (x2 : Int32) (x3 : Int32) (x4 : Int32) (x5 : Int32), g55 h x1 x2 x3 x4 x5 = some r → V p l e rmX12_brings s m args below meth c G 6 (MQ below (QcG G (some (.inl r.1)) r.2) args s rmX12_brings.cells rmX12_brings.slots (AG G)) h 0 0 55 [some (.inr (some t)), some (.inl x1), some (.inl x2), some (.inl x3), some (.inl x4), some (.inl x5)] []) (hf : fX12_brings_b55_body N g3 g55 t h x1 x2 x3 x4 x5 = some r) : V p l e rmX12_brings s m args below meth c G 6 (MQ below (QcG G (some (.inl r.1)) r.2) args s rmX12_brings.cells rmX12_brings.slots (AG G)) h 0 0 55 [some (.inr (some t)), some (.inl x1), some (.inl x2), some (.inl x3), some (.inl x4), some (.inl x5)] [] := by
  unfold fX12_brings_b55_body at hf
  refine r_iload C dX12_brings_55 rfl ?_
  refine r_aload_n C dX12_brings_57 rfl ?_
  obtain ⟨v1, ev1, hf⟩ := bS hf
  refine r_getI C dX12_brings_58 fl_X12_156 rfl ev1 ?_
  refine r_icmp_ge (tgt := 130) C dX12_brings_61 (by decide) (fun hc => ?_) (fun hc => ?_)
  · have hf := ifT hf hc
    exact V.sub (wX12_brings_b130 C hret hg3 hf) (LW_s rfl (LW_s rfl (LW_s rfl (LW_s rfl (LW_s rfl (LW_n (LW_e)))))))
  · have hf := ifF hf hc
    refine r_aload_n C dX12_brings_64 rfl ?_
    obtain ⟨o2, eo2, hf⟩ := bS hf
    refine r_getR C dX12_brings_65 fl_X12_19 rfl eo2 ?_
    refine r_iload_n C dX12_brings_68 rfl ?_
    obtain ⟨v3, ev3, hf⟩ := bS hf
    refine r_iald C dX12_brings_69 ev3 ?_
    refine r_aload_n C dX12_brings_70 rfl ?_
    obtain ⟨o4, eo4, hf⟩ := bS hf
    refine r_getR C dX12_brings_71 fl_X12_40 rfl eo4 ?_
    refine r_iload C dX12_brings_74 rfl ?_
    obtain ⟨v5, ev5, hf⟩ := bS hf
    refine r_iald C dX12_brings_76 ev5 ?_
    refine r_aload_n C dX12_brings_77 rfl ?_
    obtain ⟨o6, eo6, hf⟩ := bS hf
    refine r_getR C dX12_brings_78 fl_X12_31 rfl eo6 ?_
    refine r_iload C dX12_brings_81 rfl ?_
    obtain ⟨v7, ev7, hf⟩ := bS hf
    refine r_iald C dX12_brings_83 ev7 ?_
    refine r_iload_n C dX12_brings_84 rfl ?_
    refine r_imul C dX12_brings_85 ?_
    refine r_bipush (v := 100) C dX12_brings_86 (by decide) ?_
    refine r_aload_n C dX12_brings_88 rfl ?_
    obtain ⟨o8, eo8, hf⟩ := bS hf
    refine r_getR C dX12_brings_89 fl_X12_37 rfl eo8 ?_
    refine r_iload C dX12_brings_92 rfl ?_
    obtain ⟨v9, ev9, hf⟩ := bS hf
    refine r_iald C dX12_brings_94 ev9 ?_
    refine r_imul C dX12_brings_95 ?_
    obtain ⟨v10, ev10, hf⟩ := bS hf
    refine r_idiv C dX12_brings_96 ev10 ?_
    refine r_imul C dX12_brings_97 ?_
    refine r_iadd C dX12_brings_98 ?_
    refine r_iload_n C dX12_brings_99 rfl ?_
    refine r_icmp_eq (tgt := 106) C dX12_brings_100 (by decide) (fun hc => ?_) (fun hc => ?_)
    · have hf := ifT hf hc
      refine r_aload_n C dX12_brings_106 rfl ?_
      obtain ⟨o11, eo11, hf⟩ := bS hf
      refine r_getR C dX12_brings_107 fl_X12_79 rfl eo11 ?_
      refine r_iload_n C dX12_brings_110 rfl ?_
      refine r_iload C dX12_brings_111 rfl ?_
      obtain ⟨h12, eh12, hf⟩ := bS hf
      refine r_iast C dX12_brings_113 eh12 ?_
      refine r_aload_n C dX12_brings_114 rfl ?_
      obtain ⟨o13, eo13, hf⟩ := bS hf
      refine r_getR C dX12_brings_115 fl_X12_82 rfl eo13 ?_
      refine r_iload_n C dX12_brings_118 rfl ?_
      refine r_iload C dX12_brings_119 rfl ?_
      obtain ⟨h14, eh14, hf⟩ := bS hf
      refine r_iast C dX12_brings_121 eh14 ?_
      refine r_iconst (v := 1) C dX12_brings_122 (by decide) ?_
      exact r_zretF C dX12_brings_123 hret (z := 1) rfl hf (by decide) (by decide)
    · have hf := ifF hf hc
      refine r_goto (tgt := 124) C dX12_brings_103 (by decide) ?_
      obtain ⟨y15, ey15, hf⟩ := bS hf
      refine r_iincE (v := 1) C dX12_brings_124 rfl (by decide) (by decide) ey15 ?_
      refine r_goto (tgt := 55) C dX12_brings_127 (by decide) ?_
      exact V.sub (hg55 _ _ _ _ _ _ hf) (LW_s rfl (LW_s rfl (LW_s rfl (LW_s rfl (LW_s rfl (LW_s rfl (LW_e)))))))
theorem wX12_brings_b55 {p : Program} {l : Launch} {e : Env} {s : State} {m : MethodId} {args : Array Value} {below : List Frame} {meth : Method} {c : Code} {G : Gl} {N : Nat} {r : Int32 × Hs} {g3 : Hs → Int32 → Int32 → Int32 → Int32 → Option (Int32 × Hs)} {t : Nat} (C : Cx p s m args meth c cX12_brings RX12 6 G) (hret : meth.sig.returnType = (some .boolean)) (hg3 : ∀ (h : Hs) (x1 : Int32) (x2 : Int32) (x3 : Int32) (x4 : Int32), g3 h x1 x2 x3 x4 = some r → V p l e rmX12_brings s m args below meth c G 6 (MQ below (QcG G (some (.inl r.1)) r.2) args s rmX12_brings.cells rmX12_brings.slots (AG G)) h 0 0 3 [some (.inr (some t)), some (.inl x1), some (.inl x2), some (.inl x3), some (.inl x4), none] []) : ∀ (n : Nat) (h : Hs) (x1 : Int32) (x2 : Int32) (x3 : Int32) (x4 : Int32) (x5 : Int32), fX12_brings_b55 N g3 t n h x1 x2 x3 x4 x5 = some r → V p l e rmX12_brings s m args below meth c G 6 (MQ below (QcG G (some (.inl r.1)) r.2) args s rmX12_brings.cells rmX12_brings.slots (AG G)) h 0 0 55 [some (.inr (some t)), some (.inl x1), some (.inl x2), some (.inl x3), some (.inl x4), some (.inl x5)] [] := by
  intro n
  induction n with
  | zero => intro h x1 x2 x3 x4 x5 hf; exact absurd (show (none : Option (Int32 × Hs)) = some r from hf) (fun q => by cases q)
  | succ n ih => intro h x1 x2 x3 x4 x5 hf; exact wX12_brings_b55_body C hret hg3 ih (show fX12_brings_b55_body N g3 (fX12_brings_b55 N g3 t n) t h x1 x2 x3 x4 x5 = some r from hf)
noncomputable def fX12_brings_b3_body (N : Nat)  (g3 : Hs → Int32 → Int32 → Int32 → Int32 → Option (Int32 × Hs)) (t : Nat) (h : Hs) (x1 : Int32) (x2 : Int32) (x3 : Int32) (x4 : Int32) : Option (Int32 × Hs) :=
  (oI 12 11 h (some t)).bind fun v1 =>
  if v1 ≤ x4 then (
  some (0, h))
  else (oR 12 12 h (some t)).bind fun o2 =>
  (lA 20 h o2 x4).bind fun v3 =>
  if v3 = x1 then (
  (oR 12 18 h (some t)).bind fun o4 =>
  (lA 21 h o4 x4).bind fun v5 =>
  if v5 = 0 then (
  (oR 12 15 h (some t)).bind fun o6 =>
  (lA 20 h o6 x4).bind fun v7 =>
  (rc 12 h (some t)).bind fun a9 =>
  (fX12_load N h a9 x4).bind fun r8 =>
  if r8.1 ≤ v7 then (
  fX12_brings_b55 N g3 t N r8.2 x1 x2 x3 x4 0)
  else fX12_brings_b130 N g3 t r8.2 x1 x2 x3 x4)
  else fX12_brings_b130 N g3 t h x1 x2 x3 x4)
  else fX12_brings_b130 N g3 t h x1 x2 x3 x4
noncomputable def fX12_brings_b3 (N : Nat)  (t : Nat) (n : Nat) : Hs → Int32 → Int32 → Int32 → Int32 → Option (Int32 × Hs) := lp (fun _ _ _ _ _ => none) (fun g h x1 x2 x3 x4 => fX12_brings_b3_body N  g t h x1 x2 x3 x4) n
set_option maxHeartbeats 4000000 in
set_option maxRecDepth 20000 in
theorem wX12_brings_b3_body {p : Program} {l : Launch} {e : Env} {s : State} {m : MethodId} {args : Array Value} {below : List Frame} {meth : Method} {c : Code} {G : Gl} {N : Nat} {h : Hs} {r : Int32 × Hs}  {g3 : Hs → Int32 → Int32 → Int32 → Int32 → Option (Int32 × Hs)} {t : Nat} {x1 : Int32} {x2 : Int32} {x3 : Int32} {x4 : Int32} (C : Cx p s m args meth c cX12_brings RX12 6 G) (hret : meth.sig.returnType = (some .boolean))  (hg3 : ∀ (h : Hs) (x1 : Int32) (x2 : Int32) (x3 : Int32) (x4 : Int32), g3 h x1 x2 x3 x4 = some r → V p l e rmX12_brings s m args below meth c G 6 (MQ below (QcG G (some (.inl r.1)) r.2) args s rmX12_brings.cells rmX12_brings.slots (AG G)) h 0 0 3 [some (.inr (some t)), some (.inl x1), some (.inl x2), some (.inl x3), some (.inl x4), none] []) (hf : fX12_brings_b3_body N  g3 t h x1 x2 x3 x4 = some r) : V p l e rmX12_brings s m args below meth c G 6 (MQ below (QcG G (some (.inl r.1)) r.2) args s rmX12_brings.cells rmX12_brings.slots (AG G)) h 0 0 3 [some (.inr (some t)), some (.inl x1), some (.inl x2), some (.inl x3), some (.inl x4), none] [] := by
  unfold fX12_brings_b3_body at hf
  refine r_iload C dX12_brings_3 rfl ?_
  refine r_aload_n C dX12_brings_5 rfl ?_
  obtain ⟨v1, ev1, hf⟩ := bS hf
  refine r_getI C dX12_brings_6 fl_X12_153 rfl ev1 ?_
  refine r_icmp_ge (tgt := 136) C dX12_brings_9 (by decide) (fun hc => ?_) (fun hc => ?_)
  · have hf := ifT hf hc
    refine r_iconst (v := 0) C dX12_brings_136 (by decide) ?_
    exact r_zretF C dX12_brings_137 hret (z := 0) rfl hf (by decide) (by decide)
  · have hf := ifF hf hc
    refine r_aload_n C dX12_brings_12 rfl ?_
    obtain ⟨o2, eo2, hf⟩ := bS hf
    refine r_getR C dX12_brings_13 fl_X12_34 rfl eo2 ?_
    refine r_iload C dX12_brings_16 rfl ?_
    obtain ⟨v3, ev3, hf⟩ := bS hf
    refine r_iald C dX12_brings_18 ev3 ?_
    refine r_iload_n C dX12_brings_19 rfl ?_
    refine r_icmp_ne (tgt := 130) C dX12_brings_20 (by decide) (fun hc => ?_) (fun hc => ?_)
    · have hf := ifF hf hc
      exact V.sub (wX12_brings_b130 C hret hg3 hf) (LW_s rfl (LW_s rfl (LW_s rfl (LW_s rfl (LW_s rfl (LW_n (LW_e)))))))
    · have hf := ifT hf hc
      refine r_aload_n C dX12_brings_23 rfl ?_
      obtain ⟨o4, eo4, hf⟩ := bS hf
      refine r_getR C dX12_brings_24 fl_X12_52 rfl eo4 ?_
      refine r_iload C dX12_brings_27 rfl ?_
      obtain ⟨v5, ev5, hf⟩ := bS hf
      refine r_zald C dX12_brings_29 ev5 ?_
      refine r_if_ne (tgt := 130) C dX12_brings_30 (by decide) (fun hc => ?_) (fun hc => ?_)
      · have hf := ifF hf hc
        exact V.sub (wX12_brings_b130 C hret hg3 hf) (LW_s rfl (LW_s rfl (LW_s rfl (LW_s rfl (LW_s rfl (LW_n (LW_e)))))))
      · have hf := ifT hf hc
        refine r_aload_n C dX12_brings_33 rfl ?_
        obtain ⟨o6, eo6, hf⟩ := bS hf
        refine r_getR C dX12_brings_34 fl_X12_43 rfl eo6 ?_
        refine r_iload C dX12_brings_37 rfl ?_
        obtain ⟨v7, ev7, hf⟩ := bS hf
        refine r_iald C dX12_brings_39 ev7 ?_
        refine r_aload_n C dX12_brings_40 rfl ?_
        refine r_iload C dX12_brings_41 rfl ?_
        obtain ⟨a9, ea9, hf⟩ := bS hf
        obtain ⟨r8, er8, hf⟩ := bS hf
        refine r_invV1 (As := [.inl x4]) (ci := 12) C dX12_brings_43 mcX12_load wd_1221 wd_1223 wp_34 rfl rfl (by decide) ⟨by decide, by decide⟩ ⟨by decide, by decide⟩ rfl (Nat.le_of_ble_eq_true rfl) ea9 (kX12_load l G er8) ?_
        refine r_icmp_ge (tgt := 52) C dX12_brings_46 (by decide) (fun hc => ?_) (fun hc => ?_)
        · have hf := ifT hf hc
          refine r_iconst (v := 0) C dX12_brings_52 (by decide) ?_
          refine r_istore C dX12_brings_53 (by decide) ?_
          exact V.sub (wX12_brings_b55 C hret hg3 N _ _ _ _ _ _ hf) (LW_s rfl (LW_s rfl (LW_s rfl (LW_s rfl (LW_s rfl (LW_s rfl (LW_e)))))))
        · have hf := ifF hf hc
          refine r_goto (tgt := 130) C dX12_brings_49 (by decide) ?_
          exact V.sub (wX12_brings_b130 C hret hg3 hf) (LW_s rfl (LW_s rfl (LW_s rfl (LW_s rfl (LW_s rfl (LW_n (LW_e)))))))
theorem wX12_brings_b3 {p : Program} {l : Launch} {e : Env} {s : State} {m : MethodId} {args : Array Value} {below : List Frame} {meth : Method} {c : Code} {G : Gl} {N : Nat} {r : Int32 × Hs}  {t : Nat} (C : Cx p s m args meth c cX12_brings RX12 6 G) (hret : meth.sig.returnType = (some .boolean))  : ∀ (n : Nat) (h : Hs) (x1 : Int32) (x2 : Int32) (x3 : Int32) (x4 : Int32), fX12_brings_b3 N  t n h x1 x2 x3 x4 = some r → V p l e rmX12_brings s m args below meth c G 6 (MQ below (QcG G (some (.inl r.1)) r.2) args s rmX12_brings.cells rmX12_brings.slots (AG G)) h 0 0 3 [some (.inr (some t)), some (.inl x1), some (.inl x2), some (.inl x3), some (.inl x4), none] [] := by
  intro n
  induction n with
  | zero => intro h x1 x2 x3 x4 hf; exact absurd (show (none : Option (Int32 × Hs)) = some r from hf) (fun q => by cases q)
  | succ n ih => intro h x1 x2 x3 x4 hf; exact wX12_brings_b3_body C hret  ih (show fX12_brings_b3_body N  (fX12_brings_b3 N  t n) t h x1 x2 x3 x4 = some r from hf)
noncomputable def fX12_brings (N : Nat) (h : Hs) (t : Nat) (p1 : Int32) (p2 : Int32) (p3 : Int32) : Option (Int32 × Hs) :=
  fX12_brings_b3 N t N h p1 p2 p3 0
set_option maxHeartbeats 4000000 in
set_option maxRecDepth 20000 in
theorem kX12_brings (l : Launch) (G : Gl) {N : Nat} {h : Hs} {t : Nat} {p1 : Int32} {p2 : Int32} {p3 : Int32} {r : Int32 × Hs} (hf : fX12_brings N h t p1 p2 p3 = some r) : CT l G yX12_brings cX12_brings 6 (some .boolean) rmX12_brings [.inr (some t), .inl p1, .inl p2, .inl p3] h (some (.inl r.1)) r.2 := by
  refine mk_CT (by decide) (Nat.le_of_ble_eq_true rfl) ?_
  intro p e s m args below meth c C hret hin
  unfold fX12_brings at hf
  refine r_iconst (v := 0) C dX12_brings_0 (by decide) ?_
  refine r_istore C dX12_brings_1 (by decide) ?_
  exact V.sub (wX12_brings_b3 C hret N _ _ _ _ _ hf) (LW_s rfl (LW_s rfl (LW_s rfl (LW_s rfl (LW_s rfl (LW_n (LW_e)))))))

theorem dgX12_workOf_0 : (decode cX12_workOf 0 = .ok (.aload_n 0, 1)) ∧ (decode cX12_workOf 1 = .ok (.iload_n 1, 1)) ∧ (decode cX12_workOf 2 = .ok (.invokevirtual 170, 3)) ∧ (decode cX12_workOf 5 = .ok (.istore_n 2, 1)) ∧ (decode cX12_workOf 6 = .ok (.aload_n 0, 1)) ∧ (decode cX12_workOf 7 = .ok (.getfield 79, 3)) ∧ (decode cX12_workOf 10 = .ok (.iload_n 1, 1)) ∧ (decode cX12_workOf 11 = .ok (.iaload, 1)) ∧ (decode cX12_workOf 12 = .ok (.ifCond .ge 13, 3)) ∧ (decode cX12_workOf 15 = .ok (.iload_n 2, 1)) ∧ (decode cX12_workOf 16 = .ok (.ifCond .ge 7, 3)) ∧ (decode cX12_workOf 19 = .ok (.iconst 0, 1)) ∧ True := dkW [(0, .aload_n 0, 1), (1, .iload_n 1, 1), (2, .invokevirtual 170, 3), (5, .istore_n 2, 1), (6, .aload_n 0, 1), (7, .getfield 79, 3), (10, .iload_n 1, 1), (11, .iaload, 1), (12, .ifCond .ge 13, 3), (15, .iload_n 2, 1), (16, .ifCond .ge 7, 3), (19, .iconst 0, 1)] 0 (by decide +kernel)
theorem dX12_workOf_0 : decode cX12_workOf 0 = .ok (.aload_n 0, 1) := dgX12_workOf_0.1
theorem dX12_workOf_1 : decode cX12_workOf 1 = .ok (.iload_n 1, 1) := dgX12_workOf_0.2.1
theorem dX12_workOf_2 : decode cX12_workOf 2 = .ok (.invokevirtual 170, 3) := dgX12_workOf_0.2.2.1
theorem dX12_workOf_5 : decode cX12_workOf 5 = .ok (.istore_n 2, 1) := dgX12_workOf_0.2.2.2.1
theorem dX12_workOf_6 : decode cX12_workOf 6 = .ok (.aload_n 0, 1) := dgX12_workOf_0.2.2.2.2.1
theorem dX12_workOf_7 : decode cX12_workOf 7 = .ok (.getfield 79, 3) := dgX12_workOf_0.2.2.2.2.2.1
theorem dX12_workOf_10 : decode cX12_workOf 10 = .ok (.iload_n 1, 1) := dgX12_workOf_0.2.2.2.2.2.2.1
theorem dX12_workOf_11 : decode cX12_workOf 11 = .ok (.iaload, 1) := dgX12_workOf_0.2.2.2.2.2.2.2.1
theorem dX12_workOf_12 : decode cX12_workOf 12 = .ok (.ifCond .ge 13, 3) := dgX12_workOf_0.2.2.2.2.2.2.2.2.1
theorem dX12_workOf_15 : decode cX12_workOf 15 = .ok (.iload_n 2, 1) := dgX12_workOf_0.2.2.2.2.2.2.2.2.2.1
theorem dX12_workOf_16 : decode cX12_workOf 16 = .ok (.ifCond .ge 7, 3) := dgX12_workOf_0.2.2.2.2.2.2.2.2.2.2.1
theorem dX12_workOf_19 : decode cX12_workOf 19 = .ok (.iconst 0, 1) := dgX12_workOf_0.2.2.2.2.2.2.2.2.2.2.2.1
theorem dgX12_workOf_20 : (decode cX12_workOf 20 = .ok (.goto 4, 3)) ∧ (decode cX12_workOf 23 = .ok (.iconst 2, 1)) ∧ (decode cX12_workOf 24 = .ok (.ireturn, 1)) ∧ (decode cX12_workOf 25 = .ok (.iload_n 2, 1)) ∧ (decode cX12_workOf 26 = .ok (.ifCond .ge 5, 3)) ∧ (decode cX12_workOf 29 = .ok (.iconst 3, 1)) ∧ (decode cX12_workOf 30 = .ok (.ireturn, 1)) ∧ (decode cX12_workOf 31 = .ok (.iload_n 2, 1)) ∧ (decode cX12_workOf 32 = .ok (.aload_n 0, 1)) ∧ (decode cX12_workOf 33 = .ok (.getfield 79, 3)) ∧ (decode cX12_workOf 36 = .ok (.iload_n 1, 1)) ∧ (decode cX12_workOf 37 = .ok (.iaload, 1)) ∧ True := dkW [(20, .goto 4, 3), (23, .iconst 2, 1), (24, .ireturn, 1), (25, .iload_n 2, 1), (26, .ifCond .ge 5, 3), (29, .iconst 3, 1), (30, .ireturn, 1), (31, .iload_n 2, 1), (32, .aload_n 0, 1), (33, .getfield 79, 3), (36, .iload_n 1, 1), (37, .iaload, 1)] 20 (by decide +kernel)
theorem dX12_workOf_20 : decode cX12_workOf 20 = .ok (.goto 4, 3) := dgX12_workOf_20.1
theorem dX12_workOf_23 : decode cX12_workOf 23 = .ok (.iconst 2, 1) := dgX12_workOf_20.2.1
theorem dX12_workOf_24 : decode cX12_workOf 24 = .ok (.ireturn, 1) := dgX12_workOf_20.2.2.1
theorem dX12_workOf_25 : decode cX12_workOf 25 = .ok (.iload_n 2, 1) := dgX12_workOf_20.2.2.2.1
theorem dX12_workOf_26 : decode cX12_workOf 26 = .ok (.ifCond .ge 5, 3) := dgX12_workOf_20.2.2.2.2.1
theorem dX12_workOf_29 : decode cX12_workOf 29 = .ok (.iconst 3, 1) := dgX12_workOf_20.2.2.2.2.2.1
theorem dX12_workOf_30 : decode cX12_workOf 30 = .ok (.ireturn, 1) := dgX12_workOf_20.2.2.2.2.2.2.1
theorem dX12_workOf_31 : decode cX12_workOf 31 = .ok (.iload_n 2, 1) := dgX12_workOf_20.2.2.2.2.2.2.2.1
theorem dX12_workOf_32 : decode cX12_workOf 32 = .ok (.aload_n 0, 1) := dgX12_workOf_20.2.2.2.2.2.2.2.2.1
theorem dX12_workOf_33 : decode cX12_workOf 33 = .ok (.getfield 79, 3) := dgX12_workOf_20.2.2.2.2.2.2.2.2.2.1
theorem dX12_workOf_36 : decode cX12_workOf 36 = .ok (.iload_n 1, 1) := dgX12_workOf_20.2.2.2.2.2.2.2.2.2.2.1
theorem dX12_workOf_37 : decode cX12_workOf 37 = .ok (.iaload, 1) := dgX12_workOf_20.2.2.2.2.2.2.2.2.2.2.2.1
theorem dgX12_workOf_38 : (decode cX12_workOf 38 = .ok (.if_icmp .ne 31, 3)) ∧ (decode cX12_workOf 41 = .ok (.aload_n 0, 1)) ∧ (decode cX12_workOf 42 = .ok (.getfield 46, 3)) ∧ (decode cX12_workOf 45 = .ok (.iload_n 2, 1)) ∧ (decode cX12_workOf 46 = .ok (.iaload, 1)) ∧ (decode cX12_workOf 47 = .ok (.aload_n 0, 1)) ∧ (decode cX12_workOf 48 = .ok (.getfield 82, 3)) ∧ (decode cX12_workOf 51 = .ok (.iload_n 1, 1)) ∧ (decode cX12_workOf 52 = .ok (.iaload, 1)) ∧ (decode cX12_workOf 53 = .ok (.if_icmp .ne 16, 3)) ∧ (decode cX12_workOf 56 = .ok (.aload_n 0, 1)) ∧ (decode cX12_workOf 57 = .ok (.getfield 49, 3)) ∧ True := dkW [(38, .if_icmp .ne 31, 3), (41, .aload_n 0, 1), (42, .getfield 46, 3), (45, .iload_n 2, 1), (46, .iaload, 1), (47, .aload_n 0, 1), (48, .getfield 82, 3), (51, .iload_n 1, 1), (52, .iaload, 1), (53, .if_icmp .ne 16, 3), (56, .aload_n 0, 1), (57, .getfield 49, 3)] 38 (by decide +kernel)
theorem dX12_workOf_38 : decode cX12_workOf 38 = .ok (.if_icmp .ne 31, 3) := dgX12_workOf_38.1
theorem dX12_workOf_41 : decode cX12_workOf 41 = .ok (.aload_n 0, 1) := dgX12_workOf_38.2.1
theorem dX12_workOf_42 : decode cX12_workOf 42 = .ok (.getfield 46, 3) := dgX12_workOf_38.2.2.1
theorem dX12_workOf_45 : decode cX12_workOf 45 = .ok (.iload_n 2, 1) := dgX12_workOf_38.2.2.2.1
theorem dX12_workOf_46 : decode cX12_workOf 46 = .ok (.iaload, 1) := dgX12_workOf_38.2.2.2.2.1
theorem dX12_workOf_47 : decode cX12_workOf 47 = .ok (.aload_n 0, 1) := dgX12_workOf_38.2.2.2.2.2.1
theorem dX12_workOf_48 : decode cX12_workOf 48 = .ok (.getfield 82, 3) := dgX12_workOf_38.2.2.2.2.2.2.1
theorem dX12_workOf_51 : decode cX12_workOf 51 = .ok (.iload_n 1, 1) := dgX12_workOf_38.2.2.2.2.2.2.2.1
theorem dX12_workOf_52 : decode cX12_workOf 52 = .ok (.iaload, 1) := dgX12_workOf_38.2.2.2.2.2.2.2.2.1
theorem dX12_workOf_53 : decode cX12_workOf 53 = .ok (.if_icmp .ne 16, 3) := dgX12_workOf_38.2.2.2.2.2.2.2.2.2.1
theorem dX12_workOf_56 : decode cX12_workOf 56 = .ok (.aload_n 0, 1) := dgX12_workOf_38.2.2.2.2.2.2.2.2.2.2.1
theorem dX12_workOf_57 : decode cX12_workOf 57 = .ok (.getfield 49, 3) := dgX12_workOf_38.2.2.2.2.2.2.2.2.2.2.2.1
theorem dgX12_workOf_60 : (decode cX12_workOf 60 = .ok (.iload_n 2, 1)) ∧ (decode cX12_workOf 61 = .ok (.iaload, 1)) ∧ (decode cX12_workOf 62 = .ok (.ifCond .ne 7, 3)) ∧ (decode cX12_workOf 65 = .ok (.iconst 0, 1)) ∧ (decode cX12_workOf 66 = .ok (.goto 4, 3)) ∧ (decode cX12_workOf 69 = .ok (.iconst 5, 1)) ∧ (decode cX12_workOf 70 = .ok (.ireturn, 1)) ∧ True := dkW [(60, .iload_n 2, 1), (61, .iaload, 1), (62, .ifCond .ne 7, 3), (65, .iconst 0, 1), (66, .goto 4, 3), (69, .iconst 5, 1), (70, .ireturn, 1)] 60 (by decide +kernel)
theorem dX12_workOf_60 : decode cX12_workOf 60 = .ok (.iload_n 2, 1) := dgX12_workOf_60.1
theorem dX12_workOf_61 : decode cX12_workOf 61 = .ok (.iaload, 1) := dgX12_workOf_60.2.1
theorem dX12_workOf_62 : decode cX12_workOf 62 = .ok (.ifCond .ne 7, 3) := dgX12_workOf_60.2.2.1
theorem dX12_workOf_65 : decode cX12_workOf 65 = .ok (.iconst 0, 1) := dgX12_workOf_60.2.2.2.1
theorem dX12_workOf_66 : decode cX12_workOf 66 = .ok (.goto 4, 3) := dgX12_workOf_60.2.2.2.2.1
theorem dX12_workOf_69 : decode cX12_workOf 69 = .ok (.iconst 5, 1) := dgX12_workOf_60.2.2.2.2.2.1
theorem dX12_workOf_70 : decode cX12_workOf 70 = .ok (.ireturn, 1) := dgX12_workOf_60.2.2.2.2.2.2.1
abbrev rmX12_workOf : Room := { frames := 1, cells := 0, slots := 0, locals := 22 }
noncomputable def fX12_workOf_b70 (N : Nat)  (t : Nat) (h : Hs) (u0 : Int32) : Option (Int32 × Hs) :=
  some (u0, h)
set_option maxHeartbeats 4000000 in
set_option maxRecDepth 20000 in
theorem wX12_workOf_b70 {p : Program} {l : Launch} {e : Env} {s : State} {m : MethodId} {args : Array Value} {below : List Frame} {meth : Method} {c : Code} {G : Gl} {N : Nat} {h : Hs} {r : Int32 × Hs}  {t : Nat} {u0 : Int32} (C : Cx p s m args meth c cX12_workOf RX12 3 G) (hret : meth.sig.returnType = (some .int))  (hf : fX12_workOf_b70 N  t h u0 = some r) : V p l e rmX12_workOf s m args below meth c G 3 (MQ below (QcG G (some (.inl r.1)) r.2) args s rmX12_workOf.cells rmX12_workOf.slots (AG G)) h 0 0 70 [some (.inr (some t)), none, none] [.inl u0] := by
  unfold fX12_workOf_b70 at hf
  exact r_iretF C dX12_workOf_70 hret hf (by decide) (by decide)
noncomputable def fX12_workOf_b69 (N : Nat)  (t : Nat) (h : Hs)  : Option (Int32 × Hs) :=
  fX12_workOf_b70 N t h 5
set_option maxHeartbeats 4000000 in
set_option maxRecDepth 20000 in
theorem wX12_workOf_b69 {p : Program} {l : Launch} {e : Env} {s : State} {m : MethodId} {args : Array Value} {below : List Frame} {meth : Method} {c : Code} {G : Gl} {N : Nat} {h : Hs} {r : Int32 × Hs}  {t : Nat}  (C : Cx p s m args meth c cX12_workOf RX12 3 G) (hret : meth.sig.returnType = (some .int))  (hf : fX12_workOf_b69 N  t h  = some r) : V p l e rmX12_workOf s m args below meth c G 3 (MQ below (QcG G (some (.inl r.1)) r.2) args s rmX12_workOf.cells rmX12_workOf.slots (AG G)) h 0 0 69 [some (.inr (some t)), none, none] [] := by
  unfold fX12_workOf_b69 at hf
  refine r_iconst (v := 5) C dX12_workOf_69 (by decide) ?_
  exact V.sub (wX12_workOf_b70 C hret hf) (LW_s rfl (LW_n (LW_n (LW_e))))
noncomputable def fX12_workOf_b24 (N : Nat)  (t : Nat) (h : Hs) (u0 : Int32) : Option (Int32 × Hs) :=
  some (u0, h)
set_option maxHeartbeats 4000000 in
set_option maxRecDepth 20000 in
theorem wX12_workOf_b24 {p : Program} {l : Launch} {e : Env} {s : State} {m : MethodId} {args : Array Value} {below : List Frame} {meth : Method} {c : Code} {G : Gl} {N : Nat} {h : Hs} {r : Int32 × Hs}  {t : Nat} {u0 : Int32} (C : Cx p s m args meth c cX12_workOf RX12 3 G) (hret : meth.sig.returnType = (some .int))  (hf : fX12_workOf_b24 N  t h u0 = some r) : V p l e rmX12_workOf s m args below meth c G 3 (MQ below (QcG G (some (.inl r.1)) r.2) args s rmX12_workOf.cells rmX12_workOf.slots (AG G)) h 0 0 24 [some (.inr (some t)), none, none] [.inl u0] := by
  unfold fX12_workOf_b24 at hf
  exact r_iretF C dX12_workOf_24 hret hf (by decide) (by decide)
noncomputable def fX12_workOf (N : Nat) (h : Hs) (t : Nat) (p1 : Int32) : Option (Int32 × Hs) :=
  (rc 12 h (some t)).bind fun a2 =>
  (fX12_tiedTo N h a2 p1).bind fun r1 =>
  (oR 12 31 r1.2 (some t)).bind fun o3 =>
  (lA 20 r1.2 o3 p1).bind fun v4 =>
  if 0 ≤ v4 then (
  if 0 ≤ r1.1 then (
  (oR 12 31 r1.2 (some t)).bind fun o5 =>
  (lA 20 r1.2 o5 p1).bind fun v6 =>
  if r1.1 = v6 then (
  (oR 12 16 r1.2 (some t)).bind fun o7 =>
  (lA 20 r1.2 o7 r1.1).bind fun v8 =>
  (oR 12 32 r1.2 (some t)).bind fun o9 =>
  (lA 20 r1.2 o9 p1).bind fun v10 =>
  if v8 = v10 then (
  (oR 12 17 r1.2 (some t)).bind fun o11 =>
  (lA 20 r1.2 o11 r1.1).bind fun v12 =>
  if v12 = 0 then (
  fX12_workOf_b70 N t r1.2 0)
  else fX12_workOf_b69 N t r1.2)
  else fX12_workOf_b69 N t r1.2)
  else fX12_workOf_b69 N t r1.2)
  else some (3, r1.2))
  else if 0 ≤ r1.1 then (
  fX12_workOf_b24 N t r1.2 2)
  else fX12_workOf_b24 N t r1.2 0
set_option maxHeartbeats 4000000 in
set_option maxRecDepth 20000 in
theorem kX12_workOf (l : Launch) (G : Gl) {N : Nat} {h : Hs} {t : Nat} {p1 : Int32} {r : Int32 × Hs} (hf : fX12_workOf N h t p1 = some r) : CT l G yX12_workOf cX12_workOf 3 (some .int) rmX12_workOf [.inr (some t), .inl p1] h (some (.inl r.1)) r.2 := by
  refine mk_CT (by decide) (Nat.le_of_ble_eq_true rfl) ?_
  intro p e s m args below meth c C hret hin
  unfold fX12_workOf at hf
  refine r_aload_n C dX12_workOf_0 rfl ?_
  refine r_iload_n C dX12_workOf_1 rfl ?_
  obtain ⟨a2, ea2, hf⟩ := bS hf
  obtain ⟨r1, er1, hf⟩ := bS hf
  refine r_invV1 (As := [.inl p1]) (ci := 12) C dX12_workOf_2 mcX12_tiedTo wd_1196 wd_1198 wp_32 rfl rfl (by decide) ⟨by decide, by decide⟩ ⟨by decide, by decide⟩ rfl (Nat.le_of_ble_eq_true rfl) ea2 (kX12_tiedTo l G er1) ?_
  refine r_istore_n C dX12_workOf_5 (by decide) ?_
  refine r_aload_n C dX12_workOf_6 rfl ?_
  obtain ⟨o3, eo3, hf⟩ := bS hf
  refine r_getR C dX12_workOf_7 fl_X12_79 rfl eo3 ?_
  refine r_iload_n C dX12_workOf_10 rfl ?_
  obtain ⟨v4, ev4, hf⟩ := bS hf
  refine r_iald C dX12_workOf_11 ev4 ?_
  refine r_if_ge (tgt := 25) C dX12_workOf_12 (by decide) (fun hc => ?_) (fun hc => ?_)
  · have hf := ifT hf hc
    refine r_iload_n C dX12_workOf_25 rfl ?_
    refine r_if_ge (tgt := 31) C dX12_workOf_26 (by decide) (fun hc => ?_) (fun hc => ?_)
    · have hf := ifT hf hc
      refine r_iload_n C dX12_workOf_31 rfl ?_
      refine r_aload_n C dX12_workOf_32 rfl ?_
      obtain ⟨o5, eo5, hf⟩ := bS hf
      refine r_getR C dX12_workOf_33 fl_X12_79 rfl eo5 ?_
      refine r_iload_n C dX12_workOf_36 rfl ?_
      obtain ⟨v6, ev6, hf⟩ := bS hf
      refine r_iald C dX12_workOf_37 ev6 ?_
      refine r_icmp_ne (tgt := 69) C dX12_workOf_38 (by decide) (fun hc => ?_) (fun hc => ?_)
      · have hf := ifF hf hc
        exact V.sub (wX12_workOf_b69 C hret hf) (LW_s rfl (LW_n (LW_n (LW_e))))
      · have hf := ifT hf hc
        refine r_aload_n C dX12_workOf_41 rfl ?_
        obtain ⟨o7, eo7, hf⟩ := bS hf
        refine r_getR C dX12_workOf_42 fl_X12_46 rfl eo7 ?_
        refine r_iload_n C dX12_workOf_45 rfl ?_
        obtain ⟨v8, ev8, hf⟩ := bS hf
        refine r_iald C dX12_workOf_46 ev8 ?_
        refine r_aload_n C dX12_workOf_47 rfl ?_
        obtain ⟨o9, eo9, hf⟩ := bS hf
        refine r_getR C dX12_workOf_48 fl_X12_82 rfl eo9 ?_
        refine r_iload_n C dX12_workOf_51 rfl ?_
        obtain ⟨v10, ev10, hf⟩ := bS hf
        refine r_iald C dX12_workOf_52 ev10 ?_
        refine r_icmp_ne (tgt := 69) C dX12_workOf_53 (by decide) (fun hc => ?_) (fun hc => ?_)
        · have hf := ifF hf hc
          exact V.sub (wX12_workOf_b69 C hret hf) (LW_s rfl (LW_n (LW_n (LW_e))))
        · have hf := ifT hf hc
          refine r_aload_n C dX12_workOf_56 rfl ?_
          obtain ⟨o11, eo11, hf⟩ := bS hf
          refine r_getR C dX12_workOf_57 fl_X12_49 rfl eo11 ?_
          refine r_iload_n C dX12_workOf_60 rfl ?_
          obtain ⟨v12, ev12, hf⟩ := bS hf
          refine r_iald C dX12_workOf_61 ev12 ?_
          refine r_if_ne (tgt := 69) C dX12_workOf_62 (by decide) (fun hc => ?_) (fun hc => ?_)
          · have hf := ifF hf hc
            exact V.sub (wX12_workOf_b69 C hret hf) (LW_s rfl (LW_n (LW_n (LW_e))))
          · have hf := ifT hf hc
            refine r_iconst (v := 0) C dX12_workOf_65 (by decide) ?_
            refine r_goto (tgt := 70) C dX12_workOf_66 (by decide) ?_
            exact V.sub (wX12_workOf_b70 C hret hf) (LW_s rfl (LW_n (LW_n (LW_e))))
    · have hf := ifF hf hc
      refine r_iconst (v := 3) C dX12_workOf_29 (by decide) ?_
      exact r_iretF C dX12_workOf_30 hret hf (by decide) (by decide)
  · have hf := ifF hf hc
    refine r_iload_n C dX12_workOf_15 rfl ?_
    refine r_if_ge (tgt := 23) C dX12_workOf_16 (by decide) (fun hc => ?_) (fun hc => ?_)
    · have hf := ifT hf hc
      refine r_iconst (v := 2) C dX12_workOf_23 (by decide) ?_
      exact V.sub (wX12_workOf_b24 C hret hf) (LW_s rfl (LW_n (LW_n (LW_e))))
    · have hf := ifF hf hc
      refine r_iconst (v := 0) C dX12_workOf_19 (by decide) ?_
      refine r_goto (tgt := 24) C dX12_workOf_20 (by decide) ?_
      exact V.sub (wX12_workOf_b24 C hret hf) (LW_s rfl (LW_n (LW_n (LW_e))))

theorem dgX12_change_0 : (decode cX12_change 0 = .ok (.iload_n 1, 1)) ∧ (decode cX12_change 1 = .ok (.iconst 0, 1)) ∧ (decode cX12_change 2 = .ok (.bipush 9, 2)) ∧ (decode cX12_change 4 = .ok (.invokestatic 149, 3)) ∧ (decode cX12_change 7 = .ok (.ifCond .eq 14, 3)) ∧ (decode cX12_change 10 = .ok (.iload_n 2, 1)) ∧ (decode cX12_change 11 = .ok (.invokestatic 217, 3)) ∧ (decode cX12_change 14 = .ok (.ifCond .eq 7, 3)) ∧ (decode cX12_change 17 = .ok (.iload_n 2, 1)) ∧ (decode cX12_change 18 = .ok (.ifCond .ne 5, 3)) ∧ True := dkW [(0, .iload_n 1, 1), (1, .iconst 0, 1), (2, .bipush 9, 2), (4, .invokestatic 149, 3), (7, .ifCond .eq 14, 3), (10, .iload_n 2, 1), (11, .invokestatic 217, 3), (14, .ifCond .eq 7, 3), (17, .iload_n 2, 1), (18, .ifCond .ne 5, 3)] 0 (by decide +kernel)
theorem dX12_change_0 : decode cX12_change 0 = .ok (.iload_n 1, 1) := dgX12_change_0.1
theorem dX12_change_1 : decode cX12_change 1 = .ok (.iconst 0, 1) := dgX12_change_0.2.1
theorem dX12_change_2 : decode cX12_change 2 = .ok (.bipush 9, 2) := dgX12_change_0.2.2.1
theorem dX12_change_4 : decode cX12_change 4 = .ok (.invokestatic 149, 3) := dgX12_change_0.2.2.2.1
theorem dX12_change_7 : decode cX12_change 7 = .ok (.ifCond .eq 14, 3) := dgX12_change_0.2.2.2.2.1
theorem dX12_change_10 : decode cX12_change 10 = .ok (.iload_n 2, 1) := dgX12_change_0.2.2.2.2.2.1
theorem dX12_change_11 : decode cX12_change 11 = .ok (.invokestatic 217, 3) := dgX12_change_0.2.2.2.2.2.2.1
theorem dX12_change_14 : decode cX12_change 14 = .ok (.ifCond .eq 7, 3) := dgX12_change_0.2.2.2.2.2.2.2.1
theorem dX12_change_17 : decode cX12_change 17 = .ok (.iload_n 2, 1) := dgX12_change_0.2.2.2.2.2.2.2.2.1
theorem dX12_change_18 : decode cX12_change 18 = .ok (.ifCond .ne 5, 3) := dgX12_change_0.2.2.2.2.2.2.2.2.2.1
theorem dX12_change_21 : decode cX12_change 21 = .ok (.iconst (-1), 1) := by decide +kernel
theorem dgX12_change_22 : (decode cX12_change 22 = .ok (.ireturn, 1)) ∧ (decode cX12_change 23 = .ok (.aload_n 0, 1)) ∧ (decode cX12_change 24 = .ok (.iconst 1, 1)) ∧ (decode cX12_change 25 = .ok (.putfield 227, 3)) ∧ (decode cX12_change 28 = .ok (.aload_n 0, 1)) ∧ (decode cX12_change 29 = .ok (.iconst 0, 1)) ∧ (decode cX12_change 30 = .ok (.putfield 230, 3)) ∧ (decode cX12_change 33 = .ok (.aload_n 0, 1)) ∧ (decode cX12_change 34 = .ok (.aload_n 0, 1)) ∧ (decode cX12_change 35 = .ok (.getfield 146, 3)) ∧ (decode cX12_change 38 = .ok (.putfield 233, 3)) ∧ (decode cX12_change 41 = .ok (.iconst 0, 1)) ∧ True := dkW [(22, .ireturn, 1), (23, .aload_n 0, 1), (24, .iconst 1, 1), (25, .putfield 227, 3), (28, .aload_n 0, 1), (29, .iconst 0, 1), (30, .putfield 230, 3), (33, .aload_n 0, 1), (34, .aload_n 0, 1), (35, .getfield 146, 3), (38, .putfield 233, 3), (41, .iconst 0, 1)] 22 (by decide +kernel)
theorem dX12_change_22 : decode cX12_change 22 = .ok (.ireturn, 1) := dgX12_change_22.1
theorem dX12_change_23 : decode cX12_change 23 = .ok (.aload_n 0, 1) := dgX12_change_22.2.1
theorem dX12_change_24 : decode cX12_change 24 = .ok (.iconst 1, 1) := dgX12_change_22.2.2.1
theorem dX12_change_25 : decode cX12_change 25 = .ok (.putfield 227, 3) := dgX12_change_22.2.2.2.1
theorem dX12_change_28 : decode cX12_change 28 = .ok (.aload_n 0, 1) := dgX12_change_22.2.2.2.2.1
theorem dX12_change_29 : decode cX12_change 29 = .ok (.iconst 0, 1) := dgX12_change_22.2.2.2.2.2.1
theorem dX12_change_30 : decode cX12_change 30 = .ok (.putfield 230, 3) := dgX12_change_22.2.2.2.2.2.2.1
theorem dX12_change_33 : decode cX12_change 33 = .ok (.aload_n 0, 1) := dgX12_change_22.2.2.2.2.2.2.2.1
theorem dX12_change_34 : decode cX12_change 34 = .ok (.aload_n 0, 1) := dgX12_change_22.2.2.2.2.2.2.2.2.1
theorem dX12_change_35 : decode cX12_change 35 = .ok (.getfield 146, 3) := dgX12_change_22.2.2.2.2.2.2.2.2.2.1
theorem dX12_change_38 : decode cX12_change 38 = .ok (.putfield 233, 3) := dgX12_change_22.2.2.2.2.2.2.2.2.2.2.1
theorem dX12_change_41 : decode cX12_change 41 = .ok (.iconst 0, 1) := dgX12_change_22.2.2.2.2.2.2.2.2.2.2.2.1
theorem dgX12_change_42 : (decode cX12_change 42 = .ok (.istore_n 3, 1)) ∧ (decode cX12_change 43 = .ok (.iconst 0, 1)) ∧ (decode cX12_change 44 = .ok (.istore 4, 2)) ∧ (decode cX12_change 46 = .ok (.iload 4, 2)) ∧ (decode cX12_change 48 = .ok (.aload_n 0, 1)) ∧ (decode cX12_change 49 = .ok (.getfield 146, 3)) ∧ (decode cX12_change 52 = .ok (.if_icmp .ge 25, 3)) ∧ (decode cX12_change 55 = .ok (.aload_n 0, 1)) ∧ (decode cX12_change 56 = .ok (.getfield 79, 3)) ∧ (decode cX12_change 59 = .ok (.iload 4, 2)) ∧ True := dkW [(42, .istore_n 3, 1), (43, .iconst 0, 1), (44, .istore 4, 2), (46, .iload 4, 2), (48, .aload_n 0, 1), (49, .getfield 146, 3), (52, .if_icmp .ge 25, 3), (55, .aload_n 0, 1), (56, .getfield 79, 3), (59, .iload 4, 2)] 42 (by decide +kernel)
theorem dX12_change_42 : decode cX12_change 42 = .ok (.istore_n 3, 1) := dgX12_change_42.1
theorem dX12_change_43 : decode cX12_change 43 = .ok (.iconst 0, 1) := dgX12_change_42.2.1
theorem dX12_change_44 : decode cX12_change 44 = .ok (.istore 4, 2) := dgX12_change_42.2.2.1
theorem dX12_change_46 : decode cX12_change 46 = .ok (.iload 4, 2) := dgX12_change_42.2.2.2.1
theorem dX12_change_48 : decode cX12_change 48 = .ok (.aload_n 0, 1) := dgX12_change_42.2.2.2.2.1
theorem dX12_change_49 : decode cX12_change 49 = .ok (.getfield 146, 3) := dgX12_change_42.2.2.2.2.2.1
theorem dX12_change_52 : decode cX12_change 52 = .ok (.if_icmp .ge 25, 3) := dgX12_change_42.2.2.2.2.2.2.1
theorem dX12_change_55 : decode cX12_change 55 = .ok (.aload_n 0, 1) := dgX12_change_42.2.2.2.2.2.2.2.1
theorem dX12_change_56 : decode cX12_change 56 = .ok (.getfield 79, 3) := dgX12_change_42.2.2.2.2.2.2.2.2.1
theorem dX12_change_59 : decode cX12_change 59 = .ok (.iload 4, 2) := dgX12_change_42.2.2.2.2.2.2.2.2.2.1
theorem dX12_change_61 : decode cX12_change 61 = .ok (.iconst (-1), 1) := by decide +kernel
theorem dgX12_change_62 : (decode cX12_change 62 = .ok (.iastore, 1)) ∧ (decode cX12_change 63 = .ok (.aload_n 0, 1)) ∧ (decode cX12_change 64 = .ok (.getfield 82, 3)) ∧ (decode cX12_change 67 = .ok (.iload 4, 2)) ∧ True := dkW [(62, .iastore, 1), (63, .aload_n 0, 1), (64, .getfield 82, 3), (67, .iload 4, 2)] 62 (by decide +kernel)
theorem dX12_change_62 : decode cX12_change 62 = .ok (.iastore, 1) := dgX12_change_62.1
theorem dX12_change_63 : decode cX12_change 63 = .ok (.aload_n 0, 1) := dgX12_change_62.2.1
theorem dX12_change_64 : decode cX12_change 64 = .ok (.getfield 82, 3) := dgX12_change_62.2.2.1
theorem dX12_change_67 : decode cX12_change 67 = .ok (.iload 4, 2) := dgX12_change_62.2.2.2.1
theorem dX12_change_69 : decode cX12_change 69 = .ok (.iconst (-1), 1) := by decide +kernel
theorem dgX12_change_70 : (decode cX12_change 70 = .ok (.iastore, 1)) ∧ (decode cX12_change 71 = .ok (.iinc 4 1, 3)) ∧ (decode cX12_change 74 = .ok (.goto (-28), 3)) ∧ (decode cX12_change 77 = .ok (.iconst 0, 1)) ∧ (decode cX12_change 78 = .ok (.istore 4, 2)) ∧ (decode cX12_change 80 = .ok (.iload 4, 2)) ∧ (decode cX12_change 82 = .ok (.aload_n 0, 1)) ∧ (decode cX12_change 83 = .ok (.getfield 146, 3)) ∧ (decode cX12_change 86 = .ok (.if_icmp .ge 91, 3)) ∧ (decode cX12_change 89 = .ok (.aload_n 0, 1)) ∧ (decode cX12_change 90 = .ok (.getfield 230, 3)) ∧ (decode cX12_change 93 = .ok (.ifCond .ne 84, 3)) ∧ True := dkW [(70, .iastore, 1), (71, .iinc 4 1, 3), (74, .goto (-28), 3), (77, .iconst 0, 1), (78, .istore 4, 2), (80, .iload 4, 2), (82, .aload_n 0, 1), (83, .getfield 146, 3), (86, .if_icmp .ge 91, 3), (89, .aload_n 0, 1), (90, .getfield 230, 3), (93, .ifCond .ne 84, 3)] 70 (by decide +kernel)
theorem dX12_change_70 : decode cX12_change 70 = .ok (.iastore, 1) := dgX12_change_70.1
theorem dX12_change_71 : decode cX12_change 71 = .ok (.iinc 4 1, 3) := dgX12_change_70.2.1
theorem dX12_change_74 : decode cX12_change 74 = .ok (.goto (-28), 3) := dgX12_change_70.2.2.1
theorem dX12_change_77 : decode cX12_change 77 = .ok (.iconst 0, 1) := dgX12_change_70.2.2.2.1
theorem dX12_change_78 : decode cX12_change 78 = .ok (.istore 4, 2) := dgX12_change_70.2.2.2.2.1
theorem dX12_change_80 : decode cX12_change 80 = .ok (.iload 4, 2) := dgX12_change_70.2.2.2.2.2.1
theorem dX12_change_82 : decode cX12_change 82 = .ok (.aload_n 0, 1) := dgX12_change_70.2.2.2.2.2.2.1
theorem dX12_change_83 : decode cX12_change 83 = .ok (.getfield 146, 3) := dgX12_change_70.2.2.2.2.2.2.2.1
theorem dX12_change_86 : decode cX12_change 86 = .ok (.if_icmp .ge 91, 3) := dgX12_change_70.2.2.2.2.2.2.2.2.1
theorem dX12_change_89 : decode cX12_change 89 = .ok (.aload_n 0, 1) := dgX12_change_70.2.2.2.2.2.2.2.2.2.1
theorem dX12_change_90 : decode cX12_change 90 = .ok (.getfield 230, 3) := dgX12_change_70.2.2.2.2.2.2.2.2.2.2.1
theorem dX12_change_93 : decode cX12_change 93 = .ok (.ifCond .ne 84, 3) := dgX12_change_70.2.2.2.2.2.2.2.2.2.2.2.1
theorem dgX12_change_96 : (decode cX12_change 96 = .ok (.aload_n 0, 1)) ∧ (decode cX12_change 97 = .ok (.getfield 76, 3)) ∧ (decode cX12_change 100 = .ok (.bipush 40, 2)) ∧ (decode cX12_change 102 = .ok (.iload_n 1, 1)) ∧ (decode cX12_change 103 = .ok (.imul, 1)) ∧ (decode cX12_change 104 = .ok (.iload 4, 2)) ∧ (decode cX12_change 106 = .ok (.iadd, 1)) ∧ (decode cX12_change 107 = .ok (.iaload, 1)) ∧ (decode cX12_change 108 = .ok (.istore 5, 2)) ∧ (decode cX12_change 110 = .ok (.iload 5, 2)) ∧ (decode cX12_change 112 = .ok (.ifCond .lt 59, 3)) ∧ (decode cX12_change 115 = .ok (.iload 5, 2)) ∧ True := dkW [(96, .aload_n 0, 1), (97, .getfield 76, 3), (100, .bipush 40, 2), (102, .iload_n 1, 1), (103, .imul, 1), (104, .iload 4, 2), (106, .iadd, 1), (107, .iaload, 1), (108, .istore 5, 2), (110, .iload 5, 2), (112, .ifCond .lt 59, 3), (115, .iload 5, 2)] 96 (by decide +kernel)
theorem dX12_change_96 : decode cX12_change 96 = .ok (.aload_n 0, 1) := dgX12_change_96.1
theorem dX12_change_97 : decode cX12_change 97 = .ok (.getfield 76, 3) := dgX12_change_96.2.1
theorem dX12_change_100 : decode cX12_change 100 = .ok (.bipush 40, 2) := dgX12_change_96.2.2.1
theorem dX12_change_102 : decode cX12_change 102 = .ok (.iload_n 1, 1) := dgX12_change_96.2.2.2.1
theorem dX12_change_103 : decode cX12_change 103 = .ok (.imul, 1) := dgX12_change_96.2.2.2.2.1
theorem dX12_change_104 : decode cX12_change 104 = .ok (.iload 4, 2) := dgX12_change_96.2.2.2.2.2.1
theorem dX12_change_106 : decode cX12_change 106 = .ok (.iadd, 1) := dgX12_change_96.2.2.2.2.2.2.1
theorem dX12_change_107 : decode cX12_change 107 = .ok (.iaload, 1) := dgX12_change_96.2.2.2.2.2.2.2.1
theorem dX12_change_108 : decode cX12_change 108 = .ok (.istore 5, 2) := dgX12_change_96.2.2.2.2.2.2.2.2.1
theorem dX12_change_110 : decode cX12_change 110 = .ok (.iload 5, 2) := dgX12_change_96.2.2.2.2.2.2.2.2.2.1
theorem dX12_change_112 : decode cX12_change 112 = .ok (.ifCond .lt 59, 3) := dgX12_change_96.2.2.2.2.2.2.2.2.2.2.1
theorem dX12_change_115 : decode cX12_change 115 = .ok (.iload 5, 2) := dgX12_change_96.2.2.2.2.2.2.2.2.2.2.2.1
theorem dgX12_change_117 : (decode cX12_change 117 = .ok (.aload_n 0, 1)) ∧ (decode cX12_change 118 = .ok (.getfield 19, 3)) ∧ (decode cX12_change 121 = .ok (.iload 4, 2)) ∧ (decode cX12_change 123 = .ok (.iaload, 1)) ∧ (decode cX12_change 124 = .ok (.if_icmp .ne 6, 3)) ∧ (decode cX12_change 127 = .ok (.goto 44, 3)) ∧ (decode cX12_change 130 = .ok (.aload_n 0, 1)) ∧ (decode cX12_change 131 = .ok (.iload 4, 2)) ∧ (decode cX12_change 133 = .ok (.iload 5, 2)) ∧ (decode cX12_change 135 = .ok (.iload_n 2, 1)) ∧ (decode cX12_change 136 = .ok (.invokevirtual 236, 3)) ∧ (decode cX12_change 139 = .ok (.ifCond .eq 9, 3)) ∧ True := dkW [(117, .aload_n 0, 1), (118, .getfield 19, 3), (121, .iload 4, 2), (123, .iaload, 1), (124, .if_icmp .ne 6, 3), (127, .goto 44, 3), (130, .aload_n 0, 1), (131, .iload 4, 2), (133, .iload 5, 2), (135, .iload_n 2, 1), (136, .invokevirtual 236, 3), (139, .ifCond .eq 9, 3)] 117 (by decide +kernel)
theorem dX12_change_117 : decode cX12_change 117 = .ok (.aload_n 0, 1) := dgX12_change_117.1
theorem dX12_change_118 : decode cX12_change 118 = .ok (.getfield 19, 3) := dgX12_change_117.2.1
theorem dX12_change_121 : decode cX12_change 121 = .ok (.iload 4, 2) := dgX12_change_117.2.2.1
theorem dX12_change_123 : decode cX12_change 123 = .ok (.iaload, 1) := dgX12_change_117.2.2.2.1
theorem dX12_change_124 : decode cX12_change 124 = .ok (.if_icmp .ne 6, 3) := dgX12_change_117.2.2.2.2.1
theorem dX12_change_127 : decode cX12_change 127 = .ok (.goto 44, 3) := dgX12_change_117.2.2.2.2.2.1
theorem dX12_change_130 : decode cX12_change 130 = .ok (.aload_n 0, 1) := dgX12_change_117.2.2.2.2.2.2.1
theorem dX12_change_131 : decode cX12_change 131 = .ok (.iload 4, 2) := dgX12_change_117.2.2.2.2.2.2.2.1
theorem dX12_change_133 : decode cX12_change 133 = .ok (.iload 5, 2) := dgX12_change_117.2.2.2.2.2.2.2.2.1
theorem dX12_change_135 : decode cX12_change 135 = .ok (.iload_n 2, 1) := dgX12_change_117.2.2.2.2.2.2.2.2.2.1
theorem dX12_change_136 : decode cX12_change 136 = .ok (.invokevirtual 236, 3) := dgX12_change_117.2.2.2.2.2.2.2.2.2.2.1
theorem dX12_change_139 : decode cX12_change 139 = .ok (.ifCond .eq 9, 3) := dgX12_change_117.2.2.2.2.2.2.2.2.2.2.2.1
theorem dgX12_change_142 : (decode cX12_change 142 = .ok (.iinc 3 1, 3)) ∧ (decode cX12_change 145 = .ok (.goto 26, 3)) ∧ (decode cX12_change 148 = .ok (.aload_n 0, 1)) ∧ (decode cX12_change 149 = .ok (.iconst 1, 1)) ∧ (decode cX12_change 150 = .ok (.putfield 230, 3)) ∧ (decode cX12_change 153 = .ok (.aload_n 0, 1)) ∧ (decode cX12_change 154 = .ok (.getfield 79, 3)) ∧ (decode cX12_change 157 = .ok (.iload 4, 2)) ∧ (decode cX12_change 159 = .ok (.bipush (-2), 2)) ∧ (decode cX12_change 161 = .ok (.iastore, 1)) ∧ (decode cX12_change 162 = .ok (.aload_n 0, 1)) ∧ (decode cX12_change 163 = .ok (.getfield 82, 3)) ∧ True := dkW [(142, .iinc 3 1, 3), (145, .goto 26, 3), (148, .aload_n 0, 1), (149, .iconst 1, 1), (150, .putfield 230, 3), (153, .aload_n 0, 1), (154, .getfield 79, 3), (157, .iload 4, 2), (159, .bipush (-2), 2), (161, .iastore, 1), (162, .aload_n 0, 1), (163, .getfield 82, 3)] 142 (by decide +kernel)
theorem dX12_change_142 : decode cX12_change 142 = .ok (.iinc 3 1, 3) := dgX12_change_142.1
theorem dX12_change_145 : decode cX12_change 145 = .ok (.goto 26, 3) := dgX12_change_142.2.1
theorem dX12_change_148 : decode cX12_change 148 = .ok (.aload_n 0, 1) := dgX12_change_142.2.2.1
theorem dX12_change_149 : decode cX12_change 149 = .ok (.iconst 1, 1) := dgX12_change_142.2.2.2.1
theorem dX12_change_150 : decode cX12_change 150 = .ok (.putfield 230, 3) := dgX12_change_142.2.2.2.2.1
theorem dX12_change_153 : decode cX12_change 153 = .ok (.aload_n 0, 1) := dgX12_change_142.2.2.2.2.2.1
theorem dX12_change_154 : decode cX12_change 154 = .ok (.getfield 79, 3) := dgX12_change_142.2.2.2.2.2.2.1
theorem dX12_change_157 : decode cX12_change 157 = .ok (.iload 4, 2) := dgX12_change_142.2.2.2.2.2.2.2.1
theorem dX12_change_159 : decode cX12_change 159 = .ok (.bipush (-2), 2) := dgX12_change_142.2.2.2.2.2.2.2.2.1
theorem dX12_change_161 : decode cX12_change 161 = .ok (.iastore, 1) := dgX12_change_142.2.2.2.2.2.2.2.2.2.1
theorem dX12_change_162 : decode cX12_change 162 = .ok (.aload_n 0, 1) := dgX12_change_142.2.2.2.2.2.2.2.2.2.2.1
theorem dX12_change_163 : decode cX12_change 163 = .ok (.getfield 82, 3) := dgX12_change_142.2.2.2.2.2.2.2.2.2.2.2.1
theorem dgX12_change_166 : (decode cX12_change 166 = .ok (.iload 4, 2)) ∧ (decode cX12_change 168 = .ok (.bipush (-2), 2)) ∧ (decode cX12_change 170 = .ok (.iastore, 1)) ∧ (decode cX12_change 171 = .ok (.iinc 4 1, 3)) ∧ (decode cX12_change 174 = .ok (.goto (-94), 3)) ∧ (decode cX12_change 177 = .ok (.iconst 0, 1)) ∧ (decode cX12_change 178 = .ok (.istore 4, 2)) ∧ (decode cX12_change 180 = .ok (.iload 4, 2)) ∧ (decode cX12_change 182 = .ok (.aload_n 0, 1)) ∧ (decode cX12_change 183 = .ok (.getfield 146, 3)) ∧ (decode cX12_change 186 = .ok (.if_icmp .ge 29, 3)) ∧ (decode cX12_change 189 = .ok (.aload_n 0, 1)) ∧ True := dkW [(166, .iload 4, 2), (168, .bipush (-2), 2), (170, .iastore, 1), (171, .iinc 4 1, 3), (174, .goto (-94), 3), (177, .iconst 0, 1), (178, .istore 4, 2), (180, .iload 4, 2), (182, .aload_n 0, 1), (183, .getfield 146, 3), (186, .if_icmp .ge 29, 3), (189, .aload_n 0, 1)] 166 (by decide +kernel)
theorem dX12_change_166 : decode cX12_change 166 = .ok (.iload 4, 2) := dgX12_change_166.1
theorem dX12_change_168 : decode cX12_change 168 = .ok (.bipush (-2), 2) := dgX12_change_166.2.1
theorem dX12_change_170 : decode cX12_change 170 = .ok (.iastore, 1) := dgX12_change_166.2.2.1
theorem dX12_change_171 : decode cX12_change 171 = .ok (.iinc 4 1, 3) := dgX12_change_166.2.2.2.1
theorem dX12_change_174 : decode cX12_change 174 = .ok (.goto (-94), 3) := dgX12_change_166.2.2.2.2.1
theorem dX12_change_177 : decode cX12_change 177 = .ok (.iconst 0, 1) := dgX12_change_166.2.2.2.2.2.1
theorem dX12_change_178 : decode cX12_change 178 = .ok (.istore 4, 2) := dgX12_change_166.2.2.2.2.2.2.1
theorem dX12_change_180 : decode cX12_change 180 = .ok (.iload 4, 2) := dgX12_change_166.2.2.2.2.2.2.2.1
theorem dX12_change_182 : decode cX12_change 182 = .ok (.aload_n 0, 1) := dgX12_change_166.2.2.2.2.2.2.2.2.1
theorem dX12_change_183 : decode cX12_change 183 = .ok (.getfield 146, 3) := dgX12_change_166.2.2.2.2.2.2.2.2.2.1
theorem dX12_change_186 : decode cX12_change 186 = .ok (.if_icmp .ge 29, 3) := dgX12_change_166.2.2.2.2.2.2.2.2.2.2.1
theorem dX12_change_189 : decode cX12_change 189 = .ok (.aload_n 0, 1) := dgX12_change_166.2.2.2.2.2.2.2.2.2.2.2.1
theorem dgX12_change_190 : (decode cX12_change 190 = .ok (.getfield 230, 3)) ∧ (decode cX12_change 193 = .ok (.ifCond .ne 22, 3)) ∧ (decode cX12_change 196 = .ok (.aload_n 0, 1)) ∧ (decode cX12_change 197 = .ok (.getfield 85, 3)) ∧ (decode cX12_change 200 = .ok (.iload 4, 2)) ∧ (decode cX12_change 202 = .ok (.aload_n 0, 1)) ∧ (decode cX12_change 203 = .ok (.iload 4, 2)) ∧ (decode cX12_change 205 = .ok (.invokevirtual 239, 3)) ∧ (decode cX12_change 208 = .ok (.iastore, 1)) ∧ (decode cX12_change 209 = .ok (.iinc 4 1, 3)) ∧ (decode cX12_change 212 = .ok (.goto (-32), 3)) ∧ (decode cX12_change 215 = .ok (.aload_n 0, 1)) ∧ True := dkW [(190, .getfield 230, 3), (193, .ifCond .ne 22, 3), (196, .aload_n 0, 1), (197, .getfield 85, 3), (200, .iload 4, 2), (202, .aload_n 0, 1), (203, .iload 4, 2), (205, .invokevirtual 239, 3), (208, .iastore, 1), (209, .iinc 4 1, 3), (212, .goto (-32), 3), (215, .aload_n 0, 1)] 190 (by decide +kernel)
theorem dX12_change_190 : decode cX12_change 190 = .ok (.getfield 230, 3) := dgX12_change_190.1
theorem dX12_change_193 : decode cX12_change 193 = .ok (.ifCond .ne 22, 3) := dgX12_change_190.2.1
theorem dX12_change_196 : decode cX12_change 196 = .ok (.aload_n 0, 1) := dgX12_change_190.2.2.1
theorem dX12_change_197 : decode cX12_change 197 = .ok (.getfield 85, 3) := dgX12_change_190.2.2.2.1
theorem dX12_change_200 : decode cX12_change 200 = .ok (.iload 4, 2) := dgX12_change_190.2.2.2.2.1
theorem dX12_change_202 : decode cX12_change 202 = .ok (.aload_n 0, 1) := dgX12_change_190.2.2.2.2.2.1
theorem dX12_change_203 : decode cX12_change 203 = .ok (.iload 4, 2) := dgX12_change_190.2.2.2.2.2.2.1
theorem dX12_change_205 : decode cX12_change 205 = .ok (.invokevirtual 239, 3) := dgX12_change_190.2.2.2.2.2.2.2.1
theorem dX12_change_208 : decode cX12_change 208 = .ok (.iastore, 1) := dgX12_change_190.2.2.2.2.2.2.2.2.1
theorem dX12_change_209 : decode cX12_change 209 = .ok (.iinc 4 1, 3) := dgX12_change_190.2.2.2.2.2.2.2.2.2.1
theorem dX12_change_212 : decode cX12_change 212 = .ok (.goto (-32), 3) := dgX12_change_190.2.2.2.2.2.2.2.2.2.2.1
theorem dX12_change_215 : decode cX12_change 215 = .ok (.aload_n 0, 1) := dgX12_change_190.2.2.2.2.2.2.2.2.2.2.2.1
theorem dgX12_change_216 : (decode cX12_change 216 = .ok (.getfield 230, 3)) ∧ (decode cX12_change 219 = .ok (.ifCond .eq 8, 3)) ∧ (decode cX12_change 222 = .ok (.bipush (-2), 2)) ∧ (decode cX12_change 224 = .ok (.goto 4, 3)) ∧ (decode cX12_change 227 = .ok (.iload_n 3, 1)) ∧ (decode cX12_change 228 = .ok (.ireturn, 1)) ∧ True := dkW [(216, .getfield 230, 3), (219, .ifCond .eq 8, 3), (222, .bipush (-2), 2), (224, .goto 4, 3), (227, .iload_n 3, 1), (228, .ireturn, 1)] 216 (by decide +kernel)
theorem dX12_change_216 : decode cX12_change 216 = .ok (.getfield 230, 3) := dgX12_change_216.1
theorem dX12_change_219 : decode cX12_change 219 = .ok (.ifCond .eq 8, 3) := dgX12_change_216.2.1
theorem dX12_change_222 : decode cX12_change 222 = .ok (.bipush (-2), 2) := dgX12_change_216.2.2.1
theorem dX12_change_224 : decode cX12_change 224 = .ok (.goto 4, 3) := dgX12_change_216.2.2.2.1
theorem dX12_change_227 : decode cX12_change 227 = .ok (.iload_n 3, 1) := dgX12_change_216.2.2.2.2.1
theorem dX12_change_228 : decode cX12_change 228 = .ok (.ireturn, 1) := dgX12_change_216.2.2.2.2.2.1
abbrev rmX12_change : Room := { frames := 2, cells := 0, slots := 0, locals := 46 }
noncomputable def fX12_change_b21 (N : Nat)  (t : Nat) (h : Hs)  : Option (Int32 × Hs) :=
  some ((-1), h)
set_option maxHeartbeats 4000000 in
set_option maxRecDepth 20000 in
theorem wX12_change_b21 {p : Program} {l : Launch} {e : Env} {s : State} {m : MethodId} {args : Array Value} {below : List Frame} {meth : Method} {c : Code} {G : Gl} {N : Nat} {h : Hs} {r : Int32 × Hs}  {t : Nat}  (C : Cx p s m args meth c cX12_change RX12 6 G) (hret : meth.sig.returnType = (some .int))  (hf : fX12_change_b21 N  t h  = some r) : V p l e rmX12_change s m args below meth c G 6 (MQ below (QcG G (some (.inl r.1)) r.2) args s rmX12_change.cells rmX12_change.slots (AG G)) h 0 0 21 [some (.inr (some t)), none, none, none, none, none] [] := by
  unfold fX12_change_b21 at hf
  refine r_iconst (v := -1) C dX12_change_21 (by decide) ?_
  exact r_iretF C dX12_change_22 hret hf (by decide) (by decide)
noncomputable def fX12_change_b228 (N : Nat)  (t : Nat) (h : Hs) (u0 : Int32) : Option (Int32 × Hs) :=
  some (u0, h)
set_option maxHeartbeats 4000000 in
set_option maxRecDepth 20000 in
theorem wX12_change_b228 {p : Program} {l : Launch} {e : Env} {s : State} {m : MethodId} {args : Array Value} {below : List Frame} {meth : Method} {c : Code} {G : Gl} {N : Nat} {h : Hs} {r : Int32 × Hs}  {t : Nat} {u0 : Int32} (C : Cx p s m args meth c cX12_change RX12 6 G) (hret : meth.sig.returnType = (some .int))  (hf : fX12_change_b228 N  t h u0 = some r) : V p l e rmX12_change s m args below meth c G 6 (MQ below (QcG G (some (.inl r.1)) r.2) args s rmX12_change.cells rmX12_change.slots (AG G)) h 0 0 228 [some (.inr (some t)), none, none, none, none, none] [.inl u0] := by
  unfold fX12_change_b228 at hf
  exact r_iretF C dX12_change_228 hret hf (by decide) (by decide)
noncomputable def fX12_change_b215 (N : Nat)  (t : Nat) (h : Hs) (x3 : Int32) : Option (Int32 × Hs) :=
  (oI 12 30 h (some t)).bind fun v1 =>
  if v1 = 0 then (
  fX12_change_b228 N t h x3)
  else fX12_change_b228 N t h (-2)
set_option maxHeartbeats 4000000 in
set_option maxRecDepth 20000 in
theorem wX12_change_b215 {p : Program} {l : Launch} {e : Env} {s : State} {m : MethodId} {args : Array Value} {below : List Frame} {meth : Method} {c : Code} {G : Gl} {N : Nat} {h : Hs} {r : Int32 × Hs}  {t : Nat} {x3 : Int32} (C : Cx p s m args meth c cX12_change RX12 6 G) (hret : meth.sig.returnType = (some .int))  (hf : fX12_change_b215 N  t h x3 = some r) : V p l e rmX12_change s m args below meth c G 6 (MQ below (QcG G (some (.inl r.1)) r.2) args s rmX12_change.cells rmX12_change.slots (AG G)) h 0 0 215 [some (.inr (some t)), none, none, some (.inl x3), none, none] [] := by
  unfold fX12_change_b215 at hf
  refine r_aload_n C dX12_change_215 rfl ?_
  obtain ⟨v1, ev1, hf⟩ := bS hf
  refine r_getI C dX12_change_216 fl_X12_230 rfl ev1 ?_
  refine r_if_eq (tgt := 227) C dX12_change_219 (by decide) (fun hc => ?_) (fun hc => ?_)
  · have hf := ifT hf hc
    refine r_iload_n C dX12_change_227 rfl ?_
    exact V.sub (wX12_change_b228 C hret hf) (LW_s rfl (LW_n (LW_n (LW_n (LW_n (LW_n (LW_e)))))))
  · have hf := ifF hf hc
    refine r_bipush (v := -2) C dX12_change_222 (by decide) ?_
    refine r_goto (tgt := 228) C dX12_change_224 (by decide) ?_
    exact V.sub (wX12_change_b228 C hret hf) (LW_s rfl (LW_n (LW_n (LW_n (LW_n (LW_n (LW_e)))))))
noncomputable def fX12_change_b180_body (N : Nat)  (g180 : Hs → Int32 → Int32 → Option (Int32 × Hs)) (t : Nat) (h : Hs) (x3 : Int32) (x4 : Int32) : Option (Int32 × Hs) :=
  (oI 12 1 h (some t)).bind fun v1 =>
  if v1 ≤ x4 then (
  fX12_change_b215 N t h x3)
  else (oI 12 30 h (some t)).bind fun v2 =>
  if v2 = 0 then (
  (oR 12 33 h (some t)).bind fun o3 =>
  (rc 12 h (some t)).bind fun a5 =>
  (fX12_workOf N h a5 x4).bind fun r4 =>
  (sA r4.2 o3 x4 r4.1).bind fun h6 =>
  (some (x4 + 1)).bind fun y7 =>
  g180 h6 x3 y7)
  else fX12_change_b215 N t h x3
noncomputable def fX12_change_b180 (N : Nat)  (t : Nat) (n : Nat) : Hs → Int32 → Int32 → Option (Int32 × Hs) := lp (fun _ _ _ => none) (fun g h x3 x4 => fX12_change_b180_body N  g t h x3 x4) n
set_option maxHeartbeats 4000000 in
set_option maxRecDepth 20000 in
theorem wX12_change_b180_body {p : Program} {l : Launch} {e : Env} {s : State} {m : MethodId} {args : Array Value} {below : List Frame} {meth : Method} {c : Code} {G : Gl} {N : Nat} {h : Hs} {r : Int32 × Hs}  {g180 : Hs → Int32 → Int32 → Option (Int32 × Hs)} {t : Nat} {x3 : Int32} {x4 : Int32} (C : Cx p s m args meth c cX12_change RX12 6 G) (hret : meth.sig.returnType = (some .int))  (hg180 : ∀ (h : Hs) (x3 : Int32) (x4 : Int32), g180 h x3 x4 = some r → V p l e rmX12_change s m args below meth c G 6 (MQ below (QcG G (some (.inl r.1)) r.2) args s rmX12_change.cells rmX12_change.slots (AG G)) h 0 0 180 [some (.inr (some t)), none, none, some (.inl x3), some (.inl x4), none] []) (hf : fX12_change_b180_body N  g180 t h x3 x4 = some r) : V p l e rmX12_change s m args below meth c G 6 (MQ below (QcG G (some (.inl r.1)) r.2) args s rmX12_change.cells rmX12_change.slots (AG G)) h 0 0 180 [some (.inr (some t)), none, none, some (.inl x3), some (.inl x4), none] [] := by
  unfold fX12_change_b180_body at hf
  refine r_iload C dX12_change_180 rfl ?_
  refine r_aload_n C dX12_change_182 rfl ?_
  obtain ⟨v1, ev1, hf⟩ := bS hf
  refine r_getI C dX12_change_183 fl_X12_146 rfl ev1 ?_
  refine r_icmp_ge (tgt := 215) C dX12_change_186 (by decide) (fun hc => ?_) (fun hc => ?_)
  · have hf := ifT hf hc
    exact V.sub (wX12_change_b215 C hret hf) (LW_s rfl (LW_n (LW_n (LW_s rfl (LW_n (LW_n (LW_e)))))))
  · have hf := ifF hf hc
    refine r_aload_n C dX12_change_189 rfl ?_
    obtain ⟨v2, ev2, hf⟩ := bS hf
    refine r_getI C dX12_change_190 fl_X12_230 rfl ev2 ?_
    refine r_if_ne (tgt := 215) C dX12_change_193 (by decide) (fun hc => ?_) (fun hc => ?_)
    · have hf := ifF hf hc
      exact V.sub (wX12_change_b215 C hret hf) (LW_s rfl (LW_n (LW_n (LW_s rfl (LW_n (LW_n (LW_e)))))))
    · have hf := ifT hf hc
      refine r_aload_n C dX12_change_196 rfl ?_
      obtain ⟨o3, eo3, hf⟩ := bS hf
      refine r_getR C dX12_change_197 fl_X12_85 rfl eo3 ?_
      refine r_iload C dX12_change_200 rfl ?_
      refine r_aload_n C dX12_change_202 rfl ?_
      refine r_iload C dX12_change_203 rfl ?_
      obtain ⟨a5, ea5, hf⟩ := bS hf
      obtain ⟨r4, er4, hf⟩ := bS hf
      refine r_invV1 (As := [.inl x4]) (ci := 12) C dX12_change_205 mcX12_workOf wd_1321 wd_1323 wp_46 rfl rfl (by decide) ⟨by decide, by decide⟩ ⟨by decide, by decide⟩ rfl (Nat.le_of_ble_eq_true rfl) ea5 (kX12_workOf l G er4) ?_
      obtain ⟨h6, eh6, hf⟩ := bS hf
      refine r_iast C dX12_change_208 eh6 ?_
      obtain ⟨y7, ey7, hf⟩ := bS hf
      refine r_iincE (v := 1) C dX12_change_209 rfl (by decide) (by decide) ey7 ?_
      refine r_goto (tgt := 180) C dX12_change_212 (by decide) ?_
      exact V.sub (hg180 _ _ _ hf) (LW_s rfl (LW_n (LW_n (LW_s rfl (LW_s rfl (LW_n (LW_e)))))))
theorem wX12_change_b180 {p : Program} {l : Launch} {e : Env} {s : State} {m : MethodId} {args : Array Value} {below : List Frame} {meth : Method} {c : Code} {G : Gl} {N : Nat} {r : Int32 × Hs}  {t : Nat} (C : Cx p s m args meth c cX12_change RX12 6 G) (hret : meth.sig.returnType = (some .int))  : ∀ (n : Nat) (h : Hs) (x3 : Int32) (x4 : Int32), fX12_change_b180 N  t n h x3 x4 = some r → V p l e rmX12_change s m args below meth c G 6 (MQ below (QcG G (some (.inl r.1)) r.2) args s rmX12_change.cells rmX12_change.slots (AG G)) h 0 0 180 [some (.inr (some t)), none, none, some (.inl x3), some (.inl x4), none] [] := by
  intro n
  induction n with
  | zero => intro h x3 x4 hf; exact absurd (show (none : Option (Int32 × Hs)) = some r from hf) (fun q => by cases q)
  | succ n ih => intro h x3 x4 hf; exact wX12_change_b180_body C hret  ih (show fX12_change_b180_body N  (fX12_change_b180 N  t n) t h x3 x4 = some r from hf)
noncomputable def fX12_change_b177 (N : Nat)  (t : Nat) (h : Hs) (x3 : Int32) : Option (Int32 × Hs) :=
  fX12_change_b180 N t N h x3 0
set_option maxHeartbeats 4000000 in
set_option maxRecDepth 20000 in
theorem wX12_change_b177 {p : Program} {l : Launch} {e : Env} {s : State} {m : MethodId} {args : Array Value} {below : List Frame} {meth : Method} {c : Code} {G : Gl} {N : Nat} {h : Hs} {r : Int32 × Hs}  {t : Nat} {x3 : Int32} (C : Cx p s m args meth c cX12_change RX12 6 G) (hret : meth.sig.returnType = (some .int))  (hf : fX12_change_b177 N  t h x3 = some r) : V p l e rmX12_change s m args below meth c G 6 (MQ below (QcG G (some (.inl r.1)) r.2) args s rmX12_change.cells rmX12_change.slots (AG G)) h 0 0 177 [some (.inr (some t)), none, none, some (.inl x3), none, none] [] := by
  unfold fX12_change_b177 at hf
  refine r_iconst (v := 0) C dX12_change_177 (by decide) ?_
  refine r_istore C dX12_change_178 (by decide) ?_
  exact V.sub (wX12_change_b180 C hret N _ _ _ hf) (LW_s rfl (LW_n (LW_n (LW_s rfl (LW_s rfl (LW_n (LW_e)))))))
noncomputable def fX12_change_b171 (N : Nat) (g80 : Hs → Int32 → Int32 → Int32 → Int32 → Option (Int32 × Hs)) (t : Nat) (h : Hs) (x1 : Int32) (x2 : Int32) (x3 : Int32) (x4 : Int32) : Option (Int32 × Hs) :=
  (some (x4 + 1)).bind fun y1 =>
  g80 h x1 x2 x3 y1
set_option maxHeartbeats 4000000 in
set_option maxRecDepth 20000 in
theorem wX12_change_b171 {p : Program} {l : Launch} {e : Env} {s : State} {m : MethodId} {args : Array Value} {below : List Frame} {meth : Method} {c : Code} {G : Gl} {N : Nat} {h : Hs} {r : Int32 × Hs} {g80 : Hs → Int32 → Int32 → Int32 → Int32 → Option (Int32 × Hs)} {t : Nat} {x1 : Int32} {x2 : Int32} {x3 : Int32} {x4 : Int32} (C : Cx p s m args meth c cX12_change RX12 6 G) (hret : meth.sig.returnType = (some .int)) (hg80 : ∀ (h : Hs) (x1 : Int32) (x2 : Int32) (x3 : Int32) (x4 : Int32), g80 h x1 x2 x3 x4 = some r → V p l e rmX12_change s m args below meth c G 6 (MQ below (QcG G (some (.inl r.1)) r.2) args s rmX12_change.cells rmX12_change.slots (AG G)) h 0 0 80 [some (.inr (some t)), some (.inl x1), some (.inl x2), some (.inl x3), some (.inl x4), none] []) (hf : fX12_change_b171 N g80 t h x1 x2 x3 x4 = some r) : V p l e rmX12_change s m args below meth c G 6 (MQ below (QcG G (some (.inl r.1)) r.2) args s rmX12_change.cells rmX12_change.slots (AG G)) h 0 0 171 [some (.inr (some t)), some (.inl x1), some (.inl x2), some (.inl x3), some (.inl x4), none] [] := by
  unfold fX12_change_b171 at hf
  obtain ⟨y1, ey1, hf⟩ := bS hf
  refine r_iincE (v := 1) C dX12_change_171 rfl (by decide) (by decide) ey1 ?_
  refine r_goto (tgt := 80) C dX12_change_174 (by decide) ?_
  exact V.sub (hg80 _ _ _ _ _ hf) (LW_s rfl (LW_s rfl (LW_s rfl (LW_s rfl (LW_s rfl (LW_n (LW_e)))))))
noncomputable def fX12_change_b80_body (N : Nat)  (g80 : Hs → Int32 → Int32 → Int32 → Int32 → Option (Int32 × Hs)) (t : Nat) (h : Hs) (x1 : Int32) (x2 : Int32) (x3 : Int32) (x4 : Int32) : Option (Int32 × Hs) :=
  (oI 12 1 h (some t)).bind fun v1 =>
  if v1 ≤ x4 then (
  fX12_change_b177 N t h x3)
  else (oI 12 30 h (some t)).bind fun v2 =>
  if v2 = 0 then (
  (oR 12 28 h (some t)).bind fun o3 =>
  (lA 20 h o3 ((40 * x1) + x4)).bind fun v4 =>
  if v4 < 0 then (
  fX12_change_b171 N g80 t h x1 x2 x3 x4)
  else (oR 12 5 h (some t)).bind fun o5 =>
  (lA 20 h o5 x4).bind fun v6 =>
  if v4 = v6 then (
  fX12_change_b171 N g80 t h x1 x2 x3 x4)
  else (rc 12 h (some t)).bind fun a8 =>
  (fX12_brings N h a8 x4 v4 x2).bind fun r7 =>
  if r7.1 = 0 then (
  (qZ 12 30 r7.2 (some t) 1).bind fun h9 =>
  (oR 12 31 h9 (some t)).bind fun o10 =>
  (sA h9 o10 x4 (-2)).bind fun h11 =>
  (oR 12 32 h11 (some t)).bind fun o12 =>
  (sA h11 o12 x4 (-2)).bind fun h13 =>
  fX12_change_b171 N g80 t h13 x1 x2 x3 x4)
  else (some (x3 + 1)).bind fun y14 =>
  fX12_change_b171 N g80 t r7.2 x1 x2 y14 x4)
  else fX12_change_b177 N t h x3
noncomputable def fX12_change_b80 (N : Nat)  (t : Nat) (n : Nat) : Hs → Int32 → Int32 → Int32 → Int32 → Option (Int32 × Hs) := lp (fun _ _ _ _ _ => none) (fun g h x1 x2 x3 x4 => fX12_change_b80_body N  g t h x1 x2 x3 x4) n
set_option maxHeartbeats 4000000 in
set_option maxRecDepth 20000 in
theorem wX12_change_b80_body {p : Program} {l : Launch} {e : Env} {s : State} {m : MethodId} {args : Array Value} {below : List Frame} {meth : Method} {c : Code} {G : Gl} {N : Nat} {h : Hs} {r : Int32 × Hs}  {g80 : Hs → Int32 → Int32 → Int32 → Int32 → Option (Int32 × Hs)} {t : Nat} {x1 : Int32} {x2 : Int32} {x3 : Int32} {x4 : Int32} (C : Cx p s m args meth c cX12_change RX12 6 G) (hret : meth.sig.returnType = (some .int))  (hg80 : ∀ (h : Hs) (x1 : Int32) (x2 : Int32) (x3 : Int32) (x4 : Int32), g80 h x1 x2 x3 x4 = some r → V p l e rmX12_change s m args below meth c G 6 (MQ below (QcG G (some (.inl r.1)) r.2) args s rmX12_change.cells rmX12_change.slots (AG G)) h 0 0 80 [some (.inr (some t)), some (.inl x1), some (.inl x2), some (.inl x3), some (.inl x4), none] []) (hf : fX12_change_b80_body N  g80 t h x1 x2 x3 x4 = some r) : V p l e rmX12_change s m args below meth c G 6 (MQ below (QcG G (some (.inl r.1)) r.2) args s rmX12_change.cells rmX12_change.slots (AG G)) h 0 0 80 [some (.inr (some t)), some (.inl x1), some (.inl x2), some (.inl x3), some (.inl x4), none] [] := by
  unfold fX12_change_b80_body at hf
  refine r_iload C dX12_change_80 rfl ?_
  refine r_aload_n C dX12_change_82 rfl ?_
  obtain ⟨v1, ev1, hf⟩ := bS hf
  refine r_getI C dX12_change_83 fl_X12_146 rfl ev1 ?_
  refine r_icmp_ge (tgt := 177) C dX12_change_86 (by decide) (fun hc => ?_) (fun hc => ?_)
  · have hf := ifT hf hc
    exact V.sub (wX12_change_b177 C hret hf) (LW_s rfl (LW_n (LW_n (LW_s rfl (LW_n (LW_n (LW_e)))))))
  · have hf := ifF hf hc
    refine r_aload_n C dX12_change_89 rfl ?_
    obtain ⟨v2, ev2, hf⟩ := bS hf
    refine r_getI C dX12_change_90 fl_X12_230 rfl ev2 ?_
    refine r_if_ne (tgt := 177) C dX12_change_93 (by decide) (fun hc => ?_) (fun hc => ?_)
    · have hf := ifF hf hc
      exact V.sub (wX12_change_b177 C hret hf) (LW_s rfl (LW_n (LW_n (LW_s rfl (LW_n (LW_n (LW_e)))))))
    · have hf := ifT hf hc
      refine r_aload_n C dX12_change_96 rfl ?_
      obtain ⟨o3, eo3, hf⟩ := bS hf
      refine r_getR C dX12_change_97 fl_X12_76 rfl eo3 ?_
      refine r_bipush (v := 40) C dX12_change_100 (by decide) ?_
      refine r_iload_n C dX12_change_102 rfl ?_
      refine r_imul C dX12_change_103 ?_
      refine r_iload C dX12_change_104 rfl ?_
      refine r_iadd C dX12_change_106 ?_
      obtain ⟨v4, ev4, hf⟩ := bS hf
      refine r_iald C dX12_change_107 ev4 ?_
      refine r_istore C dX12_change_108 (by decide) ?_
      refine r_iload C dX12_change_110 rfl ?_
      refine r_if_lt (tgt := 171) C dX12_change_112 (by decide) (fun hc => ?_) (fun hc => ?_)
      · have hf := ifT hf hc
        exact V.sub (wX12_change_b171 C hret hg80 hf) (LW_s rfl (LW_s rfl (LW_s rfl (LW_s rfl (LW_s rfl (LW_n (LW_e)))))))
      · have hf := ifF hf hc
        refine r_iload C dX12_change_115 rfl ?_
        refine r_aload_n C dX12_change_117 rfl ?_
        obtain ⟨o5, eo5, hf⟩ := bS hf
        refine r_getR C dX12_change_118 fl_X12_19 rfl eo5 ?_
        refine r_iload C dX12_change_121 rfl ?_
        obtain ⟨v6, ev6, hf⟩ := bS hf
        refine r_iald C dX12_change_123 ev6 ?_
        refine r_icmp_ne (tgt := 130) C dX12_change_124 (by decide) (fun hc => ?_) (fun hc => ?_)
        · have hf := ifF hf hc
          refine r_aload_n C dX12_change_130 rfl ?_
          refine r_iload C dX12_change_131 rfl ?_
          refine r_iload C dX12_change_133 rfl ?_
          refine r_iload_n C dX12_change_135 rfl ?_
          obtain ⟨a8, ea8, hf⟩ := bS hf
          obtain ⟨r7, er7, hf⟩ := bS hf
          refine r_invV1 (As := [.inl x4, .inl v4, .inl x2]) (ci := 12) C dX12_change_136 mcX12_brings wd_1317 wd_1319 wp_45 rfl rfl (by decide) ⟨by decide, by decide⟩ ⟨by decide, by decide⟩ rfl (Nat.le_of_ble_eq_true rfl) ea8 (kX12_brings l G er7) ?_
          refine r_if_eq (tgt := 148) C dX12_change_139 (by decide) (fun hc => ?_) (fun hc => ?_)
          · have hf := ifT hf hc
            refine r_aload_n C dX12_change_148 rfl ?_
            refine r_iconst (v := 1) C dX12_change_149 (by decide) ?_
            obtain ⟨h9, eh9, hf⟩ := bS hf
            refine r_putZ C dX12_change_150 fl_X12_230 (Or.inl fn_12_30) rfl eh9 ?_
            refine r_aload_n C dX12_change_153 rfl ?_
            obtain ⟨o10, eo10, hf⟩ := bS hf
            refine r_getR C dX12_change_154 fl_X12_79 rfl eo10 ?_
            refine r_iload C dX12_change_157 rfl ?_
            refine r_bipush (v := -2) C dX12_change_159 (by decide) ?_
            obtain ⟨h11, eh11, hf⟩ := bS hf
            refine r_iast C dX12_change_161 eh11 ?_
            refine r_aload_n C dX12_change_162 rfl ?_
            obtain ⟨o12, eo12, hf⟩ := bS hf
            refine r_getR C dX12_change_163 fl_X12_82 rfl eo12 ?_
            refine r_iload C dX12_change_166 rfl ?_
            refine r_bipush (v := -2) C dX12_change_168 (by decide) ?_
            obtain ⟨h13, eh13, hf⟩ := bS hf
            refine r_iast C dX12_change_170 eh13 ?_
            exact V.sub (wX12_change_b171 C hret hg80 hf) (LW_s rfl (LW_s rfl (LW_s rfl (LW_s rfl (LW_s rfl (LW_n (LW_e)))))))
          · have hf := ifF hf hc
            obtain ⟨y14, ey14, hf⟩ := bS hf
            refine r_iincE (v := 1) C dX12_change_142 rfl (by decide) (by decide) ey14 ?_
            refine r_goto (tgt := 171) C dX12_change_145 (by decide) ?_
            exact V.sub (wX12_change_b171 C hret hg80 hf) (LW_s rfl (LW_s rfl (LW_s rfl (LW_s rfl (LW_s rfl (LW_n (LW_e)))))))
        · have hf := ifT hf hc
          refine r_goto (tgt := 171) C dX12_change_127 (by decide) ?_
          exact V.sub (wX12_change_b171 C hret hg80 hf) (LW_s rfl (LW_s rfl (LW_s rfl (LW_s rfl (LW_s rfl (LW_n (LW_e)))))))
theorem wX12_change_b80 {p : Program} {l : Launch} {e : Env} {s : State} {m : MethodId} {args : Array Value} {below : List Frame} {meth : Method} {c : Code} {G : Gl} {N : Nat} {r : Int32 × Hs}  {t : Nat} (C : Cx p s m args meth c cX12_change RX12 6 G) (hret : meth.sig.returnType = (some .int))  : ∀ (n : Nat) (h : Hs) (x1 : Int32) (x2 : Int32) (x3 : Int32) (x4 : Int32), fX12_change_b80 N  t n h x1 x2 x3 x4 = some r → V p l e rmX12_change s m args below meth c G 6 (MQ below (QcG G (some (.inl r.1)) r.2) args s rmX12_change.cells rmX12_change.slots (AG G)) h 0 0 80 [some (.inr (some t)), some (.inl x1), some (.inl x2), some (.inl x3), some (.inl x4), none] [] := by
  intro n
  induction n with
  | zero => intro h x1 x2 x3 x4 hf; exact absurd (show (none : Option (Int32 × Hs)) = some r from hf) (fun q => by cases q)
  | succ n ih => intro h x1 x2 x3 x4 hf; exact wX12_change_b80_body C hret  ih (show fX12_change_b80_body N  (fX12_change_b80 N  t n) t h x1 x2 x3 x4 = some r from hf)
noncomputable def fX12_change_b46_body (N : Nat)  (g46 : Hs → Int32 → Int32 → Int32 → Int32 → Option (Int32 × Hs)) (t : Nat) (h : Hs) (x1 : Int32) (x2 : Int32) (x3 : Int32) (x4 : Int32) : Option (Int32 × Hs) :=
  (oI 12 1 h (some t)).bind fun v1 =>
  if v1 ≤ x4 then (
  fX12_change_b80 N t N h x1 x2 x3 0)
  else (oR 12 31 h (some t)).bind fun o2 =>
  (sA h o2 x4 (-1)).bind fun h3 =>
  (oR 12 32 h3 (some t)).bind fun o4 =>
  (sA h3 o4 x4 (-1)).bind fun h5 =>
  (some (x4 + 1)).bind fun y6 =>
  g46 h5 x1 x2 x3 y6
noncomputable def fX12_change_b46 (N : Nat)  (t : Nat) (n : Nat) : Hs → Int32 → Int32 → Int32 → Int32 → Option (Int32 × Hs) := lp (fun _ _ _ _ _ => none) (fun g h x1 x2 x3 x4 => fX12_change_b46_body N  g t h x1 x2 x3 x4) n
set_option maxHeartbeats 4000000 in
set_option maxRecDepth 20000 in
theorem wX12_change_b46_body {p : Program} {l : Launch} {e : Env} {s : State} {m : MethodId} {args : Array Value} {below : List Frame} {meth : Method} {c : Code} {G : Gl} {N : Nat} {h : Hs} {r : Int32 × Hs}  {g46 : Hs → Int32 → Int32 → Int32 → Int32 → Option (Int32 × Hs)} {t : Nat} {x1 : Int32} {x2 : Int32} {x3 : Int32} {x4 : Int32} (C : Cx p s m args meth c cX12_change RX12 6 G) (hret : meth.sig.returnType = (some .int))  (hg46 : ∀ (h : Hs) (x1 : Int32) (x2 : Int32) (x3 : Int32) (x4 : Int32), g46 h x1 x2 x3 x4 = some r → V p l e rmX12_change s m args below meth c G 6 (MQ below (QcG G (some (.inl r.1)) r.2) args s rmX12_change.cells rmX12_change.slots (AG G)) h 0 0 46 [some (.inr (some t)), some (.inl x1), some (.inl x2), some (.inl x3), some (.inl x4), none] []) (hf : fX12_change_b46_body N  g46 t h x1 x2 x3 x4 = some r) : V p l e rmX12_change s m args below meth c G 6 (MQ below (QcG G (some (.inl r.1)) r.2) args s rmX12_change.cells rmX12_change.slots (AG G)) h 0 0 46 [some (.inr (some t)), some (.inl x1), some (.inl x2), some (.inl x3), some (.inl x4), none] [] := by
  unfold fX12_change_b46_body at hf
  refine r_iload C dX12_change_46 rfl ?_
  refine r_aload_n C dX12_change_48 rfl ?_
  obtain ⟨v1, ev1, hf⟩ := bS hf
  refine r_getI C dX12_change_49 fl_X12_146 rfl ev1 ?_
  refine r_icmp_ge (tgt := 77) C dX12_change_52 (by decide) (fun hc => ?_) (fun hc => ?_)
  · have hf := ifT hf hc
    refine r_iconst (v := 0) C dX12_change_77 (by decide) ?_
    refine r_istore C dX12_change_78 (by decide) ?_
    exact V.sub (wX12_change_b80 C hret N _ _ _ _ _ hf) (LW_s rfl (LW_s rfl (LW_s rfl (LW_s rfl (LW_s rfl (LW_n (LW_e)))))))
  · have hf := ifF hf hc
    refine r_aload_n C dX12_change_55 rfl ?_
    obtain ⟨o2, eo2, hf⟩ := bS hf
    refine r_getR C dX12_change_56 fl_X12_79 rfl eo2 ?_
    refine r_iload C dX12_change_59 rfl ?_
    refine r_iconst (v := -1) C dX12_change_61 (by decide) ?_
    obtain ⟨h3, eh3, hf⟩ := bS hf
    refine r_iast C dX12_change_62 eh3 ?_
    refine r_aload_n C dX12_change_63 rfl ?_
    obtain ⟨o4, eo4, hf⟩ := bS hf
    refine r_getR C dX12_change_64 fl_X12_82 rfl eo4 ?_
    refine r_iload C dX12_change_67 rfl ?_
    refine r_iconst (v := -1) C dX12_change_69 (by decide) ?_
    obtain ⟨h5, eh5, hf⟩ := bS hf
    refine r_iast C dX12_change_70 eh5 ?_
    obtain ⟨y6, ey6, hf⟩ := bS hf
    refine r_iincE (v := 1) C dX12_change_71 rfl (by decide) (by decide) ey6 ?_
    refine r_goto (tgt := 46) C dX12_change_74 (by decide) ?_
    exact V.sub (hg46 _ _ _ _ _ hf) (LW_s rfl (LW_s rfl (LW_s rfl (LW_s rfl (LW_s rfl (LW_n (LW_e)))))))
theorem wX12_change_b46 {p : Program} {l : Launch} {e : Env} {s : State} {m : MethodId} {args : Array Value} {below : List Frame} {meth : Method} {c : Code} {G : Gl} {N : Nat} {r : Int32 × Hs}  {t : Nat} (C : Cx p s m args meth c cX12_change RX12 6 G) (hret : meth.sig.returnType = (some .int))  : ∀ (n : Nat) (h : Hs) (x1 : Int32) (x2 : Int32) (x3 : Int32) (x4 : Int32), fX12_change_b46 N  t n h x1 x2 x3 x4 = some r → V p l e rmX12_change s m args below meth c G 6 (MQ below (QcG G (some (.inl r.1)) r.2) args s rmX12_change.cells rmX12_change.slots (AG G)) h 0 0 46 [some (.inr (some t)), some (.inl x1), some (.inl x2), some (.inl x3), some (.inl x4), none] [] := by
  intro n
  induction n with
  | zero => intro h x1 x2 x3 x4 hf; exact absurd (show (none : Option (Int32 × Hs)) = some r from hf) (fun q => by cases q)
  | succ n ih => intro h x1 x2 x3 x4 hf; exact wX12_change_b46_body C hret  ih (show fX12_change_b46_body N  (fX12_change_b46 N  t n) t h x1 x2 x3 x4 = some r from hf)
noncomputable def fX12_change (N : Nat) (h : Hs) (t : Nat) (p1 : Int32) (p2 : Int32) : Option (Int32 × Hs) :=
  (fX12_in N h p1 0 9).bind fun r1 =>
  if r1.1 = 0 then (
  fX12_change_b21 N t r1.2)
  else (fX12_isTurn N r1.2 p2).bind fun r2 =>
  if r2.1 = 0 then (
  fX12_change_b21 N t r2.2)
  else if p2 = 0 then (
  fX12_change_b21 N t r2.2)
  else (qZ 12 29 r2.2 (some t) 1).bind fun h3 =>
  (qZ 12 30 h3 (some t) 0).bind fun h4 =>
  (oI 12 1 h4 (some t)).bind fun v5 =>
  (qI 12 34 h4 (some t) v5).bind fun h6 =>
  fX12_change_b46 N t N h6 p1 p2 0 0
set_option maxHeartbeats 4000000 in
set_option maxRecDepth 20000 in
theorem kX12_change (l : Launch) (G : Gl) {N : Nat} {h : Hs} {t : Nat} {p1 : Int32} {p2 : Int32} {r : Int32 × Hs} (hf : fX12_change N h t p1 p2 = some r) : CT l G yX12_change cX12_change 6 (some .int) rmX12_change [.inr (some t), .inl p1, .inl p2] h (some (.inl r.1)) r.2 := by
  refine mk_CT (by decide) (Nat.le_of_ble_eq_true rfl) ?_
  intro p e s m args below meth c C hret hin
  unfold fX12_change at hf
  refine r_iload_n C dX12_change_0 rfl ?_
  refine r_iconst (v := 0) C dX12_change_1 (by decide) ?_
  refine r_bipush (v := 9) C dX12_change_2 (by decide) ?_
  obtain ⟨r1, er1, hf⟩ := bS hf
  refine r_invS1 (As := [.inl p1, .inl 0, .inl 9]) C dX12_change_4 mcX12_in wd_1185 wd_1186 ⟨by decide, by decide⟩ ⟨by decide, by decide⟩ rfl (Nat.le_of_ble_eq_true rfl) (kX12_in l G er1) ?_
  refine r_if_eq (tgt := 21) C dX12_change_7 (by decide) (fun hc => ?_) (fun hc => ?_)
  · have hf := ifT hf hc
    exact V.sub (wX12_change_b21 C hret hf) (LW_s rfl (LW_n (LW_n (LW_n (LW_n (LW_n (LW_e)))))))
  · have hf := ifF hf hc
    refine r_iload_n C dX12_change_10 rfl ?_
    obtain ⟨r2, er2, hf⟩ := bS hf
    refine r_invS1 (As := [.inl p2]) C dX12_change_11 mcX12_isTurn wd_1265 wd_1266 ⟨by decide, by decide⟩ ⟨by decide, by decide⟩ rfl (Nat.le_of_ble_eq_true rfl) (kX12_isTurn l G er2) ?_
    refine r_if_eq (tgt := 21) C dX12_change_14 (by decide) (fun hc => ?_) (fun hc => ?_)
    · have hf := ifT hf hc
      exact V.sub (wX12_change_b21 C hret hf) (LW_s rfl (LW_n (LW_n (LW_n (LW_n (LW_n (LW_e)))))))
    · have hf := ifF hf hc
      refine r_iload_n C dX12_change_17 rfl ?_
      refine r_if_ne (tgt := 23) C dX12_change_18 (by decide) (fun hc => ?_) (fun hc => ?_)
      · have hf := ifF hf hc
        refine r_aload_n C dX12_change_23 rfl ?_
        refine r_iconst (v := 1) C dX12_change_24 (by decide) ?_
        obtain ⟨h3, eh3, hf⟩ := bS hf
        refine r_putZ C dX12_change_25 fl_X12_227 (Or.inl fn_12_29) rfl eh3 ?_
        refine r_aload_n C dX12_change_28 rfl ?_
        refine r_iconst (v := 0) C dX12_change_29 (by decide) ?_
        obtain ⟨h4, eh4, hf⟩ := bS hf
        refine r_putZ C dX12_change_30 fl_X12_230 (Or.inl fn_12_30) rfl eh4 ?_
        refine r_aload_n C dX12_change_33 rfl ?_
        refine r_aload_n C dX12_change_34 rfl ?_
        obtain ⟨v5, ev5, hf⟩ := bS hf
        refine r_getI C dX12_change_35 fl_X12_146 rfl ev5 ?_
        obtain ⟨h6, eh6, hf⟩ := bS hf
        refine r_putI C dX12_change_38 fl_X12_233 (Or.inl fn_12_34) rfl eh6 ?_
        refine r_iconst (v := 0) C dX12_change_41 (by decide) ?_
        refine r_istore_n C dX12_change_42 (by decide) ?_
        refine r_iconst (v := 0) C dX12_change_43 (by decide) ?_
        refine r_istore C dX12_change_44 (by decide) ?_
        exact V.sub (wX12_change_b46 C hret N _ _ _ _ _ hf) (LW_s rfl (LW_s rfl (LW_s rfl (LW_s rfl (LW_s rfl (LW_n (LW_e)))))))
      · have hf := ifT hf hc
        exact V.sub (wX12_change_b21 C hret hf) (LW_s rfl (LW_n (LW_n (LW_n (LW_n (LW_n (LW_e)))))))

theorem dgX12_told_0 : (decode cX12_told 0 = .ok (.aload_n 0, 1)) ∧ (decode cX12_told 1 = .ok (.getfield 227, 3)) ∧ (decode cX12_told 4 = .ok (.ifCond .eq 26, 3)) ∧ (decode cX12_told 7 = .ok (.iload_n 1, 1)) ∧ (decode cX12_told 8 = .ok (.iconst 0, 1)) ∧ (decode cX12_told 9 = .ok (.aload_n 0, 1)) ∧ (decode cX12_told 10 = .ok (.getfield 233, 3)) ∧ (decode cX12_told 13 = .ok (.iconst 1, 1)) ∧ (decode cX12_told 14 = .ok (.isub, 1)) ∧ (decode cX12_told 15 = .ok (.invokestatic 149, 3)) ∧ (decode cX12_told 18 = .ok (.ifCond .eq 12, 3)) ∧ (decode cX12_told 21 = .ok (.iload_n 2, 1)) ∧ True := dkW [(0, .aload_n 0, 1), (1, .getfield 227, 3), (4, .ifCond .eq 26, 3), (7, .iload_n 1, 1), (8, .iconst 0, 1), (9, .aload_n 0, 1), (10, .getfield 233, 3), (13, .iconst 1, 1), (14, .isub, 1), (15, .invokestatic 149, 3), (18, .ifCond .eq 12, 3), (21, .iload_n 2, 1)] 0 (by decide +kernel)
theorem dX12_told_0 : decode cX12_told 0 = .ok (.aload_n 0, 1) := dgX12_told_0.1
theorem dX12_told_1 : decode cX12_told 1 = .ok (.getfield 227, 3) := dgX12_told_0.2.1
theorem dX12_told_4 : decode cX12_told 4 = .ok (.ifCond .eq 26, 3) := dgX12_told_0.2.2.1
theorem dX12_told_7 : decode cX12_told 7 = .ok (.iload_n 1, 1) := dgX12_told_0.2.2.2.1
theorem dX12_told_8 : decode cX12_told 8 = .ok (.iconst 0, 1) := dgX12_told_0.2.2.2.2.1
theorem dX12_told_9 : decode cX12_told 9 = .ok (.aload_n 0, 1) := dgX12_told_0.2.2.2.2.2.1
theorem dX12_told_10 : decode cX12_told 10 = .ok (.getfield 233, 3) := dgX12_told_0.2.2.2.2.2.2.1
theorem dX12_told_13 : decode cX12_told 13 = .ok (.iconst 1, 1) := dgX12_told_0.2.2.2.2.2.2.2.1
theorem dX12_told_14 : decode cX12_told 14 = .ok (.isub, 1) := dgX12_told_0.2.2.2.2.2.2.2.2.1
theorem dX12_told_15 : decode cX12_told 15 = .ok (.invokestatic 149, 3) := dgX12_told_0.2.2.2.2.2.2.2.2.2.1
theorem dX12_told_18 : decode cX12_told 18 = .ok (.ifCond .eq 12, 3) := dgX12_told_0.2.2.2.2.2.2.2.2.2.2.1
theorem dX12_told_21 : decode cX12_told 21 = .ok (.iload_n 2, 1) := dgX12_told_0.2.2.2.2.2.2.2.2.2.2.2.1
theorem dgX12_told_22 : (decode cX12_told 22 = .ok (.iconst 0, 1)) ∧ (decode cX12_told 23 = .ok (.iconst 1, 1)) ∧ (decode cX12_told 24 = .ok (.invokestatic 149, 3)) ∧ (decode cX12_told 27 = .ok (.ifCond .ne 7, 3)) ∧ True := dkW [(22, .iconst 0, 1), (23, .iconst 1, 1), (24, .invokestatic 149, 3), (27, .ifCond .ne 7, 3)] 22 (by decide +kernel)
theorem dX12_told_22 : decode cX12_told 22 = .ok (.iconst 0, 1) := dgX12_told_22.1
theorem dX12_told_23 : decode cX12_told 23 = .ok (.iconst 1, 1) := dgX12_told_22.2.1
theorem dX12_told_24 : decode cX12_told 24 = .ok (.invokestatic 149, 3) := dgX12_told_22.2.2.1
theorem dX12_told_27 : decode cX12_told 27 = .ok (.ifCond .ne 7, 3) := dgX12_told_22.2.2.2.1
theorem dX12_told_30 : decode cX12_told 30 = .ok (.iconst (-1), 1) := by decide +kernel
theorem dgX12_told_31 : (decode cX12_told 31 = .ok (.goto 22, 3)) ∧ (decode cX12_told 34 = .ok (.iload_n 2, 1)) ∧ (decode cX12_told 35 = .ok (.ifCond .ne 12, 3)) ∧ (decode cX12_told 38 = .ok (.aload_n 0, 1)) ∧ (decode cX12_told 39 = .ok (.getfield 79, 3)) ∧ (decode cX12_told 42 = .ok (.iload_n 1, 1)) ∧ (decode cX12_told 43 = .ok (.iaload, 1)) ∧ (decode cX12_told 44 = .ok (.goto 9, 3)) ∧ (decode cX12_told 47 = .ok (.aload_n 0, 1)) ∧ (decode cX12_told 48 = .ok (.getfield 82, 3)) ∧ (decode cX12_told 51 = .ok (.iload_n 1, 1)) ∧ (decode cX12_told 52 = .ok (.iaload, 1)) ∧ True := dkW [(31, .goto 22, 3), (34, .iload_n 2, 1), (35, .ifCond .ne 12, 3), (38, .aload_n 0, 1), (39, .getfield 79, 3), (42, .iload_n 1, 1), (43, .iaload, 1), (44, .goto 9, 3), (47, .aload_n 0, 1), (48, .getfield 82, 3), (51, .iload_n 1, 1), (52, .iaload, 1)] 31 (by decide +kernel)
theorem dX12_told_31 : decode cX12_told 31 = .ok (.goto 22, 3) := dgX12_told_31.1
theorem dX12_told_34 : decode cX12_told 34 = .ok (.iload_n 2, 1) := dgX12_told_31.2.1
theorem dX12_told_35 : decode cX12_told 35 = .ok (.ifCond .ne 12, 3) := dgX12_told_31.2.2.1
theorem dX12_told_38 : decode cX12_told 38 = .ok (.aload_n 0, 1) := dgX12_told_31.2.2.2.1
theorem dX12_told_39 : decode cX12_told 39 = .ok (.getfield 79, 3) := dgX12_told_31.2.2.2.2.1
theorem dX12_told_42 : decode cX12_told 42 = .ok (.iload_n 1, 1) := dgX12_told_31.2.2.2.2.2.1
theorem dX12_told_43 : decode cX12_told 43 = .ok (.iaload, 1) := dgX12_told_31.2.2.2.2.2.2.1
theorem dX12_told_44 : decode cX12_told 44 = .ok (.goto 9, 3) := dgX12_told_31.2.2.2.2.2.2.2.1
theorem dX12_told_47 : decode cX12_told 47 = .ok (.aload_n 0, 1) := dgX12_told_31.2.2.2.2.2.2.2.2.1
theorem dX12_told_48 : decode cX12_told 48 = .ok (.getfield 82, 3) := dgX12_told_31.2.2.2.2.2.2.2.2.2.1
theorem dX12_told_51 : decode cX12_told 51 = .ok (.iload_n 1, 1) := dgX12_told_31.2.2.2.2.2.2.2.2.2.2.1
theorem dX12_told_52 : decode cX12_told 52 = .ok (.iaload, 1) := dgX12_told_31.2.2.2.2.2.2.2.2.2.2.2.1
theorem dgX12_told_53 : (decode cX12_told 53 = .ok (.ireturn, 1)) ∧ True := dkW [(53, .ireturn, 1)] 53 (by decide +kernel)
theorem dX12_told_53 : decode cX12_told 53 = .ok (.ireturn, 1) := dgX12_told_53.1
abbrev rmX12_told : Room := { frames := 1, cells := 0, slots := 0, locals := 22 }
noncomputable def fX12_told_b53 (N : Nat)  (t : Nat) (h : Hs) (u0 : Int32) : Option (Int32 × Hs) :=
  some (u0, h)
set_option maxHeartbeats 4000000 in
set_option maxRecDepth 20000 in
theorem wX12_told_b53 {p : Program} {l : Launch} {e : Env} {s : State} {m : MethodId} {args : Array Value} {below : List Frame} {meth : Method} {c : Code} {G : Gl} {N : Nat} {h : Hs} {r : Int32 × Hs}  {t : Nat} {u0 : Int32} (C : Cx p s m args meth c cX12_told RX12 3 G) (hret : meth.sig.returnType = (some .int))  (hf : fX12_told_b53 N  t h u0 = some r) : V p l e rmX12_told s m args below meth c G 3 (MQ below (QcG G (some (.inl r.1)) r.2) args s rmX12_told.cells rmX12_told.slots (AG G)) h 0 0 53 [some (.inr (some t)), none, none] [.inl u0] := by
  unfold fX12_told_b53 at hf
  exact r_iretF C dX12_told_53 hret hf (by decide) (by decide)
noncomputable def fX12_told_b30 (N : Nat)  (t : Nat) (h : Hs)  : Option (Int32 × Hs) :=
  fX12_told_b53 N t h (-1)
set_option maxHeartbeats 4000000 in
set_option maxRecDepth 20000 in
theorem wX12_told_b30 {p : Program} {l : Launch} {e : Env} {s : State} {m : MethodId} {args : Array Value} {below : List Frame} {meth : Method} {c : Code} {G : Gl} {N : Nat} {h : Hs} {r : Int32 × Hs}  {t : Nat}  (C : Cx p s m args meth c cX12_told RX12 3 G) (hret : meth.sig.returnType = (some .int))  (hf : fX12_told_b30 N  t h  = some r) : V p l e rmX12_told s m args below meth c G 3 (MQ below (QcG G (some (.inl r.1)) r.2) args s rmX12_told.cells rmX12_told.slots (AG G)) h 0 0 30 [some (.inr (some t)), none, none] [] := by
  unfold fX12_told_b30 at hf
  refine r_iconst (v := -1) C dX12_told_30 (by decide) ?_
  refine r_goto (tgt := 53) C dX12_told_31 (by decide) ?_
  exact V.sub (wX12_told_b53 C hret hf) (LW_s rfl (LW_n (LW_n (LW_e))))
noncomputable def fX12_told (N : Nat) (h : Hs) (t : Nat) (p1 : Int32) (p2 : Int32) : Option (Int32 × Hs) :=
  (oI 12 29 h (some t)).bind fun v1 =>
  if v1 = 0 then (
  fX12_told_b30 N t h)
  else (oI 12 34 h (some t)).bind fun v2 =>
  (fX12_in N h p1 0 (v2 - 1)).bind fun r3 =>
  if r3.1 = 0 then (
  fX12_told_b30 N t r3.2)
  else (fX12_in N r3.2 p2 0 1).bind fun r4 =>
  if r4.1 = 0 then (
  fX12_told_b30 N t r4.2)
  else if p2 = 0 then (
  (oR 12 31 r4.2 (some t)).bind fun o7 =>
  (lA 20 r4.2 o7 p1).bind fun v8 =>
  fX12_told_b53 N t r4.2 v8)
  else (oR 12 32 r4.2 (some t)).bind fun o5 =>
  (lA 20 r4.2 o5 p1).bind fun v6 =>
  fX12_told_b53 N t r4.2 v6
set_option maxHeartbeats 4000000 in
set_option maxRecDepth 20000 in
theorem kX12_told (l : Launch) (G : Gl) {N : Nat} {h : Hs} {t : Nat} {p1 : Int32} {p2 : Int32} {r : Int32 × Hs} (hf : fX12_told N h t p1 p2 = some r) : CT l G yX12_told cX12_told 3 (some .int) rmX12_told [.inr (some t), .inl p1, .inl p2] h (some (.inl r.1)) r.2 := by
  refine mk_CT (by decide) (Nat.le_of_ble_eq_true rfl) ?_
  intro p e s m args below meth c C hret hin
  unfold fX12_told at hf
  refine r_aload_n C dX12_told_0 rfl ?_
  obtain ⟨v1, ev1, hf⟩ := bS hf
  refine r_getI C dX12_told_1 fl_X12_227 rfl ev1 ?_
  refine r_if_eq (tgt := 30) C dX12_told_4 (by decide) (fun hc => ?_) (fun hc => ?_)
  · have hf := ifT hf hc
    exact V.sub (wX12_told_b30 C hret hf) (LW_s rfl (LW_n (LW_n (LW_e))))
  · have hf := ifF hf hc
    refine r_iload_n C dX12_told_7 rfl ?_
    refine r_iconst (v := 0) C dX12_told_8 (by decide) ?_
    refine r_aload_n C dX12_told_9 rfl ?_
    obtain ⟨v2, ev2, hf⟩ := bS hf
    refine r_getI C dX12_told_10 fl_X12_233 rfl ev2 ?_
    refine r_iconst (v := 1) C dX12_told_13 (by decide) ?_
    refine r_isub C dX12_told_14 ?_
    obtain ⟨r3, er3, hf⟩ := bS hf
    refine r_invS1 (As := [.inl p1, .inl 0, .inl (v2 - 1)]) C dX12_told_15 mcX12_in wd_1185 wd_1186 ⟨by decide, by decide⟩ ⟨by decide, by decide⟩ rfl (Nat.le_of_ble_eq_true rfl) (kX12_in l G er3) ?_
    refine r_if_eq (tgt := 30) C dX12_told_18 (by decide) (fun hc => ?_) (fun hc => ?_)
    · have hf := ifT hf hc
      exact V.sub (wX12_told_b30 C hret hf) (LW_s rfl (LW_n (LW_n (LW_e))))
    · have hf := ifF hf hc
      refine r_iload_n C dX12_told_21 rfl ?_
      refine r_iconst (v := 0) C dX12_told_22 (by decide) ?_
      refine r_iconst (v := 1) C dX12_told_23 (by decide) ?_
      obtain ⟨r4, er4, hf⟩ := bS hf
      refine r_invS1 (As := [.inl p2, .inl 0, .inl 1]) C dX12_told_24 mcX12_in wd_1185 wd_1186 ⟨by decide, by decide⟩ ⟨by decide, by decide⟩ rfl (Nat.le_of_ble_eq_true rfl) (kX12_in l G er4) ?_
      refine r_if_ne (tgt := 34) C dX12_told_27 (by decide) (fun hc => ?_) (fun hc => ?_)
      · have hf := ifF hf hc
        refine r_iload_n C dX12_told_34 rfl ?_
        refine r_if_ne (tgt := 47) C dX12_told_35 (by decide) (fun hc => ?_) (fun hc => ?_)
        · have hf := ifF hf hc
          refine r_aload_n C dX12_told_47 rfl ?_
          obtain ⟨o5, eo5, hf⟩ := bS hf
          refine r_getR C dX12_told_48 fl_X12_82 rfl eo5 ?_
          refine r_iload_n C dX12_told_51 rfl ?_
          obtain ⟨v6, ev6, hf⟩ := bS hf
          refine r_iald C dX12_told_52 ev6 ?_
          exact V.sub (wX12_told_b53 C hret hf) (LW_s rfl (LW_n (LW_n (LW_e))))
        · have hf := ifT hf hc
          refine r_aload_n C dX12_told_38 rfl ?_
          obtain ⟨o7, eo7, hf⟩ := bS hf
          refine r_getR C dX12_told_39 fl_X12_79 rfl eo7 ?_
          refine r_iload_n C dX12_told_42 rfl ?_
          obtain ⟨v8, ev8, hf⟩ := bS hf
          refine r_iald C dX12_told_43 ev8 ?_
          refine r_goto (tgt := 53) C dX12_told_44 (by decide) ?_
          exact V.sub (wX12_told_b53 C hret hf) (LW_s rfl (LW_n (LW_n (LW_e))))
      · have hf := ifT hf hc
        exact V.sub (wX12_told_b30 C hret hf) (LW_s rfl (LW_n (LW_n (LW_e))))

theorem dgX12_work_0 : (decode cX12_work 0 = .ok (.aload_n 0, 1)) ∧ (decode cX12_work 1 = .ok (.getfield 227, 3)) ∧ (decode cX12_work 4 = .ok (.ifCond .eq 12, 3)) ∧ (decode cX12_work 7 = .ok (.iload_n 1, 1)) ∧ (decode cX12_work 8 = .ok (.iconst 0, 1)) ∧ (decode cX12_work 9 = .ok (.iconst 1, 1)) ∧ (decode cX12_work 10 = .ok (.invokestatic 149, 3)) ∧ (decode cX12_work 13 = .ok (.ifCond .ne 5, 3)) ∧ True := dkW [(0, .aload_n 0, 1), (1, .getfield 227, 3), (4, .ifCond .eq 12, 3), (7, .iload_n 1, 1), (8, .iconst 0, 1), (9, .iconst 1, 1), (10, .invokestatic 149, 3), (13, .ifCond .ne 5, 3)] 0 (by decide +kernel)
theorem dX12_work_0 : decode cX12_work 0 = .ok (.aload_n 0, 1) := dgX12_work_0.1
theorem dX12_work_1 : decode cX12_work 1 = .ok (.getfield 227, 3) := dgX12_work_0.2.1
theorem dX12_work_4 : decode cX12_work 4 = .ok (.ifCond .eq 12, 3) := dgX12_work_0.2.2.1
theorem dX12_work_7 : decode cX12_work 7 = .ok (.iload_n 1, 1) := dgX12_work_0.2.2.2.1
theorem dX12_work_8 : decode cX12_work 8 = .ok (.iconst 0, 1) := dgX12_work_0.2.2.2.2.1
theorem dX12_work_9 : decode cX12_work 9 = .ok (.iconst 1, 1) := dgX12_work_0.2.2.2.2.2.1
theorem dX12_work_10 : decode cX12_work 10 = .ok (.invokestatic 149, 3) := dgX12_work_0.2.2.2.2.2.2.1
theorem dX12_work_13 : decode cX12_work 13 = .ok (.ifCond .ne 5, 3) := dgX12_work_0.2.2.2.2.2.2.2.1
theorem dX12_work_16 : decode cX12_work 16 = .ok (.iconst (-1), 1) := by decide +kernel
theorem dgX12_work_17 : (decode cX12_work 17 = .ok (.ireturn, 1)) ∧ (decode cX12_work 18 = .ok (.aload_n 0, 1)) ∧ (decode cX12_work 19 = .ok (.getfield 230, 3)) ∧ (decode cX12_work 22 = .ok (.ifCond .eq 6, 3)) ∧ (decode cX12_work 25 = .ok (.bipush (-2), 2)) ∧ (decode cX12_work 27 = .ok (.ireturn, 1)) ∧ (decode cX12_work 28 = .ok (.iconst 0, 1)) ∧ (decode cX12_work 29 = .ok (.istore_n 2, 1)) ∧ (decode cX12_work 30 = .ok (.iconst 0, 1)) ∧ (decode cX12_work 31 = .ok (.istore_n 3, 1)) ∧ (decode cX12_work 32 = .ok (.iload_n 3, 1)) ∧ (decode cX12_work 33 = .ok (.aload_n 0, 1)) ∧ True := dkW [(17, .ireturn, 1), (18, .aload_n 0, 1), (19, .getfield 230, 3), (22, .ifCond .eq 6, 3), (25, .bipush (-2), 2), (27, .ireturn, 1), (28, .iconst 0, 1), (29, .istore_n 2, 1), (30, .iconst 0, 1), (31, .istore_n 3, 1), (32, .iload_n 3, 1), (33, .aload_n 0, 1)] 17 (by decide +kernel)
theorem dX12_work_17 : decode cX12_work 17 = .ok (.ireturn, 1) := dgX12_work_17.1
theorem dX12_work_18 : decode cX12_work 18 = .ok (.aload_n 0, 1) := dgX12_work_17.2.1
theorem dX12_work_19 : decode cX12_work 19 = .ok (.getfield 230, 3) := dgX12_work_17.2.2.1
theorem dX12_work_22 : decode cX12_work 22 = .ok (.ifCond .eq 6, 3) := dgX12_work_17.2.2.2.1
theorem dX12_work_25 : decode cX12_work 25 = .ok (.bipush (-2), 2) := dgX12_work_17.2.2.2.2.1
theorem dX12_work_27 : decode cX12_work 27 = .ok (.ireturn, 1) := dgX12_work_17.2.2.2.2.2.1
theorem dX12_work_28 : decode cX12_work 28 = .ok (.iconst 0, 1) := dgX12_work_17.2.2.2.2.2.2.1
theorem dX12_work_29 : decode cX12_work 29 = .ok (.istore_n 2, 1) := dgX12_work_17.2.2.2.2.2.2.2.1
theorem dX12_work_30 : decode cX12_work 30 = .ok (.iconst 0, 1) := dgX12_work_17.2.2.2.2.2.2.2.2.1
theorem dX12_work_31 : decode cX12_work 31 = .ok (.istore_n 3, 1) := dgX12_work_17.2.2.2.2.2.2.2.2.2.1
theorem dX12_work_32 : decode cX12_work 32 = .ok (.iload_n 3, 1) := dgX12_work_17.2.2.2.2.2.2.2.2.2.2.1
theorem dX12_work_33 : decode cX12_work 33 = .ok (.aload_n 0, 1) := dgX12_work_17.2.2.2.2.2.2.2.2.2.2.2.1
theorem dgX12_work_34 : (decode cX12_work 34 = .ok (.getfield 233, 3)) ∧ (decode cX12_work 37 = .ok (.if_icmp .ge 39, 3)) ∧ (decode cX12_work 40 = .ok (.iload_n 2, 1)) ∧ (decode cX12_work 41 = .ok (.iload_n 1, 1)) ∧ (decode cX12_work 42 = .ok (.ifCond .ne 12, 3)) ∧ (decode cX12_work 45 = .ok (.aload_n 0, 1)) ∧ (decode cX12_work 46 = .ok (.getfield 85, 3)) ∧ (decode cX12_work 49 = .ok (.iload_n 3, 1)) ∧ (decode cX12_work 50 = .ok (.iaload, 1)) ∧ (decode cX12_work 51 = .ok (.goto 17, 3)) ∧ (decode cX12_work 54 = .ok (.aload_n 0, 1)) ∧ (decode cX12_work 55 = .ok (.getfield 85, 3)) ∧ True := dkW [(34, .getfield 233, 3), (37, .if_icmp .ge 39, 3), (40, .iload_n 2, 1), (41, .iload_n 1, 1), (42, .ifCond .ne 12, 3), (45, .aload_n 0, 1), (46, .getfield 85, 3), (49, .iload_n 3, 1), (50, .iaload, 1), (51, .goto 17, 3), (54, .aload_n 0, 1), (55, .getfield 85, 3)] 34 (by decide +kernel)
theorem dX12_work_34 : decode cX12_work 34 = .ok (.getfield 233, 3) := dgX12_work_34.1
theorem dX12_work_37 : decode cX12_work 37 = .ok (.if_icmp .ge 39, 3) := dgX12_work_34.2.1
theorem dX12_work_40 : decode cX12_work 40 = .ok (.iload_n 2, 1) := dgX12_work_34.2.2.1
theorem dX12_work_41 : decode cX12_work 41 = .ok (.iload_n 1, 1) := dgX12_work_34.2.2.2.1
theorem dX12_work_42 : decode cX12_work 42 = .ok (.ifCond .ne 12, 3) := dgX12_work_34.2.2.2.2.1
theorem dX12_work_45 : decode cX12_work 45 = .ok (.aload_n 0, 1) := dgX12_work_34.2.2.2.2.2.1
theorem dX12_work_46 : decode cX12_work 46 = .ok (.getfield 85, 3) := dgX12_work_34.2.2.2.2.2.2.1
theorem dX12_work_49 : decode cX12_work 49 = .ok (.iload_n 3, 1) := dgX12_work_34.2.2.2.2.2.2.2.1
theorem dX12_work_50 : decode cX12_work 50 = .ok (.iaload, 1) := dgX12_work_34.2.2.2.2.2.2.2.2.1
theorem dX12_work_51 : decode cX12_work 51 = .ok (.goto 17, 3) := dgX12_work_34.2.2.2.2.2.2.2.2.2.1
theorem dX12_work_54 : decode cX12_work 54 = .ok (.aload_n 0, 1) := dgX12_work_34.2.2.2.2.2.2.2.2.2.2.1
theorem dX12_work_55 : decode cX12_work 55 = .ok (.getfield 85, 3) := dgX12_work_34.2.2.2.2.2.2.2.2.2.2.2.1
theorem dgX12_work_58 : (decode cX12_work 58 = .ok (.iload_n 3, 1)) ∧ (decode cX12_work 59 = .ok (.iaload, 1)) ∧ (decode cX12_work 60 = .ok (.ifCond .le 7, 3)) ∧ (decode cX12_work 63 = .ok (.iconst 1, 1)) ∧ (decode cX12_work 64 = .ok (.goto 4, 3)) ∧ (decode cX12_work 67 = .ok (.iconst 0, 1)) ∧ (decode cX12_work 68 = .ok (.iadd, 1)) ∧ (decode cX12_work 69 = .ok (.istore_n 2, 1)) ∧ (decode cX12_work 70 = .ok (.iinc 3 1, 3)) ∧ (decode cX12_work 73 = .ok (.goto (-41), 3)) ∧ (decode cX12_work 76 = .ok (.iload_n 2, 1)) ∧ (decode cX12_work 77 = .ok (.ireturn, 1)) ∧ True := dkW [(58, .iload_n 3, 1), (59, .iaload, 1), (60, .ifCond .le 7, 3), (63, .iconst 1, 1), (64, .goto 4, 3), (67, .iconst 0, 1), (68, .iadd, 1), (69, .istore_n 2, 1), (70, .iinc 3 1, 3), (73, .goto (-41), 3), (76, .iload_n 2, 1), (77, .ireturn, 1)] 58 (by decide +kernel)
theorem dX12_work_58 : decode cX12_work 58 = .ok (.iload_n 3, 1) := dgX12_work_58.1
theorem dX12_work_59 : decode cX12_work 59 = .ok (.iaload, 1) := dgX12_work_58.2.1
theorem dX12_work_60 : decode cX12_work 60 = .ok (.ifCond .le 7, 3) := dgX12_work_58.2.2.1
theorem dX12_work_63 : decode cX12_work 63 = .ok (.iconst 1, 1) := dgX12_work_58.2.2.2.1
theorem dX12_work_64 : decode cX12_work 64 = .ok (.goto 4, 3) := dgX12_work_58.2.2.2.2.1
theorem dX12_work_67 : decode cX12_work 67 = .ok (.iconst 0, 1) := dgX12_work_58.2.2.2.2.2.1
theorem dX12_work_68 : decode cX12_work 68 = .ok (.iadd, 1) := dgX12_work_58.2.2.2.2.2.2.1
theorem dX12_work_69 : decode cX12_work 69 = .ok (.istore_n 2, 1) := dgX12_work_58.2.2.2.2.2.2.2.1
theorem dX12_work_70 : decode cX12_work 70 = .ok (.iinc 3 1, 3) := dgX12_work_58.2.2.2.2.2.2.2.2.1
theorem dX12_work_73 : decode cX12_work 73 = .ok (.goto (-41), 3) := dgX12_work_58.2.2.2.2.2.2.2.2.2.1
theorem dX12_work_76 : decode cX12_work 76 = .ok (.iload_n 2, 1) := dgX12_work_58.2.2.2.2.2.2.2.2.2.2.1
theorem dX12_work_77 : decode cX12_work 77 = .ok (.ireturn, 1) := dgX12_work_58.2.2.2.2.2.2.2.2.2.2.2.1
abbrev rmX12_work : Room := { frames := 1, cells := 0, slots := 0, locals := 22 }
noncomputable def fX12_work_b16 (N : Nat)  (t : Nat) (h : Hs)  : Option (Int32 × Hs) :=
  some ((-1), h)
set_option maxHeartbeats 4000000 in
set_option maxRecDepth 20000 in
theorem wX12_work_b16 {p : Program} {l : Launch} {e : Env} {s : State} {m : MethodId} {args : Array Value} {below : List Frame} {meth : Method} {c : Code} {G : Gl} {N : Nat} {h : Hs} {r : Int32 × Hs}  {t : Nat}  (C : Cx p s m args meth c cX12_work RX12 4 G) (hret : meth.sig.returnType = (some .int))  (hf : fX12_work_b16 N  t h  = some r) : V p l e rmX12_work s m args below meth c G 4 (MQ below (QcG G (some (.inl r.1)) r.2) args s rmX12_work.cells rmX12_work.slots (AG G)) h 0 0 16 [some (.inr (some t)), none, none, none] [] := by
  unfold fX12_work_b16 at hf
  refine r_iconst (v := -1) C dX12_work_16 (by decide) ?_
  exact r_iretF C dX12_work_17 hret hf (by decide) (by decide)
noncomputable def fX12_work_b68 (N : Nat) (g32 : Hs → Int32 → Int32 → Int32 → Option (Int32 × Hs)) (t : Nat) (h : Hs) (x1 : Int32) (x3 : Int32) (u0 : Int32) (u1 : Int32) : Option (Int32 × Hs) :=
  (some (u0 + u1)).bind fun y1 =>
  (some (x3 + 1)).bind fun y2 =>
  g32 h x1 y1 y2
set_option maxHeartbeats 4000000 in
set_option maxRecDepth 20000 in
theorem wX12_work_b68 {p : Program} {l : Launch} {e : Env} {s : State} {m : MethodId} {args : Array Value} {below : List Frame} {meth : Method} {c : Code} {G : Gl} {N : Nat} {h : Hs} {r : Int32 × Hs} {g32 : Hs → Int32 → Int32 → Int32 → Option (Int32 × Hs)} {t : Nat} {x1 : Int32} {x3 : Int32} {u0 : Int32} {u1 : Int32} (C : Cx p s m args meth c cX12_work RX12 4 G) (hret : meth.sig.returnType = (some .int)) (hg32 : ∀ (h : Hs) (x1 : Int32) (x2 : Int32) (x3 : Int32), g32 h x1 x2 x3 = some r → V p l e rmX12_work s m args below meth c G 4 (MQ below (QcG G (some (.inl r.1)) r.2) args s rmX12_work.cells rmX12_work.slots (AG G)) h 0 0 32 [some (.inr (some t)), some (.inl x1), some (.inl x2), some (.inl x3)] []) (hf : fX12_work_b68 N g32 t h x1 x3 u0 u1 = some r) : V p l e rmX12_work s m args below meth c G 4 (MQ below (QcG G (some (.inl r.1)) r.2) args s rmX12_work.cells rmX12_work.slots (AG G)) h 0 0 68 [some (.inr (some t)), some (.inl x1), none, some (.inl x3)] [.inl u1, .inl u0] := by
  unfold fX12_work_b68 at hf
  refine r_iadd C dX12_work_68 ?_
  obtain ⟨y1, ey1, hf⟩ := bS hf
  refine r_istore_nE C dX12_work_69 (by decide) ey1 ?_
  obtain ⟨y2, ey2, hf⟩ := bS hf
  refine r_iincE (v := 1) C dX12_work_70 rfl (by decide) (by decide) ey2 ?_
  refine r_goto (tgt := 32) C dX12_work_73 (by decide) ?_
  exact V.sub (hg32 _ _ _ _ hf) (LW_s rfl (LW_s rfl (LW_s rfl (LW_s rfl (LW_e)))))
noncomputable def fX12_work_b32_body (N : Nat)  (g32 : Hs → Int32 → Int32 → Int32 → Option (Int32 × Hs)) (t : Nat) (h : Hs) (x1 : Int32) (x2 : Int32) (x3 : Int32) : Option (Int32 × Hs) :=
  (oI 12 34 h (some t)).bind fun v1 =>
  if v1 ≤ x3 then (
  some (x2, h))
  else if x1 = 0 then (
  (oR 12 33 h (some t)).bind fun o4 =>
  (lA 20 h o4 x3).bind fun v5 =>
  fX12_work_b68 N g32 t h x1 x3 x2 v5)
  else (oR 12 33 h (some t)).bind fun o2 =>
  (lA 20 h o2 x3).bind fun v3 =>
  if v3 ≤ 0 then (
  fX12_work_b68 N g32 t h x1 x3 x2 0)
  else fX12_work_b68 N g32 t h x1 x3 x2 1
noncomputable def fX12_work_b32 (N : Nat)  (t : Nat) (n : Nat) : Hs → Int32 → Int32 → Int32 → Option (Int32 × Hs) := lp (fun _ _ _ _ => none) (fun g h x1 x2 x3 => fX12_work_b32_body N  g t h x1 x2 x3) n
set_option maxHeartbeats 4000000 in
set_option maxRecDepth 20000 in
theorem wX12_work_b32_body {p : Program} {l : Launch} {e : Env} {s : State} {m : MethodId} {args : Array Value} {below : List Frame} {meth : Method} {c : Code} {G : Gl} {N : Nat} {h : Hs} {r : Int32 × Hs}  {g32 : Hs → Int32 → Int32 → Int32 → Option (Int32 × Hs)} {t : Nat} {x1 : Int32} {x2 : Int32} {x3 : Int32} (C : Cx p s m args meth c cX12_work RX12 4 G) (hret : meth.sig.returnType = (some .int))  (hg32 : ∀ (h : Hs) (x1 : Int32) (x2 : Int32) (x3 : Int32), g32 h x1 x2 x3 = some r → V p l e rmX12_work s m args below meth c G 4 (MQ below (QcG G (some (.inl r.1)) r.2) args s rmX12_work.cells rmX12_work.slots (AG G)) h 0 0 32 [some (.inr (some t)), some (.inl x1), some (.inl x2), some (.inl x3)] []) (hf : fX12_work_b32_body N  g32 t h x1 x2 x3 = some r) : V p l e rmX12_work s m args below meth c G 4 (MQ below (QcG G (some (.inl r.1)) r.2) args s rmX12_work.cells rmX12_work.slots (AG G)) h 0 0 32 [some (.inr (some t)), some (.inl x1), some (.inl x2), some (.inl x3)] [] := by
  unfold fX12_work_b32_body at hf
  refine r_iload_n C dX12_work_32 rfl ?_
  refine r_aload_n C dX12_work_33 rfl ?_
  obtain ⟨v1, ev1, hf⟩ := bS hf
  refine r_getI C dX12_work_34 fl_X12_233 rfl ev1 ?_
  refine r_icmp_ge (tgt := 76) C dX12_work_37 (by decide) (fun hc => ?_) (fun hc => ?_)
  · have hf := ifT hf hc
    refine r_iload_n C dX12_work_76 rfl ?_
    exact r_iretF C dX12_work_77 hret hf (by decide) (by decide)
  · have hf := ifF hf hc
    refine r_iload_n C dX12_work_40 rfl ?_
    refine r_iload_n C dX12_work_41 rfl ?_
    refine r_if_ne (tgt := 54) C dX12_work_42 (by decide) (fun hc => ?_) (fun hc => ?_)
    · have hf := ifF hf hc
      refine r_aload_n C dX12_work_54 rfl ?_
      obtain ⟨o2, eo2, hf⟩ := bS hf
      refine r_getR C dX12_work_55 fl_X12_85 rfl eo2 ?_
      refine r_iload_n C dX12_work_58 rfl ?_
      obtain ⟨v3, ev3, hf⟩ := bS hf
      refine r_iald C dX12_work_59 ev3 ?_
      refine r_if_le (tgt := 67) C dX12_work_60 (by decide) (fun hc => ?_) (fun hc => ?_)
      · have hf := ifT hf hc
        refine r_iconst (v := 0) C dX12_work_67 (by decide) ?_
        exact V.sub (wX12_work_b68 C hret hg32 hf) (LW_s rfl (LW_s rfl (LW_n (LW_s rfl (LW_e)))))
      · have hf := ifF hf hc
        refine r_iconst (v := 1) C dX12_work_63 (by decide) ?_
        refine r_goto (tgt := 68) C dX12_work_64 (by decide) ?_
        exact V.sub (wX12_work_b68 C hret hg32 hf) (LW_s rfl (LW_s rfl (LW_n (LW_s rfl (LW_e)))))
    · have hf := ifT hf hc
      refine r_aload_n C dX12_work_45 rfl ?_
      obtain ⟨o4, eo4, hf⟩ := bS hf
      refine r_getR C dX12_work_46 fl_X12_85 rfl eo4 ?_
      refine r_iload_n C dX12_work_49 rfl ?_
      obtain ⟨v5, ev5, hf⟩ := bS hf
      refine r_iald C dX12_work_50 ev5 ?_
      refine r_goto (tgt := 68) C dX12_work_51 (by decide) ?_
      exact V.sub (wX12_work_b68 C hret hg32 hf) (LW_s rfl (LW_s rfl (LW_n (LW_s rfl (LW_e)))))
theorem wX12_work_b32 {p : Program} {l : Launch} {e : Env} {s : State} {m : MethodId} {args : Array Value} {below : List Frame} {meth : Method} {c : Code} {G : Gl} {N : Nat} {r : Int32 × Hs}  {t : Nat} (C : Cx p s m args meth c cX12_work RX12 4 G) (hret : meth.sig.returnType = (some .int))  : ∀ (n : Nat) (h : Hs) (x1 : Int32) (x2 : Int32) (x3 : Int32), fX12_work_b32 N  t n h x1 x2 x3 = some r → V p l e rmX12_work s m args below meth c G 4 (MQ below (QcG G (some (.inl r.1)) r.2) args s rmX12_work.cells rmX12_work.slots (AG G)) h 0 0 32 [some (.inr (some t)), some (.inl x1), some (.inl x2), some (.inl x3)] [] := by
  intro n
  induction n with
  | zero => intro h x1 x2 x3 hf; exact absurd (show (none : Option (Int32 × Hs)) = some r from hf) (fun q => by cases q)
  | succ n ih => intro h x1 x2 x3 hf; exact wX12_work_b32_body C hret  ih (show fX12_work_b32_body N  (fX12_work_b32 N  t n) t h x1 x2 x3 = some r from hf)
noncomputable def fX12_work (N : Nat) (h : Hs) (t : Nat) (p1 : Int32) : Option (Int32 × Hs) :=
  (oI 12 29 h (some t)).bind fun v1 =>
  if v1 = 0 then (
  fX12_work_b16 N t h)
  else (fX12_in N h p1 0 1).bind fun r2 =>
  if r2.1 = 0 then (
  fX12_work_b16 N t r2.2)
  else (oI 12 30 r2.2 (some t)).bind fun v3 =>
  if v3 = 0 then (
  fX12_work_b32 N t N r2.2 p1 0 0)
  else some ((-2), r2.2)
set_option maxHeartbeats 4000000 in
set_option maxRecDepth 20000 in
theorem kX12_work (l : Launch) (G : Gl) {N : Nat} {h : Hs} {t : Nat} {p1 : Int32} {r : Int32 × Hs} (hf : fX12_work N h t p1 = some r) : CT l G yX12_work cX12_work 4 (some .int) rmX12_work [.inr (some t), .inl p1] h (some (.inl r.1)) r.2 := by
  refine mk_CT (by decide) (Nat.le_of_ble_eq_true rfl) ?_
  intro p e s m args below meth c C hret hin
  unfold fX12_work at hf
  refine r_aload_n C dX12_work_0 rfl ?_
  obtain ⟨v1, ev1, hf⟩ := bS hf
  refine r_getI C dX12_work_1 fl_X12_227 rfl ev1 ?_
  refine r_if_eq (tgt := 16) C dX12_work_4 (by decide) (fun hc => ?_) (fun hc => ?_)
  · have hf := ifT hf hc
    exact V.sub (wX12_work_b16 C hret hf) (LW_s rfl (LW_n (LW_n (LW_n (LW_e)))))
  · have hf := ifF hf hc
    refine r_iload_n C dX12_work_7 rfl ?_
    refine r_iconst (v := 0) C dX12_work_8 (by decide) ?_
    refine r_iconst (v := 1) C dX12_work_9 (by decide) ?_
    obtain ⟨r2, er2, hf⟩ := bS hf
    refine r_invS1 (As := [.inl p1, .inl 0, .inl 1]) C dX12_work_10 mcX12_in wd_1185 wd_1186 ⟨by decide, by decide⟩ ⟨by decide, by decide⟩ rfl (Nat.le_of_ble_eq_true rfl) (kX12_in l G er2) ?_
    refine r_if_ne (tgt := 18) C dX12_work_13 (by decide) (fun hc => ?_) (fun hc => ?_)
    · have hf := ifF hf hc
      refine r_aload_n C dX12_work_18 rfl ?_
      obtain ⟨v3, ev3, hf⟩ := bS hf
      refine r_getI C dX12_work_19 fl_X12_230 rfl ev3 ?_
      refine r_if_eq (tgt := 28) C dX12_work_22 (by decide) (fun hc => ?_) (fun hc => ?_)
      · have hf := ifT hf hc
        refine r_iconst (v := 0) C dX12_work_28 (by decide) ?_
        refine r_istore_n C dX12_work_29 (by decide) ?_
        refine r_iconst (v := 0) C dX12_work_30 (by decide) ?_
        refine r_istore_n C dX12_work_31 (by decide) ?_
        exact V.sub (wX12_work_b32 C hret N _ _ _ _ hf) (LW_s rfl (LW_s rfl (LW_s rfl (LW_s rfl (LW_e)))))
      · have hf := ifF hf hc
        refine r_bipush (v := -2) C dX12_work_25 (by decide) ?_
        exact r_iretF C dX12_work_27 hret hf (by decide) (by decide)
    · have hf := ifT hf hc
      exact V.sub (wX12_work_b16 C hret hf) (LW_s rfl (LW_n (LW_n (LW_n (LW_e)))))
