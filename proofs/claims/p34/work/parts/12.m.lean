theorem dgX1_leastMen_0 : (decode cX1_leastMen 0 = .ok (.aload_n 0, 1)) ∧ (decode cX1_leastMen 1 = .ok (.getfield 33, 3)) ∧ (decode cX1_leastMen 4 = .ok (.ifCond .eq 13, 3)) ∧ (decode cX1_leastMen 7 = .ok (.iload_n 1, 1)) ∧ (decode cX1_leastMen 8 = .ok (.iconst 1, 1)) ∧ (decode cX1_leastMen 9 = .ok (.bipush 99, 2)) ∧ (decode cX1_leastMen 11 = .ok (.invokestatic 25, 3)) ∧ (decode cX1_leastMen 14 = .ok (.ifCond .ne 5, 3)) ∧ True := dkW [(0, .aload_n 0, 1), (1, .getfield 33, 3), (4, .ifCond .eq 13, 3), (7, .iload_n 1, 1), (8, .iconst 1, 1), (9, .bipush 99, 2), (11, .invokestatic 25, 3), (14, .ifCond .ne 5, 3)] 0 (by decide +kernel)
theorem dX1_leastMen_0 : decode cX1_leastMen 0 = .ok (.aload_n 0, 1) := dgX1_leastMen_0.1
theorem dX1_leastMen_1 : decode cX1_leastMen 1 = .ok (.getfield 33, 3) := dgX1_leastMen_0.2.1
theorem dX1_leastMen_4 : decode cX1_leastMen 4 = .ok (.ifCond .eq 13, 3) := dgX1_leastMen_0.2.2.1
theorem dX1_leastMen_7 : decode cX1_leastMen 7 = .ok (.iload_n 1, 1) := dgX1_leastMen_0.2.2.2.1
theorem dX1_leastMen_8 : decode cX1_leastMen 8 = .ok (.iconst 1, 1) := dgX1_leastMen_0.2.2.2.2.1
theorem dX1_leastMen_9 : decode cX1_leastMen 9 = .ok (.bipush 99, 2) := dgX1_leastMen_0.2.2.2.2.2.1
theorem dX1_leastMen_11 : decode cX1_leastMen 11 = .ok (.invokestatic 25, 3) := dgX1_leastMen_0.2.2.2.2.2.2.1
theorem dX1_leastMen_14 : decode cX1_leastMen 14 = .ok (.ifCond .ne 5, 3) := dgX1_leastMen_0.2.2.2.2.2.2.2.1
theorem dX1_leastMen_17 : decode cX1_leastMen 17 = .ok (.iconst (-1), 1) := by decide +kernel
theorem dgX1_leastMen_18 : (decode cX1_leastMen 18 = .ok (.ireturn, 1)) ∧ (decode cX1_leastMen 19 = .ok (.aload_n 0, 1)) ∧ (decode cX1_leastMen 20 = .ok (.getfield 37, 3)) ∧ (decode cX1_leastMen 23 = .ok (.ifCond .eq 11, 3)) ∧ (decode cX1_leastMen 26 = .ok (.aload_n 0, 1)) ∧ (decode cX1_leastMen 27 = .ok (.invokevirtual 145, 3)) ∧ (decode cX1_leastMen 30 = .ok (.iload_n 1, 1)) ∧ (decode cX1_leastMen 31 = .ok (.if_icmp .le 6, 3)) ∧ (decode cX1_leastMen 34 = .ok (.bipush (-2), 2)) ∧ (decode cX1_leastMen 36 = .ok (.ireturn, 1)) ∧ (decode cX1_leastMen 37 = .ok (.aload_n 0, 1)) ∧ (decode cX1_leastMen 38 = .ok (.invokevirtual 142, 3)) ∧ True := dkW [(18, .ireturn, 1), (19, .aload_n 0, 1), (20, .getfield 37, 3), (23, .ifCond .eq 11, 3), (26, .aload_n 0, 1), (27, .invokevirtual 145, 3), (30, .iload_n 1, 1), (31, .if_icmp .le 6, 3), (34, .bipush (-2), 2), (36, .ireturn, 1), (37, .aload_n 0, 1), (38, .invokevirtual 142, 3)] 18 (by decide +kernel)
theorem dX1_leastMen_18 : decode cX1_leastMen 18 = .ok (.ireturn, 1) := dgX1_leastMen_18.1
theorem dX1_leastMen_19 : decode cX1_leastMen 19 = .ok (.aload_n 0, 1) := dgX1_leastMen_18.2.1
theorem dX1_leastMen_20 : decode cX1_leastMen 20 = .ok (.getfield 37, 3) := dgX1_leastMen_18.2.2.1
theorem dX1_leastMen_23 : decode cX1_leastMen 23 = .ok (.ifCond .eq 11, 3) := dgX1_leastMen_18.2.2.2.1
theorem dX1_leastMen_26 : decode cX1_leastMen 26 = .ok (.aload_n 0, 1) := dgX1_leastMen_18.2.2.2.2.1
theorem dX1_leastMen_27 : decode cX1_leastMen 27 = .ok (.invokevirtual 145, 3) := dgX1_leastMen_18.2.2.2.2.2.1
theorem dX1_leastMen_30 : decode cX1_leastMen 30 = .ok (.iload_n 1, 1) := dgX1_leastMen_18.2.2.2.2.2.2.1
theorem dX1_leastMen_31 : decode cX1_leastMen 31 = .ok (.if_icmp .le 6, 3) := dgX1_leastMen_18.2.2.2.2.2.2.2.1
theorem dX1_leastMen_34 : decode cX1_leastMen 34 = .ok (.bipush (-2), 2) := dgX1_leastMen_18.2.2.2.2.2.2.2.2.1
theorem dX1_leastMen_36 : decode cX1_leastMen 36 = .ok (.ireturn, 1) := dgX1_leastMen_18.2.2.2.2.2.2.2.2.2.1
theorem dX1_leastMen_37 : decode cX1_leastMen 37 = .ok (.aload_n 0, 1) := dgX1_leastMen_18.2.2.2.2.2.2.2.2.2.2.1
theorem dX1_leastMen_38 : decode cX1_leastMen 38 = .ok (.invokevirtual 142, 3) := dgX1_leastMen_18.2.2.2.2.2.2.2.2.2.2.2.1
theorem dgX1_leastMen_41 : (decode cX1_leastMen 41 = .ok (.bipush 12, 2)) ∧ (decode cX1_leastMen 43 = .ok (.if_icmp .le 8, 3)) ∧ (decode cX1_leastMen 46 = .ok (.bipush (-4), 2)) ∧ (decode cX1_leastMen 48 = .ok (.goto 13, 3)) ∧ (decode cX1_leastMen 51 = .ok (.aload_n 0, 1)) ∧ (decode cX1_leastMen 52 = .ok (.iload_n 1, 1)) ∧ (decode cX1_leastMen 53 = .ok (.invokevirtual 148, 3)) ∧ (decode cX1_leastMen 56 = .ok (.bipush 100, 2)) ∧ (decode cX1_leastMen 58 = .ok (.invokestatic 152, 3)) ∧ (decode cX1_leastMen 61 = .ok (.ireturn, 1)) ∧ True := dkW [(41, .bipush 12, 2), (43, .if_icmp .le 8, 3), (46, .bipush (-4), 2), (48, .goto 13, 3), (51, .aload_n 0, 1), (52, .iload_n 1, 1), (53, .invokevirtual 148, 3), (56, .bipush 100, 2), (58, .invokestatic 152, 3), (61, .ireturn, 1)] 41 (by decide +kernel)
theorem dX1_leastMen_41 : decode cX1_leastMen 41 = .ok (.bipush 12, 2) := dgX1_leastMen_41.1
theorem dX1_leastMen_43 : decode cX1_leastMen 43 = .ok (.if_icmp .le 8, 3) := dgX1_leastMen_41.2.1
theorem dX1_leastMen_46 : decode cX1_leastMen 46 = .ok (.bipush (-4), 2) := dgX1_leastMen_41.2.2.1
theorem dX1_leastMen_48 : decode cX1_leastMen 48 = .ok (.goto 13, 3) := dgX1_leastMen_41.2.2.2.1
theorem dX1_leastMen_51 : decode cX1_leastMen 51 = .ok (.aload_n 0, 1) := dgX1_leastMen_41.2.2.2.2.1
theorem dX1_leastMen_52 : decode cX1_leastMen 52 = .ok (.iload_n 1, 1) := dgX1_leastMen_41.2.2.2.2.2.1
theorem dX1_leastMen_53 : decode cX1_leastMen 53 = .ok (.invokevirtual 148, 3) := dgX1_leastMen_41.2.2.2.2.2.2.1
theorem dX1_leastMen_56 : decode cX1_leastMen 56 = .ok (.bipush 100, 2) := dgX1_leastMen_41.2.2.2.2.2.2.2.1
theorem dX1_leastMen_58 : decode cX1_leastMen 58 = .ok (.invokestatic 152, 3) := dgX1_leastMen_41.2.2.2.2.2.2.2.2.1
theorem dX1_leastMen_61 : decode cX1_leastMen 61 = .ok (.ireturn, 1) := dgX1_leastMen_41.2.2.2.2.2.2.2.2.2.1
abbrev rmX1_leastMen : Room := { frames := 3, cells := 0, slots := 0, locals := 74 }
noncomputable def fX1_leastMen_b17 (N : Nat)  (t : Nat) (h : Hs)  : Option (Int32 × Hs) :=
  some ((-1), h)
set_option maxHeartbeats 4000000 in
set_option maxRecDepth 20000 in
theorem wX1_leastMen_b17 {p : Program} {l : Launch} {e : Env} {s : State} {m : MethodId} {args : Array Value} {below : List Frame} {meth : Method} {c : Code} {G : Gl} {N : Nat} {h : Hs} {r : Int32 × Hs}  {t : Nat}  (C : Cx p s m args meth c cX1_leastMen RX1 2 G) (hret : meth.sig.returnType = (some .int))  (hf : fX1_leastMen_b17 N  t h  = some r) : V p l e rmX1_leastMen s m args below meth c G 2 (MQ below (QcG G (some (.inl r.1)) r.2) args s rmX1_leastMen.cells rmX1_leastMen.slots (AG G)) h 0 0 17 [some (.inr (some t)), none] [] := by
  unfold fX1_leastMen_b17 at hf
  refine r_iconst (v := -1) C dX1_leastMen_17 (by decide) ?_
  exact r_iretF C dX1_leastMen_18 hret hf (by decide) (by decide)
noncomputable def fX1_leastMen_b34 (N : Nat)  (t : Nat) (h : Hs)  : Option (Int32 × Hs) :=
  some ((-2), h)
set_option maxHeartbeats 4000000 in
set_option maxRecDepth 20000 in
theorem wX1_leastMen_b34 {p : Program} {l : Launch} {e : Env} {s : State} {m : MethodId} {args : Array Value} {below : List Frame} {meth : Method} {c : Code} {G : Gl} {N : Nat} {h : Hs} {r : Int32 × Hs}  {t : Nat}  (C : Cx p s m args meth c cX1_leastMen RX1 2 G) (hret : meth.sig.returnType = (some .int))  (hf : fX1_leastMen_b34 N  t h  = some r) : V p l e rmX1_leastMen s m args below meth c G 2 (MQ below (QcG G (some (.inl r.1)) r.2) args s rmX1_leastMen.cells rmX1_leastMen.slots (AG G)) h 0 0 34 [some (.inr (some t)), none] [] := by
  unfold fX1_leastMen_b34 at hf
  refine r_bipush (v := -2) C dX1_leastMen_34 (by decide) ?_
  exact r_iretF C dX1_leastMen_36 hret hf (by decide) (by decide)
noncomputable def fX1_leastMen_b61 (N : Nat)  (t : Nat) (h : Hs) (u0 : Int32) : Option (Int32 × Hs) :=
  some (u0, h)
set_option maxHeartbeats 4000000 in
set_option maxRecDepth 20000 in
theorem wX1_leastMen_b61 {p : Program} {l : Launch} {e : Env} {s : State} {m : MethodId} {args : Array Value} {below : List Frame} {meth : Method} {c : Code} {G : Gl} {N : Nat} {h : Hs} {r : Int32 × Hs}  {t : Nat} {u0 : Int32} (C : Cx p s m args meth c cX1_leastMen RX1 2 G) (hret : meth.sig.returnType = (some .int))  (hf : fX1_leastMen_b61 N  t h u0 = some r) : V p l e rmX1_leastMen s m args below meth c G 2 (MQ below (QcG G (some (.inl r.1)) r.2) args s rmX1_leastMen.cells rmX1_leastMen.slots (AG G)) h 0 0 61 [some (.inr (some t)), none] [.inl u0] := by
  unfold fX1_leastMen_b61 at hf
  exact r_iretF C dX1_leastMen_61 hret hf (by decide) (by decide)
noncomputable def fX1_leastMen (N : Nat) (h : Hs) (t : Nat) (p1 : Int32) : Option (Int32 × Hs) :=
  (oI 1 4 h (some t)).bind fun v1 =>
  if v1 = 0 then (
  fX1_leastMen_b17 N t h)
  else (fX11_isWithin N h p1 1 99).bind fun r2 =>
  if r2.1 = 0 then (
  fX1_leastMen_b17 N t r2.2)
  else (oI 1 5 r2.2 (some t)).bind fun v3 =>
  if v3 = 0 then (
  fX1_leastMen_b34 N t r2.2)
  else (rc 1 r2.2 (some t)).bind fun a5 =>
  (fX1_longestWork N r2.2 a5 ).bind fun r4 =>
  if r4.1 ≤ p1 then (
  (rc 1 r4.2 (some t)).bind fun a7 =>
  (fX1_works N r4.2 a7 ).bind fun r6 =>
  if r6.1 ≤ 12 then (
  (rc 1 r6.2 (some t)).bind fun a9 =>
  (fX1_shareOut N r6.2 a9 p1).bind fun r8 =>
  (fX11_quotient N r8.2 r8.1 100).bind fun r10 =>
  fX1_leastMen_b61 N t r10.2 r10.1)
  else fX1_leastMen_b61 N t r6.2 (-4))
  else fX1_leastMen_b34 N t r4.2
set_option maxHeartbeats 4000000 in
set_option maxRecDepth 20000 in
theorem kX1_leastMen (l : Launch) (G : Gl) {N : Nat} {h : Hs} {t : Nat} {p1 : Int32} {r : Int32 × Hs} (hf : fX1_leastMen N h t p1 = some r) : CT l G yX1_leastMen cX1_leastMen 2 (some .int) rmX1_leastMen [.inr (some t), .inl p1] h (some (.inl r.1)) r.2 := by
  refine mk_CT (by decide) (Nat.le_of_ble_eq_true rfl) ?_
  intro p e s m args below meth c C hret hin
  unfold fX1_leastMen at hf
  refine r_aload_n C dX1_leastMen_0 rfl ?_
  obtain ⟨v1, ev1, hf⟩ := bS hf
  refine r_getI C dX1_leastMen_1 fl_X1_33 rfl ev1 ?_
  refine r_if_eq (tgt := 17) C dX1_leastMen_4 (by decide) (fun hc => ?_) (fun hc => ?_)
  · have hf := ifT hf hc
    exact V.sub (wX1_leastMen_b17 C hret hf) (LW_s rfl (LW_n (LW_e)))
  · have hf := ifF hf hc
    refine r_iload_n C dX1_leastMen_7 rfl ?_
    refine r_iconst (v := 1) C dX1_leastMen_8 (by decide) ?_
    refine r_bipush (v := 99) C dX1_leastMen_9 (by decide) ?_
    obtain ⟨r2, er2, hf⟩ := bS hf
    refine r_invSN1 (As := [.inl p1, .inl 1, .inl 99]) (host := "StageMachine") C dX1_leastMen_11 mcX11_isWithin (by decide) wd_291 ⟨by decide, by decide⟩ ⟨by decide, by decide⟩ rfl (Nat.le_of_ble_eq_true rfl) (kX11_isWithin l G er2) ?_
    refine r_if_ne (tgt := 19) C dX1_leastMen_14 (by decide) (fun hc => ?_) (fun hc => ?_)
    · have hf := ifF hf hc
      refine r_aload_n C dX1_leastMen_19 rfl ?_
      obtain ⟨v3, ev3, hf⟩ := bS hf
      refine r_getI C dX1_leastMen_20 fl_X1_37 rfl ev3 ?_
      refine r_if_eq (tgt := 34) C dX1_leastMen_23 (by decide) (fun hc => ?_) (fun hc => ?_)
      · have hf := ifT hf hc
        exact V.sub (wX1_leastMen_b34 C hret hf) (LW_s rfl (LW_n (LW_e)))
      · have hf := ifF hf hc
        refine r_aload_n C dX1_leastMen_26 rfl ?_
        obtain ⟨a5, ea5, hf⟩ := bS hf
        obtain ⟨r4, er4, hf⟩ := bS hf
        refine r_invV1 (As := []) (ci := 1) C dX1_leastMen_27 mcX1_longestWork wd_758 wd_760 wp_13 rfl rfl (by decide) ⟨by decide, by decide⟩ ⟨by decide, by decide⟩ rfl (Nat.le_of_ble_eq_true rfl) ea5 (kX1_longestWork l G er4) ?_
        refine r_iload_n C dX1_leastMen_30 rfl ?_
        refine r_icmp_le (tgt := 37) C dX1_leastMen_31 (by decide) (fun hc => ?_) (fun hc => ?_)
        · have hf := ifT hf hc
          refine r_aload_n C dX1_leastMen_37 rfl ?_
          obtain ⟨a7, ea7, hf⟩ := bS hf
          obtain ⟨r6, er6, hf⟩ := bS hf
          refine r_invV1 (As := []) (ci := 1) C dX1_leastMen_38 mcX1_works wd_746 wd_748 wp_12 rfl rfl (by decide) ⟨by decide, by decide⟩ ⟨by decide, by decide⟩ rfl (Nat.le_of_ble_eq_true rfl) ea7 (kX1_works l G er6) ?_
          refine r_bipush (v := 12) C dX1_leastMen_41 (by decide) ?_
          refine r_icmp_le (tgt := 51) C dX1_leastMen_43 (by decide) (fun hc => ?_) (fun hc => ?_)
          · have hf := ifT hf hc
            refine r_aload_n C dX1_leastMen_51 rfl ?_
            refine r_iload_n C dX1_leastMen_52 rfl ?_
            obtain ⟨a9, ea9, hf⟩ := bS hf
            obtain ⟨r8, er8, hf⟩ := bS hf
            refine r_invV1 (As := [.inl p1]) (ci := 1) C dX1_leastMen_53 mcX1_shareOut wd_762 wd_764 wp_14 rfl rfl (by decide) ⟨by decide, by decide⟩ ⟨by decide, by decide⟩ rfl (Nat.le_of_ble_eq_true rfl) ea9 (kX1_shareOut l G er8) ?_
            refine r_bipush (v := 100) C dX1_leastMen_56 (by decide) ?_
            obtain ⟨r10, er10, hf⟩ := bS hf
            refine r_invSN1 (As := [.inl r8.1, .inl 100]) (host := "StageMachine") C dX1_leastMen_58 mcX11_quotient (by decide) wd_572 ⟨by decide, by decide⟩ ⟨by decide, by decide⟩ rfl (Nat.le_of_ble_eq_true rfl) (kX11_quotient l G er10) ?_
            exact V.sub (wX1_leastMen_b61 C hret hf) (LW_s rfl (LW_n (LW_e)))
          · have hf := ifF hf hc
            refine r_bipush (v := -4) C dX1_leastMen_46 (by decide) ?_
            refine r_goto (tgt := 61) C dX1_leastMen_48 (by decide) ?_
            exact V.sub (wX1_leastMen_b61 C hret hf) (LW_s rfl (LW_n (LW_e)))
        · have hf := ifF hf hc
          exact V.sub (wX1_leastMen_b34 C hret hf) (LW_s rfl (LW_n (LW_e)))
    · have hf := ifT hf hc
      exact V.sub (wX1_leastMen_b17 C hret hf) (LW_s rfl (LW_n (LW_e)))

theorem dgX2_init_0 : (decode cX2_init 0 = .ok (.aload_n 0, 1)) ∧ (decode cX2_init 1 = .ok (.invokespecial 1, 3)) ∧ (decode cX2_init 4 = .ok (.aload_n 0, 1)) ∧ (decode cX2_init 5 = .ok (.iload_n 1, 1)) ∧ (decode cX2_init 6 = .ok (.putfield 7, 3)) ∧ (decode cX2_init 9 = .ok (.aload_n 0, 1)) ∧ (decode cX2_init 10 = .ok (.iload_n 2, 1)) ∧ (decode cX2_init 11 = .ok (.putfield 13, 3)) ∧ (decode cX2_init 14 = .ok (.return_, 1)) ∧ True := dkW [(0, .aload_n 0, 1), (1, .invokespecial 1, 3), (4, .aload_n 0, 1), (5, .iload_n 1, 1), (6, .putfield 7, 3), (9, .aload_n 0, 1), (10, .iload_n 2, 1), (11, .putfield 13, 3), (14, .return_, 1)] 0 (by decide +kernel)
theorem dX2_init_0 : decode cX2_init 0 = .ok (.aload_n 0, 1) := dgX2_init_0.1
theorem dX2_init_1 : decode cX2_init 1 = .ok (.invokespecial 1, 3) := dgX2_init_0.2.1
theorem dX2_init_4 : decode cX2_init 4 = .ok (.aload_n 0, 1) := dgX2_init_0.2.2.1
theorem dX2_init_5 : decode cX2_init 5 = .ok (.iload_n 1, 1) := dgX2_init_0.2.2.2.1
theorem dX2_init_6 : decode cX2_init 6 = .ok (.putfield 7, 3) := dgX2_init_0.2.2.2.2.1
theorem dX2_init_9 : decode cX2_init 9 = .ok (.aload_n 0, 1) := dgX2_init_0.2.2.2.2.2.1
theorem dX2_init_10 : decode cX2_init 10 = .ok (.iload_n 2, 1) := dgX2_init_0.2.2.2.2.2.2.1
theorem dX2_init_11 : decode cX2_init 11 = .ok (.putfield 13, 3) := dgX2_init_0.2.2.2.2.2.2.2.1
theorem dX2_init_14 : decode cX2_init 14 = .ok (.return_, 1) := dgX2_init_0.2.2.2.2.2.2.2.2.1
abbrev rmX2_init : Room := { frames := 1, cells := 0, slots := 0, locals := 12 }
noncomputable def fX2_init (N : Nat) (h : Hs) (t : Nat) (p1 : Int32) (p2 : Int32) : Option (Hs) :=
  (qI 2 0 h (some t) p1).bind fun h1 =>
  (qI 2 1 h1 (some t) p2).bind fun h2 =>
  some h2
set_option maxHeartbeats 4000000 in
set_option maxRecDepth 20000 in
theorem kX2_init (l : Launch) (G : Gl) {N : Nat} {h : Hs} {t : Nat} {p1 : Int32} {p2 : Int32} {r : Hs} (hf : fX2_init N h t p1 p2 = some r) : CT l G yX2_init cX2_init 3 none rmX2_init [.inr (some t), .inl p1, .inl p2] h (none) r := by
  refine mk_CT (by decide) (Nat.le_of_ble_eq_true rfl) ?_
  intro p e s m args below meth c C hret hin
  unfold fX2_init at hf
  refine r_aload_n C dX2_init_0 rfl ?_
  refine r_objInit C dX2_init_1 wd_404 wd_24 wd_25 (by decide) (Nat.le_of_ble_eq_true rfl) ?_
  refine r_aload_n C dX2_init_4 rfl ?_
  refine r_iload_n C dX2_init_5 rfl ?_
  obtain ⟨h1, eh1, hf⟩ := bS hf
  refine r_putI C dX2_init_6 fl_X2_7 (Or.inr ⟨ff_2_0, hin⟩) rfl eh1 ?_
  refine r_aload_n C dX2_init_9 rfl ?_
  refine r_iload_n C dX2_init_10 rfl ?_
  obtain ⟨h2, eh2, hf⟩ := bS hf
  refine r_putI C dX2_init_11 fl_X2_13 (Or.inr ⟨ff_2_1, hin⟩) rfl eh2 ?_
  exact r_vretF C dX2_init_14 hret hf (by decide) (by decide)

theorem dgX3_init_0 : (decode cX3_init 0 = .ok (.aload_n 0, 1)) ∧ (decode cX3_init 1 = .ok (.invokespecial 1, 3)) ∧ (decode cX3_init 4 = .ok (.aload_n 0, 1)) ∧ (decode cX3_init 5 = .ok (.iload_n 1, 1)) ∧ (decode cX3_init 6 = .ok (.bipush 100, 2)) ∧ (decode cX3_init 8 = .ok (.idiv, 1)) ∧ (decode cX3_init 9 = .ok (.putfield 7, 3)) ∧ (decode cX3_init 12 = .ok (.aload_n 0, 1)) ∧ (decode cX3_init 13 = .ok (.iload_n 1, 1)) ∧ (decode cX3_init 14 = .ok (.bipush 100, 2)) ∧ (decode cX3_init 16 = .ok (.irem, 1)) ∧ (decode cX3_init 17 = .ok (.putfield 13, 3)) ∧ True := dkW [(0, .aload_n 0, 1), (1, .invokespecial 1, 3), (4, .aload_n 0, 1), (5, .iload_n 1, 1), (6, .bipush 100, 2), (8, .idiv, 1), (9, .putfield 7, 3), (12, .aload_n 0, 1), (13, .iload_n 1, 1), (14, .bipush 100, 2), (16, .irem, 1), (17, .putfield 13, 3)] 0 (by decide +kernel)
theorem dX3_init_0 : decode cX3_init 0 = .ok (.aload_n 0, 1) := dgX3_init_0.1
theorem dX3_init_1 : decode cX3_init 1 = .ok (.invokespecial 1, 3) := dgX3_init_0.2.1
theorem dX3_init_4 : decode cX3_init 4 = .ok (.aload_n 0, 1) := dgX3_init_0.2.2.1
theorem dX3_init_5 : decode cX3_init 5 = .ok (.iload_n 1, 1) := dgX3_init_0.2.2.2.1
theorem dX3_init_6 : decode cX3_init 6 = .ok (.bipush 100, 2) := dgX3_init_0.2.2.2.2.1
theorem dX3_init_8 : decode cX3_init 8 = .ok (.idiv, 1) := dgX3_init_0.2.2.2.2.2.1
theorem dX3_init_9 : decode cX3_init 9 = .ok (.putfield 7, 3) := dgX3_init_0.2.2.2.2.2.2.1
theorem dX3_init_12 : decode cX3_init 12 = .ok (.aload_n 0, 1) := dgX3_init_0.2.2.2.2.2.2.2.1
theorem dX3_init_13 : decode cX3_init 13 = .ok (.iload_n 1, 1) := dgX3_init_0.2.2.2.2.2.2.2.2.1
theorem dX3_init_14 : decode cX3_init 14 = .ok (.bipush 100, 2) := dgX3_init_0.2.2.2.2.2.2.2.2.2.1
theorem dX3_init_16 : decode cX3_init 16 = .ok (.irem, 1) := dgX3_init_0.2.2.2.2.2.2.2.2.2.2.1
theorem dX3_init_17 : decode cX3_init 17 = .ok (.putfield 13, 3) := dgX3_init_0.2.2.2.2.2.2.2.2.2.2.2.1
theorem dgX3_init_20 : (decode cX3_init 20 = .ok (.aload_n 0, 1)) ∧ (decode cX3_init 21 = .ok (.iload_n 2, 1)) ∧ (decode cX3_init 22 = .ok (.putfield 16, 3)) ∧ (decode cX3_init 25 = .ok (.return_, 1)) ∧ True := dkW [(20, .aload_n 0, 1), (21, .iload_n 2, 1), (22, .putfield 16, 3), (25, .return_, 1)] 20 (by decide +kernel)
theorem dX3_init_20 : decode cX3_init 20 = .ok (.aload_n 0, 1) := dgX3_init_20.1
theorem dX3_init_21 : decode cX3_init 21 = .ok (.iload_n 2, 1) := dgX3_init_20.2.1
theorem dX3_init_22 : decode cX3_init 22 = .ok (.putfield 16, 3) := dgX3_init_20.2.2.1
theorem dX3_init_25 : decode cX3_init 25 = .ok (.return_, 1) := dgX3_init_20.2.2.2.1
abbrev rmX3_init : Room := { frames := 1, cells := 0, slots := 0, locals := 12 }
noncomputable def fX3_init (N : Nat) (h : Hs) (t : Nat) (p1 : Int32) (p2 : Int32) : Option (Hs) :=
  (qI 3 0 h (some t) (p1 / 100)).bind fun h1 =>
  (qI 3 1 h1 (some t) (p1 - p1 / 100 * 100)).bind fun h2 =>
  (qI 3 2 h2 (some t) p2).bind fun h3 =>
  some h3
set_option maxHeartbeats 4000000 in
set_option maxRecDepth 20000 in
theorem kX3_init (l : Launch) (G : Gl) {N : Nat} {h : Hs} {t : Nat} {p1 : Int32} {p2 : Int32} {r : Hs} (hf : fX3_init N h t p1 p2 = some r) : CT l G yX3_init cX3_init 3 none rmX3_init [.inr (some t), .inl p1, .inl p2] h (none) r := by
  refine mk_CT (by decide) (Nat.le_of_ble_eq_true rfl) ?_
  intro p e s m args below meth c C hret hin
  unfold fX3_init at hf
  refine r_aload_n C dX3_init_0 rfl ?_
  refine r_objInit C dX3_init_1 wd_898 wd_24 wd_25 (by decide) (Nat.le_of_ble_eq_true rfl) ?_
  refine r_aload_n C dX3_init_4 rfl ?_
  refine r_iload_n C dX3_init_5 rfl ?_
  refine r_bipush (v := 100) C dX3_init_6 (by decide) ?_
  refine r_idivK C dX3_init_8 (by decide) ?_
  obtain ⟨h1, eh1, hf⟩ := bS hf
  refine r_putI C dX3_init_9 fl_X3_7 (Or.inr ⟨ff_3_0, hin⟩) rfl eh1 ?_
  refine r_aload_n C dX3_init_12 rfl ?_
  refine r_iload_n C dX3_init_13 rfl ?_
  refine r_bipush (v := 100) C dX3_init_14 (by decide) ?_
  refine r_iremK C dX3_init_16 (by decide) ?_
  obtain ⟨h2, eh2, hf⟩ := bS hf
  refine r_putI C dX3_init_17 fl_X3_13 (Or.inr ⟨ff_3_1, hin⟩) rfl eh2 ?_
  refine r_aload_n C dX3_init_20 rfl ?_
  refine r_iload_n C dX3_init_21 rfl ?_
  obtain ⟨h3, eh3, hf⟩ := bS hf
  refine r_putI C dX3_init_22 fl_X3_16 (Or.inr ⟨ff_3_2, hin⟩) rfl eh3 ?_
  exact r_vretF C dX3_init_25 hret hf (by decide) (by decide)

theorem dgX3_area_0 : (decode cX3_area 0 = .ok (.aload_n 0, 1)) ∧ (decode cX3_area 1 = .ok (.getfield 7, 3)) ∧ (decode cX3_area 4 = .ok (.aload_n 0, 1)) ∧ (decode cX3_area 5 = .ok (.getfield 13, 3)) ∧ (decode cX3_area 8 = .ok (.imul, 1)) ∧ (decode cX3_area 9 = .ok (.ireturn, 1)) ∧ True := dkW [(0, .aload_n 0, 1), (1, .getfield 7, 3), (4, .aload_n 0, 1), (5, .getfield 13, 3), (8, .imul, 1), (9, .ireturn, 1)] 0 (by decide +kernel)
theorem dX3_area_0 : decode cX3_area 0 = .ok (.aload_n 0, 1) := dgX3_area_0.1
theorem dX3_area_1 : decode cX3_area 1 = .ok (.getfield 7, 3) := dgX3_area_0.2.1
theorem dX3_area_4 : decode cX3_area 4 = .ok (.aload_n 0, 1) := dgX3_area_0.2.2.1
theorem dX3_area_5 : decode cX3_area 5 = .ok (.getfield 13, 3) := dgX3_area_0.2.2.2.1
theorem dX3_area_8 : decode cX3_area 8 = .ok (.imul, 1) := dgX3_area_0.2.2.2.2.1
theorem dX3_area_9 : decode cX3_area 9 = .ok (.ireturn, 1) := dgX3_area_0.2.2.2.2.2.1
abbrev rmX3_area : Room := { frames := 0, cells := 0, slots := 0, locals := 0 }
noncomputable def fX3_area (N : Nat) (h : Hs) (t : Nat)  : Option (Int32 × Hs) :=
  (oI 3 0 h (some t)).bind fun v1 =>
  (oI 3 1 h (some t)).bind fun v2 =>
  some (v1 * v2, h)
set_option maxHeartbeats 4000000 in
set_option maxRecDepth 20000 in
theorem kX3_area (l : Launch) (G : Gl) {N : Nat} {h : Hs} {t : Nat}  {r : Int32 × Hs} (hf : fX3_area N h t  = some r) : CT l G yX3_area cX3_area 1 (some .int) rmX3_area [.inr (some t)] h (some (.inl r.1)) r.2 := by
  refine mk_CT (by decide) (Nat.le_of_ble_eq_true rfl) ?_
  intro p e s m args below meth c C hret hin
  unfold fX3_area at hf
  refine r_aload_n C dX3_area_0 rfl ?_
  obtain ⟨v1, ev1, hf⟩ := bS hf
  refine r_getI C dX3_area_1 fl_X3_7 rfl ev1 ?_
  refine r_aload_n C dX3_area_4 rfl ?_
  obtain ⟨v2, ev2, hf⟩ := bS hf
  refine r_getI C dX3_area_5 fl_X3_13 rfl ev2 ?_
  refine r_imul C dX3_area_8 ?_
  exact r_iretF C dX3_area_9 hret hf (by decide) (by decide)

theorem dgX3_serves_0 : (decode cX3_serves 0 = .ok (.aload_n 0, 1)) ∧ (decode cX3_serves 1 = .ok (.getfield 7, 3)) ∧ (decode cX3_serves 4 = .ok (.aload_n 1, 1)) ∧ (decode cX3_serves 5 = .ok (.getfield 7, 3)) ∧ (decode cX3_serves 8 = .ok (.if_icmp .lt 18, 3)) ∧ (decode cX3_serves 11 = .ok (.aload_n 0, 1)) ∧ (decode cX3_serves 12 = .ok (.getfield 13, 3)) ∧ (decode cX3_serves 15 = .ok (.aload_n 1, 1)) ∧ (decode cX3_serves 16 = .ok (.getfield 13, 3)) ∧ (decode cX3_serves 19 = .ok (.if_icmp .lt 7, 3)) ∧ (decode cX3_serves 22 = .ok (.iconst 1, 1)) ∧ (decode cX3_serves 23 = .ok (.goto 4, 3)) ∧ True := dkW [(0, .aload_n 0, 1), (1, .getfield 7, 3), (4, .aload_n 1, 1), (5, .getfield 7, 3), (8, .if_icmp .lt 18, 3), (11, .aload_n 0, 1), (12, .getfield 13, 3), (15, .aload_n 1, 1), (16, .getfield 13, 3), (19, .if_icmp .lt 7, 3), (22, .iconst 1, 1), (23, .goto 4, 3)] 0 (by decide +kernel)
theorem dX3_serves_0 : decode cX3_serves 0 = .ok (.aload_n 0, 1) := dgX3_serves_0.1
theorem dX3_serves_1 : decode cX3_serves 1 = .ok (.getfield 7, 3) := dgX3_serves_0.2.1
theorem dX3_serves_4 : decode cX3_serves 4 = .ok (.aload_n 1, 1) := dgX3_serves_0.2.2.1
theorem dX3_serves_5 : decode cX3_serves 5 = .ok (.getfield 7, 3) := dgX3_serves_0.2.2.2.1
theorem dX3_serves_8 : decode cX3_serves 8 = .ok (.if_icmp .lt 18, 3) := dgX3_serves_0.2.2.2.2.1
theorem dX3_serves_11 : decode cX3_serves 11 = .ok (.aload_n 0, 1) := dgX3_serves_0.2.2.2.2.2.1
theorem dX3_serves_12 : decode cX3_serves 12 = .ok (.getfield 13, 3) := dgX3_serves_0.2.2.2.2.2.2.1
theorem dX3_serves_15 : decode cX3_serves 15 = .ok (.aload_n 1, 1) := dgX3_serves_0.2.2.2.2.2.2.2.1
theorem dX3_serves_16 : decode cX3_serves 16 = .ok (.getfield 13, 3) := dgX3_serves_0.2.2.2.2.2.2.2.2.1
theorem dX3_serves_19 : decode cX3_serves 19 = .ok (.if_icmp .lt 7, 3) := dgX3_serves_0.2.2.2.2.2.2.2.2.2.1
theorem dX3_serves_22 : decode cX3_serves 22 = .ok (.iconst 1, 1) := dgX3_serves_0.2.2.2.2.2.2.2.2.2.2.1
theorem dX3_serves_23 : decode cX3_serves 23 = .ok (.goto 4, 3) := dgX3_serves_0.2.2.2.2.2.2.2.2.2.2.2.1
theorem dgX3_serves_26 : (decode cX3_serves 26 = .ok (.iconst 0, 1)) ∧ (decode cX3_serves 27 = .ok (.ireturn, 1)) ∧ True := dkW [(26, .iconst 0, 1), (27, .ireturn, 1)] 26 (by decide +kernel)
theorem dX3_serves_26 : decode cX3_serves 26 = .ok (.iconst 0, 1) := dgX3_serves_26.1
theorem dX3_serves_27 : decode cX3_serves 27 = .ok (.ireturn, 1) := dgX3_serves_26.2.1
abbrev rmX3_serves : Room := { frames := 0, cells := 0, slots := 0, locals := 0 }
noncomputable def fX3_serves_b27 (N : Nat)  (t : Nat) (h : Hs) (u0 : Int32) : Option (Int32 × Hs) :=
  (zc u0).bind fun z1 =>
  some (z1, h)
set_option maxHeartbeats 4000000 in
set_option maxRecDepth 20000 in
theorem wX3_serves_b27 {p : Program} {l : Launch} {e : Env} {s : State} {m : MethodId} {args : Array Value} {below : List Frame} {meth : Method} {c : Code} {G : Gl} {N : Nat} {h : Hs} {r : Int32 × Hs}  {t : Nat} {u0 : Int32} (C : Cx p s m args meth c cX3_serves RX3 2 G) (hret : meth.sig.returnType = (some .boolean))  (hf : fX3_serves_b27 N  t h u0 = some r) : V p l e rmX3_serves s m args below meth c G 2 (MQ below (QcG G (some (.inl r.1)) r.2) args s rmX3_serves.cells rmX3_serves.slots (AG G)) h 0 0 27 [some (.inr (some t)), none] [.inl u0] := by
  unfold fX3_serves_b27 at hf
  obtain ⟨z1, ez1, hf⟩ := bS hf
  exact r_zretF C dX3_serves_27 hret ez1 hf (by decide) (by decide)
noncomputable def fX3_serves_b26 (N : Nat)  (t : Nat) (h : Hs)  : Option (Int32 × Hs) :=
  fX3_serves_b27 N t h 0
set_option maxHeartbeats 4000000 in
set_option maxRecDepth 20000 in
theorem wX3_serves_b26 {p : Program} {l : Launch} {e : Env} {s : State} {m : MethodId} {args : Array Value} {below : List Frame} {meth : Method} {c : Code} {G : Gl} {N : Nat} {h : Hs} {r : Int32 × Hs}  {t : Nat}  (C : Cx p s m args meth c cX3_serves RX3 2 G) (hret : meth.sig.returnType = (some .boolean))  (hf : fX3_serves_b26 N  t h  = some r) : V p l e rmX3_serves s m args below meth c G 2 (MQ below (QcG G (some (.inl r.1)) r.2) args s rmX3_serves.cells rmX3_serves.slots (AG G)) h 0 0 26 [some (.inr (some t)), none] [] := by
  unfold fX3_serves_b26 at hf
  refine r_iconst (v := 0) C dX3_serves_26 (by decide) ?_
  exact V.sub (wX3_serves_b27 C hret hf) (LW_s rfl (LW_n (LW_e)))
noncomputable def fX3_serves (N : Nat) (h : Hs) (t : Nat) (p1 : Option Nat) : Option (Int32 × Hs) :=
  (oI 3 0 h (some t)).bind fun v1 =>
  (oI 3 0 h p1).bind fun v2 =>
  if v1 < v2 then (
  fX3_serves_b26 N t h)
  else (oI 3 1 h (some t)).bind fun v3 =>
  (oI 3 1 h p1).bind fun v4 =>
  if v3 < v4 then (
  fX3_serves_b26 N t h)
  else fX3_serves_b27 N t h 1
set_option maxHeartbeats 4000000 in
set_option maxRecDepth 20000 in
theorem kX3_serves (l : Launch) (G : Gl) {N : Nat} {h : Hs} {t : Nat} {p1 : Option Nat} {r : Int32 × Hs} (hf : fX3_serves N h t p1 = some r) : CT l G yX3_serves cX3_serves 2 (some .boolean) rmX3_serves [.inr (some t), .inr p1] h (some (.inl r.1)) r.2 := by
  refine mk_CT (by decide) (Nat.le_of_ble_eq_true rfl) ?_
  intro p e s m args below meth c C hret hin
  unfold fX3_serves at hf
  refine r_aload_n C dX3_serves_0 rfl ?_
  obtain ⟨v1, ev1, hf⟩ := bS hf
  refine r_getI C dX3_serves_1 fl_X3_7 rfl ev1 ?_
  refine r_aload_n C dX3_serves_4 rfl ?_
  obtain ⟨v2, ev2, hf⟩ := bS hf
  refine r_getI C dX3_serves_5 fl_X3_7 rfl ev2 ?_
  refine r_icmp_lt (tgt := 26) C dX3_serves_8 (by decide) (fun hc => ?_) (fun hc => ?_)
  · have hf := ifT hf hc
    exact V.sub (wX3_serves_b26 C hret hf) (LW_s rfl (LW_n (LW_e)))
  · have hf := ifF hf hc
    refine r_aload_n C dX3_serves_11 rfl ?_
    obtain ⟨v3, ev3, hf⟩ := bS hf
    refine r_getI C dX3_serves_12 fl_X3_13 rfl ev3 ?_
    refine r_aload_n C dX3_serves_15 rfl ?_
    obtain ⟨v4, ev4, hf⟩ := bS hf
    refine r_getI C dX3_serves_16 fl_X3_13 rfl ev4 ?_
    refine r_icmp_lt (tgt := 26) C dX3_serves_19 (by decide) (fun hc => ?_) (fun hc => ?_)
    · have hf := ifT hf hc
      exact V.sub (wX3_serves_b26 C hret hf) (LW_s rfl (LW_n (LW_e)))
    · have hf := ifF hf hc
      refine r_iconst (v := 1) C dX3_serves_22 (by decide) ?_
      refine r_goto (tgt := 27) C dX3_serves_23 (by decide) ?_
      exact V.sub (wX3_serves_b27 C hret hf) (LW_s rfl (LW_n (LW_e)))

theorem dgX3_priceFor_0 : (decode cX3_priceFor 0 = .ok (.aload_n 0, 1)) ∧ (decode cX3_priceFor 1 = .ok (.getfield 16, 3)) ∧ (decode cX3_priceFor 4 = .ok (.aload_n 1, 1)) ∧ (decode cX3_priceFor 5 = .ok (.getfield 16, 3)) ∧ (decode cX3_priceFor 8 = .ok (.if_icmp .ne 7, 3)) ∧ (decode cX3_priceFor 11 = .ok (.iconst 0, 1)) ∧ (decode cX3_priceFor 12 = .ok (.goto 7, 3)) ∧ (decode cX3_priceFor 15 = .ok (.aload_n 0, 1)) ∧ (decode cX3_priceFor 16 = .ok (.invokevirtual 19, 3)) ∧ (decode cX3_priceFor 19 = .ok (.istore_n 2, 1)) ∧ (decode cX3_priceFor 20 = .ok (.iload_n 2, 1)) ∧ (decode cX3_priceFor 21 = .ok (.aload_n 0, 1)) ∧ True := dkW [(0, .aload_n 0, 1), (1, .getfield 16, 3), (4, .aload_n 1, 1), (5, .getfield 16, 3), (8, .if_icmp .ne 7, 3), (11, .iconst 0, 1), (12, .goto 7, 3), (15, .aload_n 0, 1), (16, .invokevirtual 19, 3), (19, .istore_n 2, 1), (20, .iload_n 2, 1), (21, .aload_n 0, 1)] 0 (by decide +kernel)
theorem dX3_priceFor_0 : decode cX3_priceFor 0 = .ok (.aload_n 0, 1) := dgX3_priceFor_0.1
theorem dX3_priceFor_1 : decode cX3_priceFor 1 = .ok (.getfield 16, 3) := dgX3_priceFor_0.2.1
theorem dX3_priceFor_4 : decode cX3_priceFor 4 = .ok (.aload_n 1, 1) := dgX3_priceFor_0.2.2.1
theorem dX3_priceFor_5 : decode cX3_priceFor 5 = .ok (.getfield 16, 3) := dgX3_priceFor_0.2.2.2.1
theorem dX3_priceFor_8 : decode cX3_priceFor 8 = .ok (.if_icmp .ne 7, 3) := dgX3_priceFor_0.2.2.2.2.1
theorem dX3_priceFor_11 : decode cX3_priceFor 11 = .ok (.iconst 0, 1) := dgX3_priceFor_0.2.2.2.2.2.1
theorem dX3_priceFor_12 : decode cX3_priceFor 12 = .ok (.goto 7, 3) := dgX3_priceFor_0.2.2.2.2.2.2.1
theorem dX3_priceFor_15 : decode cX3_priceFor 15 = .ok (.aload_n 0, 1) := dgX3_priceFor_0.2.2.2.2.2.2.2.1
theorem dX3_priceFor_16 : decode cX3_priceFor 16 = .ok (.invokevirtual 19, 3) := dgX3_priceFor_0.2.2.2.2.2.2.2.2.1
theorem dX3_priceFor_19 : decode cX3_priceFor 19 = .ok (.istore_n 2, 1) := dgX3_priceFor_0.2.2.2.2.2.2.2.2.2.1
theorem dX3_priceFor_20 : decode cX3_priceFor 20 = .ok (.iload_n 2, 1) := dgX3_priceFor_0.2.2.2.2.2.2.2.2.2.2.1
theorem dX3_priceFor_21 : decode cX3_priceFor 21 = .ok (.aload_n 0, 1) := dgX3_priceFor_0.2.2.2.2.2.2.2.2.2.2.2.1
theorem dgX3_priceFor_22 : (decode cX3_priceFor 22 = .ok (.invokevirtual 19, 3)) ∧ (decode cX3_priceFor 25 = .ok (.iadd, 1)) ∧ (decode cX3_priceFor 26 = .ok (.aload_n 1, 1)) ∧ (decode cX3_priceFor 27 = .ok (.invokevirtual 19, 3)) ∧ (decode cX3_priceFor 30 = .ok (.isub, 1)) ∧ (decode cX3_priceFor 31 = .ok (.ireturn, 1)) ∧ True := dkW [(22, .invokevirtual 19, 3), (25, .iadd, 1), (26, .aload_n 1, 1), (27, .invokevirtual 19, 3), (30, .isub, 1), (31, .ireturn, 1)] 22 (by decide +kernel)
theorem dX3_priceFor_22 : decode cX3_priceFor 22 = .ok (.invokevirtual 19, 3) := dgX3_priceFor_22.1
theorem dX3_priceFor_25 : decode cX3_priceFor 25 = .ok (.iadd, 1) := dgX3_priceFor_22.2.1
theorem dX3_priceFor_26 : decode cX3_priceFor 26 = .ok (.aload_n 1, 1) := dgX3_priceFor_22.2.2.1
theorem dX3_priceFor_27 : decode cX3_priceFor 27 = .ok (.invokevirtual 19, 3) := dgX3_priceFor_22.2.2.2.1
theorem dX3_priceFor_30 : decode cX3_priceFor 30 = .ok (.isub, 1) := dgX3_priceFor_22.2.2.2.2.1
theorem dX3_priceFor_31 : decode cX3_priceFor 31 = .ok (.ireturn, 1) := dgX3_priceFor_22.2.2.2.2.2.1
abbrev rmX3_priceFor : Room := { frames := 1, cells := 0, slots := 0, locals := 20 }
noncomputable def fX3_priceFor_b19 (N : Nat)  (t : Nat) (h : Hs) (w1 : Option Nat) (u0 : Int32) : Option (Int32 × Hs) :=
  (rc 3 h (some t)).bind fun a2 =>
  (fX3_area N h a2 ).bind fun r1 =>
  (rc 3 r1.2 w1).bind fun a4 =>
  (fX3_area N r1.2 a4 ).bind fun r3 =>
  some ((u0 + r1.1) - r3.1, r3.2)
set_option maxHeartbeats 4000000 in
set_option maxRecDepth 20000 in
theorem wX3_priceFor_b19 {p : Program} {l : Launch} {e : Env} {s : State} {m : MethodId} {args : Array Value} {below : List Frame} {meth : Method} {c : Code} {G : Gl} {N : Nat} {h : Hs} {r : Int32 × Hs}  {t : Nat} {w1 : Option Nat} {u0 : Int32} (C : Cx p s m args meth c cX3_priceFor RX3 3 G) (hret : meth.sig.returnType = (some .int))  (hf : fX3_priceFor_b19 N  t h w1 u0 = some r) : V p l e rmX3_priceFor s m args below meth c G 3 (MQ below (QcG G (some (.inl r.1)) r.2) args s rmX3_priceFor.cells rmX3_priceFor.slots (AG G)) h 0 0 19 [some (.inr (some t)), some (.inr w1), none] [.inl u0] := by
  unfold fX3_priceFor_b19 at hf
  refine r_istore_n C dX3_priceFor_19 (by decide) ?_
  refine r_iload_n C dX3_priceFor_20 rfl ?_
  refine r_aload_n C dX3_priceFor_21 rfl ?_
  obtain ⟨a2, ea2, hf⟩ := bS hf
  obtain ⟨r1, er1, hf⟩ := bS hf
  refine r_invV1 (As := []) (ci := 3) C dX3_priceFor_22 mcX3_area wd_952 wd_953 wd_954 rfl rfl (by decide) ⟨by decide, by decide⟩ ⟨by decide, by decide⟩ rfl (Nat.le_of_ble_eq_true rfl) ea2 (kX3_area l G er1) ?_
  refine r_iadd C dX3_priceFor_25 ?_
  refine r_aload_n C dX3_priceFor_26 rfl ?_
  obtain ⟨a4, ea4, hf⟩ := bS hf
  obtain ⟨r3, er3, hf⟩ := bS hf
  refine r_invV1 (As := []) (ci := 3) C dX3_priceFor_27 mcX3_area wd_952 wd_953 wd_954 rfl rfl (by decide) ⟨by decide, by decide⟩ ⟨by decide, by decide⟩ rfl (Nat.le_of_ble_eq_true rfl) ea4 (kX3_area l G er3) ?_
  refine r_isub C dX3_priceFor_30 ?_
  exact r_iretF C dX3_priceFor_31 hret hf (by decide) (by decide)
noncomputable def fX3_priceFor (N : Nat) (h : Hs) (t : Nat) (p1 : Option Nat) : Option (Int32 × Hs) :=
  (oI 3 2 h (some t)).bind fun v1 =>
  (oI 3 2 h p1).bind fun v2 =>
  if v1 = v2 then (
  fX3_priceFor_b19 N t h p1 0)
  else (rc 3 h (some t)).bind fun a4 =>
  (fX3_area N h a4 ).bind fun r3 =>
  fX3_priceFor_b19 N t r3.2 p1 r3.1
set_option maxHeartbeats 4000000 in
set_option maxRecDepth 20000 in
theorem kX3_priceFor (l : Launch) (G : Gl) {N : Nat} {h : Hs} {t : Nat} {p1 : Option Nat} {r : Int32 × Hs} (hf : fX3_priceFor N h t p1 = some r) : CT l G yX3_priceFor cX3_priceFor 3 (some .int) rmX3_priceFor [.inr (some t), .inr p1] h (some (.inl r.1)) r.2 := by
  refine mk_CT (by decide) (Nat.le_of_ble_eq_true rfl) ?_
  intro p e s m args below meth c C hret hin
  unfold fX3_priceFor at hf
  refine r_aload_n C dX3_priceFor_0 rfl ?_
  obtain ⟨v1, ev1, hf⟩ := bS hf
  refine r_getI C dX3_priceFor_1 fl_X3_16 rfl ev1 ?_
  refine r_aload_n C dX3_priceFor_4 rfl ?_
  obtain ⟨v2, ev2, hf⟩ := bS hf
  refine r_getI C dX3_priceFor_5 fl_X3_16 rfl ev2 ?_
  refine r_icmp_ne (tgt := 15) C dX3_priceFor_8 (by decide) (fun hc => ?_) (fun hc => ?_)
  · have hf := ifF hf hc
    refine r_aload_n C dX3_priceFor_15 rfl ?_
    obtain ⟨a4, ea4, hf⟩ := bS hf
    obtain ⟨r3, er3, hf⟩ := bS hf
    refine r_invV1 (As := []) (ci := 3) C dX3_priceFor_16 mcX3_area wd_952 wd_953 wd_954 rfl rfl (by decide) ⟨by decide, by decide⟩ ⟨by decide, by decide⟩ rfl (Nat.le_of_ble_eq_true rfl) ea4 (kX3_area l G er3) ?_
    exact V.sub (wX3_priceFor_b19 C hret hf) (LW_s rfl (LW_s rfl (LW_n (LW_e))))
  · have hf := ifT hf hc
    refine r_iconst (v := 0) C dX3_priceFor_11 (by decide) ?_
    refine r_goto (tgt := 19) C dX3_priceFor_12 (by decide) ?_
    exact V.sub (wX3_priceFor_b19 C hret hf) (LW_s rfl (LW_s rfl (LW_n (LW_e))))

theorem dgX4_init_0 : (decode cX4_init 0 = .ok (.aload_n 0, 1)) ∧ (decode cX4_init 1 = .ok (.invokespecial 3, 3)) ∧ (decode cX4_init 4 = .ok (.aload_n 0, 1)) ∧ (decode cX4_init 5 = .ok (.iload_n 1, 1)) ∧ (decode cX4_init 6 = .ok (.putfield 9, 3)) ∧ (decode cX4_init 9 = .ok (.aload_n 0, 1)) ∧ (decode cX4_init 10 = .ok (.aload_n 2, 1)) ∧ (decode cX4_init 11 = .ok (.putfield 15, 3)) ∧ (decode cX4_init 14 = .ok (.aload_n 0, 1)) ∧ (decode cX4_init 15 = .ok (.iload_n 3, 1)) ∧ (decode cX4_init 16 = .ok (.putfield 19, 3)) ∧ (decode cX4_init 19 = .ok (.aload_n 0, 1)) ∧ True := dkW [(0, .aload_n 0, 1), (1, .invokespecial 3, 3), (4, .aload_n 0, 1), (5, .iload_n 1, 1), (6, .putfield 9, 3), (9, .aload_n 0, 1), (10, .aload_n 2, 1), (11, .putfield 15, 3), (14, .aload_n 0, 1), (15, .iload_n 3, 1), (16, .putfield 19, 3), (19, .aload_n 0, 1)] 0 (by decide +kernel)
theorem dX4_init_0 : decode cX4_init 0 = .ok (.aload_n 0, 1) := dgX4_init_0.1
theorem dX4_init_1 : decode cX4_init 1 = .ok (.invokespecial 3, 3) := dgX4_init_0.2.1
theorem dX4_init_4 : decode cX4_init 4 = .ok (.aload_n 0, 1) := dgX4_init_0.2.2.1
theorem dX4_init_5 : decode cX4_init 5 = .ok (.iload_n 1, 1) := dgX4_init_0.2.2.2.1
theorem dX4_init_6 : decode cX4_init 6 = .ok (.putfield 9, 3) := dgX4_init_0.2.2.2.2.1
theorem dX4_init_9 : decode cX4_init 9 = .ok (.aload_n 0, 1) := dgX4_init_0.2.2.2.2.2.1
theorem dX4_init_10 : decode cX4_init 10 = .ok (.aload_n 2, 1) := dgX4_init_0.2.2.2.2.2.2.1
theorem dX4_init_11 : decode cX4_init 11 = .ok (.putfield 15, 3) := dgX4_init_0.2.2.2.2.2.2.2.1
theorem dX4_init_14 : decode cX4_init 14 = .ok (.aload_n 0, 1) := dgX4_init_0.2.2.2.2.2.2.2.2.1
theorem dX4_init_15 : decode cX4_init 15 = .ok (.iload_n 3, 1) := dgX4_init_0.2.2.2.2.2.2.2.2.2.1
theorem dX4_init_16 : decode cX4_init 16 = .ok (.putfield 19, 3) := dgX4_init_0.2.2.2.2.2.2.2.2.2.2.1
theorem dX4_init_19 : decode cX4_init 19 = .ok (.aload_n 0, 1) := dgX4_init_0.2.2.2.2.2.2.2.2.2.2.2.1
theorem dgX4_init_20 : (decode cX4_init 20 = .ok (.iload 4, 2)) ∧ (decode cX4_init 22 = .ok (.putfield 22, 3)) ∧ (decode cX4_init 25 = .ok (.aload_n 0, 1)) ∧ (decode cX4_init 26 = .ok (.iload 5, 2)) ∧ (decode cX4_init 28 = .ok (.putfield 25, 3)) ∧ (decode cX4_init 31 = .ok (.return_, 1)) ∧ True := dkW [(20, .iload 4, 2), (22, .putfield 22, 3), (25, .aload_n 0, 1), (26, .iload 5, 2), (28, .putfield 25, 3), (31, .return_, 1)] 20 (by decide +kernel)
theorem dX4_init_20 : decode cX4_init 20 = .ok (.iload 4, 2) := dgX4_init_20.1
theorem dX4_init_22 : decode cX4_init 22 = .ok (.putfield 22, 3) := dgX4_init_20.2.1
theorem dX4_init_25 : decode cX4_init 25 = .ok (.aload_n 0, 1) := dgX4_init_20.2.2.1
theorem dX4_init_26 : decode cX4_init 26 = .ok (.iload 5, 2) := dgX4_init_20.2.2.2.1
theorem dX4_init_28 : decode cX4_init 28 = .ok (.putfield 25, 3) := dgX4_init_20.2.2.2.2.1
theorem dX4_init_31 : decode cX4_init 31 = .ok (.return_, 1) := dgX4_init_20.2.2.2.2.2.1
abbrev rmX4_init : Room := { frames := 1, cells := 0, slots := 0, locals := 12 }
noncomputable def fX4_init (N : Nat) (h : Hs) (t : Nat) (p1 : Int32) (p2 : Option Nat) (p3 : Int32) (p4 : Int32) (p5 : Int32) : Option (Hs) :=
  (qI 4 0 h (some t) p1).bind fun h1 =>
  (qR 4 1 h1 (some t) p2).bind fun h2 =>
  (qI 4 2 h2 (some t) p3).bind fun h3 =>
  (qI 4 3 h3 (some t) p4).bind fun h4 =>
  (qI 4 4 h4 (some t) p5).bind fun h5 =>
  some h5
set_option maxHeartbeats 4000000 in
set_option maxRecDepth 20000 in
theorem kX4_init (l : Launch) (G : Gl) {N : Nat} {h : Hs} {t : Nat} {p1 : Int32} {p2 : Option Nat} {p3 : Int32} {p4 : Int32} {p5 : Int32} {r : Hs} (hf : fX4_init N h t p1 p2 p3 p4 p5 = some r) : CT l G yX4_init cX4_init 6 none rmX4_init [.inr (some t), .inl p1, .inr p2, .inl p3, .inl p4, .inl p5] h (none) r := by
  refine mk_CT (by decide) (Nat.le_of_ble_eq_true rfl) ?_
  intro p e s m args below meth c C hret hin
  unfold fX4_init at hf
  refine r_aload_n C dX4_init_0 rfl ?_
  refine r_objInit C dX4_init_1 wd_429 wd_24 wd_25 (by decide) (Nat.le_of_ble_eq_true rfl) ?_
  refine r_aload_n C dX4_init_4 rfl ?_
  refine r_iload_n C dX4_init_5 rfl ?_
  obtain ⟨h1, eh1, hf⟩ := bS hf
  refine r_putI C dX4_init_6 fl_X4_9 (Or.inr ⟨ff_4_0, hin⟩) rfl eh1 ?_
  refine r_aload_n C dX4_init_9 rfl ?_
  refine r_aload_n C dX4_init_10 rfl ?_
  obtain ⟨h2, eh2, hf⟩ := bS hf
  refine r_putR C dX4_init_11 fl_X4_15 (Or.inr ⟨ff_4_1, hin⟩) rfl eh2 ?_
  refine r_aload_n C dX4_init_14 rfl ?_
  refine r_iload_n C dX4_init_15 rfl ?_
  obtain ⟨h3, eh3, hf⟩ := bS hf
  refine r_putI C dX4_init_16 fl_X4_19 (Or.inr ⟨ff_4_2, hin⟩) rfl eh3 ?_
  refine r_aload_n C dX4_init_19 rfl ?_
  refine r_iload C dX4_init_20 rfl ?_
  obtain ⟨h4, eh4, hf⟩ := bS hf
  refine r_putI C dX4_init_22 fl_X4_22 (Or.inr ⟨ff_4_3, hin⟩) rfl eh4 ?_
  refine r_aload_n C dX4_init_25 rfl ?_
  refine r_iload C dX4_init_26 rfl ?_
  obtain ⟨h5, eh5, hf⟩ := bS hf
  refine r_putI C dX4_init_28 fl_X4_25 (Or.inr ⟨ff_4_4, hin⟩) rfl eh5 ?_
  exact r_vretF C dX4_init_31 hret hf (by decide) (by decide)

theorem dgX4_tell_0 : (decode cX4_tell 0 = .ok (.iload_n 1, 1)) ∧ True := dkW [(0, .iload_n 1, 1)] 0 (by decide +kernel)
theorem dX4_tell_0 : decode cX4_tell 0 = .ok (.iload_n 1, 1) := dgX4_tell_0.1
theorem dX4_tell_1 : decode cX4_tell 1 = .ok (.tableswitch 123 0 7 #[47, 55, 60, 65, 70, 75, 94, 110], 47) := by decide +kernel
theorem dgX4_tell_48 : (decode cX4_tell 48 = .ok (.aload_n 0, 1)) ∧ (decode cX4_tell 49 = .ok (.getfield 15, 3)) ∧ (decode cX4_tell 52 = .ok (.getfield 28, 3)) ∧ (decode cX4_tell 55 = .ok (.ireturn, 1)) ∧ (decode cX4_tell 56 = .ok (.aload_n 0, 1)) ∧ (decode cX4_tell 57 = .ok (.getfield 22, 3)) ∧ (decode cX4_tell 60 = .ok (.ireturn, 1)) ∧ (decode cX4_tell 61 = .ok (.aload_n 0, 1)) ∧ (decode cX4_tell 62 = .ok (.getfield 19, 3)) ∧ (decode cX4_tell 65 = .ok (.ireturn, 1)) ∧ (decode cX4_tell 66 = .ok (.aload_n 0, 1)) ∧ (decode cX4_tell 67 = .ok (.getfield 25, 3)) ∧ True := dkW [(48, .aload_n 0, 1), (49, .getfield 15, 3), (52, .getfield 28, 3), (55, .ireturn, 1), (56, .aload_n 0, 1), (57, .getfield 22, 3), (60, .ireturn, 1), (61, .aload_n 0, 1), (62, .getfield 19, 3), (65, .ireturn, 1), (66, .aload_n 0, 1), (67, .getfield 25, 3)] 48 (by decide +kernel)
theorem dX4_tell_48 : decode cX4_tell 48 = .ok (.aload_n 0, 1) := dgX4_tell_48.1
theorem dX4_tell_49 : decode cX4_tell 49 = .ok (.getfield 15, 3) := dgX4_tell_48.2.1
theorem dX4_tell_52 : decode cX4_tell 52 = .ok (.getfield 28, 3) := dgX4_tell_48.2.2.1
theorem dX4_tell_55 : decode cX4_tell 55 = .ok (.ireturn, 1) := dgX4_tell_48.2.2.2.1
theorem dX4_tell_56 : decode cX4_tell 56 = .ok (.aload_n 0, 1) := dgX4_tell_48.2.2.2.2.1
theorem dX4_tell_57 : decode cX4_tell 57 = .ok (.getfield 22, 3) := dgX4_tell_48.2.2.2.2.2.1
theorem dX4_tell_60 : decode cX4_tell 60 = .ok (.ireturn, 1) := dgX4_tell_48.2.2.2.2.2.2.1
theorem dX4_tell_61 : decode cX4_tell 61 = .ok (.aload_n 0, 1) := dgX4_tell_48.2.2.2.2.2.2.2.1
theorem dX4_tell_62 : decode cX4_tell 62 = .ok (.getfield 19, 3) := dgX4_tell_48.2.2.2.2.2.2.2.2.1
theorem dX4_tell_65 : decode cX4_tell 65 = .ok (.ireturn, 1) := dgX4_tell_48.2.2.2.2.2.2.2.2.2.1
theorem dX4_tell_66 : decode cX4_tell 66 = .ok (.aload_n 0, 1) := dgX4_tell_48.2.2.2.2.2.2.2.2.2.2.1
theorem dX4_tell_67 : decode cX4_tell 67 = .ok (.getfield 25, 3) := dgX4_tell_48.2.2.2.2.2.2.2.2.2.2.2.1
theorem dgX4_tell_70 : (decode cX4_tell 70 = .ok (.ireturn, 1)) ∧ (decode cX4_tell 71 = .ok (.aload_n 0, 1)) ∧ (decode cX4_tell 72 = .ok (.invokevirtual 31, 3)) ∧ (decode cX4_tell 75 = .ok (.ireturn, 1)) ∧ (decode cX4_tell 76 = .ok (.aload_n 0, 1)) ∧ (decode cX4_tell 77 = .ok (.getfield 35, 3)) ∧ (decode cX4_tell 80 = .ok (.ifnonnull 7, 3)) ∧ True := dkW [(70, .ireturn, 1), (71, .aload_n 0, 1), (72, .invokevirtual 31, 3), (75, .ireturn, 1), (76, .aload_n 0, 1), (77, .getfield 35, 3), (80, .ifnonnull 7, 3)] 70 (by decide +kernel)
theorem dX4_tell_70 : decode cX4_tell 70 = .ok (.ireturn, 1) := dgX4_tell_70.1
theorem dX4_tell_71 : decode cX4_tell 71 = .ok (.aload_n 0, 1) := dgX4_tell_70.2.1
theorem dX4_tell_72 : decode cX4_tell 72 = .ok (.invokevirtual 31, 3) := dgX4_tell_70.2.2.1
theorem dX4_tell_75 : decode cX4_tell 75 = .ok (.ireturn, 1) := dgX4_tell_70.2.2.2.1
theorem dX4_tell_76 : decode cX4_tell 76 = .ok (.aload_n 0, 1) := dgX4_tell_70.2.2.2.2.1
theorem dX4_tell_77 : decode cX4_tell 77 = .ok (.getfield 35, 3) := dgX4_tell_70.2.2.2.2.2.1
theorem dX4_tell_80 : decode cX4_tell 80 = .ok (.ifnonnull 7, 3) := dgX4_tell_70.2.2.2.2.2.2.1
theorem dX4_tell_83 : decode cX4_tell 83 = .ok (.iconst (-1), 1) := by decide +kernel
theorem dgX4_tell_84 : (decode cX4_tell 84 = .ok (.goto 10, 3)) ∧ (decode cX4_tell 87 = .ok (.aload_n 0, 1)) ∧ (decode cX4_tell 88 = .ok (.getfield 35, 3)) ∧ (decode cX4_tell 91 = .ok (.getfield 39, 3)) ∧ (decode cX4_tell 94 = .ok (.ireturn, 1)) ∧ (decode cX4_tell 95 = .ok (.aload_n 0, 1)) ∧ (decode cX4_tell 96 = .ok (.getfield 35, 3)) ∧ (decode cX4_tell 99 = .ok (.ifnonnull 7, 3)) ∧ (decode cX4_tell 102 = .ok (.iconst 0, 1)) ∧ (decode cX4_tell 103 = .ok (.goto 7, 3)) ∧ (decode cX4_tell 106 = .ok (.aload_n 0, 1)) ∧ (decode cX4_tell 107 = .ok (.getfield 42, 3)) ∧ True := dkW [(84, .goto 10, 3), (87, .aload_n 0, 1), (88, .getfield 35, 3), (91, .getfield 39, 3), (94, .ireturn, 1), (95, .aload_n 0, 1), (96, .getfield 35, 3), (99, .ifnonnull 7, 3), (102, .iconst 0, 1), (103, .goto 7, 3), (106, .aload_n 0, 1), (107, .getfield 42, 3)] 84 (by decide +kernel)
theorem dX4_tell_84 : decode cX4_tell 84 = .ok (.goto 10, 3) := dgX4_tell_84.1
theorem dX4_tell_87 : decode cX4_tell 87 = .ok (.aload_n 0, 1) := dgX4_tell_84.2.1
theorem dX4_tell_88 : decode cX4_tell 88 = .ok (.getfield 35, 3) := dgX4_tell_84.2.2.1
theorem dX4_tell_91 : decode cX4_tell 91 = .ok (.getfield 39, 3) := dgX4_tell_84.2.2.2.1
theorem dX4_tell_94 : decode cX4_tell 94 = .ok (.ireturn, 1) := dgX4_tell_84.2.2.2.2.1
theorem dX4_tell_95 : decode cX4_tell 95 = .ok (.aload_n 0, 1) := dgX4_tell_84.2.2.2.2.2.1
theorem dX4_tell_96 : decode cX4_tell 96 = .ok (.getfield 35, 3) := dgX4_tell_84.2.2.2.2.2.2.1
theorem dX4_tell_99 : decode cX4_tell 99 = .ok (.ifnonnull 7, 3) := dgX4_tell_84.2.2.2.2.2.2.2.1
theorem dX4_tell_102 : decode cX4_tell 102 = .ok (.iconst 0, 1) := dgX4_tell_84.2.2.2.2.2.2.2.2.1
theorem dX4_tell_103 : decode cX4_tell 103 = .ok (.goto 7, 3) := dgX4_tell_84.2.2.2.2.2.2.2.2.2.1
theorem dX4_tell_106 : decode cX4_tell 106 = .ok (.aload_n 0, 1) := dgX4_tell_84.2.2.2.2.2.2.2.2.2.2.1
theorem dX4_tell_107 : decode cX4_tell 107 = .ok (.getfield 42, 3) := dgX4_tell_84.2.2.2.2.2.2.2.2.2.2.2.1
theorem dgX4_tell_110 : (decode cX4_tell 110 = .ok (.ireturn, 1)) ∧ (decode cX4_tell 111 = .ok (.aload_n 0, 1)) ∧ (decode cX4_tell 112 = .ok (.getfield 45, 3)) ∧ (decode cX4_tell 115 = .ok (.ifCond .eq 7, 3)) ∧ (decode cX4_tell 118 = .ok (.iconst 1, 1)) ∧ (decode cX4_tell 119 = .ok (.goto 4, 3)) ∧ (decode cX4_tell 122 = .ok (.iconst 0, 1)) ∧ (decode cX4_tell 123 = .ok (.ireturn, 1)) ∧ (decode cX4_tell 124 = .ok (.ldc 49, 2)) ∧ (decode cX4_tell 126 = .ok (.ireturn, 1)) ∧ True := dkW [(110, .ireturn, 1), (111, .aload_n 0, 1), (112, .getfield 45, 3), (115, .ifCond .eq 7, 3), (118, .iconst 1, 1), (119, .goto 4, 3), (122, .iconst 0, 1), (123, .ireturn, 1), (124, .ldc 49, 2), (126, .ireturn, 1)] 110 (by decide +kernel)
theorem dX4_tell_110 : decode cX4_tell 110 = .ok (.ireturn, 1) := dgX4_tell_110.1
theorem dX4_tell_111 : decode cX4_tell 111 = .ok (.aload_n 0, 1) := dgX4_tell_110.2.1
theorem dX4_tell_112 : decode cX4_tell 112 = .ok (.getfield 45, 3) := dgX4_tell_110.2.2.1
theorem dX4_tell_115 : decode cX4_tell 115 = .ok (.ifCond .eq 7, 3) := dgX4_tell_110.2.2.2.1
theorem dX4_tell_118 : decode cX4_tell 118 = .ok (.iconst 1, 1) := dgX4_tell_110.2.2.2.2.1
theorem dX4_tell_119 : decode cX4_tell 119 = .ok (.goto 4, 3) := dgX4_tell_110.2.2.2.2.2.1
theorem dX4_tell_122 : decode cX4_tell 122 = .ok (.iconst 0, 1) := dgX4_tell_110.2.2.2.2.2.2.1
theorem dX4_tell_123 : decode cX4_tell 123 = .ok (.ireturn, 1) := dgX4_tell_110.2.2.2.2.2.2.2.1
theorem dX4_tell_124 : decode cX4_tell 124 = .ok (.ldc 49, 2) := dgX4_tell_110.2.2.2.2.2.2.2.2.1
theorem dX4_tell_126 : decode cX4_tell 126 = .ok (.ireturn, 1) := dgX4_tell_110.2.2.2.2.2.2.2.2.2.1
abbrev rmX4_tell : Room := { frames := 2, cells := 0, slots := 0, locals := 41 }
noncomputable def fX4_tell_b94 (N : Nat)  (t : Nat) (h : Hs) (u0 : Int32) : Option (Int32 × Hs) :=
  some (u0, h)
set_option maxHeartbeats 4000000 in
set_option maxRecDepth 20000 in
theorem wX4_tell_b94 {p : Program} {l : Launch} {e : Env} {s : State} {m : MethodId} {args : Array Value} {below : List Frame} {meth : Method} {c : Code} {G : Gl} {N : Nat} {h : Hs} {r : Int32 × Hs}  {t : Nat} {u0 : Int32} (C : Cx p s m args meth c cX4_tell RX4 2 G) (hret : meth.sig.returnType = (some .int))  (hf : fX4_tell_b94 N  t h u0 = some r) : V p l e rmX4_tell s m args below meth c G 2 (MQ below (QcG G (some (.inl r.1)) r.2) args s rmX4_tell.cells rmX4_tell.slots (AG G)) h 0 0 94 [some (.inr (some t)), none] [.inl u0] := by
  unfold fX4_tell_b94 at hf
  exact r_iretF C dX4_tell_94 hret hf (by decide) (by decide)
noncomputable def fX4_tell_b110 (N : Nat)  (t : Nat) (h : Hs) (u0 : Int32) : Option (Int32 × Hs) :=
  some (u0, h)
set_option maxHeartbeats 4000000 in
set_option maxRecDepth 20000 in
theorem wX4_tell_b110 {p : Program} {l : Launch} {e : Env} {s : State} {m : MethodId} {args : Array Value} {below : List Frame} {meth : Method} {c : Code} {G : Gl} {N : Nat} {h : Hs} {r : Int32 × Hs}  {t : Nat} {u0 : Int32} (C : Cx p s m args meth c cX4_tell RX4 2 G) (hret : meth.sig.returnType = (some .int))  (hf : fX4_tell_b110 N  t h u0 = some r) : V p l e rmX4_tell s m args below meth c G 2 (MQ below (QcG G (some (.inl r.1)) r.2) args s rmX4_tell.cells rmX4_tell.slots (AG G)) h 0 0 110 [some (.inr (some t)), none] [.inl u0] := by
  unfold fX4_tell_b110 at hf
  exact r_iretF C dX4_tell_110 hret hf (by decide) (by decide)
noncomputable def fX4_tell_b123 (N : Nat)  (t : Nat) (h : Hs) (u0 : Int32) : Option (Int32 × Hs) :=
  some (u0, h)
set_option maxHeartbeats 4000000 in
set_option maxRecDepth 20000 in
theorem wX4_tell_b123 {p : Program} {l : Launch} {e : Env} {s : State} {m : MethodId} {args : Array Value} {below : List Frame} {meth : Method} {c : Code} {G : Gl} {N : Nat} {h : Hs} {r : Int32 × Hs}  {t : Nat} {u0 : Int32} (C : Cx p s m args meth c cX4_tell RX4 2 G) (hret : meth.sig.returnType = (some .int))  (hf : fX4_tell_b123 N  t h u0 = some r) : V p l e rmX4_tell s m args below meth c G 2 (MQ below (QcG G (some (.inl r.1)) r.2) args s rmX4_tell.cells rmX4_tell.slots (AG G)) h 0 0 123 [some (.inr (some t)), none] [.inl u0] := by
  unfold fX4_tell_b123 at hf
  exact r_iretF C dX4_tell_123 hret hf (by decide) (by decide)
noncomputable def fX4_tell (N : Nat) (h : Hs) (t : Nat) (p1 : Int32) : Option (Int32 × Hs) :=
  if p1 = 0 then (
  (oR 4 1 h (some t)).bind fun o1 =>
  (oI 9 0 h o1).bind fun v2 =>
  some (v2, h))
  else if p1 = 1 then (
  (oI 4 3 h (some t)).bind fun v3 =>
  some (v3, h))
  else if p1 = 2 then (
  (oI 4 2 h (some t)).bind fun v4 =>
  some (v4, h))
  else if p1 = 3 then (
  (oI 4 4 h (some t)).bind fun v5 =>
  some (v5, h))
  else if p1 = 4 then (
  (rc 4 h (some t)).bind fun a7 =>
  (fX4_load N h a7 ).bind fun r6 =>
  some (r6.1, r6.2))
  else if p1 = 5 then (
  (oR 4 5 h (some t)).bind fun o8 =>
  if o8 = none then (
  fX4_tell_b94 N t h (-1))
  else (oR 4 5 h (some t)).bind fun o9 =>
  (oI 2 0 h o9).bind fun v10 =>
  fX4_tell_b94 N t h v10)
  else if p1 = 6 then (
  (oR 4 5 h (some t)).bind fun o11 =>
  if o11 = none then (
  fX4_tell_b110 N t h 0)
  else (oI 4 7 h (some t)).bind fun v12 =>
  fX4_tell_b110 N t h v12)
  else if p1 = 7 then (
  (oI 4 8 h (some t)).bind fun v13 =>
  if v13 = 0 then (
  fX4_tell_b123 N t h 0)
  else fX4_tell_b123 N t h 1)
  else some ((-2000000000), h)
set_option maxHeartbeats 4000000 in
set_option maxRecDepth 20000 in
theorem kX4_tell (l : Launch) (G : Gl) {N : Nat} {h : Hs} {t : Nat} {p1 : Int32} {r : Int32 × Hs} (hf : fX4_tell N h t p1 = some r) : CT l G yX4_tell cX4_tell 2 (some .int) rmX4_tell [.inr (some t), .inl p1] h (some (.inl r.1)) r.2 := by
  refine mk_CT (by decide) (Nat.le_of_ble_eq_true rfl) ?_
  intro p e s m args below meth c C hret hin
  unfold fX4_tell at hf
  refine r_iload_n C dX4_tell_0 rfl ?_
  by_cases k0 : p1 = 0
  · have hf := ifT hf k0
    refine r_tabIn (tgt := 48) (off := 47) C dX4_tell_1 (by rw [k0]; decide) (by rw [k0]; decide) (by rw [k0]; rfl) (by decide) ?_
    refine r_aload_n C dX4_tell_48 rfl ?_
    obtain ⟨o1, eo1, hf⟩ := bS hf
    refine r_getR C dX4_tell_49 fl_X4_15 rfl eo1 ?_
    obtain ⟨v2, ev2, hf⟩ := bS hf
    refine r_getI C dX4_tell_52 fl_X4_28 rfl ev2 ?_
    exact r_iretF C dX4_tell_55 hret hf (by decide) (by decide)
  · have hf := ifF hf k0
    by_cases k1 : p1 = 1
    · have hf := ifT hf k1
      refine r_tabIn (tgt := 56) (off := 55) C dX4_tell_1 (by rw [k1]; decide) (by rw [k1]; decide) (by rw [k1]; rfl) (by decide) ?_
      refine r_aload_n C dX4_tell_56 rfl ?_
      obtain ⟨v3, ev3, hf⟩ := bS hf
      refine r_getI C dX4_tell_57 fl_X4_22 rfl ev3 ?_
      exact r_iretF C dX4_tell_60 hret hf (by decide) (by decide)
    · have hf := ifF hf k1
      by_cases k2 : p1 = 2
      · have hf := ifT hf k2
        refine r_tabIn (tgt := 61) (off := 60) C dX4_tell_1 (by rw [k2]; decide) (by rw [k2]; decide) (by rw [k2]; rfl) (by decide) ?_
        refine r_aload_n C dX4_tell_61 rfl ?_
        obtain ⟨v4, ev4, hf⟩ := bS hf
        refine r_getI C dX4_tell_62 fl_X4_19 rfl ev4 ?_
        exact r_iretF C dX4_tell_65 hret hf (by decide) (by decide)
      · have hf := ifF hf k2
        by_cases k3 : p1 = 3
        · have hf := ifT hf k3
          refine r_tabIn (tgt := 66) (off := 65) C dX4_tell_1 (by rw [k3]; decide) (by rw [k3]; decide) (by rw [k3]; rfl) (by decide) ?_
          refine r_aload_n C dX4_tell_66 rfl ?_
          obtain ⟨v5, ev5, hf⟩ := bS hf
          refine r_getI C dX4_tell_67 fl_X4_25 rfl ev5 ?_
          exact r_iretF C dX4_tell_70 hret hf (by decide) (by decide)
        · have hf := ifF hf k3
          by_cases k4 : p1 = 4
          · have hf := ifT hf k4
            refine r_tabIn (tgt := 71) (off := 70) C dX4_tell_1 (by rw [k4]; decide) (by rw [k4]; decide) (by rw [k4]; rfl) (by decide) ?_
            refine r_aload_n C dX4_tell_71 rfl ?_
            obtain ⟨a7, ea7, hf⟩ := bS hf
            obtain ⟨r6, er6, hf⟩ := bS hf
            refine r_invV1 (As := []) (ci := 4) C dX4_tell_72 mcX4_load wd_493 wd_494 wd_495 rfl rfl (by decide) ⟨by decide, by decide⟩ ⟨by decide, by decide⟩ rfl (Nat.le_of_ble_eq_true rfl) ea7 (kX4_load l G er6) ?_
            exact r_iretF C dX4_tell_75 hret hf (by decide) (by decide)
          · have hf := ifF hf k4
            by_cases k5 : p1 = 5
            · have hf := ifT hf k5
              refine r_tabIn (tgt := 76) (off := 75) C dX4_tell_1 (by rw [k5]; decide) (by rw [k5]; decide) (by rw [k5]; rfl) (by decide) ?_
              refine r_aload_n C dX4_tell_76 rfl ?_
              obtain ⟨o8, eo8, hf⟩ := bS hf
              refine r_getR C dX4_tell_77 fl_X4_35 rfl eo8 ?_
              refine r_ifnonnull (tgt := 87) C dX4_tell_80 (by decide) (fun hc => ?_) (fun hc => ?_)
              · have hf := ifF hf hc
                refine r_aload_n C dX4_tell_87 rfl ?_
                obtain ⟨o9, eo9, hf⟩ := bS hf
                refine r_getR C dX4_tell_88 fl_X4_35 rfl eo9 ?_
                obtain ⟨v10, ev10, hf⟩ := bS hf
                refine r_getI C dX4_tell_91 fl_X4_39 rfl ev10 ?_
                exact V.sub (wX4_tell_b94 C hret hf) (LW_s rfl (LW_n (LW_e)))
              · have hf := ifT hf hc
                refine r_iconst (v := -1) C dX4_tell_83 (by decide) ?_
                refine r_goto (tgt := 94) C dX4_tell_84 (by decide) ?_
                exact V.sub (wX4_tell_b94 C hret hf) (LW_s rfl (LW_n (LW_e)))
            · have hf := ifF hf k5
              by_cases k6 : p1 = 6
              · have hf := ifT hf k6
                refine r_tabIn (tgt := 95) (off := 94) C dX4_tell_1 (by rw [k6]; decide) (by rw [k6]; decide) (by rw [k6]; rfl) (by decide) ?_
                refine r_aload_n C dX4_tell_95 rfl ?_
                obtain ⟨o11, eo11, hf⟩ := bS hf
                refine r_getR C dX4_tell_96 fl_X4_35 rfl eo11 ?_
                refine r_ifnonnull (tgt := 106) C dX4_tell_99 (by decide) (fun hc => ?_) (fun hc => ?_)
                · have hf := ifF hf hc
                  refine r_aload_n C dX4_tell_106 rfl ?_
                  obtain ⟨v12, ev12, hf⟩ := bS hf
                  refine r_getI C dX4_tell_107 fl_X4_42 rfl ev12 ?_
                  exact V.sub (wX4_tell_b110 C hret hf) (LW_s rfl (LW_n (LW_e)))
                · have hf := ifT hf hc
                  refine r_iconst (v := 0) C dX4_tell_102 (by decide) ?_
                  refine r_goto (tgt := 110) C dX4_tell_103 (by decide) ?_
                  exact V.sub (wX4_tell_b110 C hret hf) (LW_s rfl (LW_n (LW_e)))
              · have hf := ifF hf k6
                by_cases k7 : p1 = 7
                · have hf := ifT hf k7
                  refine r_tabIn (tgt := 111) (off := 110) C dX4_tell_1 (by rw [k7]; decide) (by rw [k7]; decide) (by rw [k7]; rfl) (by decide) ?_
                  refine r_aload_n C dX4_tell_111 rfl ?_
                  obtain ⟨v13, ev13, hf⟩ := bS hf
                  refine r_getI C dX4_tell_112 fl_X4_45 rfl ev13 ?_
                  refine r_if_eq (tgt := 122) C dX4_tell_115 (by decide) (fun hc => ?_) (fun hc => ?_)
                  · have hf := ifT hf hc
                    refine r_iconst (v := 0) C dX4_tell_122 (by decide) ?_
                    exact V.sub (wX4_tell_b123 C hret hf) (LW_s rfl (LW_n (LW_e)))
                  · have hf := ifF hf hc
                    refine r_iconst (v := 1) C dX4_tell_118 (by decide) ?_
                    refine r_goto (tgt := 123) C dX4_tell_119 (by decide) ?_
                    exact V.sub (wX4_tell_b123 C hret hf) (LW_s rfl (LW_n (LW_e)))
                · have hf := ifF hf k7
                  refine r_tabOut (tgt := 124) C dX4_tell_1 (sw_out (lo := 0) (hi := 7) [0, 1, 2, 3, 4, 5, 6, 7] (by decide) (List.forall_mem_cons.mpr ⟨k0, List.forall_mem_cons.mpr ⟨k1, List.forall_mem_cons.mpr ⟨k2, List.forall_mem_cons.mpr ⟨k3, List.forall_mem_cons.mpr ⟨k4, List.forall_mem_cons.mpr ⟨k5, List.forall_mem_cons.mpr ⟨k6, List.forall_mem_cons.mpr ⟨k7, fun _ q => absurd q List.not_mem_nil⟩⟩⟩⟩⟩⟩⟩⟩)) (by decide) ?_
                  refine r_ldc C dX4_tell_124 wd_500 ?_
                  exact r_iretF C dX4_tell_126 hret hf (by decide) (by decide)

theorem dgX4_doneAfter_0 : (decode cX4_doneAfter 0 = .ok (.aload_n 0, 1)) ∧ (decode cX4_doneAfter 1 = .ok (.getfield 35, 3)) ∧ (decode cX4_doneAfter 4 = .ok (.ifnonnull 10, 3)) ∧ (decode cX4_doneAfter 7 = .ok (.aload_n 0, 1)) ∧ (decode cX4_doneAfter 8 = .ok (.getfield 42, 3)) ∧ (decode cX4_doneAfter 11 = .ok (.goto 17, 3)) ∧ (decode cX4_doneAfter 14 = .ok (.aload_n 0, 1)) ∧ (decode cX4_doneAfter 15 = .ok (.getfield 42, 3)) ∧ (decode cX4_doneAfter 18 = .ok (.aload_n 0, 1)) ∧ (decode cX4_doneAfter 19 = .ok (.getfield 35, 3)) ∧ (decode cX4_doneAfter 22 = .ok (.getfield 60, 3)) ∧ (decode cX4_doneAfter 25 = .ok (.iload_n 1, 1)) ∧ True := dkW [(0, .aload_n 0, 1), (1, .getfield 35, 3), (4, .ifnonnull 10, 3), (7, .aload_n 0, 1), (8, .getfield 42, 3), (11, .goto 17, 3), (14, .aload_n 0, 1), (15, .getfield 42, 3), (18, .aload_n 0, 1), (19, .getfield 35, 3), (22, .getfield 60, 3), (25, .iload_n 1, 1)] 0 (by decide +kernel)
theorem dX4_doneAfter_0 : decode cX4_doneAfter 0 = .ok (.aload_n 0, 1) := dgX4_doneAfter_0.1
theorem dX4_doneAfter_1 : decode cX4_doneAfter 1 = .ok (.getfield 35, 3) := dgX4_doneAfter_0.2.1
theorem dX4_doneAfter_4 : decode cX4_doneAfter 4 = .ok (.ifnonnull 10, 3) := dgX4_doneAfter_0.2.2.1
theorem dX4_doneAfter_7 : decode cX4_doneAfter 7 = .ok (.aload_n 0, 1) := dgX4_doneAfter_0.2.2.2.1
theorem dX4_doneAfter_8 : decode cX4_doneAfter 8 = .ok (.getfield 42, 3) := dgX4_doneAfter_0.2.2.2.2.1
theorem dX4_doneAfter_11 : decode cX4_doneAfter 11 = .ok (.goto 17, 3) := dgX4_doneAfter_0.2.2.2.2.2.1
theorem dX4_doneAfter_14 : decode cX4_doneAfter 14 = .ok (.aload_n 0, 1) := dgX4_doneAfter_0.2.2.2.2.2.2.1
theorem dX4_doneAfter_15 : decode cX4_doneAfter 15 = .ok (.getfield 42, 3) := dgX4_doneAfter_0.2.2.2.2.2.2.2.1
theorem dX4_doneAfter_18 : decode cX4_doneAfter 18 = .ok (.aload_n 0, 1) := dgX4_doneAfter_0.2.2.2.2.2.2.2.2.1
theorem dX4_doneAfter_19 : decode cX4_doneAfter 19 = .ok (.getfield 35, 3) := dgX4_doneAfter_0.2.2.2.2.2.2.2.2.2.1
theorem dX4_doneAfter_22 : decode cX4_doneAfter 22 = .ok (.getfield 60, 3) := dgX4_doneAfter_0.2.2.2.2.2.2.2.2.2.2.1
theorem dX4_doneAfter_25 : decode cX4_doneAfter 25 = .ok (.iload_n 1, 1) := dgX4_doneAfter_0.2.2.2.2.2.2.2.2.2.2.2.1
theorem dgX4_doneAfter_26 : (decode cX4_doneAfter 26 = .ok (.imul, 1)) ∧ (decode cX4_doneAfter 27 = .ok (.iadd, 1)) ∧ (decode cX4_doneAfter 28 = .ok (.ireturn, 1)) ∧ True := dkW [(26, .imul, 1), (27, .iadd, 1), (28, .ireturn, 1)] 26 (by decide +kernel)
theorem dX4_doneAfter_26 : decode cX4_doneAfter 26 = .ok (.imul, 1) := dgX4_doneAfter_26.1
theorem dX4_doneAfter_27 : decode cX4_doneAfter 27 = .ok (.iadd, 1) := dgX4_doneAfter_26.2.1
theorem dX4_doneAfter_28 : decode cX4_doneAfter 28 = .ok (.ireturn, 1) := dgX4_doneAfter_26.2.2.1
abbrev rmX4_doneAfter : Room := { frames := 0, cells := 0, slots := 0, locals := 0 }
noncomputable def fX4_doneAfter_b28 (N : Nat)  (t : Nat) (h : Hs) (u0 : Int32) : Option (Int32 × Hs) :=
  some (u0, h)
set_option maxHeartbeats 4000000 in
set_option maxRecDepth 20000 in
theorem wX4_doneAfter_b28 {p : Program} {l : Launch} {e : Env} {s : State} {m : MethodId} {args : Array Value} {below : List Frame} {meth : Method} {c : Code} {G : Gl} {N : Nat} {h : Hs} {r : Int32 × Hs}  {t : Nat} {u0 : Int32} (C : Cx p s m args meth c cX4_doneAfter RX4 2 G) (hret : meth.sig.returnType = (some .int))  (hf : fX4_doneAfter_b28 N  t h u0 = some r) : V p l e rmX4_doneAfter s m args below meth c G 2 (MQ below (QcG G (some (.inl r.1)) r.2) args s rmX4_doneAfter.cells rmX4_doneAfter.slots (AG G)) h 0 0 28 [some (.inr (some t)), none] [.inl u0] := by
  unfold fX4_doneAfter_b28 at hf
  exact r_iretF C dX4_doneAfter_28 hret hf (by decide) (by decide)
noncomputable def fX4_doneAfter (N : Nat) (h : Hs) (t : Nat) (p1 : Int32) : Option (Int32 × Hs) :=
  (oR 4 5 h (some t)).bind fun o1 =>
  if o1 = none then (
  (oI 4 7 h (some t)).bind fun v5 =>
  fX4_doneAfter_b28 N t h v5)
  else (oI 4 7 h (some t)).bind fun v2 =>
  (oR 4 5 h (some t)).bind fun o3 =>
  (oI 2 1 h o3).bind fun v4 =>
  fX4_doneAfter_b28 N t h (v2 + (v4 * p1))
set_option maxHeartbeats 4000000 in
set_option maxRecDepth 20000 in
theorem kX4_doneAfter (l : Launch) (G : Gl) {N : Nat} {h : Hs} {t : Nat} {p1 : Int32} {r : Int32 × Hs} (hf : fX4_doneAfter N h t p1 = some r) : CT l G yX4_doneAfter cX4_doneAfter 2 (some .int) rmX4_doneAfter [.inr (some t), .inl p1] h (some (.inl r.1)) r.2 := by
  refine mk_CT (by decide) (Nat.le_of_ble_eq_true rfl) ?_
  intro p e s m args below meth c C hret hin
  unfold fX4_doneAfter at hf
  refine r_aload_n C dX4_doneAfter_0 rfl ?_
  obtain ⟨o1, eo1, hf⟩ := bS hf
  refine r_getR C dX4_doneAfter_1 fl_X4_35 rfl eo1 ?_
  refine r_ifnonnull (tgt := 14) C dX4_doneAfter_4 (by decide) (fun hc => ?_) (fun hc => ?_)
  · have hf := ifF hf hc
    refine r_aload_n C dX4_doneAfter_14 rfl ?_
    obtain ⟨v2, ev2, hf⟩ := bS hf
    refine r_getI C dX4_doneAfter_15 fl_X4_42 rfl ev2 ?_
    refine r_aload_n C dX4_doneAfter_18 rfl ?_
    obtain ⟨o3, eo3, hf⟩ := bS hf
    refine r_getR C dX4_doneAfter_19 fl_X4_35 rfl eo3 ?_
    obtain ⟨v4, ev4, hf⟩ := bS hf
    refine r_getI C dX4_doneAfter_22 fl_X4_60 rfl ev4 ?_
    refine r_iload_n C dX4_doneAfter_25 rfl ?_
    refine r_imul C dX4_doneAfter_26 ?_
    refine r_iadd C dX4_doneAfter_27 ?_
    exact V.sub (wX4_doneAfter_b28 C hret hf) (LW_s rfl (LW_n (LW_e)))
  · have hf := ifT hf hc
    refine r_aload_n C dX4_doneAfter_7 rfl ?_
    obtain ⟨v5, ev5, hf⟩ := bS hf
    refine r_getI C dX4_doneAfter_8 fl_X4_42 rfl ev5 ?_
    refine r_goto (tgt := 28) C dX4_doneAfter_11 (by decide) ?_
    exact V.sub (wX4_doneAfter_b28 C hret hf) (LW_s rfl (LW_n (LW_e)))

theorem dgX4_pullAt_0 : (decode cX4_pullAt 0 = .ok (.aload_n 0, 1)) ∧ (decode cX4_pullAt 1 = .ok (.getfield 35, 3)) ∧ (decode cX4_pullAt 4 = .ok (.ifnonnull 5, 3)) ∧ (decode cX4_pullAt 7 = .ok (.iconst 0, 1)) ∧ (decode cX4_pullAt 8 = .ok (.ireturn, 1)) ∧ (decode cX4_pullAt 9 = .ok (.aload_n 0, 1)) ∧ (decode cX4_pullAt 10 = .ok (.getfield 19, 3)) ∧ (decode cX4_pullAt 13 = .ok (.aload_n 0, 1)) ∧ (decode cX4_pullAt 14 = .ok (.getfield 15, 3)) ∧ (decode cX4_pullAt 17 = .ok (.getfield 50, 3)) ∧ (decode cX4_pullAt 20 = .ok (.aload_n 0, 1)) ∧ (decode cX4_pullAt 21 = .ok (.getfield 35, 3)) ∧ True := dkW [(0, .aload_n 0, 1), (1, .getfield 35, 3), (4, .ifnonnull 5, 3), (7, .iconst 0, 1), (8, .ireturn, 1), (9, .aload_n 0, 1), (10, .getfield 19, 3), (13, .aload_n 0, 1), (14, .getfield 15, 3), (17, .getfield 50, 3), (20, .aload_n 0, 1), (21, .getfield 35, 3)] 0 (by decide +kernel)
theorem dX4_pullAt_0 : decode cX4_pullAt 0 = .ok (.aload_n 0, 1) := dgX4_pullAt_0.1
theorem dX4_pullAt_1 : decode cX4_pullAt 1 = .ok (.getfield 35, 3) := dgX4_pullAt_0.2.1
theorem dX4_pullAt_4 : decode cX4_pullAt 4 = .ok (.ifnonnull 5, 3) := dgX4_pullAt_0.2.2.1
theorem dX4_pullAt_7 : decode cX4_pullAt 7 = .ok (.iconst 0, 1) := dgX4_pullAt_0.2.2.2.1
theorem dX4_pullAt_8 : decode cX4_pullAt 8 = .ok (.ireturn, 1) := dgX4_pullAt_0.2.2.2.2.1
theorem dX4_pullAt_9 : decode cX4_pullAt 9 = .ok (.aload_n 0, 1) := dgX4_pullAt_0.2.2.2.2.2.1
theorem dX4_pullAt_10 : decode cX4_pullAt 10 = .ok (.getfield 19, 3) := dgX4_pullAt_0.2.2.2.2.2.2.1
theorem dX4_pullAt_13 : decode cX4_pullAt 13 = .ok (.aload_n 0, 1) := dgX4_pullAt_0.2.2.2.2.2.2.2.1
theorem dX4_pullAt_14 : decode cX4_pullAt 14 = .ok (.getfield 15, 3) := dgX4_pullAt_0.2.2.2.2.2.2.2.2.1
theorem dX4_pullAt_17 : decode cX4_pullAt 17 = .ok (.getfield 50, 3) := dgX4_pullAt_0.2.2.2.2.2.2.2.2.2.1
theorem dX4_pullAt_20 : decode cX4_pullAt 20 = .ok (.aload_n 0, 1) := dgX4_pullAt_0.2.2.2.2.2.2.2.2.2.2.1
theorem dX4_pullAt_21 : decode cX4_pullAt 21 = .ok (.getfield 35, 3) := dgX4_pullAt_0.2.2.2.2.2.2.2.2.2.2.2.1
theorem dgX4_pullAt_24 : (decode cX4_pullAt 24 = .ok (.getfield 60, 3)) ∧ (decode cX4_pullAt 27 = .ok (.imul, 1)) ∧ (decode cX4_pullAt 28 = .ok (.aload_n 0, 1)) ∧ (decode cX4_pullAt 29 = .ok (.getfield 22, 3)) ∧ (decode cX4_pullAt 32 = .ok (.invokestatic 57, 3)) ∧ (decode cX4_pullAt 35 = .ok (.imul, 1)) ∧ (decode cX4_pullAt 36 = .ok (.aload_n 0, 1)) ∧ (decode cX4_pullAt 37 = .ok (.getfield 15, 3)) ∧ (decode cX4_pullAt 40 = .ok (.getfield 50, 3)) ∧ (decode cX4_pullAt 43 = .ok (.iload_n 1, 1)) ∧ (decode cX4_pullAt 44 = .ok (.aload_n 0, 1)) ∧ (decode cX4_pullAt 45 = .ok (.getfield 63, 3)) ∧ True := dkW [(24, .getfield 60, 3), (27, .imul, 1), (28, .aload_n 0, 1), (29, .getfield 22, 3), (32, .invokestatic 57, 3), (35, .imul, 1), (36, .aload_n 0, 1), (37, .getfield 15, 3), (40, .getfield 50, 3), (43, .iload_n 1, 1), (44, .aload_n 0, 1), (45, .getfield 63, 3)] 24 (by decide +kernel)
theorem dX4_pullAt_24 : decode cX4_pullAt 24 = .ok (.getfield 60, 3) := dgX4_pullAt_24.1
theorem dX4_pullAt_27 : decode cX4_pullAt 27 = .ok (.imul, 1) := dgX4_pullAt_24.2.1
theorem dX4_pullAt_28 : decode cX4_pullAt 28 = .ok (.aload_n 0, 1) := dgX4_pullAt_24.2.2.1
theorem dX4_pullAt_29 : decode cX4_pullAt 29 = .ok (.getfield 22, 3) := dgX4_pullAt_24.2.2.2.1
theorem dX4_pullAt_32 : decode cX4_pullAt 32 = .ok (.invokestatic 57, 3) := dgX4_pullAt_24.2.2.2.2.1
theorem dX4_pullAt_35 : decode cX4_pullAt 35 = .ok (.imul, 1) := dgX4_pullAt_24.2.2.2.2.2.1
theorem dX4_pullAt_36 : decode cX4_pullAt 36 = .ok (.aload_n 0, 1) := dgX4_pullAt_24.2.2.2.2.2.2.1
theorem dX4_pullAt_37 : decode cX4_pullAt 37 = .ok (.getfield 15, 3) := dgX4_pullAt_24.2.2.2.2.2.2.2.1
theorem dX4_pullAt_40 : decode cX4_pullAt 40 = .ok (.getfield 50, 3) := dgX4_pullAt_24.2.2.2.2.2.2.2.2.1
theorem dX4_pullAt_43 : decode cX4_pullAt 43 = .ok (.iload_n 1, 1) := dgX4_pullAt_24.2.2.2.2.2.2.2.2.2.1
theorem dX4_pullAt_44 : decode cX4_pullAt 44 = .ok (.aload_n 0, 1) := dgX4_pullAt_24.2.2.2.2.2.2.2.2.2.2.1
theorem dX4_pullAt_45 : decode cX4_pullAt 45 = .ok (.getfield 63, 3) := dgX4_pullAt_24.2.2.2.2.2.2.2.2.2.2.2.1
theorem dgX4_pullAt_48 : (decode cX4_pullAt 48 = .ok (.isub, 1)) ∧ (decode cX4_pullAt 49 = .ok (.imul, 1)) ∧ (decode cX4_pullAt 50 = .ok (.iadd, 1)) ∧ (decode cX4_pullAt 51 = .ok (.ireturn, 1)) ∧ True := dkW [(48, .isub, 1), (49, .imul, 1), (50, .iadd, 1), (51, .ireturn, 1)] 48 (by decide +kernel)
theorem dX4_pullAt_48 : decode cX4_pullAt 48 = .ok (.isub, 1) := dgX4_pullAt_48.1
theorem dX4_pullAt_49 : decode cX4_pullAt 49 = .ok (.imul, 1) := dgX4_pullAt_48.2.1
theorem dX4_pullAt_50 : decode cX4_pullAt 50 = .ok (.iadd, 1) := dgX4_pullAt_48.2.2.1
theorem dX4_pullAt_51 : decode cX4_pullAt 51 = .ok (.ireturn, 1) := dgX4_pullAt_48.2.2.2.1
abbrev rmX4_pullAt : Room := { frames := 1, cells := 0, slots := 0, locals := 21 }
noncomputable def fX4_pullAt (N : Nat) (h : Hs) (t : Nat) (p1 : Int32) : Option (Int32 × Hs) :=
  (oR 4 5 h (some t)).bind fun o1 =>
  if o1 = none then (
  some (0, h))
  else (oI 4 2 h (some t)).bind fun v2 =>
  (oR 4 1 h (some t)).bind fun o3 =>
  (oI 9 3 h o3).bind fun v4 =>
  (oR 4 5 h (some t)).bind fun o5 =>
  (oI 2 1 h o5).bind fun v6 =>
  (oI 4 3 h (some t)).bind fun v7 =>
  (fX11_quotient N h (v4 * v6) v7).bind fun r8 =>
  (oR 4 1 r8.2 (some t)).bind fun o9 =>
  (oI 9 3 r8.2 o9).bind fun v10 =>
  (oI 4 6 r8.2 (some t)).bind fun v11 =>
  some ((v2 * r8.1) + (v10 * (p1 - v11)), r8.2)
set_option maxHeartbeats 4000000 in
set_option maxRecDepth 20000 in
theorem kX4_pullAt (l : Launch) (G : Gl) {N : Nat} {h : Hs} {t : Nat} {p1 : Int32} {r : Int32 × Hs} (hf : fX4_pullAt N h t p1 = some r) : CT l G yX4_pullAt cX4_pullAt 2 (some .int) rmX4_pullAt [.inr (some t), .inl p1] h (some (.inl r.1)) r.2 := by
  refine mk_CT (by decide) (Nat.le_of_ble_eq_true rfl) ?_
  intro p e s m args below meth c C hret hin
  unfold fX4_pullAt at hf
  refine r_aload_n C dX4_pullAt_0 rfl ?_
  obtain ⟨o1, eo1, hf⟩ := bS hf
  refine r_getR C dX4_pullAt_1 fl_X4_35 rfl eo1 ?_
  refine r_ifnonnull (tgt := 9) C dX4_pullAt_4 (by decide) (fun hc => ?_) (fun hc => ?_)
  · have hf := ifF hf hc
    refine r_aload_n C dX4_pullAt_9 rfl ?_
    obtain ⟨v2, ev2, hf⟩ := bS hf
    refine r_getI C dX4_pullAt_10 fl_X4_19 rfl ev2 ?_
    refine r_aload_n C dX4_pullAt_13 rfl ?_
    obtain ⟨o3, eo3, hf⟩ := bS hf
    refine r_getR C dX4_pullAt_14 fl_X4_15 rfl eo3 ?_
    obtain ⟨v4, ev4, hf⟩ := bS hf
    refine r_getI C dX4_pullAt_17 fl_X4_50 rfl ev4 ?_
    refine r_aload_n C dX4_pullAt_20 rfl ?_
    obtain ⟨o5, eo5, hf⟩ := bS hf
    refine r_getR C dX4_pullAt_21 fl_X4_35 rfl eo5 ?_
    obtain ⟨v6, ev6, hf⟩ := bS hf
    refine r_getI C dX4_pullAt_24 fl_X4_60 rfl ev6 ?_
    refine r_imul C dX4_pullAt_27 ?_
    refine r_aload_n C dX4_pullAt_28 rfl ?_
    obtain ⟨v7, ev7, hf⟩ := bS hf
    refine r_getI C dX4_pullAt_29 fl_X4_22 rfl ev7 ?_
    obtain ⟨r8, er8, hf⟩ := bS hf
    refine r_invSN1 (As := [.inl (v4 * v6), .inl v7]) (host := "StageMachine") C dX4_pullAt_32 mcX11_quotient (by decide) wd_572 ⟨by decide, by decide⟩ ⟨by decide, by decide⟩ rfl (Nat.le_of_ble_eq_true rfl) (kX11_quotient l G er8) ?_
    refine r_imul C dX4_pullAt_35 ?_
    refine r_aload_n C dX4_pullAt_36 rfl ?_
    obtain ⟨o9, eo9, hf⟩ := bS hf
    refine r_getR C dX4_pullAt_37 fl_X4_15 rfl eo9 ?_
    obtain ⟨v10, ev10, hf⟩ := bS hf
    refine r_getI C dX4_pullAt_40 fl_X4_50 rfl ev10 ?_
    refine r_iload_n C dX4_pullAt_43 rfl ?_
    refine r_aload_n C dX4_pullAt_44 rfl ?_
    obtain ⟨v11, ev11, hf⟩ := bS hf
    refine r_getI C dX4_pullAt_45 fl_X4_63 rfl ev11 ?_
    refine r_isub C dX4_pullAt_48 ?_
    refine r_imul C dX4_pullAt_49 ?_
    refine r_iadd C dX4_pullAt_50 ?_
    exact r_iretF C dX4_pullAt_51 hret hf (by decide) (by decide)
  · have hf := ifT hf hc
    refine r_iconst (v := 0) C dX4_pullAt_7 (by decide) ?_
    exact r_iretF C dX4_pullAt_8 hret hf (by decide) (by decide)

theorem dgX4_stepsToNextPlace_0 : (decode cX4_stepsToNextPlace 0 = .ok (.aload_n 0, 1)) ∧ (decode cX4_stepsToNextPlace 1 = .ok (.getfield 35, 3)) ∧ (decode cX4_stepsToNextPlace 4 = .ok (.ifnonnull 7, 3)) ∧ (decode cX4_stepsToNextPlace 7 = .ok (.sipush 9999, 3)) ∧ (decode cX4_stepsToNextPlace 10 = .ok (.ireturn, 1)) ∧ (decode cX4_stepsToNextPlace 11 = .ok (.bipush 100, 2)) ∧ (decode cX4_stepsToNextPlace 13 = .ok (.aload_n 0, 1)) ∧ (decode cX4_stepsToNextPlace 14 = .ok (.getfield 22, 3)) ∧ (decode cX4_stepsToNextPlace 17 = .ok (.imul, 1)) ∧ (decode cX4_stepsToNextPlace 18 = .ok (.istore_n 3, 1)) ∧ (decode cX4_stepsToNextPlace 19 = .ok (.iload_n 1, 1)) ∧ (decode cX4_stepsToNextPlace 20 = .ok (.aload_n 0, 1)) ∧ True := dkW [(0, .aload_n 0, 1), (1, .getfield 35, 3), (4, .ifnonnull 7, 3), (7, .sipush 9999, 3), (10, .ireturn, 1), (11, .bipush 100, 2), (13, .aload_n 0, 1), (14, .getfield 22, 3), (17, .imul, 1), (18, .istore_n 3, 1), (19, .iload_n 1, 1), (20, .aload_n 0, 1)] 0 (by decide +kernel)
theorem dX4_stepsToNextPlace_0 : decode cX4_stepsToNextPlace 0 = .ok (.aload_n 0, 1) := dgX4_stepsToNextPlace_0.1
theorem dX4_stepsToNextPlace_1 : decode cX4_stepsToNextPlace 1 = .ok (.getfield 35, 3) := dgX4_stepsToNextPlace_0.2.1
theorem dX4_stepsToNextPlace_4 : decode cX4_stepsToNextPlace 4 = .ok (.ifnonnull 7, 3) := dgX4_stepsToNextPlace_0.2.2.1
theorem dX4_stepsToNextPlace_7 : decode cX4_stepsToNextPlace 7 = .ok (.sipush 9999, 3) := dgX4_stepsToNextPlace_0.2.2.2.1
theorem dX4_stepsToNextPlace_10 : decode cX4_stepsToNextPlace 10 = .ok (.ireturn, 1) := dgX4_stepsToNextPlace_0.2.2.2.2.1
theorem dX4_stepsToNextPlace_11 : decode cX4_stepsToNextPlace 11 = .ok (.bipush 100, 2) := dgX4_stepsToNextPlace_0.2.2.2.2.2.1
theorem dX4_stepsToNextPlace_13 : decode cX4_stepsToNextPlace 13 = .ok (.aload_n 0, 1) := dgX4_stepsToNextPlace_0.2.2.2.2.2.2.1
theorem dX4_stepsToNextPlace_14 : decode cX4_stepsToNextPlace 14 = .ok (.getfield 22, 3) := dgX4_stepsToNextPlace_0.2.2.2.2.2.2.2.1
theorem dX4_stepsToNextPlace_17 : decode cX4_stepsToNextPlace 17 = .ok (.imul, 1) := dgX4_stepsToNextPlace_0.2.2.2.2.2.2.2.2.1
theorem dX4_stepsToNextPlace_18 : decode cX4_stepsToNextPlace 18 = .ok (.istore_n 3, 1) := dgX4_stepsToNextPlace_0.2.2.2.2.2.2.2.2.2.1
theorem dX4_stepsToNextPlace_19 : decode cX4_stepsToNextPlace 19 = .ok (.iload_n 1, 1) := dgX4_stepsToNextPlace_0.2.2.2.2.2.2.2.2.2.2.1
theorem dX4_stepsToNextPlace_20 : decode cX4_stepsToNextPlace 20 = .ok (.aload_n 0, 1) := dgX4_stepsToNextPlace_0.2.2.2.2.2.2.2.2.2.2.2.1
theorem dgX4_stepsToNextPlace_21 : (decode cX4_stepsToNextPlace 21 = .ok (.getfield 42, 3)) ∧ (decode cX4_stepsToNextPlace 24 = .ok (.imul, 1)) ∧ (decode cX4_stepsToNextPlace 25 = .ok (.aload_n 0, 1)) ∧ (decode cX4_stepsToNextPlace 26 = .ok (.getfield 35, 3)) ∧ (decode cX4_stepsToNextPlace 29 = .ok (.getfield 60, 3)) ∧ (decode cX4_stepsToNextPlace 32 = .ok (.iload_n 2, 1)) ∧ (decode cX4_stepsToNextPlace 33 = .ok (.imul, 1)) ∧ (decode cX4_stepsToNextPlace 34 = .ok (.iadd, 1)) ∧ (decode cX4_stepsToNextPlace 35 = .ok (.istore 4, 2)) ∧ (decode cX4_stepsToNextPlace 37 = .ok (.iload 4, 2)) ∧ (decode cX4_stepsToNextPlace 39 = .ok (.iload_n 3, 1)) ∧ (decode cX4_stepsToNextPlace 40 = .ok (.invokestatic 57, 3)) ∧ True := dkW [(21, .getfield 42, 3), (24, .imul, 1), (25, .aload_n 0, 1), (26, .getfield 35, 3), (29, .getfield 60, 3), (32, .iload_n 2, 1), (33, .imul, 1), (34, .iadd, 1), (35, .istore 4, 2), (37, .iload 4, 2), (39, .iload_n 3, 1), (40, .invokestatic 57, 3)] 21 (by decide +kernel)
theorem dX4_stepsToNextPlace_21 : decode cX4_stepsToNextPlace 21 = .ok (.getfield 42, 3) := dgX4_stepsToNextPlace_21.1
theorem dX4_stepsToNextPlace_24 : decode cX4_stepsToNextPlace 24 = .ok (.imul, 1) := dgX4_stepsToNextPlace_21.2.1
theorem dX4_stepsToNextPlace_25 : decode cX4_stepsToNextPlace 25 = .ok (.aload_n 0, 1) := dgX4_stepsToNextPlace_21.2.2.1
theorem dX4_stepsToNextPlace_26 : decode cX4_stepsToNextPlace 26 = .ok (.getfield 35, 3) := dgX4_stepsToNextPlace_21.2.2.2.1
theorem dX4_stepsToNextPlace_29 : decode cX4_stepsToNextPlace 29 = .ok (.getfield 60, 3) := dgX4_stepsToNextPlace_21.2.2.2.2.1
theorem dX4_stepsToNextPlace_32 : decode cX4_stepsToNextPlace 32 = .ok (.iload_n 2, 1) := dgX4_stepsToNextPlace_21.2.2.2.2.2.1
theorem dX4_stepsToNextPlace_33 : decode cX4_stepsToNextPlace 33 = .ok (.imul, 1) := dgX4_stepsToNextPlace_21.2.2.2.2.2.2.1
theorem dX4_stepsToNextPlace_34 : decode cX4_stepsToNextPlace 34 = .ok (.iadd, 1) := dgX4_stepsToNextPlace_21.2.2.2.2.2.2.2.1
theorem dX4_stepsToNextPlace_35 : decode cX4_stepsToNextPlace 35 = .ok (.istore 4, 2) := dgX4_stepsToNextPlace_21.2.2.2.2.2.2.2.2.1
theorem dX4_stepsToNextPlace_37 : decode cX4_stepsToNextPlace 37 = .ok (.iload 4, 2) := dgX4_stepsToNextPlace_21.2.2.2.2.2.2.2.2.2.1
theorem dX4_stepsToNextPlace_39 : decode cX4_stepsToNextPlace 39 = .ok (.iload_n 3, 1) := dgX4_stepsToNextPlace_21.2.2.2.2.2.2.2.2.2.2.1
theorem dX4_stepsToNextPlace_40 : decode cX4_stepsToNextPlace 40 = .ok (.invokestatic 57, 3) := dgX4_stepsToNextPlace_21.2.2.2.2.2.2.2.2.2.2.2.1
theorem dgX4_stepsToNextPlace_43 : (decode cX4_stepsToNextPlace 43 = .ok (.istore 5, 2)) ∧ (decode cX4_stepsToNextPlace 45 = .ok (.iload 5, 2)) ∧ (decode cX4_stepsToNextPlace 47 = .ok (.ifCond .lt 12, 3)) ∧ (decode cX4_stepsToNextPlace 50 = .ok (.iload 5, 2)) ∧ (decode cX4_stepsToNextPlace 52 = .ok (.iconst 1, 1)) ∧ (decode cX4_stepsToNextPlace 53 = .ok (.iadd, 1)) ∧ (decode cX4_stepsToNextPlace 54 = .ok (.iload_n 3, 1)) ∧ (decode cX4_stepsToNextPlace 55 = .ok (.imul, 1)) ∧ (decode cX4_stepsToNextPlace 56 = .ok (.goto 9, 3)) ∧ (decode cX4_stepsToNextPlace 59 = .ok (.iload 5, 2)) ∧ (decode cX4_stepsToNextPlace 61 = .ok (.iload_n 3, 1)) ∧ (decode cX4_stepsToNextPlace 62 = .ok (.imul, 1)) ∧ True := dkW [(43, .istore 5, 2), (45, .iload 5, 2), (47, .ifCond .lt 12, 3), (50, .iload 5, 2), (52, .iconst 1, 1), (53, .iadd, 1), (54, .iload_n 3, 1), (55, .imul, 1), (56, .goto 9, 3), (59, .iload 5, 2), (61, .iload_n 3, 1), (62, .imul, 1)] 43 (by decide +kernel)
theorem dX4_stepsToNextPlace_43 : decode cX4_stepsToNextPlace 43 = .ok (.istore 5, 2) := dgX4_stepsToNextPlace_43.1
theorem dX4_stepsToNextPlace_45 : decode cX4_stepsToNextPlace 45 = .ok (.iload 5, 2) := dgX4_stepsToNextPlace_43.2.1
theorem dX4_stepsToNextPlace_47 : decode cX4_stepsToNextPlace 47 = .ok (.ifCond .lt 12, 3) := dgX4_stepsToNextPlace_43.2.2.1
theorem dX4_stepsToNextPlace_50 : decode cX4_stepsToNextPlace 50 = .ok (.iload 5, 2) := dgX4_stepsToNextPlace_43.2.2.2.1
theorem dX4_stepsToNextPlace_52 : decode cX4_stepsToNextPlace 52 = .ok (.iconst 1, 1) := dgX4_stepsToNextPlace_43.2.2.2.2.1
theorem dX4_stepsToNextPlace_53 : decode cX4_stepsToNextPlace 53 = .ok (.iadd, 1) := dgX4_stepsToNextPlace_43.2.2.2.2.2.1
theorem dX4_stepsToNextPlace_54 : decode cX4_stepsToNextPlace 54 = .ok (.iload_n 3, 1) := dgX4_stepsToNextPlace_43.2.2.2.2.2.2.1
theorem dX4_stepsToNextPlace_55 : decode cX4_stepsToNextPlace 55 = .ok (.imul, 1) := dgX4_stepsToNextPlace_43.2.2.2.2.2.2.2.1
theorem dX4_stepsToNextPlace_56 : decode cX4_stepsToNextPlace 56 = .ok (.goto 9, 3) := dgX4_stepsToNextPlace_43.2.2.2.2.2.2.2.2.1
theorem dX4_stepsToNextPlace_59 : decode cX4_stepsToNextPlace 59 = .ok (.iload 5, 2) := dgX4_stepsToNextPlace_43.2.2.2.2.2.2.2.2.2.1
theorem dX4_stepsToNextPlace_61 : decode cX4_stepsToNextPlace 61 = .ok (.iload_n 3, 1) := dgX4_stepsToNextPlace_43.2.2.2.2.2.2.2.2.2.2.1
theorem dX4_stepsToNextPlace_62 : decode cX4_stepsToNextPlace 62 = .ok (.imul, 1) := dgX4_stepsToNextPlace_43.2.2.2.2.2.2.2.2.2.2.2.1
theorem dgX4_stepsToNextPlace_63 : (decode cX4_stepsToNextPlace 63 = .ok (.iconst 1, 1)) ∧ (decode cX4_stepsToNextPlace 64 = .ok (.iadd, 1)) ∧ (decode cX4_stepsToNextPlace 65 = .ok (.istore 6, 2)) ∧ (decode cX4_stepsToNextPlace 67 = .ok (.iload 6, 2)) ∧ (decode cX4_stepsToNextPlace 69 = .ok (.iload 4, 2)) ∧ (decode cX4_stepsToNextPlace 71 = .ok (.isub, 1)) ∧ (decode cX4_stepsToNextPlace 72 = .ok (.aload_n 0, 1)) ∧ (decode cX4_stepsToNextPlace 73 = .ok (.getfield 35, 3)) ∧ (decode cX4_stepsToNextPlace 76 = .ok (.getfield 60, 3)) ∧ (decode cX4_stepsToNextPlace 79 = .ok (.invokestatic 53, 3)) ∧ (decode cX4_stepsToNextPlace 82 = .ok (.ireturn, 1)) ∧ True := dkW [(63, .iconst 1, 1), (64, .iadd, 1), (65, .istore 6, 2), (67, .iload 6, 2), (69, .iload 4, 2), (71, .isub, 1), (72, .aload_n 0, 1), (73, .getfield 35, 3), (76, .getfield 60, 3), (79, .invokestatic 53, 3), (82, .ireturn, 1)] 63 (by decide +kernel)
theorem dX4_stepsToNextPlace_63 : decode cX4_stepsToNextPlace 63 = .ok (.iconst 1, 1) := dgX4_stepsToNextPlace_63.1
theorem dX4_stepsToNextPlace_64 : decode cX4_stepsToNextPlace 64 = .ok (.iadd, 1) := dgX4_stepsToNextPlace_63.2.1
theorem dX4_stepsToNextPlace_65 : decode cX4_stepsToNextPlace 65 = .ok (.istore 6, 2) := dgX4_stepsToNextPlace_63.2.2.1
theorem dX4_stepsToNextPlace_67 : decode cX4_stepsToNextPlace 67 = .ok (.iload 6, 2) := dgX4_stepsToNextPlace_63.2.2.2.1
theorem dX4_stepsToNextPlace_69 : decode cX4_stepsToNextPlace 69 = .ok (.iload 4, 2) := dgX4_stepsToNextPlace_63.2.2.2.2.1
theorem dX4_stepsToNextPlace_71 : decode cX4_stepsToNextPlace 71 = .ok (.isub, 1) := dgX4_stepsToNextPlace_63.2.2.2.2.2.1
theorem dX4_stepsToNextPlace_72 : decode cX4_stepsToNextPlace 72 = .ok (.aload_n 0, 1) := dgX4_stepsToNextPlace_63.2.2.2.2.2.2.1
theorem dX4_stepsToNextPlace_73 : decode cX4_stepsToNextPlace 73 = .ok (.getfield 35, 3) := dgX4_stepsToNextPlace_63.2.2.2.2.2.2.2.1
theorem dX4_stepsToNextPlace_76 : decode cX4_stepsToNextPlace 76 = .ok (.getfield 60, 3) := dgX4_stepsToNextPlace_63.2.2.2.2.2.2.2.2.1
theorem dX4_stepsToNextPlace_79 : decode cX4_stepsToNextPlace 79 = .ok (.invokestatic 53, 3) := dgX4_stepsToNextPlace_63.2.2.2.2.2.2.2.2.2.1
theorem dX4_stepsToNextPlace_82 : decode cX4_stepsToNextPlace 82 = .ok (.ireturn, 1) := dgX4_stepsToNextPlace_63.2.2.2.2.2.2.2.2.2.2.1
abbrev rmX4_stepsToNextPlace : Room := { frames := 1, cells := 0, slots := 0, locals := 21 }
noncomputable def fX4_stepsToNextPlace_b65 (N : Nat)  (t : Nat) (h : Hs) (x4 : Int32) (u0 : Int32) : Option (Int32 × Hs) :=
  (oR 4 5 h (some t)).bind fun o1 =>
  (oI 2 1 h o1).bind fun v2 =>
  (fX11_quotientUp N h (u0 - x4) v2).bind fun r3 =>
  some (r3.1, r3.2)
set_option maxHeartbeats 4000000 in
set_option maxRecDepth 20000 in
theorem wX4_stepsToNextPlace_b65 {p : Program} {l : Launch} {e : Env} {s : State} {m : MethodId} {args : Array Value} {below : List Frame} {meth : Method} {c : Code} {G : Gl} {N : Nat} {h : Hs} {r : Int32 × Hs}  {t : Nat} {x4 : Int32} {u0 : Int32} (C : Cx p s m args meth c cX4_stepsToNextPlace RX4 7 G) (hret : meth.sig.returnType = (some .int))  (hf : fX4_stepsToNextPlace_b65 N  t h x4 u0 = some r) : V p l e rmX4_stepsToNextPlace s m args below meth c G 7 (MQ below (QcG G (some (.inl r.1)) r.2) args s rmX4_stepsToNextPlace.cells rmX4_stepsToNextPlace.slots (AG G)) h 0 0 65 [some (.inr (some t)), none, none, none, some (.inl x4), none, none] [.inl u0] := by
  unfold fX4_stepsToNextPlace_b65 at hf
  refine r_istore C dX4_stepsToNextPlace_65 (by decide) ?_
  refine r_iload C dX4_stepsToNextPlace_67 rfl ?_
  refine r_iload C dX4_stepsToNextPlace_69 rfl ?_
  refine r_isub C dX4_stepsToNextPlace_71 ?_
  refine r_aload_n C dX4_stepsToNextPlace_72 rfl ?_
  obtain ⟨o1, eo1, hf⟩ := bS hf
  refine r_getR C dX4_stepsToNextPlace_73 fl_X4_35 rfl eo1 ?_
  obtain ⟨v2, ev2, hf⟩ := bS hf
  refine r_getI C dX4_stepsToNextPlace_76 fl_X4_60 rfl ev2 ?_
  obtain ⟨r3, er3, hf⟩ := bS hf
  refine r_invSN1 (As := [.inl (u0 - x4), .inl v2]) (host := "StageMachine") C dX4_stepsToNextPlace_79 mcX11_quotientUp (by decide) wd_498 ⟨by decide, by decide⟩ ⟨by decide, by decide⟩ rfl (Nat.le_of_ble_eq_true rfl) (kX11_quotientUp l G er3) ?_
  exact r_iretF C dX4_stepsToNextPlace_82 hret hf (by decide) (by decide)
noncomputable def fX4_stepsToNextPlace (N : Nat) (h : Hs) (t : Nat) (p1 : Int32) (p2 : Int32) : Option (Int32 × Hs) :=
  (oR 4 5 h (some t)).bind fun o1 =>
  if o1 = none then (
  some (9999, h))
  else (oI 4 3 h (some t)).bind fun v2 =>
  (some (100 * v2)).bind fun y3 =>
  (oI 4 7 h (some t)).bind fun v4 =>
  (oR 4 5 h (some t)).bind fun o5 =>
  (oI 2 1 h o5).bind fun v6 =>
  (some ((p1 * v4) + (v6 * p2))).bind fun y7 =>
  (fX11_quotient N h y7 y3).bind fun r8 =>
  if r8.1 < 0 then (
  fX4_stepsToNextPlace_b65 N t r8.2 y7 ((r8.1 * y3) + 1))
  else fX4_stepsToNextPlace_b65 N t r8.2 y7 ((r8.1 + 1) * y3)
set_option maxHeartbeats 4000000 in
set_option maxRecDepth 20000 in
theorem kX4_stepsToNextPlace (l : Launch) (G : Gl) {N : Nat} {h : Hs} {t : Nat} {p1 : Int32} {p2 : Int32} {r : Int32 × Hs} (hf : fX4_stepsToNextPlace N h t p1 p2 = some r) : CT l G yX4_stepsToNextPlace cX4_stepsToNextPlace 7 (some .int) rmX4_stepsToNextPlace [.inr (some t), .inl p1, .inl p2] h (some (.inl r.1)) r.2 := by
  refine mk_CT (by decide) (Nat.le_of_ble_eq_true rfl) ?_
  intro p e s m args below meth c C hret hin
  unfold fX4_stepsToNextPlace at hf
  refine r_aload_n C dX4_stepsToNextPlace_0 rfl ?_
  obtain ⟨o1, eo1, hf⟩ := bS hf
  refine r_getR C dX4_stepsToNextPlace_1 fl_X4_35 rfl eo1 ?_
  refine r_ifnonnull (tgt := 11) C dX4_stepsToNextPlace_4 (by decide) (fun hc => ?_) (fun hc => ?_)
  · have hf := ifF hf hc
    refine r_bipush (v := 100) C dX4_stepsToNextPlace_11 (by decide) ?_
    refine r_aload_n C dX4_stepsToNextPlace_13 rfl ?_
    obtain ⟨v2, ev2, hf⟩ := bS hf
    refine r_getI C dX4_stepsToNextPlace_14 fl_X4_22 rfl ev2 ?_
    refine r_imul C dX4_stepsToNextPlace_17 ?_
    obtain ⟨y3, ey3, hf⟩ := bS hf
    refine r_istore_nE C dX4_stepsToNextPlace_18 (by decide) ey3 ?_
    refine r_iload_n C dX4_stepsToNextPlace_19 rfl ?_
    refine r_aload_n C dX4_stepsToNextPlace_20 rfl ?_
    obtain ⟨v4, ev4, hf⟩ := bS hf
    refine r_getI C dX4_stepsToNextPlace_21 fl_X4_42 rfl ev4 ?_
    refine r_imul C dX4_stepsToNextPlace_24 ?_
    refine r_aload_n C dX4_stepsToNextPlace_25 rfl ?_
    obtain ⟨o5, eo5, hf⟩ := bS hf
    refine r_getR C dX4_stepsToNextPlace_26 fl_X4_35 rfl eo5 ?_
    obtain ⟨v6, ev6, hf⟩ := bS hf
    refine r_getI C dX4_stepsToNextPlace_29 fl_X4_60 rfl ev6 ?_
    refine r_iload_n C dX4_stepsToNextPlace_32 rfl ?_
    refine r_imul C dX4_stepsToNextPlace_33 ?_
    refine r_iadd C dX4_stepsToNextPlace_34 ?_
    obtain ⟨y7, ey7, hf⟩ := bS hf
    refine r_istoreE C dX4_stepsToNextPlace_35 (by decide) ey7 ?_
    refine r_iload C dX4_stepsToNextPlace_37 rfl ?_
    refine r_iload_n C dX4_stepsToNextPlace_39 rfl ?_
    obtain ⟨r8, er8, hf⟩ := bS hf
    refine r_invSN1 (As := [.inl y7, .inl y3]) (host := "StageMachine") C dX4_stepsToNextPlace_40 mcX11_quotient (by decide) wd_572 ⟨by decide, by decide⟩ ⟨by decide, by decide⟩ rfl (Nat.le_of_ble_eq_true rfl) (kX11_quotient l G er8) ?_
    refine r_istore C dX4_stepsToNextPlace_43 (by decide) ?_
    refine r_iload C dX4_stepsToNextPlace_45 rfl ?_
    refine r_if_lt (tgt := 59) C dX4_stepsToNextPlace_47 (by decide) (fun hc => ?_) (fun hc => ?_)
    · have hf := ifT hf hc
      refine r_iload C dX4_stepsToNextPlace_59 rfl ?_
      refine r_iload_n C dX4_stepsToNextPlace_61 rfl ?_
      refine r_imul C dX4_stepsToNextPlace_62 ?_
      refine r_iconst (v := 1) C dX4_stepsToNextPlace_63 (by decide) ?_
      refine r_iadd C dX4_stepsToNextPlace_64 ?_
      exact V.sub (wX4_stepsToNextPlace_b65 C hret hf) (LW_s rfl (LW_n (LW_n (LW_n (LW_s rfl (LW_n (LW_n (LW_e))))))))
    · have hf := ifF hf hc
      refine r_iload C dX4_stepsToNextPlace_50 rfl ?_
      refine r_iconst (v := 1) C dX4_stepsToNextPlace_52 (by decide) ?_
      refine r_iadd C dX4_stepsToNextPlace_53 ?_
      refine r_iload_n C dX4_stepsToNextPlace_54 rfl ?_
      refine r_imul C dX4_stepsToNextPlace_55 ?_
      refine r_goto (tgt := 65) C dX4_stepsToNextPlace_56 (by decide) ?_
      exact V.sub (wX4_stepsToNextPlace_b65 C hret hf) (LW_s rfl (LW_n (LW_n (LW_n (LW_s rfl (LW_n (LW_n (LW_e))))))))
  · have hf := ifT hf hc
    refine r_sipush (v := 9999) C dX4_stepsToNextPlace_7 (by decide) ?_
    exact r_iretF C dX4_stepsToNextPlace_10 hret hf (by decide) (by decide)

theorem dgX4_advance_0 : (decode cX4_advance 0 = .ok (.aload_n 0, 1)) ∧ (decode cX4_advance 1 = .ok (.getfield 35, 3)) ∧ (decode cX4_advance 4 = .ok (.ifnull 31, 3)) ∧ (decode cX4_advance 7 = .ok (.aload_n 0, 1)) ∧ (decode cX4_advance 8 = .ok (.aload_n 0, 1)) ∧ (decode cX4_advance 9 = .ok (.iload_n 1, 1)) ∧ (decode cX4_advance 10 = .ok (.invokevirtual 66, 3)) ∧ (decode cX4_advance 13 = .ok (.putfield 42, 3)) ∧ (decode cX4_advance 16 = .ok (.aload_n 0, 1)) ∧ (decode cX4_advance 17 = .ok (.getfield 15, 3)) ∧ (decode cX4_advance 20 = .ok (.aload_n 0, 1)) ∧ (decode cX4_advance 21 = .ok (.aload_n 0, 1)) ∧ True := dkW [(0, .aload_n 0, 1), (1, .getfield 35, 3), (4, .ifnull 31, 3), (7, .aload_n 0, 1), (8, .aload_n 0, 1), (9, .iload_n 1, 1), (10, .invokevirtual 66, 3), (13, .putfield 42, 3), (16, .aload_n 0, 1), (17, .getfield 15, 3), (20, .aload_n 0, 1), (21, .aload_n 0, 1)] 0 (by decide +kernel)
theorem dX4_advance_0 : decode cX4_advance 0 = .ok (.aload_n 0, 1) := dgX4_advance_0.1
theorem dX4_advance_1 : decode cX4_advance 1 = .ok (.getfield 35, 3) := dgX4_advance_0.2.1
theorem dX4_advance_4 : decode cX4_advance 4 = .ok (.ifnull 31, 3) := dgX4_advance_0.2.2.1
theorem dX4_advance_7 : decode cX4_advance 7 = .ok (.aload_n 0, 1) := dgX4_advance_0.2.2.2.1
theorem dX4_advance_8 : decode cX4_advance 8 = .ok (.aload_n 0, 1) := dgX4_advance_0.2.2.2.2.1
theorem dX4_advance_9 : decode cX4_advance 9 = .ok (.iload_n 1, 1) := dgX4_advance_0.2.2.2.2.2.1
theorem dX4_advance_10 : decode cX4_advance 10 = .ok (.invokevirtual 66, 3) := dgX4_advance_0.2.2.2.2.2.2.1
theorem dX4_advance_13 : decode cX4_advance 13 = .ok (.putfield 42, 3) := dgX4_advance_0.2.2.2.2.2.2.2.1
theorem dX4_advance_16 : decode cX4_advance 16 = .ok (.aload_n 0, 1) := dgX4_advance_0.2.2.2.2.2.2.2.2.1
theorem dX4_advance_17 : decode cX4_advance 17 = .ok (.getfield 15, 3) := dgX4_advance_0.2.2.2.2.2.2.2.2.2.1
theorem dX4_advance_20 : decode cX4_advance 20 = .ok (.aload_n 0, 1) := dgX4_advance_0.2.2.2.2.2.2.2.2.2.2.1
theorem dX4_advance_21 : decode cX4_advance 21 = .ok (.aload_n 0, 1) := dgX4_advance_0.2.2.2.2.2.2.2.2.2.2.2.1
theorem dgX4_advance_22 : (decode cX4_advance 22 = .ok (.getfield 63, 3)) ∧ (decode cX4_advance 25 = .ok (.aload_n 0, 1)) ∧ (decode cX4_advance 26 = .ok (.getfield 42, 3)) ∧ (decode cX4_advance 29 = .ok (.invokevirtual 70, 3)) ∧ (decode cX4_advance 32 = .ok (.putfield 73, 3)) ∧ (decode cX4_advance 35 = .ok (.return_, 1)) ∧ True := dkW [(22, .getfield 63, 3), (25, .aload_n 0, 1), (26, .getfield 42, 3), (29, .invokevirtual 70, 3), (32, .putfield 73, 3), (35, .return_, 1)] 22 (by decide +kernel)
theorem dX4_advance_22 : decode cX4_advance 22 = .ok (.getfield 63, 3) := dgX4_advance_22.1
theorem dX4_advance_25 : decode cX4_advance 25 = .ok (.aload_n 0, 1) := dgX4_advance_22.2.1
theorem dX4_advance_26 : decode cX4_advance 26 = .ok (.getfield 42, 3) := dgX4_advance_22.2.2.1
theorem dX4_advance_29 : decode cX4_advance 29 = .ok (.invokevirtual 70, 3) := dgX4_advance_22.2.2.2.1
theorem dX4_advance_32 : decode cX4_advance 32 = .ok (.putfield 73, 3) := dgX4_advance_22.2.2.2.2.1
theorem dX4_advance_35 : decode cX4_advance 35 = .ok (.return_, 1) := dgX4_advance_22.2.2.2.2.2.1
abbrev rmX4_advance : Room := { frames := 2, cells := 0, slots := 0, locals := 43 }
noncomputable def fX4_advance_b35 (N : Nat)  (t : Nat) (h : Hs)  : Option (Hs) :=
  some h
set_option maxHeartbeats 4000000 in
set_option maxRecDepth 20000 in
theorem wX4_advance_b35 {p : Program} {l : Launch} {e : Env} {s : State} {m : MethodId} {args : Array Value} {below : List Frame} {meth : Method} {c : Code} {G : Gl} {N : Nat} {h : Hs} {r : Hs}  {t : Nat}  (C : Cx p s m args meth c cX4_advance RX4 2 G) (hret : meth.sig.returnType = none)  (hf : fX4_advance_b35 N  t h  = some r) : V p l e rmX4_advance s m args below meth c G 2 (MQ below (QcG G (none) r) args s rmX4_advance.cells rmX4_advance.slots (AG G)) h 0 0 35 [some (.inr (some t)), none] [] := by
  unfold fX4_advance_b35 at hf
  exact r_vretF C dX4_advance_35 hret hf (by decide) (by decide)
noncomputable def fX4_advance (N : Nat) (h : Hs) (t : Nat) (p1 : Int32) : Option (Hs) :=
  (oR 4 5 h (some t)).bind fun o1 =>
  if o1 = none then (
  fX4_advance_b35 N t h)
  else (rc 4 h (some t)).bind fun a3 =>
  (fX4_doneAfter N h a3 p1).bind fun r2 =>
  (qI 4 7 r2.2 (some t) r2.1).bind fun h4 =>
  (oR 4 1 h4 (some t)).bind fun o5 =>
  (oI 4 6 h4 (some t)).bind fun v6 =>
  (oI 4 7 h4 (some t)).bind fun v7 =>
  (rc 4 h4 (some t)).bind fun a9 =>
  (fX4_placeFrom N h4 a9 v6 v7).bind fun r8 =>
  (qI 9 7 r8.2 o5 r8.1).bind fun h10 =>
  fX4_advance_b35 N t h10
set_option maxHeartbeats 4000000 in
set_option maxRecDepth 20000 in
theorem kX4_advance (l : Launch) (G : Gl) {N : Nat} {h : Hs} {t : Nat} {p1 : Int32} {r : Hs} (hf : fX4_advance N h t p1 = some r) : CT l G yX4_advance cX4_advance 2 none rmX4_advance [.inr (some t), .inl p1] h (none) r := by
  refine mk_CT (by decide) (Nat.le_of_ble_eq_true rfl) ?_
  intro p e s m args below meth c C hret hin
  unfold fX4_advance at hf
  refine r_aload_n C dX4_advance_0 rfl ?_
  obtain ⟨o1, eo1, hf⟩ := bS hf
  refine r_getR C dX4_advance_1 fl_X4_35 rfl eo1 ?_
  refine r_ifnull (tgt := 35) C dX4_advance_4 (by decide) (fun hc => ?_) (fun hc => ?_)
  · have hf := ifT hf hc
    exact V.sub (wX4_advance_b35 C hret hf) (LW_s rfl (LW_n (LW_e)))
  · have hf := ifF hf hc
    refine r_aload_n C dX4_advance_7 rfl ?_
    refine r_aload_n C dX4_advance_8 rfl ?_
    refine r_iload_n C dX4_advance_9 rfl ?_
    obtain ⟨a3, ea3, hf⟩ := bS hf
    obtain ⟨r2, er2, hf⟩ := bS hf
    refine r_invV1 (As := [.inl p1]) (ci := 4) C dX4_advance_10 mcX4_doneAfter wd_647 wd_564 wd_565 rfl rfl (by decide) ⟨by decide, by decide⟩ ⟨by decide, by decide⟩ rfl (Nat.le_of_ble_eq_true rfl) ea3 (kX4_doneAfter l G er2) ?_
    obtain ⟨h4, eh4, hf⟩ := bS hf
    refine r_putI C dX4_advance_13 fl_X4_42 (Or.inl fn_4_7) rfl eh4 ?_
    refine r_aload_n C dX4_advance_16 rfl ?_
    obtain ⟨o5, eo5, hf⟩ := bS hf
    refine r_getR C dX4_advance_17 fl_X4_15 rfl eo5 ?_
    refine r_aload_n C dX4_advance_20 rfl ?_
    refine r_aload_n C dX4_advance_21 rfl ?_
    obtain ⟨v6, ev6, hf⟩ := bS hf
    refine r_getI C dX4_advance_22 fl_X4_63 rfl ev6 ?_
    refine r_aload_n C dX4_advance_25 rfl ?_
    obtain ⟨v7, ev7, hf⟩ := bS hf
    refine r_getI C dX4_advance_26 fl_X4_42 rfl ev7 ?_
    obtain ⟨a9, ea9, hf⟩ := bS hf
    obtain ⟨r8, er8, hf⟩ := bS hf
    refine r_invV1 (As := [.inl v6, .inl v7]) (ci := 4) C dX4_advance_29 mcX4_placeFrom wd_648 wd_568 wd_569 rfl rfl (by decide) ⟨by decide, by decide⟩ ⟨by decide, by decide⟩ rfl (Nat.le_of_ble_eq_true rfl) ea9 (kX4_placeFrom l G er8) ?_
    obtain ⟨h10, eh10, hf⟩ := bS hf
    refine r_putI C dX4_advance_32 fl_X4_73 (Or.inl fn_9_7) rfl eh10 ?_
    exact V.sub (wX4_advance_b35 C hret hf) (LW_s rfl (LW_n (LW_e)))

theorem dgX4_bind_0 : (decode cX4_bind 0 = .ok (.aload_n 0, 1)) ∧ (decode cX4_bind 1 = .ok (.aload_n 1, 1)) ∧ (decode cX4_bind 2 = .ok (.putfield 35, 3)) ∧ (decode cX4_bind 5 = .ok (.aload_n 0, 1)) ∧ (decode cX4_bind 6 = .ok (.aload_n 0, 1)) ∧ (decode cX4_bind 7 = .ok (.getfield 15, 3)) ∧ (decode cX4_bind 10 = .ok (.getfield 73, 3)) ∧ (decode cX4_bind 13 = .ok (.putfield 63, 3)) ∧ (decode cX4_bind 16 = .ok (.aload_n 0, 1)) ∧ (decode cX4_bind 17 = .ok (.iconst 0, 1)) ∧ (decode cX4_bind 18 = .ok (.putfield 42, 3)) ∧ (decode cX4_bind 21 = .ok (.aload_n 0, 1)) ∧ True := dkW [(0, .aload_n 0, 1), (1, .aload_n 1, 1), (2, .putfield 35, 3), (5, .aload_n 0, 1), (6, .aload_n 0, 1), (7, .getfield 15, 3), (10, .getfield 73, 3), (13, .putfield 63, 3), (16, .aload_n 0, 1), (17, .iconst 0, 1), (18, .putfield 42, 3), (21, .aload_n 0, 1)] 0 (by decide +kernel)
theorem dX4_bind_0 : decode cX4_bind 0 = .ok (.aload_n 0, 1) := dgX4_bind_0.1
theorem dX4_bind_1 : decode cX4_bind 1 = .ok (.aload_n 1, 1) := dgX4_bind_0.2.1
theorem dX4_bind_2 : decode cX4_bind 2 = .ok (.putfield 35, 3) := dgX4_bind_0.2.2.1
theorem dX4_bind_5 : decode cX4_bind 5 = .ok (.aload_n 0, 1) := dgX4_bind_0.2.2.2.1
theorem dX4_bind_6 : decode cX4_bind 6 = .ok (.aload_n 0, 1) := dgX4_bind_0.2.2.2.2.1
theorem dX4_bind_7 : decode cX4_bind 7 = .ok (.getfield 15, 3) := dgX4_bind_0.2.2.2.2.2.1
theorem dX4_bind_10 : decode cX4_bind 10 = .ok (.getfield 73, 3) := dgX4_bind_0.2.2.2.2.2.2.1
theorem dX4_bind_13 : decode cX4_bind 13 = .ok (.putfield 63, 3) := dgX4_bind_0.2.2.2.2.2.2.2.1
theorem dX4_bind_16 : decode cX4_bind 16 = .ok (.aload_n 0, 1) := dgX4_bind_0.2.2.2.2.2.2.2.2.1
theorem dX4_bind_17 : decode cX4_bind 17 = .ok (.iconst 0, 1) := dgX4_bind_0.2.2.2.2.2.2.2.2.2.1
theorem dX4_bind_18 : decode cX4_bind 18 = .ok (.putfield 42, 3) := dgX4_bind_0.2.2.2.2.2.2.2.2.2.2.1
theorem dX4_bind_21 : decode cX4_bind 21 = .ok (.aload_n 0, 1) := dgX4_bind_0.2.2.2.2.2.2.2.2.2.2.2.1
theorem dgX4_bind_22 : (decode cX4_bind 22 = .ok (.getfield 15, 3)) ∧ (decode cX4_bind 25 = .ok (.aload_n 0, 1)) ∧ (decode cX4_bind 26 = .ok (.putfield 76, 3)) ∧ (decode cX4_bind 29 = .ok (.return_, 1)) ∧ True := dkW [(22, .getfield 15, 3), (25, .aload_n 0, 1), (26, .putfield 76, 3), (29, .return_, 1)] 22 (by decide +kernel)
theorem dX4_bind_22 : decode cX4_bind 22 = .ok (.getfield 15, 3) := dgX4_bind_22.1
theorem dX4_bind_25 : decode cX4_bind 25 = .ok (.aload_n 0, 1) := dgX4_bind_22.2.1
theorem dX4_bind_26 : decode cX4_bind 26 = .ok (.putfield 76, 3) := dgX4_bind_22.2.2.1
theorem dX4_bind_29 : decode cX4_bind 29 = .ok (.return_, 1) := dgX4_bind_22.2.2.2.1
abbrev rmX4_bind : Room := { frames := 0, cells := 0, slots := 0, locals := 0 }
noncomputable def fX4_bind (N : Nat) (h : Hs) (t : Nat) (p1 : Option Nat) : Option (Hs) :=
  (qR 4 5 h (some t) p1).bind fun h1 =>
  (oR 4 1 h1 (some t)).bind fun o2 =>
  (oI 9 7 h1 o2).bind fun v3 =>
  (qI 4 6 h1 (some t) v3).bind fun h4 =>
  (qI 4 7 h4 (some t) 0).bind fun h5 =>
  (oR 4 1 h5 (some t)).bind fun o6 =>
  (qR 9 9 h5 o6 (some t)).bind fun h7 =>
  some h7
set_option maxHeartbeats 4000000 in
set_option maxRecDepth 20000 in
theorem kX4_bind (l : Launch) (G : Gl) {N : Nat} {h : Hs} {t : Nat} {p1 : Option Nat} {r : Hs} (hf : fX4_bind N h t p1 = some r) : CT l G yX4_bind cX4_bind 2 none rmX4_bind [.inr (some t), .inr p1] h (none) r := by
  refine mk_CT (by decide) (Nat.le_of_ble_eq_true rfl) ?_
  intro p e s m args below meth c C hret hin
  unfold fX4_bind at hf
  refine r_aload_n C dX4_bind_0 rfl ?_
  refine r_aload_n C dX4_bind_1 rfl ?_
  obtain ⟨h1, eh1, hf⟩ := bS hf
  refine r_putR C dX4_bind_2 fl_X4_35 (Or.inl fn_4_5) rfl eh1 ?_
  refine r_aload_n C dX4_bind_5 rfl ?_
  refine r_aload_n C dX4_bind_6 rfl ?_
  obtain ⟨o2, eo2, hf⟩ := bS hf
  refine r_getR C dX4_bind_7 fl_X4_15 rfl eo2 ?_
  obtain ⟨v3, ev3, hf⟩ := bS hf
  refine r_getI C dX4_bind_10 fl_X4_73 rfl ev3 ?_
  obtain ⟨h4, eh4, hf⟩ := bS hf
  refine r_putI C dX4_bind_13 fl_X4_63 (Or.inl fn_4_6) rfl eh4 ?_
  refine r_aload_n C dX4_bind_16 rfl ?_
  refine r_iconst (v := 0) C dX4_bind_17 (by decide) ?_
  obtain ⟨h5, eh5, hf⟩ := bS hf
  refine r_putI C dX4_bind_18 fl_X4_42 (Or.inl fn_4_7) rfl eh5 ?_
  refine r_aload_n C dX4_bind_21 rfl ?_
  obtain ⟨o6, eo6, hf⟩ := bS hf
  refine r_getR C dX4_bind_22 fl_X4_15 rfl eo6 ?_
  refine r_aload_n C dX4_bind_25 rfl ?_
  obtain ⟨h7, eh7, hf⟩ := bS hf
  refine r_putR C dX4_bind_26 fl_X4_76 (Or.inl fn_9_9) rfl eh7 ?_
  exact r_vretF C dX4_bind_29 hret hf (by decide) (by decide)

theorem dgX4_loosen_0 : (decode cX4_loosen 0 = .ok (.aload_n 0, 1)) ∧ (decode cX4_loosen 1 = .ok (.aconst_null, 1)) ∧ (decode cX4_loosen 2 = .ok (.putfield 35, 3)) ∧ (decode cX4_loosen 5 = .ok (.aload_n 0, 1)) ∧ (decode cX4_loosen 6 = .ok (.iconst 0, 1)) ∧ (decode cX4_loosen 7 = .ok (.putfield 42, 3)) ∧ (decode cX4_loosen 10 = .ok (.aload_n 0, 1)) ∧ (decode cX4_loosen 11 = .ok (.getfield 15, 3)) ∧ (decode cX4_loosen 14 = .ok (.aconst_null, 1)) ∧ (decode cX4_loosen 15 = .ok (.putfield 76, 3)) ∧ (decode cX4_loosen 18 = .ok (.return_, 1)) ∧ True := dkW [(0, .aload_n 0, 1), (1, .aconst_null, 1), (2, .putfield 35, 3), (5, .aload_n 0, 1), (6, .iconst 0, 1), (7, .putfield 42, 3), (10, .aload_n 0, 1), (11, .getfield 15, 3), (14, .aconst_null, 1), (15, .putfield 76, 3), (18, .return_, 1)] 0 (by decide +kernel)
theorem dX4_loosen_0 : decode cX4_loosen 0 = .ok (.aload_n 0, 1) := dgX4_loosen_0.1
theorem dX4_loosen_1 : decode cX4_loosen 1 = .ok (.aconst_null, 1) := dgX4_loosen_0.2.1
theorem dX4_loosen_2 : decode cX4_loosen 2 = .ok (.putfield 35, 3) := dgX4_loosen_0.2.2.1
theorem dX4_loosen_5 : decode cX4_loosen 5 = .ok (.aload_n 0, 1) := dgX4_loosen_0.2.2.2.1
theorem dX4_loosen_6 : decode cX4_loosen 6 = .ok (.iconst 0, 1) := dgX4_loosen_0.2.2.2.2.1
theorem dX4_loosen_7 : decode cX4_loosen 7 = .ok (.putfield 42, 3) := dgX4_loosen_0.2.2.2.2.2.1
theorem dX4_loosen_10 : decode cX4_loosen 10 = .ok (.aload_n 0, 1) := dgX4_loosen_0.2.2.2.2.2.2.1
theorem dX4_loosen_11 : decode cX4_loosen 11 = .ok (.getfield 15, 3) := dgX4_loosen_0.2.2.2.2.2.2.2.1
theorem dX4_loosen_14 : decode cX4_loosen 14 = .ok (.aconst_null, 1) := dgX4_loosen_0.2.2.2.2.2.2.2.2.1
theorem dX4_loosen_15 : decode cX4_loosen 15 = .ok (.putfield 76, 3) := dgX4_loosen_0.2.2.2.2.2.2.2.2.2.1
theorem dX4_loosen_18 : decode cX4_loosen 18 = .ok (.return_, 1) := dgX4_loosen_0.2.2.2.2.2.2.2.2.2.2.1
abbrev rmX4_loosen : Room := { frames := 0, cells := 0, slots := 0, locals := 0 }
noncomputable def fX4_loosen (N : Nat) (h : Hs) (t : Nat)  : Option (Hs) :=
  (qR 4 5 h (some t) none).bind fun h1 =>
  (qI 4 7 h1 (some t) 0).bind fun h2 =>
  (oR 4 1 h2 (some t)).bind fun o3 =>
  (qR 9 9 h2 o3 none).bind fun h4 =>
  some h4
set_option maxHeartbeats 4000000 in
set_option maxRecDepth 20000 in
theorem kX4_loosen (l : Launch) (G : Gl) {N : Nat} {h : Hs} {t : Nat}  {r : Hs} (hf : fX4_loosen N h t  = some r) : CT l G yX4_loosen cX4_loosen 1 none rmX4_loosen [.inr (some t)] h (none) r := by
  refine mk_CT (by decide) (Nat.le_of_ble_eq_true rfl) ?_
  intro p e s m args below meth c C hret hin
  unfold fX4_loosen at hf
  refine r_aload_n C dX4_loosen_0 rfl ?_
  refine r_null C dX4_loosen_1 ?_
  obtain ⟨h1, eh1, hf⟩ := bS hf
  refine r_putR C dX4_loosen_2 fl_X4_35 (Or.inl fn_4_5) rfl eh1 ?_
  refine r_aload_n C dX4_loosen_5 rfl ?_
  refine r_iconst (v := 0) C dX4_loosen_6 (by decide) ?_
  obtain ⟨h2, eh2, hf⟩ := bS hf
  refine r_putI C dX4_loosen_7 fl_X4_42 (Or.inl fn_4_7) rfl eh2 ?_
  refine r_aload_n C dX4_loosen_10 rfl ?_
  obtain ⟨o3, eo3, hf⟩ := bS hf
  refine r_getR C dX4_loosen_11 fl_X4_15 rfl eo3 ?_
  refine r_null C dX4_loosen_14 ?_
  obtain ⟨h4, eh4, hf⟩ := bS hf
  refine r_putR C dX4_loosen_15 fl_X4_76 (Or.inl fn_9_9) rfl eh4 ?_
  exact r_vretF C dX4_loosen_18 hret hf (by decide) (by decide)

theorem dgX5_init_0 : (decode cX5_init 0 = .ok (.aload_n 0, 1)) ∧ (decode cX5_init 1 = .ok (.invokespecial 3, 3)) ∧ (decode cX5_init 4 = .ok (.aload_n 0, 1)) ∧ (decode cX5_init 5 = .ok (.bipush 40, 2)) ∧ (decode cX5_init 7 = .ok (.anewarray 9, 3)) ∧ (decode cX5_init 10 = .ok (.putfield 11, 3)) ∧ (decode cX5_init 13 = .ok (.aload_n 0, 1)) ∧ (decode cX5_init 14 = .ok (.bipush 20, 2)) ∧ (decode cX5_init 16 = .ok (.anewarray 17, 3)) ∧ (decode cX5_init 19 = .ok (.putfield 19, 3)) ∧ (decode cX5_init 22 = .ok (.aload_n 0, 1)) ∧ (decode cX5_init 23 = .ok (.bipush 40, 2)) ∧ True := dkW [(0, .aload_n 0, 1), (1, .invokespecial 3, 3), (4, .aload_n 0, 1), (5, .bipush 40, 2), (7, .anewarray 9, 3), (10, .putfield 11, 3), (13, .aload_n 0, 1), (14, .bipush 20, 2), (16, .anewarray 17, 3), (19, .putfield 19, 3), (22, .aload_n 0, 1), (23, .bipush 40, 2)] 0 (by decide +kernel)
theorem dX5_init_0 : decode cX5_init 0 = .ok (.aload_n 0, 1) := dgX5_init_0.1
theorem dX5_init_1 : decode cX5_init 1 = .ok (.invokespecial 3, 3) := dgX5_init_0.2.1
theorem dX5_init_4 : decode cX5_init 4 = .ok (.aload_n 0, 1) := dgX5_init_0.2.2.1
theorem dX5_init_5 : decode cX5_init 5 = .ok (.bipush 40, 2) := dgX5_init_0.2.2.2.1
theorem dX5_init_7 : decode cX5_init 7 = .ok (.anewarray 9, 3) := dgX5_init_0.2.2.2.2.1
theorem dX5_init_10 : decode cX5_init 10 = .ok (.putfield 11, 3) := dgX5_init_0.2.2.2.2.2.1
theorem dX5_init_13 : decode cX5_init 13 = .ok (.aload_n 0, 1) := dgX5_init_0.2.2.2.2.2.2.1
theorem dX5_init_14 : decode cX5_init 14 = .ok (.bipush 20, 2) := dgX5_init_0.2.2.2.2.2.2.2.1
theorem dX5_init_16 : decode cX5_init 16 = .ok (.anewarray 17, 3) := dgX5_init_0.2.2.2.2.2.2.2.2.1
theorem dX5_init_19 : decode cX5_init 19 = .ok (.putfield 19, 3) := dgX5_init_0.2.2.2.2.2.2.2.2.2.1
theorem dX5_init_22 : decode cX5_init 22 = .ok (.aload_n 0, 1) := dgX5_init_0.2.2.2.2.2.2.2.2.2.2.1
theorem dX5_init_23 : decode cX5_init 23 = .ok (.bipush 40, 2) := dgX5_init_0.2.2.2.2.2.2.2.2.2.2.2.1
theorem dgX5_init_25 : (decode cX5_init 25 = .ok (.anewarray 23, 3)) ∧ (decode cX5_init 28 = .ok (.putfield 25, 3)) ∧ (decode cX5_init 31 = .ok (.aload_n 0, 1)) ∧ (decode cX5_init 32 = .ok (.bipush 20, 2)) ∧ (decode cX5_init 34 = .ok (.newarray .int, 2)) ∧ (decode cX5_init 36 = .ok (.putfield 29, 3)) ∧ (decode cX5_init 39 = .ok (.aload_n 0, 1)) ∧ (decode cX5_init 40 = .ok (.bipush 20, 2)) ∧ (decode cX5_init 42 = .ok (.newarray .int, 2)) ∧ (decode cX5_init 44 = .ok (.putfield 33, 3)) ∧ (decode cX5_init 47 = .ok (.aload_n 0, 1)) ∧ (decode cX5_init 48 = .ok (.bipush 80, 2)) ∧ True := dkW [(25, .anewarray 23, 3), (28, .putfield 25, 3), (31, .aload_n 0, 1), (32, .bipush 20, 2), (34, .newarray .int, 2), (36, .putfield 29, 3), (39, .aload_n 0, 1), (40, .bipush 20, 2), (42, .newarray .int, 2), (44, .putfield 33, 3), (47, .aload_n 0, 1), (48, .bipush 80, 2)] 25 (by decide +kernel)
theorem dX5_init_25 : decode cX5_init 25 = .ok (.anewarray 23, 3) := dgX5_init_25.1
theorem dX5_init_28 : decode cX5_init 28 = .ok (.putfield 25, 3) := dgX5_init_25.2.1
theorem dX5_init_31 : decode cX5_init 31 = .ok (.aload_n 0, 1) := dgX5_init_25.2.2.1
theorem dX5_init_32 : decode cX5_init 32 = .ok (.bipush 20, 2) := dgX5_init_25.2.2.2.1
theorem dX5_init_34 : decode cX5_init 34 = .ok (.newarray .int, 2) := dgX5_init_25.2.2.2.2.1
theorem dX5_init_36 : decode cX5_init 36 = .ok (.putfield 29, 3) := dgX5_init_25.2.2.2.2.2.1
theorem dX5_init_39 : decode cX5_init 39 = .ok (.aload_n 0, 1) := dgX5_init_25.2.2.2.2.2.2.1
theorem dX5_init_40 : decode cX5_init 40 = .ok (.bipush 20, 2) := dgX5_init_25.2.2.2.2.2.2.2.1
theorem dX5_init_42 : decode cX5_init 42 = .ok (.newarray .int, 2) := dgX5_init_25.2.2.2.2.2.2.2.2.1
theorem dX5_init_44 : decode cX5_init 44 = .ok (.putfield 33, 3) := dgX5_init_25.2.2.2.2.2.2.2.2.2.1
theorem dX5_init_47 : decode cX5_init 47 = .ok (.aload_n 0, 1) := dgX5_init_25.2.2.2.2.2.2.2.2.2.2.1
theorem dX5_init_48 : decode cX5_init 48 = .ok (.bipush 80, 2) := dgX5_init_25.2.2.2.2.2.2.2.2.2.2.2.1
theorem dgX5_init_50 : (decode cX5_init 50 = .ok (.newarray .int, 2)) ∧ (decode cX5_init 52 = .ok (.putfield 36, 3)) ∧ (decode cX5_init 55 = .ok (.aload_n 0, 1)) ∧ (decode cX5_init 56 = .ok (.bipush 16, 2)) ∧ (decode cX5_init 58 = .ok (.newarray .int, 2)) ∧ (decode cX5_init 60 = .ok (.putfield 39, 3)) ∧ (decode cX5_init 63 = .ok (.aload_n 0, 1)) ∧ (decode cX5_init 64 = .ok (.ldc 42, 2)) ∧ (decode cX5_init 66 = .ok (.putfield 43, 3)) ∧ (decode cX5_init 69 = .ok (.return_, 1)) ∧ True := dkW [(50, .newarray .int, 2), (52, .putfield 36, 3), (55, .aload_n 0, 1), (56, .bipush 16, 2), (58, .newarray .int, 2), (60, .putfield 39, 3), (63, .aload_n 0, 1), (64, .ldc 42, 2), (66, .putfield 43, 3), (69, .return_, 1)] 50 (by decide +kernel)
theorem dX5_init_50 : decode cX5_init 50 = .ok (.newarray .int, 2) := dgX5_init_50.1
theorem dX5_init_52 : decode cX5_init 52 = .ok (.putfield 36, 3) := dgX5_init_50.2.1
theorem dX5_init_55 : decode cX5_init 55 = .ok (.aload_n 0, 1) := dgX5_init_50.2.2.1
theorem dX5_init_56 : decode cX5_init 56 = .ok (.bipush 16, 2) := dgX5_init_50.2.2.2.1
theorem dX5_init_58 : decode cX5_init 58 = .ok (.newarray .int, 2) := dgX5_init_50.2.2.2.2.1
theorem dX5_init_60 : decode cX5_init 60 = .ok (.putfield 39, 3) := dgX5_init_50.2.2.2.2.2.1
theorem dX5_init_63 : decode cX5_init 63 = .ok (.aload_n 0, 1) := dgX5_init_50.2.2.2.2.2.2.1
theorem dX5_init_64 : decode cX5_init 64 = .ok (.ldc 42, 2) := dgX5_init_50.2.2.2.2.2.2.2.1
theorem dX5_init_66 : decode cX5_init 66 = .ok (.putfield 43, 3) := dgX5_init_50.2.2.2.2.2.2.2.2.1
theorem dX5_init_69 : decode cX5_init 69 = .ok (.return_, 1) := dgX5_init_50.2.2.2.2.2.2.2.2.2.1
abbrev rmX5_init : Room := { frames := 1, cells := 7, slots := 236, locals := 12 }
noncomputable def fX5_init (N : Nat) (h : Hs) (t : Nat)  : Option (Hs) :=
  (some (nw h (23, 40))).bind fun h1 =>
  (qR 5 0 h1 (some t) (some (sz h))).bind fun h2 =>
  (some (nw h2 (24, 20))).bind fun h3 =>
  (qR 5 1 h3 (some t) (some (sz h2))).bind fun h4 =>
  (some (nw h4 (25, 40))).bind fun h5 =>
  (qR 5 2 h5 (some t) (some (sz h4))).bind fun h6 =>
  (some (nw h6 (20, 20))).bind fun h7 =>
  (qR 5 3 h7 (some t) (some (sz h6))).bind fun h8 =>
  (some (nw h8 (20, 20))).bind fun h9 =>
  (qR 5 4 h9 (some t) (some (sz h8))).bind fun h10 =>
  (some (nw h10 (20, 80))).bind fun h11 =>
  (qR 5 5 h11 (some t) (some (sz h10))).bind fun h12 =>
  (some (nw h12 (20, 16))).bind fun h13 =>
  (qR 5 6 h13 (some t) (some (sz h12))).bind fun h14 =>
  (qI 5 10 h14 (some t) 99999).bind fun h15 =>
  some h15
set_option maxHeartbeats 4000000 in
set_option maxRecDepth 20000 in
theorem kX5_init (l : Launch) (G : Gl) {N : Nat} {h : Hs} {t : Nat}  {r : Hs} (hf : fX5_init N h t  = some r) : CT l G yX5_init cX5_init 1 none rmX5_init [.inr (some t)] h (none) r := by
  refine mk_CT (by decide) (Nat.le_of_ble_eq_true rfl) ?_
  intro p e s m args below meth c C hret hin
  unfold fX5_init at hf
  refine r_aload_n C dX5_init_0 rfl ?_
  refine r_objInit C dX5_init_1 wd_120 wd_24 wd_25 (by decide) (Nat.le_of_ble_eq_true rfl) ?_
  refine r_aload_n C dX5_init_4 rfl ?_
  refine r_bipush (v := 40) C dX5_init_5 (by decide) ?_
  obtain ⟨h1, eh1, hf⟩ := bS hf
  cases eh1
  refine r_newQ (t := 3) (N := 40) C dX5_init_7 (by decide) (by decide) rfl wd_121 (fun q => q.2.1) (by decide) (by decide) (by decide) (by decide) (by decide) ?_
  obtain ⟨h2, eh2, hf⟩ := bS hf
  refine r_putR C dX5_init_10 fl_X5_11 (Or.inr ⟨ff_5_0, hin⟩) rfl eh2 ?_
  refine r_aload_n C dX5_init_13 rfl ?_
  refine r_bipush (v := 20) C dX5_init_14 (by decide) ?_
  obtain ⟨h3, eh3, hf⟩ := bS hf
  cases eh3
  refine r_newQ (t := 4) (N := 20) C dX5_init_16 (by decide) (by decide) rfl wd_123 (fun q => q.2.2.1) (by decide) (by decide) (by decide) (by decide) (by decide) ?_
  obtain ⟨h4, eh4, hf⟩ := bS hf
  refine r_putR C dX5_init_19 fl_X5_19 (Or.inr ⟨ff_5_1, hin⟩) rfl eh4 ?_
  refine r_aload_n C dX5_init_22 rfl ?_
  refine r_bipush (v := 40) C dX5_init_23 (by decide) ?_
  obtain ⟨h5, eh5, hf⟩ := bS hf
  cases eh5
  refine r_newQ (t := 5) (N := 40) C dX5_init_25 (by decide) (by decide) rfl wd_125 (fun q => q.2.2.2.1) (by decide) (by decide) (by decide) (by decide) (by decide) ?_
  obtain ⟨h6, eh6, hf⟩ := bS hf
  refine r_putR C dX5_init_28 fl_X5_25 (Or.inr ⟨ff_5_2, hin⟩) rfl eh6 ?_
  refine r_aload_n C dX5_init_31 rfl ?_
  refine r_bipush (v := 20) C dX5_init_32 (by decide) ?_
  obtain ⟨h7, eh7, hf⟩ := bS hf
  cases eh7
  refine r_newA (t := 0) (N := 20) C dX5_init_34 (by decide) rfl rfl wd_62 (by decide) (by decide) (by decide) (fun _ _ q => q) (by decide) (by decide) ?_
  obtain ⟨h8, eh8, hf⟩ := bS hf
  refine r_putR C dX5_init_36 fl_X5_29 (Or.inr ⟨ff_5_3, hin⟩) rfl eh8 ?_
  refine r_aload_n C dX5_init_39 rfl ?_
  refine r_bipush (v := 20) C dX5_init_40 (by decide) ?_
  obtain ⟨h9, eh9, hf⟩ := bS hf
  cases eh9
  refine r_newA (t := 0) (N := 20) C dX5_init_42 (by decide) rfl rfl wd_62 (by decide) (by decide) (by decide) (fun _ _ q => q) (by decide) (by decide) ?_
  obtain ⟨h10, eh10, hf⟩ := bS hf
  refine r_putR C dX5_init_44 fl_X5_33 (Or.inr ⟨ff_5_4, hin⟩) rfl eh10 ?_
  refine r_aload_n C dX5_init_47 rfl ?_
  refine r_bipush (v := 80) C dX5_init_48 (by decide) ?_
  obtain ⟨h11, eh11, hf⟩ := bS hf
  cases eh11
  refine r_newA (t := 0) (N := 80) C dX5_init_50 (by decide) rfl rfl wd_62 (by decide) (by decide) (by decide) (fun _ _ q => q) (by decide) (by decide) ?_
  obtain ⟨h12, eh12, hf⟩ := bS hf
  refine r_putR C dX5_init_52 fl_X5_36 (Or.inr ⟨ff_5_5, hin⟩) rfl eh12 ?_
  refine r_aload_n C dX5_init_55 rfl ?_
  refine r_bipush (v := 16) C dX5_init_56 (by decide) ?_
  obtain ⟨h13, eh13, hf⟩ := bS hf
  cases eh13
  refine r_newA (t := 0) (N := 16) C dX5_init_58 (by decide) rfl rfl wd_62 (by decide) (by decide) (by decide) (fun _ _ q => q) (by decide) (by decide) ?_
  obtain ⟨h14, eh14, hf⟩ := bS hf
  refine r_putR C dX5_init_60 fl_X5_39 (Or.inr ⟨ff_5_6, hin⟩) rfl eh14 ?_
  refine r_aload_n C dX5_init_63 rfl ?_
  refine r_ldc C dX5_init_64 wd_127 ?_
  obtain ⟨h15, eh15, hf⟩ := bS hf
  refine r_putI C dX5_init_66 fl_X5_43 (Or.inl fn_5_10) rfl eh15 ?_
  exact r_vretF C dX5_init_69 hret hf (by decide) (by decide)

theorem dgX5_drumNumbered_0 : (decode cX5_drumNumbered 0 = .ok (.iload_n 1, 1)) ∧ (decode cX5_drumNumbered 1 = .ok (.iconst 0, 1)) ∧ (decode cX5_drumNumbered 2 = .ok (.aload_n 0, 1)) ∧ (decode cX5_drumNumbered 3 = .ok (.getfield 54, 3)) ∧ (decode cX5_drumNumbered 6 = .ok (.iconst 1, 1)) ∧ (decode cX5_drumNumbered 7 = .ok (.isub, 1)) ∧ (decode cX5_drumNumbered 8 = .ok (.invokestatic 50, 3)) ∧ (decode cX5_drumNumbered 11 = .ok (.ifCond .eq 12, 3)) ∧ (decode cX5_drumNumbered 14 = .ok (.aload_n 0, 1)) ∧ (decode cX5_drumNumbered 15 = .ok (.getfield 19, 3)) ∧ (decode cX5_drumNumbered 18 = .ok (.iload_n 1, 1)) ∧ (decode cX5_drumNumbered 19 = .ok (.aaload, 1)) ∧ True := dkW [(0, .iload_n 1, 1), (1, .iconst 0, 1), (2, .aload_n 0, 1), (3, .getfield 54, 3), (6, .iconst 1, 1), (7, .isub, 1), (8, .invokestatic 50, 3), (11, .ifCond .eq 12, 3), (14, .aload_n 0, 1), (15, .getfield 19, 3), (18, .iload_n 1, 1), (19, .aaload, 1)] 0 (by decide +kernel)
theorem dX5_drumNumbered_0 : decode cX5_drumNumbered 0 = .ok (.iload_n 1, 1) := dgX5_drumNumbered_0.1
theorem dX5_drumNumbered_1 : decode cX5_drumNumbered 1 = .ok (.iconst 0, 1) := dgX5_drumNumbered_0.2.1
theorem dX5_drumNumbered_2 : decode cX5_drumNumbered 2 = .ok (.aload_n 0, 1) := dgX5_drumNumbered_0.2.2.1
theorem dX5_drumNumbered_3 : decode cX5_drumNumbered 3 = .ok (.getfield 54, 3) := dgX5_drumNumbered_0.2.2.2.1
theorem dX5_drumNumbered_6 : decode cX5_drumNumbered 6 = .ok (.iconst 1, 1) := dgX5_drumNumbered_0.2.2.2.2.1
theorem dX5_drumNumbered_7 : decode cX5_drumNumbered 7 = .ok (.isub, 1) := dgX5_drumNumbered_0.2.2.2.2.2.1
theorem dX5_drumNumbered_8 : decode cX5_drumNumbered 8 = .ok (.invokestatic 50, 3) := dgX5_drumNumbered_0.2.2.2.2.2.2.1
theorem dX5_drumNumbered_11 : decode cX5_drumNumbered 11 = .ok (.ifCond .eq 12, 3) := dgX5_drumNumbered_0.2.2.2.2.2.2.2.1
theorem dX5_drumNumbered_14 : decode cX5_drumNumbered 14 = .ok (.aload_n 0, 1) := dgX5_drumNumbered_0.2.2.2.2.2.2.2.2.1
theorem dX5_drumNumbered_15 : decode cX5_drumNumbered 15 = .ok (.getfield 19, 3) := dgX5_drumNumbered_0.2.2.2.2.2.2.2.2.2.1
theorem dX5_drumNumbered_18 : decode cX5_drumNumbered 18 = .ok (.iload_n 1, 1) := dgX5_drumNumbered_0.2.2.2.2.2.2.2.2.2.2.1
theorem dX5_drumNumbered_19 : decode cX5_drumNumbered 19 = .ok (.aaload, 1) := dgX5_drumNumbered_0.2.2.2.2.2.2.2.2.2.2.2.1
theorem dgX5_drumNumbered_20 : (decode cX5_drumNumbered 20 = .ok (.goto 4, 3)) ∧ (decode cX5_drumNumbered 23 = .ok (.aconst_null, 1)) ∧ (decode cX5_drumNumbered 24 = .ok (.areturn, 1)) ∧ True := dkW [(20, .goto 4, 3), (23, .aconst_null, 1), (24, .areturn, 1)] 20 (by decide +kernel)
theorem dX5_drumNumbered_20 : decode cX5_drumNumbered 20 = .ok (.goto 4, 3) := dgX5_drumNumbered_20.1
theorem dX5_drumNumbered_23 : decode cX5_drumNumbered 23 = .ok (.aconst_null, 1) := dgX5_drumNumbered_20.2.1
theorem dX5_drumNumbered_24 : decode cX5_drumNumbered 24 = .ok (.areturn, 1) := dgX5_drumNumbered_20.2.2.1
abbrev rmX5_drumNumbered : Room := { frames := 1, cells := 0, slots := 0, locals := 22 }
noncomputable def fX5_drumNumbered_b24 (N : Nat)  (t : Nat) (h : Hs) (q0 : Option Nat) : Option (Option Nat × Hs) :=
  some (q0, h)
set_option maxHeartbeats 4000000 in
set_option maxRecDepth 20000 in
theorem wX5_drumNumbered_b24 {p : Program} {l : Launch} {e : Env} {s : State} {m : MethodId} {args : Array Value} {below : List Frame} {meth : Method} {c : Code} {G : Gl} {N : Nat} {h : Hs} {r : Option Nat × Hs}  {t : Nat} {q0 : Option Nat} (C : Cx p s m args meth c cX5_drumNumbered RX5 2 G) (hret : meth.sig.returnType = (Option.some (FieldType.object "StageMachine$Drum")))  (hf : fX5_drumNumbered_b24 N  t h q0 = some r) : V p l e rmX5_drumNumbered s m args below meth c G 2 (MQ below (QcG G (some (.inr r.1)) r.2) args s rmX5_drumNumbered.cells rmX5_drumNumbered.slots (AG G)) h 0 0 24 [some (.inr (some t)), none] [.inr q0] := by
  unfold fX5_drumNumbered_b24 at hf
  exact r_aretF C dX5_drumNumbered_24 hret hf (by decide) (by decide)
noncomputable def fX5_drumNumbered (N : Nat) (h : Hs) (t : Nat) (p1 : Int32) : Option (Option Nat × Hs) :=
  (oI 5 8 h (some t)).bind fun v1 =>
  (fX11_isWithin N h p1 0 (v1 - 1)).bind fun r2 =>
  if r2.1 = 0 then (
  fX5_drumNumbered_b24 N t r2.2 none)
  else (oR 5 1 r2.2 (some t)).bind fun o3 =>
  (lQ 24 r2.2 o3 p1).bind fun o4 =>
  fX5_drumNumbered_b24 N t r2.2 o4
set_option maxHeartbeats 4000000 in
set_option maxRecDepth 20000 in
theorem kX5_drumNumbered (l : Launch) (G : Gl) {N : Nat} {h : Hs} {t : Nat} {p1 : Int32} {r : Option Nat × Hs} (hf : fX5_drumNumbered N h t p1 = some r) : CT l G yX5_drumNumbered cX5_drumNumbered 2 (Option.some (FieldType.object "StageMachine$Drum")) rmX5_drumNumbered [.inr (some t), .inl p1] h (some (.inr r.1)) r.2 := by
  refine mk_CT (by decide) (Nat.le_of_ble_eq_true rfl) ?_
  intro p e s m args below meth c C hret hin
  unfold fX5_drumNumbered at hf
  refine r_iload_n C dX5_drumNumbered_0 rfl ?_
  refine r_iconst (v := 0) C dX5_drumNumbered_1 (by decide) ?_
  refine r_aload_n C dX5_drumNumbered_2 rfl ?_
  obtain ⟨v1, ev1, hf⟩ := bS hf
  refine r_getI C dX5_drumNumbered_3 fl_X5_54 rfl ev1 ?_
  refine r_iconst (v := 1) C dX5_drumNumbered_6 (by decide) ?_
  refine r_isub C dX5_drumNumbered_7 ?_
  obtain ⟨r2, er2, hf⟩ := bS hf
  refine r_invSN1 (As := [.inl p1, .inl 0, .inl (v1 - 1)]) (host := "StageMachine") C dX5_drumNumbered_8 mcX11_isWithin (by decide) wd_291 ⟨by decide, by decide⟩ ⟨by decide, by decide⟩ rfl (Nat.le_of_ble_eq_true rfl) (kX11_isWithin l G er2) ?_
  refine r_if_eq (tgt := 23) C dX5_drumNumbered_11 (by decide) (fun hc => ?_) (fun hc => ?_)
  · have hf := ifT hf hc
    refine r_null C dX5_drumNumbered_23 ?_
    exact V.sub (wX5_drumNumbered_b24 C hret hf) (LW_s rfl (LW_n (LW_e)))
  · have hf := ifF hf hc
    refine r_aload_n C dX5_drumNumbered_14 rfl ?_
    obtain ⟨o3, eo3, hf⟩ := bS hf
    refine r_getR C dX5_drumNumbered_15 fl_X5_19 rfl eo3 ?_
    refine r_iload_n C dX5_drumNumbered_18 rfl ?_
    obtain ⟨o4, eo4, hf⟩ := bS hf
    refine r_qald (t := 4) C dX5_drumNumbered_19 (by decide) (by decide) rfl eo4 ?_
    refine r_goto (tgt := 24) C dX5_drumNumbered_20 (by decide) ?_
    exact V.sub (wX5_drumNumbered_b24 C hret hf) (LW_s rfl (LW_n (LW_e)))

theorem dgX5_ropeNumbered_0 : (decode cX5_ropeNumbered 0 = .ok (.iload_n 1, 1)) ∧ (decode cX5_ropeNumbered 1 = .ok (.iconst 0, 1)) ∧ (decode cX5_ropeNumbered 2 = .ok (.aload_n 0, 1)) ∧ (decode cX5_ropeNumbered 3 = .ok (.getfield 57, 3)) ∧ (decode cX5_ropeNumbered 6 = .ok (.iconst 1, 1)) ∧ (decode cX5_ropeNumbered 7 = .ok (.isub, 1)) ∧ (decode cX5_ropeNumbered 8 = .ok (.invokestatic 50, 3)) ∧ (decode cX5_ropeNumbered 11 = .ok (.ifCond .eq 12, 3)) ∧ (decode cX5_ropeNumbered 14 = .ok (.aload_n 0, 1)) ∧ (decode cX5_ropeNumbered 15 = .ok (.getfield 25, 3)) ∧ (decode cX5_ropeNumbered 18 = .ok (.iload_n 1, 1)) ∧ (decode cX5_ropeNumbered 19 = .ok (.aaload, 1)) ∧ True := dkW [(0, .iload_n 1, 1), (1, .iconst 0, 1), (2, .aload_n 0, 1), (3, .getfield 57, 3), (6, .iconst 1, 1), (7, .isub, 1), (8, .invokestatic 50, 3), (11, .ifCond .eq 12, 3), (14, .aload_n 0, 1), (15, .getfield 25, 3), (18, .iload_n 1, 1), (19, .aaload, 1)] 0 (by decide +kernel)
theorem dX5_ropeNumbered_0 : decode cX5_ropeNumbered 0 = .ok (.iload_n 1, 1) := dgX5_ropeNumbered_0.1
theorem dX5_ropeNumbered_1 : decode cX5_ropeNumbered 1 = .ok (.iconst 0, 1) := dgX5_ropeNumbered_0.2.1
theorem dX5_ropeNumbered_2 : decode cX5_ropeNumbered 2 = .ok (.aload_n 0, 1) := dgX5_ropeNumbered_0.2.2.1
theorem dX5_ropeNumbered_3 : decode cX5_ropeNumbered 3 = .ok (.getfield 57, 3) := dgX5_ropeNumbered_0.2.2.2.1
theorem dX5_ropeNumbered_6 : decode cX5_ropeNumbered 6 = .ok (.iconst 1, 1) := dgX5_ropeNumbered_0.2.2.2.2.1
theorem dX5_ropeNumbered_7 : decode cX5_ropeNumbered 7 = .ok (.isub, 1) := dgX5_ropeNumbered_0.2.2.2.2.2.1
theorem dX5_ropeNumbered_8 : decode cX5_ropeNumbered 8 = .ok (.invokestatic 50, 3) := dgX5_ropeNumbered_0.2.2.2.2.2.2.1
theorem dX5_ropeNumbered_11 : decode cX5_ropeNumbered 11 = .ok (.ifCond .eq 12, 3) := dgX5_ropeNumbered_0.2.2.2.2.2.2.2.1
theorem dX5_ropeNumbered_14 : decode cX5_ropeNumbered 14 = .ok (.aload_n 0, 1) := dgX5_ropeNumbered_0.2.2.2.2.2.2.2.2.1
theorem dX5_ropeNumbered_15 : decode cX5_ropeNumbered 15 = .ok (.getfield 25, 3) := dgX5_ropeNumbered_0.2.2.2.2.2.2.2.2.2.1
theorem dX5_ropeNumbered_18 : decode cX5_ropeNumbered 18 = .ok (.iload_n 1, 1) := dgX5_ropeNumbered_0.2.2.2.2.2.2.2.2.2.2.1
theorem dX5_ropeNumbered_19 : decode cX5_ropeNumbered 19 = .ok (.aaload, 1) := dgX5_ropeNumbered_0.2.2.2.2.2.2.2.2.2.2.2.1
theorem dgX5_ropeNumbered_20 : (decode cX5_ropeNumbered 20 = .ok (.goto 4, 3)) ∧ (decode cX5_ropeNumbered 23 = .ok (.aconst_null, 1)) ∧ (decode cX5_ropeNumbered 24 = .ok (.areturn, 1)) ∧ True := dkW [(20, .goto 4, 3), (23, .aconst_null, 1), (24, .areturn, 1)] 20 (by decide +kernel)
theorem dX5_ropeNumbered_20 : decode cX5_ropeNumbered 20 = .ok (.goto 4, 3) := dgX5_ropeNumbered_20.1
theorem dX5_ropeNumbered_23 : decode cX5_ropeNumbered 23 = .ok (.aconst_null, 1) := dgX5_ropeNumbered_20.2.1
theorem dX5_ropeNumbered_24 : decode cX5_ropeNumbered 24 = .ok (.areturn, 1) := dgX5_ropeNumbered_20.2.2.1
abbrev rmX5_ropeNumbered : Room := { frames := 1, cells := 0, slots := 0, locals := 22 }
noncomputable def fX5_ropeNumbered_b24 (N : Nat)  (t : Nat) (h : Hs) (q0 : Option Nat) : Option (Option Nat × Hs) :=
  some (q0, h)
set_option maxHeartbeats 4000000 in
set_option maxRecDepth 20000 in
theorem wX5_ropeNumbered_b24 {p : Program} {l : Launch} {e : Env} {s : State} {m : MethodId} {args : Array Value} {below : List Frame} {meth : Method} {c : Code} {G : Gl} {N : Nat} {h : Hs} {r : Option Nat × Hs}  {t : Nat} {q0 : Option Nat} (C : Cx p s m args meth c cX5_ropeNumbered RX5 2 G) (hret : meth.sig.returnType = (Option.some (FieldType.object "StageMachine$Rope")))  (hf : fX5_ropeNumbered_b24 N  t h q0 = some r) : V p l e rmX5_ropeNumbered s m args below meth c G 2 (MQ below (QcG G (some (.inr r.1)) r.2) args s rmX5_ropeNumbered.cells rmX5_ropeNumbered.slots (AG G)) h 0 0 24 [some (.inr (some t)), none] [.inr q0] := by
  unfold fX5_ropeNumbered_b24 at hf
  exact r_aretF C dX5_ropeNumbered_24 hret hf (by decide) (by decide)
noncomputable def fX5_ropeNumbered (N : Nat) (h : Hs) (t : Nat) (p1 : Int32) : Option (Option Nat × Hs) :=
  (oI 5 9 h (some t)).bind fun v1 =>
  (fX11_isWithin N h p1 0 (v1 - 1)).bind fun r2 =>
  if r2.1 = 0 then (
  fX5_ropeNumbered_b24 N t r2.2 none)
  else (oR 5 2 r2.2 (some t)).bind fun o3 =>
  (lQ 25 r2.2 o3 p1).bind fun o4 =>
  fX5_ropeNumbered_b24 N t r2.2 o4
set_option maxHeartbeats 4000000 in
set_option maxRecDepth 20000 in
theorem kX5_ropeNumbered (l : Launch) (G : Gl) {N : Nat} {h : Hs} {t : Nat} {p1 : Int32} {r : Option Nat × Hs} (hf : fX5_ropeNumbered N h t p1 = some r) : CT l G yX5_ropeNumbered cX5_ropeNumbered 2 (Option.some (FieldType.object "StageMachine$Rope")) rmX5_ropeNumbered [.inr (some t), .inl p1] h (some (.inr r.1)) r.2 := by
  refine mk_CT (by decide) (Nat.le_of_ble_eq_true rfl) ?_
  intro p e s m args below meth c C hret hin
  unfold fX5_ropeNumbered at hf
  refine r_iload_n C dX5_ropeNumbered_0 rfl ?_
  refine r_iconst (v := 0) C dX5_ropeNumbered_1 (by decide) ?_
  refine r_aload_n C dX5_ropeNumbered_2 rfl ?_
  obtain ⟨v1, ev1, hf⟩ := bS hf
  refine r_getI C dX5_ropeNumbered_3 fl_X5_57 rfl ev1 ?_
  refine r_iconst (v := 1) C dX5_ropeNumbered_6 (by decide) ?_
  refine r_isub C dX5_ropeNumbered_7 ?_
  obtain ⟨r2, er2, hf⟩ := bS hf
  refine r_invSN1 (As := [.inl p1, .inl 0, .inl (v1 - 1)]) (host := "StageMachine") C dX5_ropeNumbered_8 mcX11_isWithin (by decide) wd_291 ⟨by decide, by decide⟩ ⟨by decide, by decide⟩ rfl (Nat.le_of_ble_eq_true rfl) (kX11_isWithin l G er2) ?_
  refine r_if_eq (tgt := 23) C dX5_ropeNumbered_11 (by decide) (fun hc => ?_) (fun hc => ?_)
  · have hf := ifT hf hc
    refine r_null C dX5_ropeNumbered_23 ?_
    exact V.sub (wX5_ropeNumbered_b24 C hret hf) (LW_s rfl (LW_n (LW_e)))
  · have hf := ifF hf hc
    refine r_aload_n C dX5_ropeNumbered_14 rfl ?_
    obtain ⟨o3, eo3, hf⟩ := bS hf
    refine r_getR C dX5_ropeNumbered_15 fl_X5_25 rfl eo3 ?_
    refine r_iload_n C dX5_ropeNumbered_18 rfl ?_
    obtain ⟨o4, eo4, hf⟩ := bS hf
    refine r_qald (t := 5) C dX5_ropeNumbered_19 (by decide) (by decide) rfl eo4 ?_
    refine r_goto (tgt := 24) C dX5_ropeNumbered_20 (by decide) ?_
    exact V.sub (wX5_ropeNumbered_b24 C hret hf) (LW_s rfl (LW_n (LW_e)))

theorem dgX5_isStagePlace_0 : (decode cX5_isStagePlace 0 = .ok (.iload_n 0, 1)) ∧ (decode cX5_isStagePlace 1 = .ok (.iconst 0, 1)) ∧ (decode cX5_isStagePlace 2 = .ok (.sipush 1599, 3)) ∧ (decode cX5_isStagePlace 5 = .ok (.invokestatic 50, 3)) ∧ (decode cX5_isStagePlace 8 = .ok (.ireturn, 1)) ∧ True := dkW [(0, .iload_n 0, 1), (1, .iconst 0, 1), (2, .sipush 1599, 3), (5, .invokestatic 50, 3), (8, .ireturn, 1)] 0 (by decide +kernel)
theorem dX5_isStagePlace_0 : decode cX5_isStagePlace 0 = .ok (.iload_n 0, 1) := dgX5_isStagePlace_0.1
theorem dX5_isStagePlace_1 : decode cX5_isStagePlace 1 = .ok (.iconst 0, 1) := dgX5_isStagePlace_0.2.1
theorem dX5_isStagePlace_2 : decode cX5_isStagePlace 2 = .ok (.sipush 1599, 3) := dgX5_isStagePlace_0.2.2.1
theorem dX5_isStagePlace_5 : decode cX5_isStagePlace 5 = .ok (.invokestatic 50, 3) := dgX5_isStagePlace_0.2.2.2.1
theorem dX5_isStagePlace_8 : decode cX5_isStagePlace 8 = .ok (.ireturn, 1) := dgX5_isStagePlace_0.2.2.2.2.1
abbrev rmX5_isStagePlace : Room := { frames := 1, cells := 0, slots := 0, locals := 22 }
noncomputable def fX5_isStagePlace (N : Nat) (h : Hs) (p0 : Int32) : Option (Int32 × Hs) :=
  (fX11_isWithin N h p0 0 1599).bind fun r1 =>
  (zc r1.1).bind fun z2 =>
  some (z2, r1.2)
set_option maxHeartbeats 4000000 in
set_option maxRecDepth 20000 in
theorem kX5_isStagePlace (l : Launch) (G : Gl) {N : Nat} {h : Hs} {p0 : Int32} {r : Int32 × Hs} (hf : fX5_isStagePlace N h p0 = some r) : CT l G yX5_isStagePlace cX5_isStagePlace 1 (some .boolean) rmX5_isStagePlace [.inl p0] h (some (.inl r.1)) r.2 := by
  refine mk_CT (by decide) (Nat.le_of_ble_eq_true rfl) ?_
  intro p e s m args below meth c C hret hin
  unfold fX5_isStagePlace at hf
  refine r_iload_n C dX5_isStagePlace_0 rfl ?_
  refine r_iconst (v := 0) C dX5_isStagePlace_1 (by decide) ?_
  refine r_sipush (v := 1599) C dX5_isStagePlace_2 (by decide) ?_
  obtain ⟨r1, er1, hf⟩ := bS hf
  refine r_invSN1 (As := [.inl p0, .inl 0, .inl 1599]) (host := "StageMachine") C dX5_isStagePlace_5 mcX11_isWithin (by decide) wd_291 ⟨by decide, by decide⟩ ⟨by decide, by decide⟩ rfl (Nat.le_of_ble_eq_true rfl) (kX11_isWithin l G er1) ?_
  obtain ⟨z2, ez2, hf⟩ := bS hf
  exact r_zretF C dX5_isStagePlace_8 hret ez2 hf (by decide) (by decide)

theorem dgX11_overlap_0 : (decode cX11_overlap 0 = .ok (.iload_n 0, 1)) ∧ (decode cX11_overlap 1 = .ok (.iload_n 2, 1)) ∧ (decode cX11_overlap 2 = .ok (.iload_n 3, 1)) ∧ (decode cX11_overlap 3 = .ok (.iadd, 1)) ∧ (decode cX11_overlap 4 = .ok (.if_icmp .ge 14, 3)) ∧ (decode cX11_overlap 7 = .ok (.iload_n 2, 1)) ∧ (decode cX11_overlap 8 = .ok (.iload_n 0, 1)) ∧ (decode cX11_overlap 9 = .ok (.iload_n 1, 1)) ∧ (decode cX11_overlap 10 = .ok (.iadd, 1)) ∧ (decode cX11_overlap 11 = .ok (.if_icmp .ge 7, 3)) ∧ (decode cX11_overlap 14 = .ok (.iconst 1, 1)) ∧ (decode cX11_overlap 15 = .ok (.goto 4, 3)) ∧ True := dkW [(0, .iload_n 0, 1), (1, .iload_n 2, 1), (2, .iload_n 3, 1), (3, .iadd, 1), (4, .if_icmp .ge 14, 3), (7, .iload_n 2, 1), (8, .iload_n 0, 1), (9, .iload_n 1, 1), (10, .iadd, 1), (11, .if_icmp .ge 7, 3), (14, .iconst 1, 1), (15, .goto 4, 3)] 0 (by decide +kernel)
theorem dX11_overlap_0 : decode cX11_overlap 0 = .ok (.iload_n 0, 1) := dgX11_overlap_0.1
theorem dX11_overlap_1 : decode cX11_overlap 1 = .ok (.iload_n 2, 1) := dgX11_overlap_0.2.1
theorem dX11_overlap_2 : decode cX11_overlap 2 = .ok (.iload_n 3, 1) := dgX11_overlap_0.2.2.1
theorem dX11_overlap_3 : decode cX11_overlap 3 = .ok (.iadd, 1) := dgX11_overlap_0.2.2.2.1
theorem dX11_overlap_4 : decode cX11_overlap 4 = .ok (.if_icmp .ge 14, 3) := dgX11_overlap_0.2.2.2.2.1
theorem dX11_overlap_7 : decode cX11_overlap 7 = .ok (.iload_n 2, 1) := dgX11_overlap_0.2.2.2.2.2.1
theorem dX11_overlap_8 : decode cX11_overlap 8 = .ok (.iload_n 0, 1) := dgX11_overlap_0.2.2.2.2.2.2.1
theorem dX11_overlap_9 : decode cX11_overlap 9 = .ok (.iload_n 1, 1) := dgX11_overlap_0.2.2.2.2.2.2.2.1
theorem dX11_overlap_10 : decode cX11_overlap 10 = .ok (.iadd, 1) := dgX11_overlap_0.2.2.2.2.2.2.2.2.1
theorem dX11_overlap_11 : decode cX11_overlap 11 = .ok (.if_icmp .ge 7, 3) := dgX11_overlap_0.2.2.2.2.2.2.2.2.2.1
theorem dX11_overlap_14 : decode cX11_overlap 14 = .ok (.iconst 1, 1) := dgX11_overlap_0.2.2.2.2.2.2.2.2.2.2.1
theorem dX11_overlap_15 : decode cX11_overlap 15 = .ok (.goto 4, 3) := dgX11_overlap_0.2.2.2.2.2.2.2.2.2.2.2.1
theorem dgX11_overlap_18 : (decode cX11_overlap 18 = .ok (.iconst 0, 1)) ∧ (decode cX11_overlap 19 = .ok (.ireturn, 1)) ∧ True := dkW [(18, .iconst 0, 1), (19, .ireturn, 1)] 18 (by decide +kernel)
theorem dX11_overlap_18 : decode cX11_overlap 18 = .ok (.iconst 0, 1) := dgX11_overlap_18.1
theorem dX11_overlap_19 : decode cX11_overlap 19 = .ok (.ireturn, 1) := dgX11_overlap_18.2.1
abbrev rmX11_overlap : Room := { frames := 0, cells := 0, slots := 0, locals := 0 }
noncomputable def fX11_overlap_b19 (N : Nat)  (h : Hs) (u0 : Int32) : Option (Int32 × Hs) :=
  (zc u0).bind fun z1 =>
  some (z1, h)
set_option maxHeartbeats 4000000 in
set_option maxRecDepth 20000 in
theorem wX11_overlap_b19 {p : Program} {l : Launch} {e : Env} {s : State} {m : MethodId} {args : Array Value} {below : List Frame} {meth : Method} {c : Code} {G : Gl} {N : Nat} {h : Hs} {r : Int32 × Hs}  {u0 : Int32} (C : Cx p s m args meth c cX11_overlap RX11 4 G) (hret : meth.sig.returnType = (some .boolean))  (hf : fX11_overlap_b19 N  h u0 = some r) : V p l e rmX11_overlap s m args below meth c G 4 (MQ below (QcG G (some (.inl r.1)) r.2) args s rmX11_overlap.cells rmX11_overlap.slots (AG G)) h 0 0 19 [none, none, none, none] [.inl u0] := by
  unfold fX11_overlap_b19 at hf
  obtain ⟨z1, ez1, hf⟩ := bS hf
  exact r_zretF C dX11_overlap_19 hret ez1 hf (by decide) (by decide)
noncomputable def fX11_overlap_b18 (N : Nat)  (h : Hs)  : Option (Int32 × Hs) :=
  fX11_overlap_b19 N h 0
set_option maxHeartbeats 4000000 in
set_option maxRecDepth 20000 in
theorem wX11_overlap_b18 {p : Program} {l : Launch} {e : Env} {s : State} {m : MethodId} {args : Array Value} {below : List Frame} {meth : Method} {c : Code} {G : Gl} {N : Nat} {h : Hs} {r : Int32 × Hs}   (C : Cx p s m args meth c cX11_overlap RX11 4 G) (hret : meth.sig.returnType = (some .boolean))  (hf : fX11_overlap_b18 N  h  = some r) : V p l e rmX11_overlap s m args below meth c G 4 (MQ below (QcG G (some (.inl r.1)) r.2) args s rmX11_overlap.cells rmX11_overlap.slots (AG G)) h 0 0 18 [none, none, none, none] [] := by
  unfold fX11_overlap_b18 at hf
  refine r_iconst (v := 0) C dX11_overlap_18 (by decide) ?_
  exact V.sub (wX11_overlap_b19 C hret hf) (LW_n (LW_n (LW_n (LW_n (LW_e)))))
noncomputable def fX11_overlap (N : Nat) (h : Hs) (p0 : Int32) (p1 : Int32) (p2 : Int32) (p3 : Int32) : Option (Int32 × Hs) :=
  if (p2 + p3) ≤ p0 then (
  fX11_overlap_b18 N h)
  else if (p0 + p1) ≤ p2 then (
  fX11_overlap_b18 N h)
  else fX11_overlap_b19 N h 1
set_option maxHeartbeats 4000000 in
set_option maxRecDepth 20000 in
theorem kX11_overlap (l : Launch) (G : Gl) {N : Nat} {h : Hs} {p0 : Int32} {p1 : Int32} {p2 : Int32} {p3 : Int32} {r : Int32 × Hs} (hf : fX11_overlap N h p0 p1 p2 p3 = some r) : CT l G yX11_overlap cX11_overlap 4 (some .boolean) rmX11_overlap [.inl p0, .inl p1, .inl p2, .inl p3] h (some (.inl r.1)) r.2 := by
  refine mk_CT (by decide) (Nat.le_of_ble_eq_true rfl) ?_
  intro p e s m args below meth c C hret hin
  unfold fX11_overlap at hf
  refine r_iload_n C dX11_overlap_0 rfl ?_
  refine r_iload_n C dX11_overlap_1 rfl ?_
  refine r_iload_n C dX11_overlap_2 rfl ?_
  refine r_iadd C dX11_overlap_3 ?_
  refine r_icmp_ge (tgt := 18) C dX11_overlap_4 (by decide) (fun hc => ?_) (fun hc => ?_)
  · have hf := ifT hf hc
    exact V.sub (wX11_overlap_b18 C hret hf) (LW_n (LW_n (LW_n (LW_n (LW_e)))))
  · have hf := ifF hf hc
    refine r_iload_n C dX11_overlap_7 rfl ?_
    refine r_iload_n C dX11_overlap_8 rfl ?_
    refine r_iload_n C dX11_overlap_9 rfl ?_
    refine r_iadd C dX11_overlap_10 ?_
    refine r_icmp_ge (tgt := 18) C dX11_overlap_11 (by decide) (fun hc => ?_) (fun hc => ?_)
    · have hf := ifT hf hc
      exact V.sub (wX11_overlap_b18 C hret hf) (LW_n (LW_n (LW_n (LW_n (LW_e)))))
    · have hf := ifF hf hc
      refine r_iconst (v := 1) C dX11_overlap_14 (by decide) ?_
      refine r_goto (tgt := 19) C dX11_overlap_15 (by decide) ?_
      exact V.sub (wX11_overlap_b19 C hret hf) (LW_n (LW_n (LW_n (LW_n (LW_e)))))

theorem dgX5_isClear_0 : (decode cX5_isClear 0 = .ok (.iconst 0, 1)) ∧ (decode cX5_isClear 1 = .ok (.istore 5, 2)) ∧ (decode cX5_isClear 3 = .ok (.iload 5, 2)) ∧ (decode cX5_isClear 5 = .ok (.aload_n 0, 1)) ∧ (decode cX5_isClear 6 = .ok (.getfield 47, 3)) ∧ (decode cX5_isClear 9 = .ok (.if_icmp .ge 66, 3)) ∧ (decode cX5_isClear 12 = .ok (.aload_n 0, 1)) ∧ (decode cX5_isClear 13 = .ok (.getfield 11, 3)) ∧ (decode cX5_isClear 16 = .ok (.iload 5, 2)) ∧ (decode cX5_isClear 18 = .ok (.aaload, 1)) ∧ (decode cX5_isClear 19 = .ok (.astore 6, 2)) ∧ (decode cX5_isClear 21 = .ok (.aload 6, 2)) ∧ True := dkW [(0, .iconst 0, 1), (1, .istore 5, 2), (3, .iload 5, 2), (5, .aload_n 0, 1), (6, .getfield 47, 3), (9, .if_icmp .ge 66, 3), (12, .aload_n 0, 1), (13, .getfield 11, 3), (16, .iload 5, 2), (18, .aaload, 1), (19, .astore 6, 2), (21, .aload 6, 2)] 0 (by decide +kernel)
theorem dX5_isClear_0 : decode cX5_isClear 0 = .ok (.iconst 0, 1) := dgX5_isClear_0.1
theorem dX5_isClear_1 : decode cX5_isClear 1 = .ok (.istore 5, 2) := dgX5_isClear_0.2.1
theorem dX5_isClear_3 : decode cX5_isClear 3 = .ok (.iload 5, 2) := dgX5_isClear_0.2.2.1
theorem dX5_isClear_5 : decode cX5_isClear 5 = .ok (.aload_n 0, 1) := dgX5_isClear_0.2.2.2.1
theorem dX5_isClear_6 : decode cX5_isClear 6 = .ok (.getfield 47, 3) := dgX5_isClear_0.2.2.2.2.1
theorem dX5_isClear_9 : decode cX5_isClear 9 = .ok (.if_icmp .ge 66, 3) := dgX5_isClear_0.2.2.2.2.2.1
theorem dX5_isClear_12 : decode cX5_isClear 12 = .ok (.aload_n 0, 1) := dgX5_isClear_0.2.2.2.2.2.2.1
theorem dX5_isClear_13 : decode cX5_isClear 13 = .ok (.getfield 11, 3) := dgX5_isClear_0.2.2.2.2.2.2.2.1
theorem dX5_isClear_16 : decode cX5_isClear 16 = .ok (.iload 5, 2) := dgX5_isClear_0.2.2.2.2.2.2.2.2.1
theorem dX5_isClear_18 : decode cX5_isClear 18 = .ok (.aaload, 1) := dgX5_isClear_0.2.2.2.2.2.2.2.2.2.1
theorem dX5_isClear_19 : decode cX5_isClear 19 = .ok (.astore 6, 2) := dgX5_isClear_0.2.2.2.2.2.2.2.2.2.2.1
theorem dX5_isClear_21 : decode cX5_isClear 21 = .ok (.aload 6, 2) := dgX5_isClear_0.2.2.2.2.2.2.2.2.2.2.2.1
theorem dgX5_isClear_23 : (decode cX5_isClear 23 = .ok (.aload_n 1, 1)) ∧ (decode cX5_isClear 24 = .ok (.if_acmp .eq 16, 3)) ∧ (decode cX5_isClear 27 = .ok (.aload 6, 2)) ∧ (decode cX5_isClear 29 = .ok (.getfield 81, 3)) ∧ (decode cX5_isClear 32 = .ok (.iload_n 2, 1)) ∧ (decode cX5_isClear 33 = .ok (.if_icmp .ne 7, 3)) ∧ (decode cX5_isClear 36 = .ok (.iconst 1, 1)) ∧ (decode cX5_isClear 37 = .ok (.goto 4, 3)) ∧ (decode cX5_isClear 40 = .ok (.iconst 0, 1)) ∧ (decode cX5_isClear 41 = .ok (.istore 7, 2)) ∧ (decode cX5_isClear 43 = .ok (.iload 7, 2)) ∧ (decode cX5_isClear 45 = .ok (.ifCond .eq 24, 3)) ∧ True := dkW [(23, .aload_n 1, 1), (24, .if_acmp .eq 16, 3), (27, .aload 6, 2), (29, .getfield 81, 3), (32, .iload_n 2, 1), (33, .if_icmp .ne 7, 3), (36, .iconst 1, 1), (37, .goto 4, 3), (40, .iconst 0, 1), (41, .istore 7, 2), (43, .iload 7, 2), (45, .ifCond .eq 24, 3)] 23 (by decide +kernel)
theorem dX5_isClear_23 : decode cX5_isClear 23 = .ok (.aload_n 1, 1) := dgX5_isClear_23.1
theorem dX5_isClear_24 : decode cX5_isClear 24 = .ok (.if_acmp .eq 16, 3) := dgX5_isClear_23.2.1
theorem dX5_isClear_27 : decode cX5_isClear 27 = .ok (.aload 6, 2) := dgX5_isClear_23.2.2.1
theorem dX5_isClear_29 : decode cX5_isClear 29 = .ok (.getfield 81, 3) := dgX5_isClear_23.2.2.2.1
theorem dX5_isClear_32 : decode cX5_isClear 32 = .ok (.iload_n 2, 1) := dgX5_isClear_23.2.2.2.2.1
theorem dX5_isClear_33 : decode cX5_isClear 33 = .ok (.if_icmp .ne 7, 3) := dgX5_isClear_23.2.2.2.2.2.1
theorem dX5_isClear_36 : decode cX5_isClear 36 = .ok (.iconst 1, 1) := dgX5_isClear_23.2.2.2.2.2.2.1
theorem dX5_isClear_37 : decode cX5_isClear 37 = .ok (.goto 4, 3) := dgX5_isClear_23.2.2.2.2.2.2.2.1
theorem dX5_isClear_40 : decode cX5_isClear 40 = .ok (.iconst 0, 1) := dgX5_isClear_23.2.2.2.2.2.2.2.2.1
theorem dX5_isClear_41 : decode cX5_isClear 41 = .ok (.istore 7, 2) := dgX5_isClear_23.2.2.2.2.2.2.2.2.2.1
theorem dX5_isClear_43 : decode cX5_isClear 43 = .ok (.iload 7, 2) := dgX5_isClear_23.2.2.2.2.2.2.2.2.2.2.1
theorem dX5_isClear_45 : decode cX5_isClear 45 = .ok (.ifCond .eq 24, 3) := dgX5_isClear_23.2.2.2.2.2.2.2.2.2.2.2.1
theorem dgX5_isClear_48 : (decode cX5_isClear 48 = .ok (.iload_n 3, 1)) ∧ (decode cX5_isClear 49 = .ok (.iload 4, 2)) ∧ (decode cX5_isClear 51 = .ok (.aload 6, 2)) ∧ (decode cX5_isClear 53 = .ok (.getfield 87, 3)) ∧ (decode cX5_isClear 56 = .ok (.aload 6, 2)) ∧ (decode cX5_isClear 58 = .ok (.getfield 90, 3)) ∧ (decode cX5_isClear 61 = .ok (.invokestatic 93, 3)) ∧ (decode cX5_isClear 64 = .ok (.ifCond .eq 5, 3)) ∧ (decode cX5_isClear 67 = .ok (.iconst 0, 1)) ∧ (decode cX5_isClear 68 = .ok (.ireturn, 1)) ∧ (decode cX5_isClear 69 = .ok (.iinc 5 1, 3)) ∧ (decode cX5_isClear 72 = .ok (.goto (-69), 3)) ∧ True := dkW [(48, .iload_n 3, 1), (49, .iload 4, 2), (51, .aload 6, 2), (53, .getfield 87, 3), (56, .aload 6, 2), (58, .getfield 90, 3), (61, .invokestatic 93, 3), (64, .ifCond .eq 5, 3), (67, .iconst 0, 1), (68, .ireturn, 1), (69, .iinc 5 1, 3), (72, .goto (-69), 3)] 48 (by decide +kernel)
theorem dX5_isClear_48 : decode cX5_isClear 48 = .ok (.iload_n 3, 1) := dgX5_isClear_48.1
theorem dX5_isClear_49 : decode cX5_isClear 49 = .ok (.iload 4, 2) := dgX5_isClear_48.2.1
theorem dX5_isClear_51 : decode cX5_isClear 51 = .ok (.aload 6, 2) := dgX5_isClear_48.2.2.1
theorem dX5_isClear_53 : decode cX5_isClear 53 = .ok (.getfield 87, 3) := dgX5_isClear_48.2.2.2.1
theorem dX5_isClear_56 : decode cX5_isClear 56 = .ok (.aload 6, 2) := dgX5_isClear_48.2.2.2.2.1
theorem dX5_isClear_58 : decode cX5_isClear 58 = .ok (.getfield 90, 3) := dgX5_isClear_48.2.2.2.2.2.1
theorem dX5_isClear_61 : decode cX5_isClear 61 = .ok (.invokestatic 93, 3) := dgX5_isClear_48.2.2.2.2.2.2.1
theorem dX5_isClear_64 : decode cX5_isClear 64 = .ok (.ifCond .eq 5, 3) := dgX5_isClear_48.2.2.2.2.2.2.2.1
theorem dX5_isClear_67 : decode cX5_isClear 67 = .ok (.iconst 0, 1) := dgX5_isClear_48.2.2.2.2.2.2.2.2.1
theorem dX5_isClear_68 : decode cX5_isClear 68 = .ok (.ireturn, 1) := dgX5_isClear_48.2.2.2.2.2.2.2.2.2.1
theorem dX5_isClear_69 : decode cX5_isClear 69 = .ok (.iinc 5 1, 3) := dgX5_isClear_48.2.2.2.2.2.2.2.2.2.2.1
theorem dX5_isClear_72 : decode cX5_isClear 72 = .ok (.goto (-69), 3) := dgX5_isClear_48.2.2.2.2.2.2.2.2.2.2.2.1
theorem dgX5_isClear_75 : (decode cX5_isClear 75 = .ok (.iconst 1, 1)) ∧ (decode cX5_isClear 76 = .ok (.ireturn, 1)) ∧ True := dkW [(75, .iconst 1, 1), (76, .ireturn, 1)] 75 (by decide +kernel)
theorem dX5_isClear_75 : decode cX5_isClear 75 = .ok (.iconst 1, 1) := dgX5_isClear_75.1
theorem dX5_isClear_76 : decode cX5_isClear 76 = .ok (.ireturn, 1) := dgX5_isClear_75.2.1
abbrev rmX5_isClear : Room := { frames := 1, cells := 0, slots := 0, locals := 23 }
noncomputable def fX5_isClear_b69 (N : Nat) (g3 : Hs → Option Nat → Int32 → Int32 → Int32 → Int32 → Option (Int32 × Hs)) (t : Nat) (h : Hs) (w1 : Option Nat) (x2 : Int32) (x3 : Int32) (x4 : Int32) (x5 : Int32) : Option (Int32 × Hs) :=
  (some (x5 + 1)).bind fun y1 =>
  g3 h w1 x2 x3 x4 y1
set_option maxHeartbeats 4000000 in
set_option maxRecDepth 20000 in
theorem wX5_isClear_b69 {p : Program} {l : Launch} {e : Env} {s : State} {m : MethodId} {args : Array Value} {below : List Frame} {meth : Method} {c : Code} {G : Gl} {N : Nat} {h : Hs} {r : Int32 × Hs} {g3 : Hs → Option Nat → Int32 → Int32 → Int32 → Int32 → Option (Int32 × Hs)} {t : Nat} {w1 : Option Nat} {x2 : Int32} {x3 : Int32} {x4 : Int32} {x5 : Int32} (C : Cx p s m args meth c cX5_isClear RX5 8 G) (hret : meth.sig.returnType = (some .boolean)) (hg3 : ∀ (h : Hs) (w1 : Option Nat) (x2 : Int32) (x3 : Int32) (x4 : Int32) (x5 : Int32), g3 h w1 x2 x3 x4 x5 = some r → V p l e rmX5_isClear s m args below meth c G 8 (MQ below (QcG G (some (.inl r.1)) r.2) args s rmX5_isClear.cells rmX5_isClear.slots (AG G)) h 0 0 3 [some (.inr (some t)), some (.inr w1), some (.inl x2), some (.inl x3), some (.inl x4), some (.inl x5), none, none] []) (hf : fX5_isClear_b69 N g3 t h w1 x2 x3 x4 x5 = some r) : V p l e rmX5_isClear s m args below meth c G 8 (MQ below (QcG G (some (.inl r.1)) r.2) args s rmX5_isClear.cells rmX5_isClear.slots (AG G)) h 0 0 69 [some (.inr (some t)), some (.inr w1), some (.inl x2), some (.inl x3), some (.inl x4), some (.inl x5), none, none] [] := by
  unfold fX5_isClear_b69 at hf
  obtain ⟨y1, ey1, hf⟩ := bS hf
  refine r_iincE (v := 1) C dX5_isClear_69 rfl (by decide) (by decide) ey1 ?_
  refine r_goto (tgt := 3) C dX5_isClear_72 (by decide) ?_
  exact V.sub (hg3 _ _ _ _ _ _ hf) (LW_s rfl (LW_s rfl (LW_s rfl (LW_s rfl (LW_s rfl (LW_s rfl (LW_n (LW_n (LW_e)))))))))
noncomputable def fX5_isClear_b41 (N : Nat) (g3 : Hs → Option Nat → Int32 → Int32 → Int32 → Int32 → Option (Int32 × Hs)) (t : Nat) (h : Hs) (w1 : Option Nat) (x2 : Int32) (x3 : Int32) (x4 : Int32) (x5 : Int32) (w6 : Option Nat) (u0 : Int32) : Option (Int32 × Hs) :=
  if u0 = 0 then (
  fX5_isClear_b69 N g3 t h w1 x2 x3 x4 x5)
  else (oI 9 7 h w6).bind fun v1 =>
  (oI 9 2 h w6).bind fun v2 =>
  (fX11_overlap N h x3 x4 v1 v2).bind fun r3 =>
  if r3.1 = 0 then (
  fX5_isClear_b69 N g3 t r3.2 w1 x2 x3 x4 x5)
  else some (0, r3.2)
set_option maxHeartbeats 4000000 in
set_option maxRecDepth 20000 in
theorem wX5_isClear_b41 {p : Program} {l : Launch} {e : Env} {s : State} {m : MethodId} {args : Array Value} {below : List Frame} {meth : Method} {c : Code} {G : Gl} {N : Nat} {h : Hs} {r : Int32 × Hs} {g3 : Hs → Option Nat → Int32 → Int32 → Int32 → Int32 → Option (Int32 × Hs)} {t : Nat} {w1 : Option Nat} {x2 : Int32} {x3 : Int32} {x4 : Int32} {x5 : Int32} {w6 : Option Nat} {u0 : Int32} (C : Cx p s m args meth c cX5_isClear RX5 8 G) (hret : meth.sig.returnType = (some .boolean)) (hg3 : ∀ (h : Hs) (w1 : Option Nat) (x2 : Int32) (x3 : Int32) (x4 : Int32) (x5 : Int32), g3 h w1 x2 x3 x4 x5 = some r → V p l e rmX5_isClear s m args below meth c G 8 (MQ below (QcG G (some (.inl r.1)) r.2) args s rmX5_isClear.cells rmX5_isClear.slots (AG G)) h 0 0 3 [some (.inr (some t)), some (.inr w1), some (.inl x2), some (.inl x3), some (.inl x4), some (.inl x5), none, none] []) (hf : fX5_isClear_b41 N g3 t h w1 x2 x3 x4 x5 w6 u0 = some r) : V p l e rmX5_isClear s m args below meth c G 8 (MQ below (QcG G (some (.inl r.1)) r.2) args s rmX5_isClear.cells rmX5_isClear.slots (AG G)) h 0 0 41 [some (.inr (some t)), some (.inr w1), some (.inl x2), some (.inl x3), some (.inl x4), some (.inl x5), some (.inr w6), none] [.inl u0] := by
  unfold fX5_isClear_b41 at hf
  refine r_istore C dX5_isClear_41 (by decide) ?_
  refine r_iload C dX5_isClear_43 rfl ?_
  refine r_if_eq (tgt := 69) C dX5_isClear_45 (by decide) (fun hc => ?_) (fun hc => ?_)
  · have hf := ifT hf hc
    exact V.sub (wX5_isClear_b69 C hret hg3 hf) (LW_s rfl (LW_s rfl (LW_s rfl (LW_s rfl (LW_s rfl (LW_s rfl (LW_n (LW_n (LW_e)))))))))
  · have hf := ifF hf hc
    refine r_iload_n C dX5_isClear_48 rfl ?_
    refine r_iload C dX5_isClear_49 rfl ?_
    refine r_aload C dX5_isClear_51 rfl ?_
    obtain ⟨v1, ev1, hf⟩ := bS hf
    refine r_getI C dX5_isClear_53 fl_X5_87 rfl ev1 ?_
    refine r_aload C dX5_isClear_56 rfl ?_
    obtain ⟨v2, ev2, hf⟩ := bS hf
    refine r_getI C dX5_isClear_58 fl_X5_90 rfl ev2 ?_
    obtain ⟨r3, er3, hf⟩ := bS hf
    refine r_invSN1 (As := [.inl x3, .inl x4, .inl v1, .inl v2]) (host := "StageMachine") C dX5_isClear_61 mcX11_overlap (by decide) wd_301 ⟨by decide, by decide⟩ ⟨by decide, by decide⟩ rfl (Nat.le_of_ble_eq_true rfl) (kX11_overlap l G er3) ?_
    refine r_if_eq (tgt := 69) C dX5_isClear_64 (by decide) (fun hc => ?_) (fun hc => ?_)
    · have hf := ifT hf hc
      exact V.sub (wX5_isClear_b69 C hret hg3 hf) (LW_s rfl (LW_s rfl (LW_s rfl (LW_s rfl (LW_s rfl (LW_s rfl (LW_n (LW_n (LW_e)))))))))
    · have hf := ifF hf hc
      refine r_iconst (v := 0) C dX5_isClear_67 (by decide) ?_
      exact r_zretF C dX5_isClear_68 hret (z := 0) rfl hf (by decide) (by decide)
noncomputable def fX5_isClear_b40 (N : Nat) (g3 : Hs → Option Nat → Int32 → Int32 → Int32 → Int32 → Option (Int32 × Hs)) (t : Nat) (h : Hs) (w1 : Option Nat) (x2 : Int32) (x3 : Int32) (x4 : Int32) (x5 : Int32) (w6 : Option Nat) : Option (Int32 × Hs) :=
  fX5_isClear_b41 N g3 t h w1 x2 x3 x4 x5 w6 0
set_option maxHeartbeats 4000000 in
set_option maxRecDepth 20000 in
theorem wX5_isClear_b40 {p : Program} {l : Launch} {e : Env} {s : State} {m : MethodId} {args : Array Value} {below : List Frame} {meth : Method} {c : Code} {G : Gl} {N : Nat} {h : Hs} {r : Int32 × Hs} {g3 : Hs → Option Nat → Int32 → Int32 → Int32 → Int32 → Option (Int32 × Hs)} {t : Nat} {w1 : Option Nat} {x2 : Int32} {x3 : Int32} {x4 : Int32} {x5 : Int32} {w6 : Option Nat} (C : Cx p s m args meth c cX5_isClear RX5 8 G) (hret : meth.sig.returnType = (some .boolean)) (hg3 : ∀ (h : Hs) (w1 : Option Nat) (x2 : Int32) (x3 : Int32) (x4 : Int32) (x5 : Int32), g3 h w1 x2 x3 x4 x5 = some r → V p l e rmX5_isClear s m args below meth c G 8 (MQ below (QcG G (some (.inl r.1)) r.2) args s rmX5_isClear.cells rmX5_isClear.slots (AG G)) h 0 0 3 [some (.inr (some t)), some (.inr w1), some (.inl x2), some (.inl x3), some (.inl x4), some (.inl x5), none, none] []) (hf : fX5_isClear_b40 N g3 t h w1 x2 x3 x4 x5 w6 = some r) : V p l e rmX5_isClear s m args below meth c G 8 (MQ below (QcG G (some (.inl r.1)) r.2) args s rmX5_isClear.cells rmX5_isClear.slots (AG G)) h 0 0 40 [some (.inr (some t)), some (.inr w1), some (.inl x2), some (.inl x3), some (.inl x4), some (.inl x5), some (.inr w6), none] [] := by
  unfold fX5_isClear_b40 at hf
  refine r_iconst (v := 0) C dX5_isClear_40 (by decide) ?_
  exact V.sub (wX5_isClear_b41 C hret hg3 hf) (LW_s rfl (LW_s rfl (LW_s rfl (LW_s rfl (LW_s rfl (LW_s rfl (LW_s rfl (LW_n (LW_e)))))))))
noncomputable def fX5_isClear_b3_body (N : Nat)  (g3 : Hs → Option Nat → Int32 → Int32 → Int32 → Int32 → Option (Int32 × Hs)) (t : Nat) (h : Hs) (w1 : Option Nat) (x2 : Int32) (x3 : Int32) (x4 : Int32) (x5 : Int32) : Option (Int32 × Hs) :=
  (oI 5 7 h (some t)).bind fun v1 =>
  if v1 ≤ x5 then (
  some (1, h))
  else (oR 5 0 h (some t)).bind fun o2 =>
  (lQ 23 h o2 x5).bind fun o3 =>
  if o3 = w1 then (
  fX5_isClear_b40 N g3 t h w1 x2 x3 x4 x5 o3)
  else (oI 9 1 h o3).bind fun v4 =>
  if v4 = x2 then (
  fX5_isClear_b41 N g3 t h w1 x2 x3 x4 x5 o3 1)
  else fX5_isClear_b40 N g3 t h w1 x2 x3 x4 x5 o3
noncomputable def fX5_isClear_b3 (N : Nat)  (t : Nat) (n : Nat) : Hs → Option Nat → Int32 → Int32 → Int32 → Int32 → Option (Int32 × Hs) := lp (fun _ _ _ _ _ _ => none) (fun g h w1 x2 x3 x4 x5 => fX5_isClear_b3_body N  g t h w1 x2 x3 x4 x5) n
set_option maxHeartbeats 4000000 in
set_option maxRecDepth 20000 in
theorem wX5_isClear_b3_body {p : Program} {l : Launch} {e : Env} {s : State} {m : MethodId} {args : Array Value} {below : List Frame} {meth : Method} {c : Code} {G : Gl} {N : Nat} {h : Hs} {r : Int32 × Hs}  {g3 : Hs → Option Nat → Int32 → Int32 → Int32 → Int32 → Option (Int32 × Hs)} {t : Nat} {w1 : Option Nat} {x2 : Int32} {x3 : Int32} {x4 : Int32} {x5 : Int32} (C : Cx p s m args meth c cX5_isClear RX5 8 G) (hret : meth.sig.returnType = (some .boolean))  (hg3 : ∀ (h : Hs) (w1 : Option Nat) (x2 : Int32) (x3 : Int32) (x4 : Int32) (x5 : Int32), g3 h w1 x2 x3 x4 x5 = some r → V p l e rmX5_isClear s m args below meth c G 8 (MQ below (QcG G (some (.inl r.1)) r.2) args s rmX5_isClear.cells rmX5_isClear.slots (AG G)) h 0 0 3 [some (.inr (some t)), some (.inr w1), some (.inl x2), some (.inl x3), some (.inl x4), some (.inl x5), none, none] []) (hf : fX5_isClear_b3_body N  g3 t h w1 x2 x3 x4 x5 = some r) : V p l e rmX5_isClear s m args below meth c G 8 (MQ below (QcG G (some (.inl r.1)) r.2) args s rmX5_isClear.cells rmX5_isClear.slots (AG G)) h 0 0 3 [some (.inr (some t)), some (.inr w1), some (.inl x2), some (.inl x3), some (.inl x4), some (.inl x5), none, none] [] := by
  unfold fX5_isClear_b3_body at hf
  refine r_iload C dX5_isClear_3 rfl ?_
  refine r_aload_n C dX5_isClear_5 rfl ?_
  obtain ⟨v1, ev1, hf⟩ := bS hf
  refine r_getI C dX5_isClear_6 fl_X5_47 rfl ev1 ?_
  refine r_icmp_ge (tgt := 75) C dX5_isClear_9 (by decide) (fun hc => ?_) (fun hc => ?_)
  · have hf := ifT hf hc
    refine r_iconst (v := 1) C dX5_isClear_75 (by decide) ?_
    exact r_zretF C dX5_isClear_76 hret (z := 1) rfl hf (by decide) (by decide)
  · have hf := ifF hf hc
    refine r_aload_n C dX5_isClear_12 rfl ?_
    obtain ⟨o2, eo2, hf⟩ := bS hf
    refine r_getR C dX5_isClear_13 fl_X5_11 rfl eo2 ?_
    refine r_iload C dX5_isClear_16 rfl ?_
    obtain ⟨o3, eo3, hf⟩ := bS hf
    refine r_qald (t := 3) C dX5_isClear_18 (by decide) (by decide) rfl eo3 ?_
    refine r_astore C dX5_isClear_19 (by decide) ?_
    refine r_aload C dX5_isClear_21 rfl ?_
    refine r_aload_n C dX5_isClear_23 rfl ?_
    refine r_acmp_eq (tgt := 40) C dX5_isClear_24 (by decide) (fun hc => ?_) (fun hc => ?_)
    · have hf := ifT hf hc
      exact V.sub (wX5_isClear_b40 C hret hg3 hf) (LW_s rfl (LW_s rfl (LW_s rfl (LW_s rfl (LW_s rfl (LW_s rfl (LW_s rfl (LW_n (LW_e)))))))))
    · have hf := ifF hf hc
      refine r_aload C dX5_isClear_27 rfl ?_
      obtain ⟨v4, ev4, hf⟩ := bS hf
      refine r_getI C dX5_isClear_29 fl_X5_81 rfl ev4 ?_
      refine r_iload_n C dX5_isClear_32 rfl ?_
      refine r_icmp_ne (tgt := 40) C dX5_isClear_33 (by decide) (fun hc => ?_) (fun hc => ?_)
      · have hf := ifF hf hc
        exact V.sub (wX5_isClear_b40 C hret hg3 hf) (LW_s rfl (LW_s rfl (LW_s rfl (LW_s rfl (LW_s rfl (LW_s rfl (LW_s rfl (LW_n (LW_e)))))))))
      · have hf := ifT hf hc
        refine r_iconst (v := 1) C dX5_isClear_36 (by decide) ?_
        refine r_goto (tgt := 41) C dX5_isClear_37 (by decide) ?_
        exact V.sub (wX5_isClear_b41 C hret hg3 hf) (LW_s rfl (LW_s rfl (LW_s rfl (LW_s rfl (LW_s rfl (LW_s rfl (LW_s rfl (LW_n (LW_e)))))))))
theorem wX5_isClear_b3 {p : Program} {l : Launch} {e : Env} {s : State} {m : MethodId} {args : Array Value} {below : List Frame} {meth : Method} {c : Code} {G : Gl} {N : Nat} {r : Int32 × Hs}  {t : Nat} (C : Cx p s m args meth c cX5_isClear RX5 8 G) (hret : meth.sig.returnType = (some .boolean))  : ∀ (n : Nat) (h : Hs) (w1 : Option Nat) (x2 : Int32) (x3 : Int32) (x4 : Int32) (x5 : Int32), fX5_isClear_b3 N  t n h w1 x2 x3 x4 x5 = some r → V p l e rmX5_isClear s m args below meth c G 8 (MQ below (QcG G (some (.inl r.1)) r.2) args s rmX5_isClear.cells rmX5_isClear.slots (AG G)) h 0 0 3 [some (.inr (some t)), some (.inr w1), some (.inl x2), some (.inl x3), some (.inl x4), some (.inl x5), none, none] [] := by
  intro n
  induction n with
  | zero => intro h w1 x2 x3 x4 x5 hf; exact absurd (show (none : Option (Int32 × Hs)) = some r from hf) (fun q => by cases q)
  | succ n ih => intro h w1 x2 x3 x4 x5 hf; exact wX5_isClear_b3_body C hret  ih (show fX5_isClear_b3_body N  (fX5_isClear_b3 N  t n) t h w1 x2 x3 x4 x5 = some r from hf)
noncomputable def fX5_isClear (N : Nat) (h : Hs) (t : Nat) (p1 : Option Nat) (p2 : Int32) (p3 : Int32) (p4 : Int32) : Option (Int32 × Hs) :=
  fX5_isClear_b3 N t N h p1 p2 p3 p4 0
set_option maxHeartbeats 4000000 in
set_option maxRecDepth 20000 in
theorem kX5_isClear (l : Launch) (G : Gl) {N : Nat} {h : Hs} {t : Nat} {p1 : Option Nat} {p2 : Int32} {p3 : Int32} {p4 : Int32} {r : Int32 × Hs} (hf : fX5_isClear N h t p1 p2 p3 p4 = some r) : CT l G yX5_isClear cX5_isClear 8 (some .boolean) rmX5_isClear [.inr (some t), .inr p1, .inl p2, .inl p3, .inl p4] h (some (.inl r.1)) r.2 := by
  refine mk_CT (by decide) (Nat.le_of_ble_eq_true rfl) ?_
  intro p e s m args below meth c C hret hin
  unfold fX5_isClear at hf
  refine r_iconst (v := 0) C dX5_isClear_0 (by decide) ?_
  refine r_istore C dX5_isClear_1 (by decide) ?_
  exact V.sub (wX5_isClear_b3 C hret N _ _ _ _ _ _ hf) (LW_s rfl (LW_s rfl (LW_s rfl (LW_s rfl (LW_s rfl (LW_s rfl (LW_n (LW_n (LW_e)))))))))

theorem dgX9_init_0 : (decode cX9_init 0 = .ok (.aload_n 0, 1)) ∧ (decode cX9_init 1 = .ok (.invokespecial 3, 3)) ∧ (decode cX9_init 4 = .ok (.aload_n 0, 1)) ∧ (decode cX9_init 5 = .ok (.bipush 10, 2)) ∧ (decode cX9_init 7 = .ok (.newarray .int, 2)) ∧ (decode cX9_init 9 = .ok (.putfield 9, 3)) ∧ (decode cX9_init 12 = .ok (.aload_n 0, 1)) ∧ (decode cX9_init 13 = .ok (.iload_n 1, 1)) ∧ (decode cX9_init 14 = .ok (.putfield 15, 3)) ∧ (decode cX9_init 17 = .ok (.aload_n 0, 1)) ∧ (decode cX9_init 18 = .ok (.iload_n 2, 1)) ∧ (decode cX9_init 19 = .ok (.putfield 19, 3)) ∧ True := dkW [(0, .aload_n 0, 1), (1, .invokespecial 3, 3), (4, .aload_n 0, 1), (5, .bipush 10, 2), (7, .newarray .int, 2), (9, .putfield 9, 3), (12, .aload_n 0, 1), (13, .iload_n 1, 1), (14, .putfield 15, 3), (17, .aload_n 0, 1), (18, .iload_n 2, 1), (19, .putfield 19, 3)] 0 (by decide +kernel)
theorem dX9_init_0 : decode cX9_init 0 = .ok (.aload_n 0, 1) := dgX9_init_0.1
theorem dX9_init_1 : decode cX9_init 1 = .ok (.invokespecial 3, 3) := dgX9_init_0.2.1
theorem dX9_init_4 : decode cX9_init 4 = .ok (.aload_n 0, 1) := dgX9_init_0.2.2.1
theorem dX9_init_5 : decode cX9_init 5 = .ok (.bipush 10, 2) := dgX9_init_0.2.2.2.1
theorem dX9_init_7 : decode cX9_init 7 = .ok (.newarray .int, 2) := dgX9_init_0.2.2.2.2.1
theorem dX9_init_9 : decode cX9_init 9 = .ok (.putfield 9, 3) := dgX9_init_0.2.2.2.2.2.1
theorem dX9_init_12 : decode cX9_init 12 = .ok (.aload_n 0, 1) := dgX9_init_0.2.2.2.2.2.2.1
theorem dX9_init_13 : decode cX9_init 13 = .ok (.iload_n 1, 1) := dgX9_init_0.2.2.2.2.2.2.2.1
theorem dX9_init_14 : decode cX9_init 14 = .ok (.putfield 15, 3) := dgX9_init_0.2.2.2.2.2.2.2.2.1
theorem dX9_init_17 : decode cX9_init 17 = .ok (.aload_n 0, 1) := dgX9_init_0.2.2.2.2.2.2.2.2.2.1
theorem dX9_init_18 : decode cX9_init 18 = .ok (.iload_n 2, 1) := dgX9_init_0.2.2.2.2.2.2.2.2.2.2.1
theorem dX9_init_19 : decode cX9_init 19 = .ok (.putfield 19, 3) := dgX9_init_0.2.2.2.2.2.2.2.2.2.2.2.1
theorem dgX9_init_22 : (decode cX9_init 22 = .ok (.aload_n 0, 1)) ∧ (decode cX9_init 23 = .ok (.iload_n 3, 1)) ∧ (decode cX9_init 24 = .ok (.putfield 22, 3)) ∧ (decode cX9_init 27 = .ok (.aload_n 0, 1)) ∧ (decode cX9_init 28 = .ok (.iload 4, 2)) ∧ (decode cX9_init 30 = .ok (.putfield 25, 3)) ∧ (decode cX9_init 33 = .ok (.aload_n 0, 1)) ∧ (decode cX9_init 34 = .ok (.iload 5, 2)) ∧ (decode cX9_init 36 = .ok (.putfield 28, 3)) ∧ (decode cX9_init 39 = .ok (.aload_n 0, 1)) ∧ (decode cX9_init 40 = .ok (.iload 6, 2)) ∧ (decode cX9_init 42 = .ok (.putfield 31, 3)) ∧ True := dkW [(22, .aload_n 0, 1), (23, .iload_n 3, 1), (24, .putfield 22, 3), (27, .aload_n 0, 1), (28, .iload 4, 2), (30, .putfield 25, 3), (33, .aload_n 0, 1), (34, .iload 5, 2), (36, .putfield 28, 3), (39, .aload_n 0, 1), (40, .iload 6, 2), (42, .putfield 31, 3)] 22 (by decide +kernel)
theorem dX9_init_22 : decode cX9_init 22 = .ok (.aload_n 0, 1) := dgX9_init_22.1
theorem dX9_init_23 : decode cX9_init 23 = .ok (.iload_n 3, 1) := dgX9_init_22.2.1
theorem dX9_init_24 : decode cX9_init 24 = .ok (.putfield 22, 3) := dgX9_init_22.2.2.1
theorem dX9_init_27 : decode cX9_init 27 = .ok (.aload_n 0, 1) := dgX9_init_22.2.2.2.1
theorem dX9_init_28 : decode cX9_init 28 = .ok (.iload 4, 2) := dgX9_init_22.2.2.2.2.1
theorem dX9_init_30 : decode cX9_init 30 = .ok (.putfield 25, 3) := dgX9_init_22.2.2.2.2.2.1
theorem dX9_init_33 : decode cX9_init 33 = .ok (.aload_n 0, 1) := dgX9_init_22.2.2.2.2.2.2.1
theorem dX9_init_34 : decode cX9_init 34 = .ok (.iload 5, 2) := dgX9_init_22.2.2.2.2.2.2.2.1
theorem dX9_init_36 : decode cX9_init 36 = .ok (.putfield 28, 3) := dgX9_init_22.2.2.2.2.2.2.2.2.1
theorem dX9_init_39 : decode cX9_init 39 = .ok (.aload_n 0, 1) := dgX9_init_22.2.2.2.2.2.2.2.2.2.1
theorem dX9_init_40 : decode cX9_init 40 = .ok (.iload 6, 2) := dgX9_init_22.2.2.2.2.2.2.2.2.2.2.1
theorem dX9_init_42 : decode cX9_init 42 = .ok (.putfield 31, 3) := dgX9_init_22.2.2.2.2.2.2.2.2.2.2.2.1
theorem dgX9_init_45 : (decode cX9_init 45 = .ok (.aload_n 0, 1)) ∧ (decode cX9_init 46 = .ok (.iload 7, 2)) ∧ (decode cX9_init 48 = .ok (.putfield 34, 3)) ∧ (decode cX9_init 51 = .ok (.aload_n 0, 1)) ∧ (decode cX9_init 52 = .ok (.getfield 9, 3)) ∧ True := dkW [(45, .aload_n 0, 1), (46, .iload 7, 2), (48, .putfield 34, 3), (51, .aload_n 0, 1), (52, .getfield 9, 3)] 45 (by decide +kernel)
theorem dX9_init_45 : decode cX9_init 45 = .ok (.aload_n 0, 1) := dgX9_init_45.1
theorem dX9_init_46 : decode cX9_init 46 = .ok (.iload 7, 2) := dgX9_init_45.2.1
theorem dX9_init_48 : decode cX9_init 48 = .ok (.putfield 34, 3) := dgX9_init_45.2.2.1
theorem dX9_init_51 : decode cX9_init 51 = .ok (.aload_n 0, 1) := dgX9_init_45.2.2.2.1
theorem dX9_init_52 : decode cX9_init 52 = .ok (.getfield 9, 3) := dgX9_init_45.2.2.2.2.1
theorem dX9_init_55 : decode cX9_init 55 = .ok (.iconst (-1), 1) := by decide +kernel
theorem dgX9_init_56 : (decode cX9_init 56 = .ok (.invokestatic 37, 3)) ∧ (decode cX9_init 59 = .ok (.return_, 1)) ∧ True := dkW [(56, .invokestatic 37, 3), (59, .return_, 1)] 56 (by decide +kernel)
theorem dX9_init_56 : decode cX9_init 56 = .ok (.invokestatic 37, 3) := dgX9_init_56.1
theorem dX9_init_59 : decode cX9_init 59 = .ok (.return_, 1) := dgX9_init_56.2.1
abbrev rmX9_init : Room := { frames := 1, cells := 1, slots := 10, locals := 23 }
noncomputable def fX9_init (N : Nat) (h : Hs) (t : Nat) (p1 : Int32) (p2 : Int32) (p3 : Int32) (p4 : Int32) (p5 : Int32) (p6 : Int32) (p7 : Int32) : Option (Hs) :=
  (some (nw h (20, 10))).bind fun h1 =>
  (qR 9 6 h1 (some t) (some (sz h))).bind fun h2 =>
  (qI 9 0 h2 (some t) p1).bind fun h3 =>
  (qI 9 1 h3 (some t) p2).bind fun h4 =>
  (qI 9 7 h4 (some t) p3).bind fun h5 =>
  (qI 9 2 h5 (some t) p4).bind fun h6 =>
  (qI 9 4 h6 (some t) p5).bind fun h7 =>
  (qI 9 5 h7 (some t) p6).bind fun h8 =>
  (qI 9 3 h8 (some t) p7).bind fun h9 =>
  (oR 9 6 h9 (some t)).bind fun o10 =>
  (fJ7_fill_53178 N h9 o10 (-1)).bind fun r11 =>
  some r11
set_option maxHeartbeats 4000000 in
set_option maxRecDepth 20000 in
theorem kX9_init (l : Launch) (G : Gl) {N : Nat} {h : Hs} {t : Nat} {p1 : Int32} {p2 : Int32} {p3 : Int32} {p4 : Int32} {p5 : Int32} {p6 : Int32} {p7 : Int32} {r : Hs} (hf : fX9_init N h t p1 p2 p3 p4 p5 p6 p7 = some r) : CT l G yX9_init cX9_init 8 none rmX9_init [.inr (some t), .inl p1, .inl p2, .inl p3, .inl p4, .inl p5, .inl p6, .inl p7] h (none) r := by
  refine mk_CT (by decide) (Nat.le_of_ble_eq_true rfl) ?_
  intro p e s m args below meth c C hret hin
  unfold fX9_init at hf
  refine r_aload_n C dX9_init_0 rfl ?_
  refine r_objInit C dX9_init_1 wd_307 wd_24 wd_25 (by decide) (Nat.le_of_ble_eq_true rfl) ?_
  refine r_aload_n C dX9_init_4 rfl ?_
  refine r_bipush (v := 10) C dX9_init_5 (by decide) ?_
  obtain ⟨h1, eh1, hf⟩ := bS hf
  cases eh1
  refine r_newA (t := 0) (N := 10) C dX9_init_7 (by decide) rfl rfl wd_62 (by decide) (by decide) (by decide) (fun _ _ q => q) (by decide) (by decide) ?_
  obtain ⟨h2, eh2, hf⟩ := bS hf
  refine r_putR C dX9_init_9 fl_X9_9 (Or.inr ⟨ff_9_6, hin⟩) rfl eh2 ?_
  refine r_aload_n C dX9_init_12 rfl ?_
  refine r_iload_n C dX9_init_13 rfl ?_
  obtain ⟨h3, eh3, hf⟩ := bS hf
  refine r_putI C dX9_init_14 fl_X9_15 (Or.inr ⟨ff_9_0, hin⟩) rfl eh3 ?_
  refine r_aload_n C dX9_init_17 rfl ?_
  refine r_iload_n C dX9_init_18 rfl ?_
  obtain ⟨h4, eh4, hf⟩ := bS hf
  refine r_putI C dX9_init_19 fl_X9_19 (Or.inr ⟨ff_9_1, hin⟩) rfl eh4 ?_
  refine r_aload_n C dX9_init_22 rfl ?_
  refine r_iload_n C dX9_init_23 rfl ?_
  obtain ⟨h5, eh5, hf⟩ := bS hf
  refine r_putI C dX9_init_24 fl_X9_22 (Or.inl fn_9_7) rfl eh5 ?_
  refine r_aload_n C dX9_init_27 rfl ?_
  refine r_iload C dX9_init_28 rfl ?_
  obtain ⟨h6, eh6, hf⟩ := bS hf
  refine r_putI C dX9_init_30 fl_X9_25 (Or.inr ⟨ff_9_2, hin⟩) rfl eh6 ?_
  refine r_aload_n C dX9_init_33 rfl ?_
  refine r_iload C dX9_init_34 rfl ?_
  obtain ⟨h7, eh7, hf⟩ := bS hf
  refine r_putI C dX9_init_36 fl_X9_28 (Or.inr ⟨ff_9_4, hin⟩) rfl eh7 ?_
  refine r_aload_n C dX9_init_39 rfl ?_
  refine r_iload C dX9_init_40 rfl ?_
  obtain ⟨h8, eh8, hf⟩ := bS hf
  refine r_putI C dX9_init_42 fl_X9_31 (Or.inr ⟨ff_9_5, hin⟩) rfl eh8 ?_
  refine r_aload_n C dX9_init_45 rfl ?_
  refine r_iload C dX9_init_46 rfl ?_
  obtain ⟨h9, eh9, hf⟩ := bS hf
  refine r_putI C dX9_init_48 fl_X9_34 (Or.inr ⟨ff_9_3, hin⟩) rfl eh9 ?_
  refine r_aload_n C dX9_init_51 rfl ?_
  obtain ⟨o10, eo10, hf⟩ := bS hf
  refine r_getR C dX9_init_52 fl_X9_9 rfl eo10 ?_
  refine r_iconst (v := -1) C dX9_init_55 (by decide) ?_
  obtain ⟨r11, er11, hf⟩ := bS hf
  refine r_invS0 (As := [.inr o10, .inl (-1)]) C dX9_init_56 mcJ7_fill_53178 wd_308 wd_309 ⟨by decide, by decide⟩ ⟨by decide, by decide⟩ rfl (Nat.le_of_ble_eq_true rfl) (kJ7_fill_53178 l G er11) ?_
  exact r_vretF C dX9_init_59 hret hf (by decide) (by decide)
