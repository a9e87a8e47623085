theorem dgX11_drum_0 : (decode cX11_drum 0 = .ok (.aload_n 0, 1)) ∧ (decode cX11_drum 1 = .ok (.getfield 33, 3)) ∧ (decode cX11_drum 4 = .ok (.iload_n 1, 1)) ∧ (decode cX11_drum 5 = .ok (.invokevirtual 74, 3)) ∧ (decode cX11_drum 8 = .ok (.istore_n 2, 1)) ∧ (decode cX11_drum 9 = .ok (.aload_n 0, 1)) ∧ (decode cX11_drum 10 = .ok (.iload_n 2, 1)) ∧ (decode cX11_drum 11 = .ok (.iload_n 2, 1)) ∧ (decode cX11_drum 12 = .ok (.ifCond .lt 7, 3)) ∧ (decode cX11_drum 15 = .ok (.iconst 1, 1)) ∧ (decode cX11_drum 16 = .ok (.goto 4, 3)) ∧ (decode cX11_drum 19 = .ok (.iconst 0, 1)) ∧ True := dkW [(0, .aload_n 0, 1), (1, .getfield 33, 3), (4, .iload_n 1, 1), (5, .invokevirtual 74, 3), (8, .istore_n 2, 1), (9, .aload_n 0, 1), (10, .iload_n 2, 1), (11, .iload_n 2, 1), (12, .ifCond .lt 7, 3), (15, .iconst 1, 1), (16, .goto 4, 3), (19, .iconst 0, 1)] 0 (by decide +kernel)
theorem dX11_drum_0 : decode cX11_drum 0 = .ok (.aload_n 0, 1) := dgX11_drum_0.1
theorem dX11_drum_1 : decode cX11_drum 1 = .ok (.getfield 33, 3) := dgX11_drum_0.2.1
theorem dX11_drum_4 : decode cX11_drum 4 = .ok (.iload_n 1, 1) := dgX11_drum_0.2.2.1
theorem dX11_drum_5 : decode cX11_drum 5 = .ok (.invokevirtual 74, 3) := dgX11_drum_0.2.2.2.1
theorem dX11_drum_8 : decode cX11_drum 8 = .ok (.istore_n 2, 1) := dgX11_drum_0.2.2.2.2.1
theorem dX11_drum_9 : decode cX11_drum 9 = .ok (.aload_n 0, 1) := dgX11_drum_0.2.2.2.2.2.1
theorem dX11_drum_10 : decode cX11_drum 10 = .ok (.iload_n 2, 1) := dgX11_drum_0.2.2.2.2.2.2.1
theorem dX11_drum_11 : decode cX11_drum 11 = .ok (.iload_n 2, 1) := dgX11_drum_0.2.2.2.2.2.2.2.1
theorem dX11_drum_12 : decode cX11_drum 12 = .ok (.ifCond .lt 7, 3) := dgX11_drum_0.2.2.2.2.2.2.2.2.1
theorem dX11_drum_15 : decode cX11_drum 15 = .ok (.iconst 1, 1) := dgX11_drum_0.2.2.2.2.2.2.2.2.2.1
theorem dX11_drum_16 : decode cX11_drum 16 = .ok (.goto 4, 3) := dgX11_drum_0.2.2.2.2.2.2.2.2.2.2.1
theorem dX11_drum_19 : decode cX11_drum 19 = .ok (.iconst 0, 1) := dgX11_drum_0.2.2.2.2.2.2.2.2.2.2.2.1
theorem dgX11_drum_20 : (decode cX11_drum 20 = .ok (.invokevirtual 57, 3)) ∧ (decode cX11_drum 23 = .ok (.ireturn, 1)) ∧ True := dkW [(20, .invokevirtual 57, 3), (23, .ireturn, 1)] 20 (by decide +kernel)
theorem dX11_drum_20 : decode cX11_drum 20 = .ok (.invokevirtual 57, 3) := dgX11_drum_20.1
theorem dX11_drum_23 : decode cX11_drum 23 = .ok (.ireturn, 1) := dgX11_drum_20.2.1
abbrev rmX11_drum : Room := { frames := 3, cells := 1, slots := 2, locals := 55 }
noncomputable def fX11_drum_b20 (N : Nat)  (t : Nat) (h : Hs) (q0 : Option Nat) (u1 : Int32) (u2 : Int32) : Option (Int32 × Hs) :=
  (rc 11 h q0).bind fun a2 =>
  (fX11_deed N h a2 u1 u2).bind fun r1 =>
  some (r1.1, r1.2)
set_option maxHeartbeats 4000000 in
set_option maxRecDepth 20000 in
theorem wX11_drum_b20 {p : Program} {l : Launch} {e : Env} {s : State} {m : MethodId} {args : Array Value} {below : List Frame} {meth : Method} {c : Code} {G : Gl} {N : Nat} {h : Hs} {r : Int32 × Hs}  {t : Nat} {q0 : Option Nat} {u1 : Int32} {u2 : Int32} (C : Cx p s m args meth c cX11_drum RX11 3 G) (hret : meth.sig.returnType = (some .int))  (hf : fX11_drum_b20 N  t h q0 u1 u2 = some r) : V p l e rmX11_drum s m args below meth c G 3 (MQ below (QcG G (some (.inl r.1)) r.2) args s rmX11_drum.cells rmX11_drum.slots (AG G)) h 1 2 20 [some (.inr (some t)), none, none] [.inl u2, .inl u1, .inr q0] := by
  unfold fX11_drum_b20 at hf
  obtain ⟨a2, ea2, hf⟩ := bS hf
  obtain ⟨r1, er1, hf⟩ := bS hf
  refine r_invV1 (As := [.inl u1, .inl u2]) (ci := 11) C dX11_drum_20 mcX11_deed wd_364 wd_366 wp_0 rfl rfl (by decide) ⟨by decide, by decide⟩ ⟨by decide, by decide⟩ rfl (Nat.le_of_ble_eq_true rfl) ea2 (kX11_deed l G er1) ?_
  exact r_iretF C dX11_drum_23 hret hf (by decide) (by decide)
noncomputable def fX11_drum (N : Nat) (h : Hs) (t : Nat) (p1 : Int32) : Option (Int32 × Hs) :=
  (oR 11 0 h (some t)).bind fun o1 =>
  (rc 5 h o1).bind fun a3 =>
  (fX5_addDrum N h a3 p1).bind fun r2 =>
  if r2.1 < 0 then (
  fX11_drum_b20 N t r2.2 (some t) r2.1 0)
  else fX11_drum_b20 N t r2.2 (some t) r2.1 1
set_option maxHeartbeats 4000000 in
set_option maxRecDepth 20000 in
theorem kX11_drum (l : Launch) (G : Gl) {N : Nat} {h : Hs} {t : Nat} {p1 : Int32} {r : Int32 × Hs} (hf : fX11_drum N h t p1 = some r) : CT l G yX11_drum cX11_drum 3 (some .int) rmX11_drum [.inr (some t), .inl p1] h (some (.inl r.1)) r.2 := by
  refine mk_CT (by decide) (Nat.le_of_ble_eq_true rfl) ?_
  intro p e s m args below meth c C hret hin
  unfold fX11_drum at hf
  refine r_aload_n C dX11_drum_0 rfl ?_
  obtain ⟨o1, eo1, hf⟩ := bS hf
  refine r_getR C dX11_drum_1 fl_X11_33 rfl eo1 ?_
  refine r_iload_n C dX11_drum_4 rfl ?_
  obtain ⟨a3, ea3, hf⟩ := bS hf
  obtain ⟨r2, er2, hf⟩ := bS hf
  refine r_invV1 (As := [.inl p1]) (ci := 5) C dX11_drum_5 mcX5_addDrum wd_396 wd_397 wd_398 rfl rfl (by decide) ⟨by decide, by decide⟩ ⟨by decide, by decide⟩ rfl (Nat.le_of_ble_eq_true rfl) ea3 (kX5_addDrum l G er2) ?_
  refine r_istore_n C dX11_drum_8 (by decide) ?_
  refine r_aload_n C dX11_drum_9 rfl ?_
  refine r_iload_n C dX11_drum_10 rfl ?_
  refine r_iload_n C dX11_drum_11 rfl ?_
  refine r_if_lt (tgt := 19) C dX11_drum_12 (by decide) (fun hc => ?_) (fun hc => ?_)
  · have hf := ifT hf hc
    refine r_iconst (v := 0) C dX11_drum_19 (by decide) ?_
    exact V.sub (wX11_drum_b20 C hret hf) (LW_s rfl (LW_n (LW_n (LW_e))))
  · have hf := ifF hf hc
    refine r_iconst (v := 1) C dX11_drum_15 (by decide) ?_
    refine r_goto (tgt := 20) C dX11_drum_16 (by decide) ?_
    exact V.sub (wX11_drum_b20 C hret hf) (LW_s rfl (LW_n (LW_n (LW_e))))

theorem dgX11_rope_0 : (decode cX11_rope 0 = .ok (.aload_n 0, 1)) ∧ (decode cX11_rope 1 = .ok (.getfield 33, 3)) ∧ (decode cX11_rope 4 = .ok (.iload_n 1, 1)) ∧ (decode cX11_rope 5 = .ok (.iload_n 2, 1)) ∧ (decode cX11_rope 6 = .ok (.iload_n 3, 1)) ∧ (decode cX11_rope 7 = .ok (.invokevirtual 77, 3)) ∧ (decode cX11_rope 10 = .ok (.istore 4, 2)) ∧ (decode cX11_rope 12 = .ok (.aload_n 0, 1)) ∧ (decode cX11_rope 13 = .ok (.iload 4, 2)) ∧ (decode cX11_rope 15 = .ok (.iload 4, 2)) ∧ (decode cX11_rope 17 = .ok (.ifCond .lt 7, 3)) ∧ (decode cX11_rope 20 = .ok (.iconst 1, 1)) ∧ True := dkW [(0, .aload_n 0, 1), (1, .getfield 33, 3), (4, .iload_n 1, 1), (5, .iload_n 2, 1), (6, .iload_n 3, 1), (7, .invokevirtual 77, 3), (10, .istore 4, 2), (12, .aload_n 0, 1), (13, .iload 4, 2), (15, .iload 4, 2), (17, .ifCond .lt 7, 3), (20, .iconst 1, 1)] 0 (by decide +kernel)
theorem dX11_rope_0 : decode cX11_rope 0 = .ok (.aload_n 0, 1) := dgX11_rope_0.1
theorem dX11_rope_1 : decode cX11_rope 1 = .ok (.getfield 33, 3) := dgX11_rope_0.2.1
theorem dX11_rope_4 : decode cX11_rope 4 = .ok (.iload_n 1, 1) := dgX11_rope_0.2.2.1
theorem dX11_rope_5 : decode cX11_rope 5 = .ok (.iload_n 2, 1) := dgX11_rope_0.2.2.2.1
theorem dX11_rope_6 : decode cX11_rope 6 = .ok (.iload_n 3, 1) := dgX11_rope_0.2.2.2.2.1
theorem dX11_rope_7 : decode cX11_rope 7 = .ok (.invokevirtual 77, 3) := dgX11_rope_0.2.2.2.2.2.1
theorem dX11_rope_10 : decode cX11_rope 10 = .ok (.istore 4, 2) := dgX11_rope_0.2.2.2.2.2.2.1
theorem dX11_rope_12 : decode cX11_rope 12 = .ok (.aload_n 0, 1) := dgX11_rope_0.2.2.2.2.2.2.2.1
theorem dX11_rope_13 : decode cX11_rope 13 = .ok (.iload 4, 2) := dgX11_rope_0.2.2.2.2.2.2.2.2.1
theorem dX11_rope_15 : decode cX11_rope 15 = .ok (.iload 4, 2) := dgX11_rope_0.2.2.2.2.2.2.2.2.2.1
theorem dX11_rope_17 : decode cX11_rope 17 = .ok (.ifCond .lt 7, 3) := dgX11_rope_0.2.2.2.2.2.2.2.2.2.2.1
theorem dX11_rope_20 : decode cX11_rope 20 = .ok (.iconst 1, 1) := dgX11_rope_0.2.2.2.2.2.2.2.2.2.2.2.1
theorem dgX11_rope_21 : (decode cX11_rope 21 = .ok (.goto 4, 3)) ∧ (decode cX11_rope 24 = .ok (.iconst 0, 1)) ∧ (decode cX11_rope 25 = .ok (.invokevirtual 57, 3)) ∧ (decode cX11_rope 28 = .ok (.ireturn, 1)) ∧ True := dkW [(21, .goto 4, 3), (24, .iconst 0, 1), (25, .invokevirtual 57, 3), (28, .ireturn, 1)] 21 (by decide +kernel)
theorem dX11_rope_21 : decode cX11_rope 21 = .ok (.goto 4, 3) := dgX11_rope_21.1
theorem dX11_rope_24 : decode cX11_rope 24 = .ok (.iconst 0, 1) := dgX11_rope_21.2.1
theorem dX11_rope_25 : decode cX11_rope 25 = .ok (.invokevirtual 57, 3) := dgX11_rope_21.2.2.1
theorem dX11_rope_28 : decode cX11_rope 28 = .ok (.ireturn, 1) := dgX11_rope_21.2.2.2.1
abbrev rmX11_rope : Room := { frames := 3, cells := 1, slots := 12, locals := 70 }
noncomputable def fX11_rope_b25 (N : Nat)  (t : Nat) (h : Hs) (q0 : Option Nat) (u1 : Int32) (u2 : Int32) : Option (Int32 × Hs) :=
  (rc 11 h q0).bind fun a2 =>
  (fX11_deed N h a2 u1 u2).bind fun r1 =>
  some (r1.1, r1.2)
set_option maxHeartbeats 4000000 in
set_option maxRecDepth 20000 in
theorem wX11_rope_b25 {p : Program} {l : Launch} {e : Env} {s : State} {m : MethodId} {args : Array Value} {below : List Frame} {meth : Method} {c : Code} {G : Gl} {N : Nat} {h : Hs} {r : Int32 × Hs}  {t : Nat} {q0 : Option Nat} {u1 : Int32} {u2 : Int32} (C : Cx p s m args meth c cX11_rope RX11 5 G) (hret : meth.sig.returnType = (some .int))  (hf : fX11_rope_b25 N  t h q0 u1 u2 = some r) : V p l e rmX11_rope s m args below meth c G 5 (MQ below (QcG G (some (.inl r.1)) r.2) args s rmX11_rope.cells rmX11_rope.slots (AG G)) h 1 12 25 [some (.inr (some t)), none, none, none, none] [.inl u2, .inl u1, .inr q0] := by
  unfold fX11_rope_b25 at hf
  obtain ⟨a2, ea2, hf⟩ := bS hf
  obtain ⟨r1, er1, hf⟩ := bS hf
  refine r_invV1 (As := [.inl u1, .inl u2]) (ci := 11) C dX11_rope_25 mcX11_deed wd_364 wd_366 wp_0 rfl rfl (by decide) ⟨by decide, by decide⟩ ⟨by decide, by decide⟩ rfl (Nat.le_of_ble_eq_true rfl) ea2 (kX11_deed l G er1) ?_
  exact r_iretF C dX11_rope_28 hret hf (by decide) (by decide)
noncomputable def fX11_rope (N : Nat) (h : Hs) (t : Nat) (p1 : Int32) (p2 : Int32) (p3 : Int32) : Option (Int32 × Hs) :=
  (oR 11 0 h (some t)).bind fun o1 =>
  (rc 5 h o1).bind fun a3 =>
  (fX5_addRope N h a3 p1 p2 p3).bind fun r2 =>
  if r2.1 < 0 then (
  fX11_rope_b25 N t r2.2 (some t) r2.1 0)
  else fX11_rope_b25 N t r2.2 (some t) r2.1 1
set_option maxHeartbeats 4000000 in
set_option maxRecDepth 20000 in
theorem kX11_rope (l : Launch) (G : Gl) {N : Nat} {h : Hs} {t : Nat} {p1 : Int32} {p2 : Int32} {p3 : Int32} {r : Int32 × Hs} (hf : fX11_rope N h t p1 p2 p3 = some r) : CT l G yX11_rope cX11_rope 5 (some .int) rmX11_rope [.inr (some t), .inl p1, .inl p2, .inl p3] h (some (.inl r.1)) r.2 := by
  refine mk_CT (by decide) (Nat.le_of_ble_eq_true rfl) ?_
  intro p e s m args below meth c C hret hin
  unfold fX11_rope at hf
  refine r_aload_n C dX11_rope_0 rfl ?_
  obtain ⟨o1, eo1, hf⟩ := bS hf
  refine r_getR C dX11_rope_1 fl_X11_33 rfl eo1 ?_
  refine r_iload_n C dX11_rope_4 rfl ?_
  refine r_iload_n C dX11_rope_5 rfl ?_
  refine r_iload_n C dX11_rope_6 rfl ?_
  obtain ⟨a3, ea3, hf⟩ := bS hf
  obtain ⟨r2, er2, hf⟩ := bS hf
  refine r_invV1 (As := [.inl p1, .inl p2, .inl p3]) (ci := 5) C dX11_rope_7 mcX5_addRope wd_420 wd_421 wd_422 rfl rfl (by decide) ⟨by decide, by decide⟩ ⟨by decide, by decide⟩ rfl (Nat.le_of_ble_eq_true rfl) ea3 (kX5_addRope l G er2) ?_
  refine r_istore C dX11_rope_10 (by decide) ?_
  refine r_aload_n C dX11_rope_12 rfl ?_
  refine r_iload C dX11_rope_13 rfl ?_
  refine r_iload C dX11_rope_15 rfl ?_
  refine r_if_lt (tgt := 24) C dX11_rope_17 (by decide) (fun hc => ?_) (fun hc => ?_)
  · have hf := ifT hf hc
    refine r_iconst (v := 0) C dX11_rope_24 (by decide) ?_
    exact V.sub (wX11_rope_b25 C hret hf) (LW_s rfl (LW_n (LW_n (LW_n (LW_n (LW_e))))))
  · have hf := ifF hf hc
    refine r_iconst (v := 1) C dX11_rope_20 (by decide) ?_
    refine r_goto (tgt := 25) C dX11_rope_21 (by decide) ?_
    exact V.sub (wX11_rope_b25 C hret hf) (LW_s rfl (LW_n (LW_n (LW_n (LW_n (LW_e))))))

theorem dgX11_ofRope_0 : (decode cX11_ofRope 0 = .ok (.aload_n 0, 1)) ∧ (decode cX11_ofRope 1 = .ok (.getfield 33, 3)) ∧ (decode cX11_ofRope 4 = .ok (.iload_n 1, 1)) ∧ (decode cX11_ofRope 5 = .ok (.invokevirtual 81, 3)) ∧ (decode cX11_ofRope 8 = .ok (.astore_n 3, 1)) ∧ (decode cX11_ofRope 9 = .ok (.aload_n 3, 1)) ∧ (decode cX11_ofRope 10 = .ok (.ifnonnull 8, 3)) ∧ (decode cX11_ofRope 13 = .ok (.ldc 85, 2)) ∧ (decode cX11_ofRope 15 = .ok (.goto 8, 3)) ∧ (decode cX11_ofRope 18 = .ok (.aload_n 3, 1)) ∧ (decode cX11_ofRope 19 = .ok (.iload_n 2, 1)) ∧ (decode cX11_ofRope 20 = .ok (.invokevirtual 86, 3)) ∧ True := dkW [(0, .aload_n 0, 1), (1, .getfield 33, 3), (4, .iload_n 1, 1), (5, .invokevirtual 81, 3), (8, .astore_n 3, 1), (9, .aload_n 3, 1), (10, .ifnonnull 8, 3), (13, .ldc 85, 2), (15, .goto 8, 3), (18, .aload_n 3, 1), (19, .iload_n 2, 1), (20, .invokevirtual 86, 3)] 0 (by decide +kernel)
theorem dX11_ofRope_0 : decode cX11_ofRope 0 = .ok (.aload_n 0, 1) := dgX11_ofRope_0.1
theorem dX11_ofRope_1 : decode cX11_ofRope 1 = .ok (.getfield 33, 3) := dgX11_ofRope_0.2.1
theorem dX11_ofRope_4 : decode cX11_ofRope 4 = .ok (.iload_n 1, 1) := dgX11_ofRope_0.2.2.1
theorem dX11_ofRope_5 : decode cX11_ofRope 5 = .ok (.invokevirtual 81, 3) := dgX11_ofRope_0.2.2.2.1
theorem dX11_ofRope_8 : decode cX11_ofRope 8 = .ok (.astore_n 3, 1) := dgX11_ofRope_0.2.2.2.2.1
theorem dX11_ofRope_9 : decode cX11_ofRope 9 = .ok (.aload_n 3, 1) := dgX11_ofRope_0.2.2.2.2.2.1
theorem dX11_ofRope_10 : decode cX11_ofRope 10 = .ok (.ifnonnull 8, 3) := dgX11_ofRope_0.2.2.2.2.2.2.1
theorem dX11_ofRope_13 : decode cX11_ofRope 13 = .ok (.ldc 85, 2) := dgX11_ofRope_0.2.2.2.2.2.2.2.1
theorem dX11_ofRope_15 : decode cX11_ofRope 15 = .ok (.goto 8, 3) := dgX11_ofRope_0.2.2.2.2.2.2.2.2.1
theorem dX11_ofRope_18 : decode cX11_ofRope 18 = .ok (.aload_n 3, 1) := dgX11_ofRope_0.2.2.2.2.2.2.2.2.2.1
theorem dX11_ofRope_19 : decode cX11_ofRope 19 = .ok (.iload_n 2, 1) := dgX11_ofRope_0.2.2.2.2.2.2.2.2.2.2.1
theorem dX11_ofRope_20 : decode cX11_ofRope 20 = .ok (.invokevirtual 86, 3) := dgX11_ofRope_0.2.2.2.2.2.2.2.2.2.2.2.1
theorem dgX11_ofRope_23 : (decode cX11_ofRope 23 = .ok (.ireturn, 1)) ∧ True := dkW [(23, .ireturn, 1)] 23 (by decide +kernel)
theorem dX11_ofRope_23 : decode cX11_ofRope 23 = .ok (.ireturn, 1) := dgX11_ofRope_23.1
abbrev rmX11_ofRope : Room := { frames := 3, cells := 0, slots := 0, locals := 62 }
noncomputable def fX11_ofRope_b23 (N : Nat)  (t : Nat) (h : Hs) (u0 : Int32) : Option (Int32 × Hs) :=
  some (u0, h)
set_option maxHeartbeats 4000000 in
set_option maxRecDepth 20000 in
theorem wX11_ofRope_b23 {p : Program} {l : Launch} {e : Env} {s : State} {m : MethodId} {args : Array Value} {below : List Frame} {meth : Method} {c : Code} {G : Gl} {N : Nat} {h : Hs} {r : Int32 × Hs}  {t : Nat} {u0 : Int32} (C : Cx p s m args meth c cX11_ofRope RX11 4 G) (hret : meth.sig.returnType = (some .int))  (hf : fX11_ofRope_b23 N  t h u0 = some r) : V p l e rmX11_ofRope s m args below meth c G 4 (MQ below (QcG G (some (.inl r.1)) r.2) args s rmX11_ofRope.cells rmX11_ofRope.slots (AG G)) h 0 0 23 [some (.inr (some t)), none, none, none] [.inl u0] := by
  unfold fX11_ofRope_b23 at hf
  exact r_iretF C dX11_ofRope_23 hret hf (by decide) (by decide)
noncomputable def fX11_ofRope (N : Nat) (h : Hs) (t : Nat) (p1 : Int32) (p2 : Int32) : Option (Int32 × Hs) :=
  (oR 11 0 h (some t)).bind fun o1 =>
  (rc 5 h o1).bind fun a3 =>
  (fX5_ropeNumbered N h a3 p1).bind fun r2 =>
  if r2.1 = none then (
  fX11_ofRope_b23 N t r2.2 (-2000000000))
  else (rc 4 r2.2 r2.1).bind fun a5 =>
  (fX4_tell N r2.2 a5 p2).bind fun r4 =>
  fX11_ofRope_b23 N t r4.2 r4.1
set_option maxHeartbeats 4000000 in
set_option maxRecDepth 20000 in
theorem kX11_ofRope (l : Launch) (G : Gl) {N : Nat} {h : Hs} {t : Nat} {p1 : Int32} {p2 : Int32} {r : Int32 × Hs} (hf : fX11_ofRope N h t p1 p2 = some r) : CT l G yX11_ofRope cX11_ofRope 4 (some .int) rmX11_ofRope [.inr (some t), .inl p1, .inl p2] h (some (.inl r.1)) r.2 := by
  refine mk_CT (by decide) (Nat.le_of_ble_eq_true rfl) ?_
  intro p e s m args below meth c C hret hin
  unfold fX11_ofRope at hf
  refine r_aload_n C dX11_ofRope_0 rfl ?_
  obtain ⟨o1, eo1, hf⟩ := bS hf
  refine r_getR C dX11_ofRope_1 fl_X11_33 rfl eo1 ?_
  refine r_iload_n C dX11_ofRope_4 rfl ?_
  obtain ⟨a3, ea3, hf⟩ := bS hf
  obtain ⟨r2, er2, hf⟩ := bS hf
  refine r_invV1 (As := [.inl p1]) (ci := 5) C dX11_ofRope_5 mcX5_ropeNumbered wd_484 wd_485 wd_486 rfl rfl (by decide) ⟨by decide, by decide⟩ ⟨by decide, by decide⟩ rfl (Nat.le_of_ble_eq_true rfl) ea3 (kX5_ropeNumbered l G er2) ?_
  refine r_astore_n C dX11_ofRope_8 (by decide) ?_
  refine r_aload_n C dX11_ofRope_9 rfl ?_
  refine r_ifnonnull (tgt := 18) C dX11_ofRope_10 (by decide) (fun hc => ?_) (fun hc => ?_)
  · have hf := ifF hf hc
    refine r_aload_n C dX11_ofRope_18 rfl ?_
    refine r_iload_n C dX11_ofRope_19 rfl ?_
    obtain ⟨a5, ea5, hf⟩ := bS hf
    obtain ⟨r4, er4, hf⟩ := bS hf
    refine r_invV1 (As := [.inl p2]) (ci := 4) C dX11_ofRope_20 mcX4_tell wd_489 wd_490 wd_491 rfl rfl (by decide) ⟨by decide, by decide⟩ ⟨by decide, by decide⟩ rfl (Nat.le_of_ble_eq_true rfl) ea5 (kX4_tell l G er4) ?_
    exact V.sub (wX11_ofRope_b23 C hret hf) (LW_s rfl (LW_n (LW_n (LW_n (LW_e)))))
  · have hf := ifT hf hc
    refine r_ldc C dX11_ofRope_13 wd_488 ?_
    refine r_goto (tgt := 23) C dX11_ofRope_15 (by decide) ?_
    exact V.sub (wX11_ofRope_b23 C hret hf) (LW_s rfl (LW_n (LW_n (LW_n (LW_e)))))

theorem dgX11_tie_0 : (decode cX11_tie 0 = .ok (.aload_n 0, 1)) ∧ (decode cX11_tie 1 = .ok (.getfield 33, 3)) ∧ (decode cX11_tie 4 = .ok (.iload_n 1, 1)) ∧ (decode cX11_tie 5 = .ok (.iload_n 2, 1)) ∧ (decode cX11_tie 6 = .ok (.invokevirtual 89, 3)) ∧ (decode cX11_tie 9 = .ok (.istore_n 3, 1)) ∧ (decode cX11_tie 10 = .ok (.aload_n 0, 1)) ∧ (decode cX11_tie 11 = .ok (.iload_n 3, 1)) ∧ (decode cX11_tie 12 = .ok (.iload_n 3, 1)) ∧ (decode cX11_tie 13 = .ok (.ifCond .lt 7, 3)) ∧ (decode cX11_tie 16 = .ok (.iconst 1, 1)) ∧ (decode cX11_tie 17 = .ok (.goto 4, 3)) ∧ True := dkW [(0, .aload_n 0, 1), (1, .getfield 33, 3), (4, .iload_n 1, 1), (5, .iload_n 2, 1), (6, .invokevirtual 89, 3), (9, .istore_n 3, 1), (10, .aload_n 0, 1), (11, .iload_n 3, 1), (12, .iload_n 3, 1), (13, .ifCond .lt 7, 3), (16, .iconst 1, 1), (17, .goto 4, 3)] 0 (by decide +kernel)
theorem dX11_tie_0 : decode cX11_tie 0 = .ok (.aload_n 0, 1) := dgX11_tie_0.1
theorem dX11_tie_1 : decode cX11_tie 1 = .ok (.getfield 33, 3) := dgX11_tie_0.2.1
theorem dX11_tie_4 : decode cX11_tie 4 = .ok (.iload_n 1, 1) := dgX11_tie_0.2.2.1
theorem dX11_tie_5 : decode cX11_tie 5 = .ok (.iload_n 2, 1) := dgX11_tie_0.2.2.2.1
theorem dX11_tie_6 : decode cX11_tie 6 = .ok (.invokevirtual 89, 3) := dgX11_tie_0.2.2.2.2.1
theorem dX11_tie_9 : decode cX11_tie 9 = .ok (.istore_n 3, 1) := dgX11_tie_0.2.2.2.2.2.1
theorem dX11_tie_10 : decode cX11_tie 10 = .ok (.aload_n 0, 1) := dgX11_tie_0.2.2.2.2.2.2.1
theorem dX11_tie_11 : decode cX11_tie 11 = .ok (.iload_n 3, 1) := dgX11_tie_0.2.2.2.2.2.2.2.1
theorem dX11_tie_12 : decode cX11_tie 12 = .ok (.iload_n 3, 1) := dgX11_tie_0.2.2.2.2.2.2.2.2.1
theorem dX11_tie_13 : decode cX11_tie 13 = .ok (.ifCond .lt 7, 3) := dgX11_tie_0.2.2.2.2.2.2.2.2.2.1
theorem dX11_tie_16 : decode cX11_tie 16 = .ok (.iconst 1, 1) := dgX11_tie_0.2.2.2.2.2.2.2.2.2.2.1
theorem dX11_tie_17 : decode cX11_tie 17 = .ok (.goto 4, 3) := dgX11_tie_0.2.2.2.2.2.2.2.2.2.2.2.1
theorem dgX11_tie_20 : (decode cX11_tie 20 = .ok (.iconst 0, 1)) ∧ (decode cX11_tie 21 = .ok (.invokevirtual 57, 3)) ∧ (decode cX11_tie 24 = .ok (.ireturn, 1)) ∧ True := dkW [(20, .iconst 0, 1), (21, .invokevirtual 57, 3), (24, .ireturn, 1)] 20 (by decide +kernel)
theorem dX11_tie_20 : decode cX11_tie 20 = .ok (.iconst 0, 1) := dgX11_tie_20.1
theorem dX11_tie_21 : decode cX11_tie 21 = .ok (.invokevirtual 57, 3) := dgX11_tie_20.2.1
theorem dX11_tie_24 : decode cX11_tie 24 = .ok (.ireturn, 1) := dgX11_tie_20.2.2.1
abbrev rmX11_tie : Room := { frames := 4, cells := 0, slots := 0, locals := 85 }
noncomputable def fX11_tie_b21 (N : Nat)  (t : Nat) (h : Hs) (q0 : Option Nat) (u1 : Int32) (u2 : Int32) : Option (Int32 × Hs) :=
  (rc 11 h q0).bind fun a2 =>
  (fX11_deed N h a2 u1 u2).bind fun r1 =>
  some (r1.1, r1.2)
set_option maxHeartbeats 4000000 in
set_option maxRecDepth 20000 in
theorem wX11_tie_b21 {p : Program} {l : Launch} {e : Env} {s : State} {m : MethodId} {args : Array Value} {below : List Frame} {meth : Method} {c : Code} {G : Gl} {N : Nat} {h : Hs} {r : Int32 × Hs}  {t : Nat} {q0 : Option Nat} {u1 : Int32} {u2 : Int32} (C : Cx p s m args meth c cX11_tie RX11 4 G) (hret : meth.sig.returnType = (some .int))  (hf : fX11_tie_b21 N  t h q0 u1 u2 = some r) : V p l e rmX11_tie s m args below meth c G 4 (MQ below (QcG G (some (.inl r.1)) r.2) args s rmX11_tie.cells rmX11_tie.slots (AG G)) h 0 0 21 [some (.inr (some t)), none, none, none] [.inl u2, .inl u1, .inr q0] := by
  unfold fX11_tie_b21 at hf
  obtain ⟨a2, ea2, hf⟩ := bS hf
  obtain ⟨r1, er1, hf⟩ := bS hf
  refine r_invV1 (As := [.inl u1, .inl u2]) (ci := 11) C dX11_tie_21 mcX11_deed wd_364 wd_366 wp_0 rfl rfl (by decide) ⟨by decide, by decide⟩ ⟨by decide, by decide⟩ rfl (Nat.le_of_ble_eq_true rfl) ea2 (kX11_deed l G er1) ?_
  exact r_iretF C dX11_tie_24 hret hf (by decide) (by decide)
noncomputable def fX11_tie (N : Nat) (h : Hs) (t : Nat) (p1 : Int32) (p2 : Int32) : Option (Int32 × Hs) :=
  (oR 11 0 h (some t)).bind fun o1 =>
  (rc 5 h o1).bind fun a3 =>
  (fX5_tieRope N h a3 p1 p2).bind fun r2 =>
  if r2.1 < 0 then (
  fX11_tie_b21 N t r2.2 (some t) r2.1 0)
  else fX11_tie_b21 N t r2.2 (some t) r2.1 1
set_option maxHeartbeats 4000000 in
set_option maxRecDepth 20000 in
theorem kX11_tie (l : Launch) (G : Gl) {N : Nat} {h : Hs} {t : Nat} {p1 : Int32} {p2 : Int32} {r : Int32 × Hs} (hf : fX11_tie N h t p1 p2 = some r) : CT l G yX11_tie cX11_tie 4 (some .int) rmX11_tie [.inr (some t), .inl p1, .inl p2] h (some (.inl r.1)) r.2 := by
  refine mk_CT (by decide) (Nat.le_of_ble_eq_true rfl) ?_
  intro p e s m args below meth c C hret hin
  unfold fX11_tie at hf
  refine r_aload_n C dX11_tie_0 rfl ?_
  obtain ⟨o1, eo1, hf⟩ := bS hf
  refine r_getR C dX11_tie_1 fl_X11_33 rfl eo1 ?_
  refine r_iload_n C dX11_tie_4 rfl ?_
  refine r_iload_n C dX11_tie_5 rfl ?_
  obtain ⟨a3, ea3, hf⟩ := bS hf
  obtain ⟨r2, er2, hf⟩ := bS hf
  refine r_invV1 (As := [.inl p1, .inl p2]) (ci := 5) C dX11_tie_6 mcX5_tieRope wd_505 wd_506 wd_507 rfl rfl (by decide) ⟨by decide, by decide⟩ ⟨by decide, by decide⟩ rfl (Nat.le_of_ble_eq_true rfl) ea3 (kX5_tieRope l G er2) ?_
  refine r_istore_n C dX11_tie_9 (by decide) ?_
  refine r_aload_n C dX11_tie_10 rfl ?_
  refine r_iload_n C dX11_tie_11 rfl ?_
  refine r_iload_n C dX11_tie_12 rfl ?_
  refine r_if_lt (tgt := 20) C dX11_tie_13 (by decide) (fun hc => ?_) (fun hc => ?_)
  · have hf := ifT hf hc
    refine r_iconst (v := 0) C dX11_tie_20 (by decide) ?_
    exact V.sub (wX11_tie_b21 C hret hf) (LW_s rfl (LW_n (LW_n (LW_n (LW_e)))))
  · have hf := ifF hf hc
    refine r_iconst (v := 1) C dX11_tie_16 (by decide) ?_
    refine r_goto (tgt := 21) C dX11_tie_17 (by decide) ?_
    exact V.sub (wX11_tie_b21 C hret hf) (LW_s rfl (LW_n (LW_n (LW_n (LW_e)))))

theorem dgX11_untie_0 : (decode cX11_untie 0 = .ok (.aload_n 0, 1)) ∧ (decode cX11_untie 1 = .ok (.getfield 33, 3)) ∧ (decode cX11_untie 4 = .ok (.iload_n 1, 1)) ∧ (decode cX11_untie 5 = .ok (.invokevirtual 93, 3)) ∧ (decode cX11_untie 8 = .ok (.istore_n 2, 1)) ∧ (decode cX11_untie 9 = .ok (.aload_n 0, 1)) ∧ (decode cX11_untie 10 = .ok (.iload_n 2, 1)) ∧ (decode cX11_untie 11 = .ok (.iload_n 2, 1)) ∧ (decode cX11_untie 12 = .ok (.ldc 85, 2)) ∧ (decode cX11_untie 14 = .ok (.if_icmp .eq 7, 3)) ∧ (decode cX11_untie 17 = .ok (.iconst 1, 1)) ∧ (decode cX11_untie 18 = .ok (.goto 4, 3)) ∧ True := dkW [(0, .aload_n 0, 1), (1, .getfield 33, 3), (4, .iload_n 1, 1), (5, .invokevirtual 93, 3), (8, .istore_n 2, 1), (9, .aload_n 0, 1), (10, .iload_n 2, 1), (11, .iload_n 2, 1), (12, .ldc 85, 2), (14, .if_icmp .eq 7, 3), (17, .iconst 1, 1), (18, .goto 4, 3)] 0 (by decide +kernel)
theorem dX11_untie_0 : decode cX11_untie 0 = .ok (.aload_n 0, 1) := dgX11_untie_0.1
theorem dX11_untie_1 : decode cX11_untie 1 = .ok (.getfield 33, 3) := dgX11_untie_0.2.1
theorem dX11_untie_4 : decode cX11_untie 4 = .ok (.iload_n 1, 1) := dgX11_untie_0.2.2.1
theorem dX11_untie_5 : decode cX11_untie 5 = .ok (.invokevirtual 93, 3) := dgX11_untie_0.2.2.2.1
theorem dX11_untie_8 : decode cX11_untie 8 = .ok (.istore_n 2, 1) := dgX11_untie_0.2.2.2.2.1
theorem dX11_untie_9 : decode cX11_untie 9 = .ok (.aload_n 0, 1) := dgX11_untie_0.2.2.2.2.2.1
theorem dX11_untie_10 : decode cX11_untie 10 = .ok (.iload_n 2, 1) := dgX11_untie_0.2.2.2.2.2.2.1
theorem dX11_untie_11 : decode cX11_untie 11 = .ok (.iload_n 2, 1) := dgX11_untie_0.2.2.2.2.2.2.2.1
theorem dX11_untie_12 : decode cX11_untie 12 = .ok (.ldc 85, 2) := dgX11_untie_0.2.2.2.2.2.2.2.2.1
theorem dX11_untie_14 : decode cX11_untie 14 = .ok (.if_icmp .eq 7, 3) := dgX11_untie_0.2.2.2.2.2.2.2.2.2.1
theorem dX11_untie_17 : decode cX11_untie 17 = .ok (.iconst 1, 1) := dgX11_untie_0.2.2.2.2.2.2.2.2.2.2.1
theorem dX11_untie_18 : decode cX11_untie 18 = .ok (.goto 4, 3) := dgX11_untie_0.2.2.2.2.2.2.2.2.2.2.2.1
theorem dgX11_untie_21 : (decode cX11_untie 21 = .ok (.iconst 0, 1)) ∧ (decode cX11_untie 22 = .ok (.invokevirtual 57, 3)) ∧ (decode cX11_untie 25 = .ok (.ireturn, 1)) ∧ True := dkW [(21, .iconst 0, 1), (22, .invokevirtual 57, 3), (25, .ireturn, 1)] 21 (by decide +kernel)
theorem dX11_untie_21 : decode cX11_untie 21 = .ok (.iconst 0, 1) := dgX11_untie_21.1
theorem dX11_untie_22 : decode cX11_untie 22 = .ok (.invokevirtual 57, 3) := dgX11_untie_21.2.1
theorem dX11_untie_25 : decode cX11_untie 25 = .ok (.ireturn, 1) := dgX11_untie_21.2.2.1
abbrev rmX11_untie : Room := { frames := 3, cells := 0, slots := 0, locals := 66 }
noncomputable def fX11_untie_b22 (N : Nat)  (t : Nat) (h : Hs) (q0 : Option Nat) (u1 : Int32) (u2 : Int32) : Option (Int32 × Hs) :=
  (rc 11 h q0).bind fun a2 =>
  (fX11_deed N h a2 u1 u2).bind fun r1 =>
  some (r1.1, r1.2)
set_option maxHeartbeats 4000000 in
set_option maxRecDepth 20000 in
theorem wX11_untie_b22 {p : Program} {l : Launch} {e : Env} {s : State} {m : MethodId} {args : Array Value} {below : List Frame} {meth : Method} {c : Code} {G : Gl} {N : Nat} {h : Hs} {r : Int32 × Hs}  {t : Nat} {q0 : Option Nat} {u1 : Int32} {u2 : Int32} (C : Cx p s m args meth c cX11_untie RX11 3 G) (hret : meth.sig.returnType = (some .int))  (hf : fX11_untie_b22 N  t h q0 u1 u2 = some r) : V p l e rmX11_untie s m args below meth c G 3 (MQ below (QcG G (some (.inl r.1)) r.2) args s rmX11_untie.cells rmX11_untie.slots (AG G)) h 0 0 22 [some (.inr (some t)), none, none] [.inl u2, .inl u1, .inr q0] := by
  unfold fX11_untie_b22 at hf
  obtain ⟨a2, ea2, hf⟩ := bS hf
  obtain ⟨r1, er1, hf⟩ := bS hf
  refine r_invV1 (As := [.inl u1, .inl u2]) (ci := 11) C dX11_untie_22 mcX11_deed wd_364 wd_366 wp_0 rfl rfl (by decide) ⟨by decide, by decide⟩ ⟨by decide, by decide⟩ rfl (Nat.le_of_ble_eq_true rfl) ea2 (kX11_deed l G er1) ?_
  exact r_iretF C dX11_untie_25 hret hf (by decide) (by decide)
noncomputable def fX11_untie (N : Nat) (h : Hs) (t : Nat) (p1 : Int32) : Option (Int32 × Hs) :=
  (oR 11 0 h (some t)).bind fun o1 =>
  (rc 5 h o1).bind fun a3 =>
  (fX5_untieRope N h a3 p1).bind fun r2 =>
  if r2.1 = (-2000000000) then (
  fX11_untie_b22 N t r2.2 (some t) r2.1 0)
  else fX11_untie_b22 N t r2.2 (some t) r2.1 1
set_option maxHeartbeats 4000000 in
set_option maxRecDepth 20000 in
theorem kX11_untie (l : Launch) (G : Gl) {N : Nat} {h : Hs} {t : Nat} {p1 : Int32} {r : Int32 × Hs} (hf : fX11_untie N h t p1 = some r) : CT l G yX11_untie cX11_untie 3 (some .int) rmX11_untie [.inr (some t), .inl p1] h (some (.inl r.1)) r.2 := by
  refine mk_CT (by decide) (Nat.le_of_ble_eq_true rfl) ?_
  intro p e s m args below meth c C hret hin
  unfold fX11_untie at hf
  refine r_aload_n C dX11_untie_0 rfl ?_
  obtain ⟨o1, eo1, hf⟩ := bS hf
  refine r_getR C dX11_untie_1 fl_X11_33 rfl eo1 ?_
  refine r_iload_n C dX11_untie_4 rfl ?_
  obtain ⟨a3, ea3, hf⟩ := bS hf
  obtain ⟨r2, er2, hf⟩ := bS hf
  refine r_invV1 (As := [.inl p1]) (ci := 5) C dX11_untie_5 mcX5_untieRope wd_526 wd_527 wd_528 rfl rfl (by decide) ⟨by decide, by decide⟩ ⟨by decide, by decide⟩ rfl (Nat.le_of_ble_eq_true rfl) ea3 (kX5_untieRope l G er2) ?_
  refine r_istore_n C dX11_untie_8 (by decide) ?_
  refine r_aload_n C dX11_untie_9 rfl ?_
  refine r_iload_n C dX11_untie_10 rfl ?_
  refine r_iload_n C dX11_untie_11 rfl ?_
  refine r_ldc C dX11_untie_12 wd_488 ?_
  refine r_icmp_eq (tgt := 21) C dX11_untie_14 (by decide) (fun hc => ?_) (fun hc => ?_)
  · have hf := ifT hf hc
    refine r_iconst (v := 0) C dX11_untie_21 (by decide) ?_
    exact V.sub (wX11_untie_b22 C hret hf) (LW_s rfl (LW_n (LW_n (LW_e))))
  · have hf := ifF hf hc
    refine r_iconst (v := 1) C dX11_untie_17 (by decide) ?_
    refine r_goto (tgt := 22) C dX11_untie_18 (by decide) ?_
    exact V.sub (wX11_untie_b22 C hret hf) (LW_s rfl (LW_n (LW_n (LW_e))))

theorem dgX11_weight_0 : (decode cX11_weight 0 = .ok (.aload_n 0, 1)) ∧ (decode cX11_weight 1 = .ok (.getfield 33, 3)) ∧ (decode cX11_weight 4 = .ok (.iload_n 1, 1)) ∧ (decode cX11_weight 5 = .ok (.iload_n 2, 1)) ∧ (decode cX11_weight 6 = .ok (.invokevirtual 96, 3)) ∧ (decode cX11_weight 9 = .ok (.istore_n 3, 1)) ∧ (decode cX11_weight 10 = .ok (.aload_n 0, 1)) ∧ (decode cX11_weight 11 = .ok (.iload_n 3, 1)) ∧ (decode cX11_weight 12 = .ok (.iload_n 3, 1)) ∧ (decode cX11_weight 13 = .ok (.ldc 85, 2)) ∧ (decode cX11_weight 15 = .ok (.if_icmp .eq 7, 3)) ∧ (decode cX11_weight 18 = .ok (.iconst 1, 1)) ∧ True := dkW [(0, .aload_n 0, 1), (1, .getfield 33, 3), (4, .iload_n 1, 1), (5, .iload_n 2, 1), (6, .invokevirtual 96, 3), (9, .istore_n 3, 1), (10, .aload_n 0, 1), (11, .iload_n 3, 1), (12, .iload_n 3, 1), (13, .ldc 85, 2), (15, .if_icmp .eq 7, 3), (18, .iconst 1, 1)] 0 (by decide +kernel)
theorem dX11_weight_0 : decode cX11_weight 0 = .ok (.aload_n 0, 1) := dgX11_weight_0.1
theorem dX11_weight_1 : decode cX11_weight 1 = .ok (.getfield 33, 3) := dgX11_weight_0.2.1
theorem dX11_weight_4 : decode cX11_weight 4 = .ok (.iload_n 1, 1) := dgX11_weight_0.2.2.1
theorem dX11_weight_5 : decode cX11_weight 5 = .ok (.iload_n 2, 1) := dgX11_weight_0.2.2.2.1
theorem dX11_weight_6 : decode cX11_weight 6 = .ok (.invokevirtual 96, 3) := dgX11_weight_0.2.2.2.2.1
theorem dX11_weight_9 : decode cX11_weight 9 = .ok (.istore_n 3, 1) := dgX11_weight_0.2.2.2.2.2.1
theorem dX11_weight_10 : decode cX11_weight 10 = .ok (.aload_n 0, 1) := dgX11_weight_0.2.2.2.2.2.2.1
theorem dX11_weight_11 : decode cX11_weight 11 = .ok (.iload_n 3, 1) := dgX11_weight_0.2.2.2.2.2.2.2.1
theorem dX11_weight_12 : decode cX11_weight 12 = .ok (.iload_n 3, 1) := dgX11_weight_0.2.2.2.2.2.2.2.2.1
theorem dX11_weight_13 : decode cX11_weight 13 = .ok (.ldc 85, 2) := dgX11_weight_0.2.2.2.2.2.2.2.2.2.1
theorem dX11_weight_15 : decode cX11_weight 15 = .ok (.if_icmp .eq 7, 3) := dgX11_weight_0.2.2.2.2.2.2.2.2.2.2.1
theorem dX11_weight_18 : decode cX11_weight 18 = .ok (.iconst 1, 1) := dgX11_weight_0.2.2.2.2.2.2.2.2.2.2.2.1
theorem dgX11_weight_19 : (decode cX11_weight 19 = .ok (.goto 4, 3)) ∧ (decode cX11_weight 22 = .ok (.iconst 0, 1)) ∧ (decode cX11_weight 23 = .ok (.invokevirtual 57, 3)) ∧ (decode cX11_weight 26 = .ok (.ireturn, 1)) ∧ True := dkW [(19, .goto 4, 3), (22, .iconst 0, 1), (23, .invokevirtual 57, 3), (26, .ireturn, 1)] 19 (by decide +kernel)
theorem dX11_weight_19 : decode cX11_weight 19 = .ok (.goto 4, 3) := dgX11_weight_19.1
theorem dX11_weight_22 : decode cX11_weight 22 = .ok (.iconst 0, 1) := dgX11_weight_19.2.1
theorem dX11_weight_23 : decode cX11_weight 23 = .ok (.invokevirtual 57, 3) := dgX11_weight_19.2.2.1
theorem dX11_weight_26 : decode cX11_weight 26 = .ok (.ireturn, 1) := dgX11_weight_19.2.2.2.1
abbrev rmX11_weight : Room := { frames := 2, cells := 0, slots := 0, locals := 45 }
noncomputable def fX11_weight_b23 (N : Nat)  (t : Nat) (h : Hs) (q0 : Option Nat) (u1 : Int32) (u2 : Int32) : Option (Int32 × Hs) :=
  (rc 11 h q0).bind fun a2 =>
  (fX11_deed N h a2 u1 u2).bind fun r1 =>
  some (r1.1, r1.2)
set_option maxHeartbeats 4000000 in
set_option maxRecDepth 20000 in
theorem wX11_weight_b23 {p : Program} {l : Launch} {e : Env} {s : State} {m : MethodId} {args : Array Value} {below : List Frame} {meth : Method} {c : Code} {G : Gl} {N : Nat} {h : Hs} {r : Int32 × Hs}  {t : Nat} {q0 : Option Nat} {u1 : Int32} {u2 : Int32} (C : Cx p s m args meth c cX11_weight RX11 4 G) (hret : meth.sig.returnType = (some .int))  (hf : fX11_weight_b23 N  t h q0 u1 u2 = some r) : V p l e rmX11_weight s m args below meth c G 4 (MQ below (QcG G (some (.inl r.1)) r.2) args s rmX11_weight.cells rmX11_weight.slots (AG G)) h 0 0 23 [some (.inr (some t)), none, none, none] [.inl u2, .inl u1, .inr q0] := by
  unfold fX11_weight_b23 at hf
  obtain ⟨a2, ea2, hf⟩ := bS hf
  obtain ⟨r1, er1, hf⟩ := bS hf
  refine r_invV1 (As := [.inl u1, .inl u2]) (ci := 11) C dX11_weight_23 mcX11_deed wd_364 wd_366 wp_0 rfl rfl (by decide) ⟨by decide, by decide⟩ ⟨by decide, by decide⟩ rfl (Nat.le_of_ble_eq_true rfl) ea2 (kX11_deed l G er1) ?_
  exact r_iretF C dX11_weight_26 hret hf (by decide) (by decide)
noncomputable def fX11_weight (N : Nat) (h : Hs) (t : Nat) (p1 : Int32) (p2 : Int32) : Option (Int32 × Hs) :=
  (oR 11 0 h (some t)).bind fun o1 =>
  (rc 5 h o1).bind fun a3 =>
  (fX5_setWeight N h a3 p1 p2).bind fun r2 =>
  if r2.1 = (-2000000000) then (
  fX11_weight_b23 N t r2.2 (some t) r2.1 0)
  else fX11_weight_b23 N t r2.2 (some t) r2.1 1
set_option maxHeartbeats 4000000 in
set_option maxRecDepth 20000 in
theorem kX11_weight (l : Launch) (G : Gl) {N : Nat} {h : Hs} {t : Nat} {p1 : Int32} {p2 : Int32} {r : Int32 × Hs} (hf : fX11_weight N h t p1 p2 = some r) : CT l G yX11_weight cX11_weight 4 (some .int) rmX11_weight [.inr (some t), .inl p1, .inl p2] h (some (.inl r.1)) r.2 := by
  refine mk_CT (by decide) (Nat.le_of_ble_eq_true rfl) ?_
  intro p e s m args below meth c C hret hin
  unfold fX11_weight at hf
  refine r_aload_n C dX11_weight_0 rfl ?_
  obtain ⟨o1, eo1, hf⟩ := bS hf
  refine r_getR C dX11_weight_1 fl_X11_33 rfl eo1 ?_
  refine r_iload_n C dX11_weight_4 rfl ?_
  refine r_iload_n C dX11_weight_5 rfl ?_
  obtain ⟨a3, ea3, hf⟩ := bS hf
  obtain ⟨r2, er2, hf⟩ := bS hf
  refine r_invV1 (As := [.inl p1, .inl p2]) (ci := 5) C dX11_weight_6 mcX5_setWeight wd_539 wd_540 wd_541 rfl rfl (by decide) ⟨by decide, by decide⟩ ⟨by decide, by decide⟩ rfl (Nat.le_of_ble_eq_true rfl) ea3 (kX5_setWeight l G er2) ?_
  refine r_istore_n C dX11_weight_9 (by decide) ?_
  refine r_aload_n C dX11_weight_10 rfl ?_
  refine r_iload_n C dX11_weight_11 rfl ?_
  refine r_iload_n C dX11_weight_12 rfl ?_
  refine r_ldc C dX11_weight_13 wd_488 ?_
  refine r_icmp_eq (tgt := 22) C dX11_weight_15 (by decide) (fun hc => ?_) (fun hc => ?_)
  · have hf := ifT hf hc
    refine r_iconst (v := 0) C dX11_weight_22 (by decide) ?_
    exact V.sub (wX11_weight_b23 C hret hf) (LW_s rfl (LW_n (LW_n (LW_n (LW_e)))))
  · have hf := ifF hf hc
    refine r_iconst (v := 1) C dX11_weight_18 (by decide) ?_
    refine r_goto (tgt := 23) C dX11_weight_19 (by decide) ?_
    exact V.sub (wX11_weight_b23 C hret hf) (LW_s rfl (LW_n (LW_n (LW_n (LW_e)))))

theorem dgX11_bound_0 : (decode cX11_bound 0 = .ok (.aload_n 0, 1)) ∧ (decode cX11_bound 1 = .ok (.getfield 33, 3)) ∧ (decode cX11_bound 4 = .ok (.iload_n 1, 1)) ∧ (decode cX11_bound 5 = .ok (.invokevirtual 99, 3)) ∧ (decode cX11_bound 8 = .ok (.ireturn, 1)) ∧ True := dkW [(0, .aload_n 0, 1), (1, .getfield 33, 3), (4, .iload_n 1, 1), (5, .invokevirtual 99, 3), (8, .ireturn, 1)] 0 (by decide +kernel)
theorem dX11_bound_0 : decode cX11_bound 0 = .ok (.aload_n 0, 1) := dgX11_bound_0.1
theorem dX11_bound_1 : decode cX11_bound 1 = .ok (.getfield 33, 3) := dgX11_bound_0.2.1
theorem dX11_bound_4 : decode cX11_bound 4 = .ok (.iload_n 1, 1) := dgX11_bound_0.2.2.1
theorem dX11_bound_5 : decode cX11_bound 5 = .ok (.invokevirtual 99, 3) := dgX11_bound_0.2.2.2.1
theorem dX11_bound_8 : decode cX11_bound 8 = .ok (.ireturn, 1) := dgX11_bound_0.2.2.2.2.1
abbrev rmX11_bound : Room := { frames := 2, cells := 0, slots := 0, locals := 44 }
noncomputable def fX11_bound (N : Nat) (h : Hs) (t : Nat) (p1 : Int32) : Option (Int32 × Hs) :=
  (oR 11 0 h (some t)).bind fun o1 =>
  (rc 5 h o1).bind fun a3 =>
  (fX5_setBound N h a3 p1).bind fun r2 =>
  some (r2.1, r2.2)
set_option maxHeartbeats 4000000 in
set_option maxRecDepth 20000 in
theorem kX11_bound (l : Launch) (G : Gl) {N : Nat} {h : Hs} {t : Nat} {p1 : Int32} {r : Int32 × Hs} (hf : fX11_bound N h t p1 = some r) : CT l G yX11_bound cX11_bound 2 (some .int) rmX11_bound [.inr (some t), .inl p1] h (some (.inl r.1)) r.2 := by
  refine mk_CT (by decide) (Nat.le_of_ble_eq_true rfl) ?_
  intro p e s m args below meth c C hret hin
  unfold fX11_bound at hf
  refine r_aload_n C dX11_bound_0 rfl ?_
  obtain ⟨o1, eo1, hf⟩ := bS hf
  refine r_getR C dX11_bound_1 fl_X11_33 rfl eo1 ?_
  refine r_iload_n C dX11_bound_4 rfl ?_
  obtain ⟨a3, ea3, hf⟩ := bS hf
  obtain ⟨r2, er2, hf⟩ := bS hf
  refine r_invV1 (As := [.inl p1]) (ci := 5) C dX11_bound_5 mcX5_setBound wd_547 wd_548 wd_549 rfl rfl (by decide) ⟨by decide, by decide⟩ ⟨by decide, by decide⟩ rfl (Nat.le_of_ble_eq_true rfl) ea3 (kX5_setBound l G er2) ?_
  exact r_iretF C dX11_bound_8 hret hf (by decide) (by decide)

theorem dgX11_pull_0 : (decode cX11_pull 0 = .ok (.aload_n 0, 1)) ∧ (decode cX11_pull 1 = .ok (.getfield 33, 3)) ∧ (decode cX11_pull 4 = .ok (.invokevirtual 102, 3)) ∧ (decode cX11_pull 7 = .ok (.ireturn, 1)) ∧ True := dkW [(0, .aload_n 0, 1), (1, .getfield 33, 3), (4, .invokevirtual 102, 3), (7, .ireturn, 1)] 0 (by decide +kernel)
theorem dX11_pull_0 : decode cX11_pull 0 = .ok (.aload_n 0, 1) := dgX11_pull_0.1
theorem dX11_pull_1 : decode cX11_pull 1 = .ok (.getfield 33, 3) := dgX11_pull_0.2.1
theorem dX11_pull_4 : decode cX11_pull 4 = .ok (.invokevirtual 102, 3) := dgX11_pull_0.2.2.1
theorem dX11_pull_7 : decode cX11_pull 7 = .ok (.ireturn, 1) := dgX11_pull_0.2.2.2.1
abbrev rmX11_pull : Room := { frames := 4, cells := 0, slots := 0, locals := 87 }
noncomputable def fX11_pull (N : Nat) (h : Hs) (t : Nat)  : Option (Int32 × Hs) :=
  (oR 11 0 h (some t)).bind fun o1 =>
  (rc 5 h o1).bind fun a3 =>
  (fX5_pullNow N h a3 ).bind fun r2 =>
  some (r2.1, r2.2)
set_option maxHeartbeats 4000000 in
set_option maxRecDepth 20000 in
theorem kX11_pull (l : Launch) (G : Gl) {N : Nat} {h : Hs} {t : Nat}  {r : Int32 × Hs} (hf : fX11_pull N h t  = some r) : CT l G yX11_pull cX11_pull 1 (some .int) rmX11_pull [.inr (some t)] h (some (.inl r.1)) r.2 := by
  refine mk_CT (by decide) (Nat.le_of_ble_eq_true rfl) ?_
  intro p e s m args below meth c C hret hin
  unfold fX11_pull at hf
  refine r_aload_n C dX11_pull_0 rfl ?_
  obtain ⟨o1, eo1, hf⟩ := bS hf
  refine r_getR C dX11_pull_1 fl_X11_33 rfl eo1 ?_
  obtain ⟨a3, ea3, hf⟩ := bS hf
  obtain ⟨r2, er2, hf⟩ := bS hf
  refine r_invV1 (As := []) (ci := 5) C dX11_pull_4 mcX5_pullNow wd_555 wd_556 wd_557 rfl rfl (by decide) ⟨by decide, by decide⟩ ⟨by decide, by decide⟩ rfl (Nat.le_of_ble_eq_true rfl) ea3 (kX5_pullNow l G er2) ?_
  exact r_iretF C dX11_pull_7 hret hf (by decide) (by decide)

theorem dgX11_turn_0 : (decode cX11_turn 0 = .ok (.iload_n 1, 1)) ∧ (decode cX11_turn 1 = .ok (.invokestatic 106, 3)) ∧ (decode cX11_turn 4 = .ok (.ifCond .ne 5, 3)) ∧ True := dkW [(0, .iload_n 1, 1), (1, .invokestatic 106, 3), (4, .ifCond .ne 5, 3)] 0 (by decide +kernel)
theorem dX11_turn_0 : decode cX11_turn 0 = .ok (.iload_n 1, 1) := dgX11_turn_0.1
theorem dX11_turn_1 : decode cX11_turn 1 = .ok (.invokestatic 106, 3) := dgX11_turn_0.2.1
theorem dX11_turn_4 : decode cX11_turn 4 = .ok (.ifCond .ne 5, 3) := dgX11_turn_0.2.2.1
theorem dX11_turn_7 : decode cX11_turn 7 = .ok (.iconst (-1), 1) := by decide +kernel
theorem dgX11_turn_8 : (decode cX11_turn 8 = .ok (.ireturn, 1)) ∧ (decode cX11_turn 9 = .ok (.aload_n 0, 1)) ∧ (decode cX11_turn 10 = .ok (.getfield 42, 3)) ∧ (decode cX11_turn 13 = .ok (.iload_n 1, 1)) ∧ (decode cX11_turn 14 = .ok (.invokevirtual 110, 3)) ∧ (decode cX11_turn 17 = .ok (.istore_n 2, 1)) ∧ (decode cX11_turn 18 = .ok (.aload_n 0, 1)) ∧ (decode cX11_turn 19 = .ok (.iload_n 2, 1)) ∧ (decode cX11_turn 20 = .ok (.iload_n 2, 1)) ∧ (decode cX11_turn 21 = .ok (.ifCond .le 7, 3)) ∧ (decode cX11_turn 24 = .ok (.iconst 1, 1)) ∧ (decode cX11_turn 25 = .ok (.goto 4, 3)) ∧ True := dkW [(8, .ireturn, 1), (9, .aload_n 0, 1), (10, .getfield 42, 3), (13, .iload_n 1, 1), (14, .invokevirtual 110, 3), (17, .istore_n 2, 1), (18, .aload_n 0, 1), (19, .iload_n 2, 1), (20, .iload_n 2, 1), (21, .ifCond .le 7, 3), (24, .iconst 1, 1), (25, .goto 4, 3)] 8 (by decide +kernel)
theorem dX11_turn_8 : decode cX11_turn 8 = .ok (.ireturn, 1) := dgX11_turn_8.1
theorem dX11_turn_9 : decode cX11_turn 9 = .ok (.aload_n 0, 1) := dgX11_turn_8.2.1
theorem dX11_turn_10 : decode cX11_turn 10 = .ok (.getfield 42, 3) := dgX11_turn_8.2.2.1
theorem dX11_turn_13 : decode cX11_turn 13 = .ok (.iload_n 1, 1) := dgX11_turn_8.2.2.2.1
theorem dX11_turn_14 : decode cX11_turn 14 = .ok (.invokevirtual 110, 3) := dgX11_turn_8.2.2.2.2.1
theorem dX11_turn_17 : decode cX11_turn 17 = .ok (.istore_n 2, 1) := dgX11_turn_8.2.2.2.2.2.1
theorem dX11_turn_18 : decode cX11_turn 18 = .ok (.aload_n 0, 1) := dgX11_turn_8.2.2.2.2.2.2.1
theorem dX11_turn_19 : decode cX11_turn 19 = .ok (.iload_n 2, 1) := dgX11_turn_8.2.2.2.2.2.2.2.1
theorem dX11_turn_20 : decode cX11_turn 20 = .ok (.iload_n 2, 1) := dgX11_turn_8.2.2.2.2.2.2.2.2.1
theorem dX11_turn_21 : decode cX11_turn 21 = .ok (.ifCond .le 7, 3) := dgX11_turn_8.2.2.2.2.2.2.2.2.2.1
theorem dX11_turn_24 : decode cX11_turn 24 = .ok (.iconst 1, 1) := dgX11_turn_8.2.2.2.2.2.2.2.2.2.2.1
theorem dX11_turn_25 : decode cX11_turn 25 = .ok (.goto 4, 3) := dgX11_turn_8.2.2.2.2.2.2.2.2.2.2.2.1
theorem dgX11_turn_28 : (decode cX11_turn 28 = .ok (.iconst 0, 1)) ∧ (decode cX11_turn 29 = .ok (.invokevirtual 57, 3)) ∧ (decode cX11_turn 32 = .ok (.ireturn, 1)) ∧ True := dkW [(28, .iconst 0, 1), (29, .invokevirtual 57, 3), (32, .ireturn, 1)] 28 (by decide +kernel)
theorem dX11_turn_28 : decode cX11_turn 28 = .ok (.iconst 0, 1) := dgX11_turn_28.1
theorem dX11_turn_29 : decode cX11_turn 29 = .ok (.invokevirtual 57, 3) := dgX11_turn_28.2.1
theorem dX11_turn_32 : decode cX11_turn 32 = .ok (.ireturn, 1) := dgX11_turn_28.2.2.1
abbrev rmX11_turn : Room := { frames := 5, cells := 0, slots := 0, locals := 117 }
noncomputable def fX11_turn_b29 (N : Nat)  (t : Nat) (h : Hs) (q0 : Option Nat) (u1 : Int32) (u2 : Int32) : Option (Int32 × Hs) :=
  (rc 11 h q0).bind fun a2 =>
  (fX11_deed N h a2 u1 u2).bind fun r1 =>
  some (r1.1, r1.2)
set_option maxHeartbeats 4000000 in
set_option maxRecDepth 20000 in
theorem wX11_turn_b29 {p : Program} {l : Launch} {e : Env} {s : State} {m : MethodId} {args : Array Value} {below : List Frame} {meth : Method} {c : Code} {G : Gl} {N : Nat} {h : Hs} {r : Int32 × Hs}  {t : Nat} {q0 : Option Nat} {u1 : Int32} {u2 : Int32} (C : Cx p s m args meth c cX11_turn RX11 3 G) (hret : meth.sig.returnType = (some .int))  (hf : fX11_turn_b29 N  t h q0 u1 u2 = some r) : V p l e rmX11_turn s m args below meth c G 3 (MQ below (QcG G (some (.inl r.1)) r.2) args s rmX11_turn.cells rmX11_turn.slots (AG G)) h 0 0 29 [some (.inr (some t)), none, none] [.inl u2, .inl u1, .inr q0] := by
  unfold fX11_turn_b29 at hf
  obtain ⟨a2, ea2, hf⟩ := bS hf
  obtain ⟨r1, er1, hf⟩ := bS hf
  refine r_invV1 (As := [.inl u1, .inl u2]) (ci := 11) C dX11_turn_29 mcX11_deed wd_364 wd_366 wp_0 rfl rfl (by decide) ⟨by decide, by decide⟩ ⟨by decide, by decide⟩ rfl (Nat.le_of_ble_eq_true rfl) ea2 (kX11_deed l G er1) ?_
  exact r_iretF C dX11_turn_32 hret hf (by decide) (by decide)
noncomputable def fX11_turn (N : Nat) (h : Hs) (t : Nat) (p1 : Int32) : Option (Int32 × Hs) :=
  (fX11_isTurn N h p1).bind fun r1 =>
  if r1.1 = 0 then (
  some ((-1), r1.2))
  else (oR 11 1 r1.2 (some t)).bind fun o2 =>
  (rc 10 r1.2 o2).bind fun a4 =>
  (fX10_turnBy N r1.2 a4 p1).bind fun r3 =>
  if r3.1 ≤ 0 then (
  fX11_turn_b29 N t r3.2 (some t) r3.1 0)
  else fX11_turn_b29 N t r3.2 (some t) r3.1 1
set_option maxHeartbeats 4000000 in
set_option maxRecDepth 20000 in
theorem kX11_turn (l : Launch) (G : Gl) {N : Nat} {h : Hs} {t : Nat} {p1 : Int32} {r : Int32 × Hs} (hf : fX11_turn N h t p1 = some r) : CT l G yX11_turn cX11_turn 3 (some .int) rmX11_turn [.inr (some t), .inl p1] h (some (.inl r.1)) r.2 := by
  refine mk_CT (by decide) (Nat.le_of_ble_eq_true rfl) ?_
  intro p e s m args below meth c C hret hin
  unfold fX11_turn at hf
  refine r_iload_n C dX11_turn_0 rfl ?_
  obtain ⟨r1, er1, hf⟩ := bS hf
  refine r_invS1 (As := [.inl p1]) C dX11_turn_1 mcX11_isTurn wd_586 wd_587 ⟨by decide, by decide⟩ ⟨by decide, by decide⟩ rfl (Nat.le_of_ble_eq_true rfl) (kX11_isTurn l G er1) ?_
  refine r_if_ne (tgt := 9) C dX11_turn_4 (by decide) (fun hc => ?_) (fun hc => ?_)
  · have hf := ifF hf hc
    refine r_aload_n C dX11_turn_9 rfl ?_
    obtain ⟨o2, eo2, hf⟩ := bS hf
    refine r_getR C dX11_turn_10 fl_X11_42 rfl eo2 ?_
    refine r_iload_n C dX11_turn_13 rfl ?_
    obtain ⟨a4, ea4, hf⟩ := bS hf
    obtain ⟨r3, er3, hf⟩ := bS hf
    refine r_invV1 (As := [.inl p1]) (ci := 10) C dX11_turn_14 mcX10_turnBy wd_590 wd_591 wd_592 rfl rfl (by decide) ⟨by decide, by decide⟩ ⟨by decide, by decide⟩ rfl (Nat.le_of_ble_eq_true rfl) ea4 (kX10_turnBy l G er3) ?_
    refine r_istore_n C dX11_turn_17 (by decide) ?_
    refine r_aload_n C dX11_turn_18 rfl ?_
    refine r_iload_n C dX11_turn_19 rfl ?_
    refine r_iload_n C dX11_turn_20 rfl ?_
    refine r_if_le (tgt := 28) C dX11_turn_21 (by decide) (fun hc => ?_) (fun hc => ?_)
    · have hf := ifT hf hc
      refine r_iconst (v := 0) C dX11_turn_28 (by decide) ?_
      exact V.sub (wX11_turn_b29 C hret hf) (LW_s rfl (LW_n (LW_n (LW_e))))
    · have hf := ifF hf hc
      refine r_iconst (v := 1) C dX11_turn_24 (by decide) ?_
      refine r_goto (tgt := 29) C dX11_turn_25 (by decide) ?_
      exact V.sub (wX11_turn_b29 C hret hf) (LW_s rfl (LW_n (LW_n (LW_e))))
  · have hf := ifT hf hc
    refine r_iconst (v := -1) C dX11_turn_7 (by decide) ?_
    exact r_iretF C dX11_turn_8 hret hf (by decide) (by decide)

theorem dgX11_stopped_0 : (decode cX11_stopped 0 = .ok (.aload_n 0, 1)) ∧ (decode cX11_stopped 1 = .ok (.getfield 42, 3)) ∧ (decode cX11_stopped 4 = .ok (.getfield 113, 3)) ∧ (decode cX11_stopped 7 = .ok (.iload_n 1, 1)) ∧ (decode cX11_stopped 8 = .ok (.invokevirtual 117, 3)) ∧ (decode cX11_stopped 11 = .ok (.ireturn, 1)) ∧ True := dkW [(0, .aload_n 0, 1), (1, .getfield 42, 3), (4, .getfield 113, 3), (7, .iload_n 1, 1), (8, .invokevirtual 117, 3), (11, .ireturn, 1)] 0 (by decide +kernel)
theorem dX11_stopped_0 : decode cX11_stopped 0 = .ok (.aload_n 0, 1) := dgX11_stopped_0.1
theorem dX11_stopped_1 : decode cX11_stopped 1 = .ok (.getfield 42, 3) := dgX11_stopped_0.2.1
theorem dX11_stopped_4 : decode cX11_stopped 4 = .ok (.getfield 113, 3) := dgX11_stopped_0.2.2.1
theorem dX11_stopped_7 : decode cX11_stopped 7 = .ok (.iload_n 1, 1) := dgX11_stopped_0.2.2.2.1
theorem dX11_stopped_8 : decode cX11_stopped 8 = .ok (.invokevirtual 117, 3) := dgX11_stopped_0.2.2.2.2.1
theorem dX11_stopped_11 : decode cX11_stopped 11 = .ok (.ireturn, 1) := dgX11_stopped_0.2.2.2.2.2.1
abbrev rmX11_stopped : Room := { frames := 1, cells := 0, slots := 0, locals := 21 }
noncomputable def fX11_stopped (N : Nat) (h : Hs) (t : Nat) (p1 : Int32) : Option (Int32 × Hs) :=
  (oR 11 1 h (some t)).bind fun o1 =>
  (oR 10 1 h o1).bind fun o2 =>
  (rc 7 h o2).bind fun a4 =>
  (fX7_tell N h a4 p1).bind fun r3 =>
  some (r3.1, r3.2)
set_option maxHeartbeats 4000000 in
set_option maxRecDepth 20000 in
theorem kX11_stopped (l : Launch) (G : Gl) {N : Nat} {h : Hs} {t : Nat} {p1 : Int32} {r : Int32 × Hs} (hf : fX11_stopped N h t p1 = some r) : CT l G yX11_stopped cX11_stopped 2 (some .int) rmX11_stopped [.inr (some t), .inl p1] h (some (.inl r.1)) r.2 := by
  refine mk_CT (by decide) (Nat.le_of_ble_eq_true rfl) ?_
  intro p e s m args below meth c C hret hin
  unfold fX11_stopped at hf
  refine r_aload_n C dX11_stopped_0 rfl ?_
  obtain ⟨o1, eo1, hf⟩ := bS hf
  refine r_getR C dX11_stopped_1 fl_X11_42 rfl eo1 ?_
  obtain ⟨o2, eo2, hf⟩ := bS hf
  refine r_getR C dX11_stopped_4 fl_X11_113 rfl eo2 ?_
  refine r_iload_n C dX11_stopped_7 rfl ?_
  obtain ⟨a4, ea4, hf⟩ := bS hf
  obtain ⟨r3, er3, hf⟩ := bS hf
  refine r_invV1 (As := [.inl p1]) (ci := 7) C dX11_stopped_8 mcX7_tell wd_654 wd_655 wd_656 rfl rfl (by decide) ⟨by decide, by decide⟩ ⟨by decide, by decide⟩ rfl (Nat.le_of_ble_eq_true rfl) ea4 (kX7_tell l G er3) ?_
  exact r_iretF C dX11_stopped_11 hret hf (by decide) (by decide)

theorem dgX11_free_0 : (decode cX11_free 0 = .ok (.iload_n 1, 1)) ∧ (decode cX11_free 1 = .ok (.invokestatic 106, 3)) ∧ (decode cX11_free 4 = .ok (.ifCond .eq 14, 3)) ∧ (decode cX11_free 7 = .ok (.aload_n 0, 1)) ∧ (decode cX11_free 8 = .ok (.getfield 42, 3)) ∧ (decode cX11_free 11 = .ok (.iload_n 1, 1)) ∧ (decode cX11_free 12 = .ok (.invokevirtual 120, 3)) ∧ (decode cX11_free 15 = .ok (.goto 4, 3)) ∧ True := dkW [(0, .iload_n 1, 1), (1, .invokestatic 106, 3), (4, .ifCond .eq 14, 3), (7, .aload_n 0, 1), (8, .getfield 42, 3), (11, .iload_n 1, 1), (12, .invokevirtual 120, 3), (15, .goto 4, 3)] 0 (by decide +kernel)
theorem dX11_free_0 : decode cX11_free 0 = .ok (.iload_n 1, 1) := dgX11_free_0.1
theorem dX11_free_1 : decode cX11_free 1 = .ok (.invokestatic 106, 3) := dgX11_free_0.2.1
theorem dX11_free_4 : decode cX11_free 4 = .ok (.ifCond .eq 14, 3) := dgX11_free_0.2.2.1
theorem dX11_free_7 : decode cX11_free 7 = .ok (.aload_n 0, 1) := dgX11_free_0.2.2.2.1
theorem dX11_free_8 : decode cX11_free 8 = .ok (.getfield 42, 3) := dgX11_free_0.2.2.2.2.1
theorem dX11_free_11 : decode cX11_free 11 = .ok (.iload_n 1, 1) := dgX11_free_0.2.2.2.2.2.1
theorem dX11_free_12 : decode cX11_free 12 = .ok (.invokevirtual 120, 3) := dgX11_free_0.2.2.2.2.2.2.1
theorem dX11_free_15 : decode cX11_free 15 = .ok (.goto 4, 3) := dgX11_free_0.2.2.2.2.2.2.2.1
theorem dX11_free_18 : decode cX11_free 18 = .ok (.iconst (-1), 1) := by decide +kernel
theorem dgX11_free_19 : (decode cX11_free 19 = .ok (.ireturn, 1)) ∧ True := dkW [(19, .ireturn, 1)] 19 (by decide +kernel)
theorem dX11_free_19 : decode cX11_free 19 = .ok (.ireturn, 1) := dgX11_free_19.1
abbrev rmX11_free : Room := { frames := 4, cells := 0, slots := 0, locals := 95 }
noncomputable def fX11_free_b19 (N : Nat)  (t : Nat) (h : Hs) (u0 : Int32) : Option (Int32 × Hs) :=
  some (u0, h)
set_option maxHeartbeats 4000000 in
set_option maxRecDepth 20000 in
theorem wX11_free_b19 {p : Program} {l : Launch} {e : Env} {s : State} {m : MethodId} {args : Array Value} {below : List Frame} {meth : Method} {c : Code} {G : Gl} {N : Nat} {h : Hs} {r : Int32 × Hs}  {t : Nat} {u0 : Int32} (C : Cx p s m args meth c cX11_free RX11 2 G) (hret : meth.sig.returnType = (some .int))  (hf : fX11_free_b19 N  t h u0 = some r) : V p l e rmX11_free s m args below meth c G 2 (MQ below (QcG G (some (.inl r.1)) r.2) args s rmX11_free.cells rmX11_free.slots (AG G)) h 0 0 19 [some (.inr (some t)), none] [.inl u0] := by
  unfold fX11_free_b19 at hf
  exact r_iretF C dX11_free_19 hret hf (by decide) (by decide)
noncomputable def fX11_free (N : Nat) (h : Hs) (t : Nat) (p1 : Int32) : Option (Int32 × Hs) :=
  (fX11_isTurn N h p1).bind fun r1 =>
  if r1.1 = 0 then (
  fX11_free_b19 N t r1.2 (-1))
  else (oR 11 1 r1.2 (some t)).bind fun o2 =>
  (rc 10 r1.2 o2).bind fun a4 =>
  (fX10_lookAhead N r1.2 a4 p1).bind fun r3 =>
  fX11_free_b19 N t r3.2 r3.1
set_option maxHeartbeats 4000000 in
set_option maxRecDepth 20000 in
theorem kX11_free (l : Launch) (G : Gl) {N : Nat} {h : Hs} {t : Nat} {p1 : Int32} {r : Int32 × Hs} (hf : fX11_free N h t p1 = some r) : CT l G yX11_free cX11_free 2 (some .int) rmX11_free [.inr (some t), .inl p1] h (some (.inl r.1)) r.2 := by
  refine mk_CT (by decide) (Nat.le_of_ble_eq_true rfl) ?_
  intro p e s m args below meth c C hret hin
  unfold fX11_free at hf
  refine r_iload_n C dX11_free_0 rfl ?_
  obtain ⟨r1, er1, hf⟩ := bS hf
  refine r_invS1 (As := [.inl p1]) C dX11_free_1 mcX11_isTurn wd_586 wd_587 ⟨by decide, by decide⟩ ⟨by decide, by decide⟩ rfl (Nat.le_of_ble_eq_true rfl) (kX11_isTurn l G er1) ?_
  refine r_if_eq (tgt := 18) C dX11_free_4 (by decide) (fun hc => ?_) (fun hc => ?_)
  · have hf := ifT hf hc
    refine r_iconst (v := -1) C dX11_free_18 (by decide) ?_
    exact V.sub (wX11_free_b19 C hret hf) (LW_s rfl (LW_n (LW_e)))
  · have hf := ifF hf hc
    refine r_aload_n C dX11_free_7 rfl ?_
    obtain ⟨o2, eo2, hf⟩ := bS hf
    refine r_getR C dX11_free_8 fl_X11_42 rfl eo2 ?_
    refine r_iload_n C dX11_free_11 rfl ?_
    obtain ⟨a4, ea4, hf⟩ := bS hf
    obtain ⟨r3, er3, hf⟩ := bS hf
    refine r_invV1 (As := [.inl p1]) (ci := 10) C dX11_free_12 mcX10_lookAhead wd_662 wd_595 wd_596 rfl rfl (by decide) ⟨by decide, by decide⟩ ⟨by decide, by decide⟩ rfl (Nat.le_of_ble_eq_true rfl) ea4 (kX10_lookAhead l G er3) ?_
    refine r_goto (tgt := 19) C dX11_free_15 (by decide) ?_
    exact V.sub (wX11_free_b19 C hret hf) (LW_s rfl (LW_n (LW_e)))

theorem dgX11_snap_0 : (decode cX11_snap 0 = .ok (.aload_n 0, 1)) ∧ (decode cX11_snap 1 = .ok (.getfield 33, 3)) ∧ (decode cX11_snap 4 = .ok (.iload_n 1, 1)) ∧ (decode cX11_snap 5 = .ok (.invokevirtual 123, 3)) ∧ (decode cX11_snap 8 = .ok (.istore_n 2, 1)) ∧ (decode cX11_snap 9 = .ok (.aload_n 0, 1)) ∧ (decode cX11_snap 10 = .ok (.iload_n 2, 1)) ∧ (decode cX11_snap 11 = .ok (.iload_n 2, 1)) ∧ (decode cX11_snap 12 = .ok (.ifCond .lt 7, 3)) ∧ (decode cX11_snap 15 = .ok (.iconst 1, 1)) ∧ (decode cX11_snap 16 = .ok (.goto 4, 3)) ∧ (decode cX11_snap 19 = .ok (.iconst 0, 1)) ∧ True := dkW [(0, .aload_n 0, 1), (1, .getfield 33, 3), (4, .iload_n 1, 1), (5, .invokevirtual 123, 3), (8, .istore_n 2, 1), (9, .aload_n 0, 1), (10, .iload_n 2, 1), (11, .iload_n 2, 1), (12, .ifCond .lt 7, 3), (15, .iconst 1, 1), (16, .goto 4, 3), (19, .iconst 0, 1)] 0 (by decide +kernel)
theorem dX11_snap_0 : decode cX11_snap 0 = .ok (.aload_n 0, 1) := dgX11_snap_0.1
theorem dX11_snap_1 : decode cX11_snap 1 = .ok (.getfield 33, 3) := dgX11_snap_0.2.1
theorem dX11_snap_4 : decode cX11_snap 4 = .ok (.iload_n 1, 1) := dgX11_snap_0.2.2.1
theorem dX11_snap_5 : decode cX11_snap 5 = .ok (.invokevirtual 123, 3) := dgX11_snap_0.2.2.2.1
theorem dX11_snap_8 : decode cX11_snap 8 = .ok (.istore_n 2, 1) := dgX11_snap_0.2.2.2.2.1
theorem dX11_snap_9 : decode cX11_snap 9 = .ok (.aload_n 0, 1) := dgX11_snap_0.2.2.2.2.2.1
theorem dX11_snap_10 : decode cX11_snap 10 = .ok (.iload_n 2, 1) := dgX11_snap_0.2.2.2.2.2.2.1
theorem dX11_snap_11 : decode cX11_snap 11 = .ok (.iload_n 2, 1) := dgX11_snap_0.2.2.2.2.2.2.2.1
theorem dX11_snap_12 : decode cX11_snap 12 = .ok (.ifCond .lt 7, 3) := dgX11_snap_0.2.2.2.2.2.2.2.2.1
theorem dX11_snap_15 : decode cX11_snap 15 = .ok (.iconst 1, 1) := dgX11_snap_0.2.2.2.2.2.2.2.2.2.1
theorem dX11_snap_16 : decode cX11_snap 16 = .ok (.goto 4, 3) := dgX11_snap_0.2.2.2.2.2.2.2.2.2.2.1
theorem dX11_snap_19 : decode cX11_snap 19 = .ok (.iconst 0, 1) := dgX11_snap_0.2.2.2.2.2.2.2.2.2.2.2.1
theorem dgX11_snap_20 : (decode cX11_snap 20 = .ok (.invokevirtual 57, 3)) ∧ (decode cX11_snap 23 = .ok (.ireturn, 1)) ∧ True := dkW [(20, .invokevirtual 57, 3), (23, .ireturn, 1)] 20 (by decide +kernel)
theorem dX11_snap_20 : decode cX11_snap 20 = .ok (.invokevirtual 57, 3) := dgX11_snap_20.1
theorem dX11_snap_23 : decode cX11_snap 23 = .ok (.ireturn, 1) := dgX11_snap_20.2.1
abbrev rmX11_snap : Room := { frames := 5, cells := 0, slots := 0, locals := 119 }
noncomputable def fX11_snap_b20 (N : Nat)  (t : Nat) (h : Hs) (q0 : Option Nat) (u1 : Int32) (u2 : Int32) : Option (Int32 × Hs) :=
  (rc 11 h q0).bind fun a2 =>
  (fX11_deed N h a2 u1 u2).bind fun r1 =>
  some (r1.1, r1.2)
set_option maxHeartbeats 4000000 in
set_option maxRecDepth 20000 in
theorem wX11_snap_b20 {p : Program} {l : Launch} {e : Env} {s : State} {m : MethodId} {args : Array Value} {below : List Frame} {meth : Method} {c : Code} {G : Gl} {N : Nat} {h : Hs} {r : Int32 × Hs}  {t : Nat} {q0 : Option Nat} {u1 : Int32} {u2 : Int32} (C : Cx p s m args meth c cX11_snap RX11 3 G) (hret : meth.sig.returnType = (some .int))  (hf : fX11_snap_b20 N  t h q0 u1 u2 = some r) : V p l e rmX11_snap s m args below meth c G 3 (MQ below (QcG G (some (.inl r.1)) r.2) args s rmX11_snap.cells rmX11_snap.slots (AG G)) h 0 0 20 [some (.inr (some t)), none, none] [.inl u2, .inl u1, .inr q0] := by
  unfold fX11_snap_b20 at hf
  obtain ⟨a2, ea2, hf⟩ := bS hf
  obtain ⟨r1, er1, hf⟩ := bS hf
  refine r_invV1 (As := [.inl u1, .inl u2]) (ci := 11) C dX11_snap_20 mcX11_deed wd_364 wd_366 wp_0 rfl rfl (by decide) ⟨by decide, by decide⟩ ⟨by decide, by decide⟩ rfl (Nat.le_of_ble_eq_true rfl) ea2 (kX11_deed l G er1) ?_
  exact r_iretF C dX11_snap_23 hret hf (by decide) (by decide)
noncomputable def fX11_snap (N : Nat) (h : Hs) (t : Nat) (p1 : Int32) : Option (Int32 × Hs) :=
  (oR 11 0 h (some t)).bind fun o1 =>
  (rc 5 h o1).bind fun a3 =>
  (fX5_breakRope N h a3 p1).bind fun r2 =>
  if r2.1 < 0 then (
  fX11_snap_b20 N t r2.2 (some t) r2.1 0)
  else fX11_snap_b20 N t r2.2 (some t) r2.1 1
set_option maxHeartbeats 4000000 in
set_option maxRecDepth 20000 in
theorem kX11_snap (l : Launch) (G : Gl) {N : Nat} {h : Hs} {t : Nat} {p1 : Int32} {r : Int32 × Hs} (hf : fX11_snap N h t p1 = some r) : CT l G yX11_snap cX11_snap 3 (some .int) rmX11_snap [.inr (some t), .inl p1] h (some (.inl r.1)) r.2 := by
  refine mk_CT (by decide) (Nat.le_of_ble_eq_true rfl) ?_
  intro p e s m args below meth c C hret hin
  unfold fX11_snap at hf
  refine r_aload_n C dX11_snap_0 rfl ?_
  obtain ⟨o1, eo1, hf⟩ := bS hf
  refine r_getR C dX11_snap_1 fl_X11_33 rfl eo1 ?_
  refine r_iload_n C dX11_snap_4 rfl ?_
  obtain ⟨a3, ea3, hf⟩ := bS hf
  obtain ⟨r2, er2, hf⟩ := bS hf
  refine r_invV1 (As := [.inl p1]) (ci := 5) C dX11_snap_5 mcX5_breakRope wd_667 wd_668 wd_669 rfl rfl (by decide) ⟨by decide, by decide⟩ ⟨by decide, by decide⟩ rfl (Nat.le_of_ble_eq_true rfl) ea3 (kX5_breakRope l G er2) ?_
  refine r_istore_n C dX11_snap_8 (by decide) ?_
  refine r_aload_n C dX11_snap_9 rfl ?_
  refine r_iload_n C dX11_snap_10 rfl ?_
  refine r_iload_n C dX11_snap_11 rfl ?_
  refine r_if_lt (tgt := 19) C dX11_snap_12 (by decide) (fun hc => ?_) (fun hc => ?_)
  · have hf := ifT hf hc
    refine r_iconst (v := 0) C dX11_snap_19 (by decide) ?_
    exact V.sub (wX11_snap_b20 C hret hf) (LW_s rfl (LW_n (LW_n (LW_e))))
  · have hf := ifF hf hc
    refine r_iconst (v := 1) C dX11_snap_15 (by decide) ?_
    refine r_goto (tgt := 20) C dX11_snap_16 (by decide) ?_
    exact V.sub (wX11_snap_b20 C hret hf) (LW_s rfl (LW_n (LW_n (LW_e))))

theorem dgX11_hold_0 : (decode cX11_hold 0 = .ok (.aload_n 0, 1)) ∧ (decode cX11_hold 1 = .ok (.getfield 33, 3)) ∧ (decode cX11_hold 4 = .ok (.iload_n 1, 1)) ∧ (decode cX11_hold 5 = .ok (.invokevirtual 126, 3)) ∧ (decode cX11_hold 8 = .ok (.ireturn, 1)) ∧ True := dkW [(0, .aload_n 0, 1), (1, .getfield 33, 3), (4, .iload_n 1, 1), (5, .invokevirtual 126, 3), (8, .ireturn, 1)] 0 (by decide +kernel)
theorem dX11_hold_0 : decode cX11_hold 0 = .ok (.aload_n 0, 1) := dgX11_hold_0.1
theorem dX11_hold_1 : decode cX11_hold 1 = .ok (.getfield 33, 3) := dgX11_hold_0.2.1
theorem dX11_hold_4 : decode cX11_hold 4 = .ok (.iload_n 1, 1) := dgX11_hold_0.2.2.1
theorem dX11_hold_5 : decode cX11_hold 5 = .ok (.invokevirtual 126, 3) := dgX11_hold_0.2.2.2.1
theorem dX11_hold_8 : decode cX11_hold 8 = .ok (.ireturn, 1) := dgX11_hold_0.2.2.2.2.1
abbrev rmX11_hold : Room := { frames := 3, cells := 0, slots := 0, locals := 65 }
noncomputable def fX11_hold (N : Nat) (h : Hs) (t : Nat) (p1 : Int32) : Option (Int32 × Hs) :=
  (oR 11 0 h (some t)).bind fun o1 =>
  (rc 5 h o1).bind fun a3 =>
  (fX5_addCatch N h a3 p1).bind fun r2 =>
  some (r2.1, r2.2)
set_option maxHeartbeats 4000000 in
set_option maxRecDepth 20000 in
theorem kX11_hold (l : Launch) (G : Gl) {N : Nat} {h : Hs} {t : Nat} {p1 : Int32} {r : Int32 × Hs} (hf : fX11_hold N h t p1 = some r) : CT l G yX11_hold cX11_hold 2 (some .int) rmX11_hold [.inr (some t), .inl p1] h (some (.inl r.1)) r.2 := by
  refine mk_CT (by decide) (Nat.le_of_ble_eq_true rfl) ?_
  intro p e s m args below meth c C hret hin
  unfold fX11_hold at hf
  refine r_aload_n C dX11_hold_0 rfl ?_
  obtain ⟨o1, eo1, hf⟩ := bS hf
  refine r_getR C dX11_hold_1 fl_X11_33 rfl eo1 ?_
  refine r_iload_n C dX11_hold_4 rfl ?_
  obtain ⟨a3, ea3, hf⟩ := bS hf
  obtain ⟨r2, er2, hf⟩ := bS hf
  refine r_invV1 (As := [.inl p1]) (ci := 5) C dX11_hold_5 mcX5_addCatch wd_687 wd_688 wd_689 rfl rfl (by decide) ⟨by decide, by decide⟩ ⟨by decide, by decide⟩ rfl (Nat.le_of_ble_eq_true rfl) ea3 (kX5_addCatch l G er2) ?_
  exact r_iretF C dX11_hold_8 hret hf (by decide) (by decide)

theorem dgX11_scene_0 : (decode cX11_scene 0 = .ok (.aload_n 0, 1)) ∧ (decode cX11_scene 1 = .ok (.getfield 33, 3)) ∧ (decode cX11_scene 4 = .ok (.iload_n 2, 1)) ∧ (decode cX11_scene 5 = .ok (.invokevirtual 61, 3)) ∧ (decode cX11_scene 8 = .ok (.astore 4, 2)) ∧ (decode cX11_scene 10 = .ok (.aload 4, 2)) ∧ (decode cX11_scene 12 = .ok (.ifnonnull 8, 3)) ∧ (decode cX11_scene 15 = .ok (.bipush (-2), 2)) ∧ (decode cX11_scene 17 = .ok (.goto 10, 3)) ∧ (decode cX11_scene 20 = .ok (.aload 4, 2)) ∧ (decode cX11_scene 22 = .ok (.iload_n 1, 1)) ∧ (decode cX11_scene 23 = .ok (.iload_n 3, 1)) ∧ True := dkW [(0, .aload_n 0, 1), (1, .getfield 33, 3), (4, .iload_n 2, 1), (5, .invokevirtual 61, 3), (8, .astore 4, 2), (10, .aload 4, 2), (12, .ifnonnull 8, 3), (15, .bipush (-2), 2), (17, .goto 10, 3), (20, .aload 4, 2), (22, .iload_n 1, 1), (23, .iload_n 3, 1)] 0 (by decide +kernel)
theorem dX11_scene_0 : decode cX11_scene 0 = .ok (.aload_n 0, 1) := dgX11_scene_0.1
theorem dX11_scene_1 : decode cX11_scene 1 = .ok (.getfield 33, 3) := dgX11_scene_0.2.1
theorem dX11_scene_4 : decode cX11_scene 4 = .ok (.iload_n 2, 1) := dgX11_scene_0.2.2.1
theorem dX11_scene_5 : decode cX11_scene 5 = .ok (.invokevirtual 61, 3) := dgX11_scene_0.2.2.2.1
theorem dX11_scene_8 : decode cX11_scene 8 = .ok (.astore 4, 2) := dgX11_scene_0.2.2.2.2.1
theorem dX11_scene_10 : decode cX11_scene 10 = .ok (.aload 4, 2) := dgX11_scene_0.2.2.2.2.2.1
theorem dX11_scene_12 : decode cX11_scene 12 = .ok (.ifnonnull 8, 3) := dgX11_scene_0.2.2.2.2.2.2.1
theorem dX11_scene_15 : decode cX11_scene 15 = .ok (.bipush (-2), 2) := dgX11_scene_0.2.2.2.2.2.2.2.1
theorem dX11_scene_17 : decode cX11_scene 17 = .ok (.goto 10, 3) := dgX11_scene_0.2.2.2.2.2.2.2.2.1
theorem dX11_scene_20 : decode cX11_scene 20 = .ok (.aload 4, 2) := dgX11_scene_0.2.2.2.2.2.2.2.2.2.1
theorem dX11_scene_22 : decode cX11_scene 22 = .ok (.iload_n 1, 1) := dgX11_scene_0.2.2.2.2.2.2.2.2.2.2.1
theorem dX11_scene_23 : decode cX11_scene 23 = .ok (.iload_n 3, 1) := dgX11_scene_0.2.2.2.2.2.2.2.2.2.2.2.1
theorem dgX11_scene_24 : (decode cX11_scene 24 = .ok (.invokevirtual 129, 3)) ∧ (decode cX11_scene 27 = .ok (.ireturn, 1)) ∧ True := dkW [(24, .invokevirtual 129, 3), (27, .ireturn, 1)] 24 (by decide +kernel)
theorem dX11_scene_24 : decode cX11_scene 24 = .ok (.invokevirtual 129, 3) := dgX11_scene_24.1
theorem dX11_scene_27 : decode cX11_scene 27 = .ok (.ireturn, 1) := dgX11_scene_24.2.1
abbrev rmX11_scene : Room := { frames := 2, cells := 0, slots := 0, locals := 46 }
noncomputable def fX11_scene_b27 (N : Nat)  (t : Nat) (h : Hs) (u0 : Int32) : Option (Int32 × Hs) :=
  some (u0, h)
set_option maxHeartbeats 4000000 in
set_option maxRecDepth 20000 in
theorem wX11_scene_b27 {p : Program} {l : Launch} {e : Env} {s : State} {m : MethodId} {args : Array Value} {below : List Frame} {meth : Method} {c : Code} {G : Gl} {N : Nat} {h : Hs} {r : Int32 × Hs}  {t : Nat} {u0 : Int32} (C : Cx p s m args meth c cX11_scene RX11 5 G) (hret : meth.sig.returnType = (some .int))  (hf : fX11_scene_b27 N  t h u0 = some r) : V p l e rmX11_scene s m args below meth c G 5 (MQ below (QcG G (some (.inl r.1)) r.2) args s rmX11_scene.cells rmX11_scene.slots (AG G)) h 0 0 27 [some (.inr (some t)), none, none, none, none] [.inl u0] := by
  unfold fX11_scene_b27 at hf
  exact r_iretF C dX11_scene_27 hret hf (by decide) (by decide)
noncomputable def fX11_scene (N : Nat) (h : Hs) (t : Nat) (p1 : Int32) (p2 : Int32) (p3 : Int32) : Option (Int32 × Hs) :=
  (oR 11 0 h (some t)).bind fun o1 =>
  (rc 5 h o1).bind fun a3 =>
  (fX5_thingNumbered N h a3 p2).bind fun r2 =>
  if r2.1 = none then (
  fX11_scene_b27 N t r2.2 (-2))
  else (rc 9 r2.2 r2.1).bind fun a5 =>
  (fX9_tellScene N r2.2 a5 p1 p3).bind fun r4 =>
  fX11_scene_b27 N t r4.2 r4.1
set_option maxHeartbeats 4000000 in
set_option maxRecDepth 20000 in
theorem kX11_scene (l : Launch) (G : Gl) {N : Nat} {h : Hs} {t : Nat} {p1 : Int32} {p2 : Int32} {p3 : Int32} {r : Int32 × Hs} (hf : fX11_scene N h t p1 p2 p3 = some r) : CT l G yX11_scene cX11_scene 5 (some .int) rmX11_scene [.inr (some t), .inl p1, .inl p2, .inl p3] h (some (.inl r.1)) r.2 := by
  refine mk_CT (by decide) (Nat.le_of_ble_eq_true rfl) ?_
  intro p e s m args below meth c C hret hin
  unfold fX11_scene at hf
  refine r_aload_n C dX11_scene_0 rfl ?_
  obtain ⟨o1, eo1, hf⟩ := bS hf
  refine r_getR C dX11_scene_1 fl_X11_33 rfl eo1 ?_
  refine r_iload_n C dX11_scene_4 rfl ?_
  obtain ⟨a3, ea3, hf⟩ := bS hf
  obtain ⟨r2, er2, hf⟩ := bS hf
  refine r_invV1 (As := [.inl p2]) (ci := 5) C dX11_scene_5 mcX5_thingNumbered wd_372 wd_373 wd_374 rfl rfl (by decide) ⟨by decide, by decide⟩ ⟨by decide, by decide⟩ rfl (Nat.le_of_ble_eq_true rfl) ea3 (kX5_thingNumbered l G er2) ?_
  refine r_astore C dX11_scene_8 (by decide) ?_
  refine r_aload C dX11_scene_10 rfl ?_
  refine r_ifnonnull (tgt := 20) C dX11_scene_12 (by decide) (fun hc => ?_) (fun hc => ?_)
  · have hf := ifF hf hc
    refine r_aload C dX11_scene_20 rfl ?_
    refine r_iload_n C dX11_scene_22 rfl ?_
    refine r_iload_n C dX11_scene_23 rfl ?_
    obtain ⟨a5, ea5, hf⟩ := bS hf
    obtain ⟨r4, er4, hf⟩ := bS hf
    refine r_invV1 (As := [.inl p1, .inl p3]) (ci := 9) C dX11_scene_24 mcX9_tellScene wd_695 wd_696 wd_697 rfl rfl (by decide) ⟨by decide, by decide⟩ ⟨by decide, by decide⟩ rfl (Nat.le_of_ble_eq_true rfl) ea5 (kX9_tellScene l G er4) ?_
    exact V.sub (wX11_scene_b27 C hret hf) (LW_s rfl (LW_n (LW_n (LW_n (LW_n (LW_e))))))
  · have hf := ifT hf hc
    refine r_bipush (v := -2) C dX11_scene_15 (by decide) ?_
    refine r_goto (tgt := 27) C dX11_scene_17 (by decide) ?_
    exact V.sub (wX11_scene_b27 C hret hf) (LW_s rfl (LW_n (LW_n (LW_n (LW_n (LW_e))))))

theorem dgX11_change_0 : (decode cX11_change 0 = .ok (.aload_n 0, 1)) ∧ (decode cX11_change 1 = .ok (.getfield 49, 3)) ∧ (decode cX11_change 4 = .ok (.iload_n 1, 1)) ∧ (decode cX11_change 5 = .ok (.iload_n 2, 1)) ∧ (decode cX11_change 6 = .ok (.invokevirtual 132, 3)) ∧ (decode cX11_change 9 = .ok (.ireturn, 1)) ∧ True := dkW [(0, .aload_n 0, 1), (1, .getfield 49, 3), (4, .iload_n 1, 1), (5, .iload_n 2, 1), (6, .invokevirtual 132, 3), (9, .ireturn, 1)] 0 (by decide +kernel)
theorem dX11_change_0 : decode cX11_change 0 = .ok (.aload_n 0, 1) := dgX11_change_0.1
theorem dX11_change_1 : decode cX11_change 1 = .ok (.getfield 49, 3) := dgX11_change_0.2.1
theorem dX11_change_4 : decode cX11_change 4 = .ok (.iload_n 1, 1) := dgX11_change_0.2.2.1
theorem dX11_change_5 : decode cX11_change 5 = .ok (.iload_n 2, 1) := dgX11_change_0.2.2.2.1
theorem dX11_change_6 : decode cX11_change 6 = .ok (.invokevirtual 132, 3) := dgX11_change_0.2.2.2.2.1
theorem dX11_change_9 : decode cX11_change 9 = .ok (.ireturn, 1) := dgX11_change_0.2.2.2.2.2.1
abbrev rmX11_change : Room := { frames := 5, cells := 0, slots := 0, locals := 120 }
noncomputable def fX11_change (N : Nat) (h : Hs) (t : Nat) (p1 : Int32) (p2 : Int32) : Option (Int32 × Hs) :=
  (oR 11 2 h (some t)).bind fun o1 =>
  (rc 1 h o1).bind fun a3 =>
  (fX1_plan N h a3 p1 p2).bind fun r2 =>
  some (r2.1, r2.2)
set_option maxHeartbeats 4000000 in
set_option maxRecDepth 20000 in
theorem kX11_change (l : Launch) (G : Gl) {N : Nat} {h : Hs} {t : Nat} {p1 : Int32} {p2 : Int32} {r : Int32 × Hs} (hf : fX11_change N h t p1 p2 = some r) : CT l G yX11_change cX11_change 3 (some .int) rmX11_change [.inr (some t), .inl p1, .inl p2] h (some (.inl r.1)) r.2 := by
  refine mk_CT (by decide) (Nat.le_of_ble_eq_true rfl) ?_
  intro p e s m args below meth c C hret hin
  unfold fX11_change at hf
  refine r_aload_n C dX11_change_0 rfl ?_
  obtain ⟨o1, eo1, hf⟩ := bS hf
  refine r_getR C dX11_change_1 fl_X11_49 rfl eo1 ?_
  refine r_iload_n C dX11_change_4 rfl ?_
  refine r_iload_n C dX11_change_5 rfl ?_
  obtain ⟨a3, ea3, hf⟩ := bS hf
  obtain ⟨r2, er2, hf⟩ := bS hf
  refine r_invV1 (As := [.inl p1, .inl p2]) (ci := 1) C dX11_change_6 mcX1_plan wd_704 wd_705 wd_706 rfl rfl (by decide) ⟨by decide, by decide⟩ ⟨by decide, by decide⟩ rfl (Nat.le_of_ble_eq_true rfl) ea3 (kX1_plan l G er2) ?_
  exact r_iretF C dX11_change_9 hret hf (by decide) (by decide)

theorem dgX11_told_0 : (decode cX11_told 0 = .ok (.aload_n 0, 1)) ∧ (decode cX11_told 1 = .ok (.getfield 49, 3)) ∧ (decode cX11_told 4 = .ok (.iload_n 1, 1)) ∧ (decode cX11_told 5 = .ok (.iload_n 2, 1)) ∧ (decode cX11_told 6 = .ok (.invokevirtual 135, 3)) ∧ (decode cX11_told 9 = .ok (.ireturn, 1)) ∧ True := dkW [(0, .aload_n 0, 1), (1, .getfield 49, 3), (4, .iload_n 1, 1), (5, .iload_n 2, 1), (6, .invokevirtual 135, 3), (9, .ireturn, 1)] 0 (by decide +kernel)
theorem dX11_told_0 : decode cX11_told 0 = .ok (.aload_n 0, 1) := dgX11_told_0.1
theorem dX11_told_1 : decode cX11_told 1 = .ok (.getfield 49, 3) := dgX11_told_0.2.1
theorem dX11_told_4 : decode cX11_told 4 = .ok (.iload_n 1, 1) := dgX11_told_0.2.2.1
theorem dX11_told_5 : decode cX11_told 5 = .ok (.iload_n 2, 1) := dgX11_told_0.2.2.2.1
theorem dX11_told_6 : decode cX11_told 6 = .ok (.invokevirtual 135, 3) := dgX11_told_0.2.2.2.2.1
theorem dX11_told_9 : decode cX11_told 9 = .ok (.ireturn, 1) := dgX11_told_0.2.2.2.2.2.1
abbrev rmX11_told : Room := { frames := 3, cells := 0, slots := 0, locals := 66 }
noncomputable def fX11_told (N : Nat) (h : Hs) (t : Nat) (p1 : Int32) (p2 : Int32) : Option (Int32 × Hs) :=
  (oR 11 2 h (some t)).bind fun o1 =>
  (rc 1 h o1).bind fun a3 =>
  (fX1_tieOf N h a3 p1 p2).bind fun r2 =>
  some (r2.1, r2.2)
set_option maxHeartbeats 4000000 in
set_option maxRecDepth 20000 in
theorem kX11_told (l : Launch) (G : Gl) {N : Nat} {h : Hs} {t : Nat} {p1 : Int32} {p2 : Int32} {r : Int32 × Hs} (hf : fX11_told N h t p1 p2 = some r) : CT l G yX11_told cX11_told 3 (some .int) rmX11_told [.inr (some t), .inl p1, .inl p2] h (some (.inl r.1)) r.2 := by
  refine mk_CT (by decide) (Nat.le_of_ble_eq_true rfl) ?_
  intro p e s m args below meth c C hret hin
  unfold fX11_told at hf
  refine r_aload_n C dX11_told_0 rfl ?_
  obtain ⟨o1, eo1, hf⟩ := bS hf
  refine r_getR C dX11_told_1 fl_X11_49 rfl eo1 ?_
  refine r_iload_n C dX11_told_4 rfl ?_
  refine r_iload_n C dX11_told_5 rfl ?_
  obtain ⟨a3, ea3, hf⟩ := bS hf
  obtain ⟨r2, er2, hf⟩ := bS hf
  refine r_invV1 (As := [.inl p1, .inl p2]) (ci := 1) C dX11_told_6 mcX1_tieOf wd_733 wd_734 wd_735 rfl rfl (by decide) ⟨by decide, by decide⟩ ⟨by decide, by decide⟩ rfl (Nat.le_of_ble_eq_true rfl) ea3 (kX1_tieOf l G er2) ?_
  exact r_iretF C dX11_told_9 hret hf (by decide) (by decide)

theorem dgX11_work_0 : (decode cX11_work 0 = .ok (.aload_n 0, 1)) ∧ (decode cX11_work 1 = .ok (.getfield 49, 3)) ∧ (decode cX11_work 4 = .ok (.iload_n 1, 1)) ∧ (decode cX11_work 5 = .ok (.invokevirtual 138, 3)) ∧ (decode cX11_work 8 = .ok (.ireturn, 1)) ∧ True := dkW [(0, .aload_n 0, 1), (1, .getfield 49, 3), (4, .iload_n 1, 1), (5, .invokevirtual 138, 3), (8, .ireturn, 1)] 0 (by decide +kernel)
theorem dX11_work_0 : decode cX11_work 0 = .ok (.aload_n 0, 1) := dgX11_work_0.1
theorem dX11_work_1 : decode cX11_work 1 = .ok (.getfield 49, 3) := dgX11_work_0.2.1
theorem dX11_work_4 : decode cX11_work 4 = .ok (.iload_n 1, 1) := dgX11_work_0.2.2.1
theorem dX11_work_5 : decode cX11_work 5 = .ok (.invokevirtual 138, 3) := dgX11_work_0.2.2.2.1
theorem dX11_work_8 : decode cX11_work 8 = .ok (.ireturn, 1) := dgX11_work_0.2.2.2.2.1
abbrev rmX11_work : Room := { frames := 2, cells := 0, slots := 0, locals := 43 }
noncomputable def fX11_work (N : Nat) (h : Hs) (t : Nat) (p1 : Int32) : Option (Int32 × Hs) :=
  (oR 11 2 h (some t)).bind fun o1 =>
  (rc 1 h o1).bind fun a3 =>
  (fX1_workFor N h a3 p1).bind fun r2 =>
  some (r2.1, r2.2)
set_option maxHeartbeats 4000000 in
set_option maxRecDepth 20000 in
theorem kX11_work (l : Launch) (G : Gl) {N : Nat} {h : Hs} {t : Nat} {p1 : Int32} {r : Int32 × Hs} (hf : fX11_work N h t p1 = some r) : CT l G yX11_work cX11_work 2 (some .int) rmX11_work [.inr (some t), .inl p1] h (some (.inl r.1)) r.2 := by
  refine mk_CT (by decide) (Nat.le_of_ble_eq_true rfl) ?_
  intro p e s m args below meth c C hret hin
  unfold fX11_work at hf
  refine r_aload_n C dX11_work_0 rfl ?_
  obtain ⟨o1, eo1, hf⟩ := bS hf
  refine r_getR C dX11_work_1 fl_X11_49 rfl eo1 ?_
  refine r_iload_n C dX11_work_4 rfl ?_
  obtain ⟨a3, ea3, hf⟩ := bS hf
  obtain ⟨r2, er2, hf⟩ := bS hf
  refine r_invV1 (As := [.inl p1]) (ci := 1) C dX11_work_5 mcX1_workFor wd_742 wd_743 wd_744 rfl rfl (by decide) ⟨by decide, by decide⟩ ⟨by decide, by decide⟩ rfl (Nat.le_of_ble_eq_true rfl) ea3 (kX1_workFor l G er2) ?_
  exact r_iretF C dX11_work_8 hret hf (by decide) (by decide)

theorem dgX11_men_0 : (decode cX11_men 0 = .ok (.aload_n 0, 1)) ∧ (decode cX11_men 1 = .ok (.getfield 49, 3)) ∧ (decode cX11_men 4 = .ok (.iload_n 1, 1)) ∧ (decode cX11_men 5 = .ok (.invokevirtual 141, 3)) ∧ (decode cX11_men 8 = .ok (.ireturn, 1)) ∧ True := dkW [(0, .aload_n 0, 1), (1, .getfield 49, 3), (4, .iload_n 1, 1), (5, .invokevirtual 141, 3), (8, .ireturn, 1)] 0 (by decide +kernel)
theorem dX11_men_0 : decode cX11_men 0 = .ok (.aload_n 0, 1) := dgX11_men_0.1
theorem dX11_men_1 : decode cX11_men 1 = .ok (.getfield 49, 3) := dgX11_men_0.2.1
theorem dX11_men_4 : decode cX11_men 4 = .ok (.iload_n 1, 1) := dgX11_men_0.2.2.1
theorem dX11_men_5 : decode cX11_men 5 = .ok (.invokevirtual 141, 3) := dgX11_men_0.2.2.2.1
theorem dX11_men_8 : decode cX11_men 8 = .ok (.ireturn, 1) := dgX11_men_0.2.2.2.2.1
abbrev rmX11_men : Room := { frames := 4, cells := 0, slots := 0, locals := 95 }
noncomputable def fX11_men (N : Nat) (h : Hs) (t : Nat) (p1 : Int32) : Option (Int32 × Hs) :=
  (oR 11 2 h (some t)).bind fun o1 =>
  (rc 1 h o1).bind fun a3 =>
  (fX1_leastMen N h a3 p1).bind fun r2 =>
  some (r2.1, r2.2)
set_option maxHeartbeats 4000000 in
set_option maxRecDepth 20000 in
theorem kX11_men (l : Launch) (G : Gl) {N : Nat} {h : Hs} {t : Nat} {p1 : Int32} {r : Int32 × Hs} (hf : fX11_men N h t p1 = some r) : CT l G yX11_men cX11_men 2 (some .int) rmX11_men [.inr (some t), .inl p1] h (some (.inl r.1)) r.2 := by
  refine mk_CT (by decide) (Nat.le_of_ble_eq_true rfl) ?_
  intro p e s m args below meth c C hret hin
  unfold fX11_men at hf
  refine r_aload_n C dX11_men_0 rfl ?_
  obtain ⟨o1, eo1, hf⟩ := bS hf
  refine r_getR C dX11_men_1 fl_X11_49 rfl eo1 ?_
  refine r_iload_n C dX11_men_4 rfl ?_
  obtain ⟨a3, ea3, hf⟩ := bS hf
  obtain ⟨r2, er2, hf⟩ := bS hf
  refine r_invV1 (As := [.inl p1]) (ci := 1) C dX11_men_5 mcX1_leastMen wd_754 wd_755 wd_756 rfl rfl (by decide) ⟨by decide, by decide⟩ ⟨by decide, by decide⟩ rfl (Nat.le_of_ble_eq_true rfl) ea3 (kX1_leastMen l G er2) ?_
  exact r_iretF C dX11_men_8 hret hf (by decide) (by decide)

theorem dgX11_feed_0 : (decode cX11_feed 0 = .ok (.aload_n 0, 1)) ∧ (decode cX11_feed 1 = .ok (.getfield 10, 3)) ∧ (decode cX11_feed 4 = .ok (.iload_n 1, 1)) ∧ (decode cX11_feed 5 = .ok (.iload_n 2, 1)) ∧ (decode cX11_feed 6 = .ok (.invokevirtual 144, 3)) ∧ (decode cX11_feed 9 = .ok (.ireturn, 1)) ∧ True := dkW [(0, .aload_n 0, 1), (1, .getfield 10, 3), (4, .iload_n 1, 1), (5, .iload_n 2, 1), (6, .invokevirtual 144, 3), (9, .ireturn, 1)] 0 (by decide +kernel)
theorem dX11_feed_0 : decode cX11_feed 0 = .ok (.aload_n 0, 1) := dgX11_feed_0.1
theorem dX11_feed_1 : decode cX11_feed 1 = .ok (.getfield 10, 3) := dgX11_feed_0.2.1
theorem dX11_feed_4 : decode cX11_feed 4 = .ok (.iload_n 1, 1) := dgX11_feed_0.2.2.1
theorem dX11_feed_5 : decode cX11_feed 5 = .ok (.iload_n 2, 1) := dgX11_feed_0.2.2.2.1
theorem dX11_feed_6 : decode cX11_feed 6 = .ok (.invokevirtual 144, 3) := dgX11_feed_0.2.2.2.2.1
theorem dX11_feed_9 : decode cX11_feed 9 = .ok (.ireturn, 1) := dgX11_feed_0.2.2.2.2.2.1
abbrev rmX11_feed : Room := { frames := 2, cells := 0, slots := 0, locals := 45 }
noncomputable def fX11_feed (N : Nat) (h : Hs) (t : Nat) (p1 : Int32) (p2 : Int32) : Option (Int32 × Hs) :=
  (oR 11 3 h (some t)).bind fun o1 =>
  (rc 8 h o1).bind fun a3 =>
  (fX8_take N h a3 p1 p2).bind fun r2 =>
  some (r2.1, r2.2)
set_option maxHeartbeats 4000000 in
set_option maxRecDepth 20000 in
theorem kX11_feed (l : Launch) (G : Gl) {N : Nat} {h : Hs} {t : Nat} {p1 : Int32} {p2 : Int32} {r : Int32 × Hs} (hf : fX11_feed N h t p1 p2 = some r) : CT l G yX11_feed cX11_feed 3 (some .int) rmX11_feed [.inr (some t), .inl p1, .inl p2] h (some (.inl r.1)) r.2 := by
  refine mk_CT (by decide) (Nat.le_of_ble_eq_true rfl) ?_
  intro p e s m args below meth c C hret hin
  unfold fX11_feed at hf
  refine r_aload_n C dX11_feed_0 rfl ?_
  obtain ⟨o1, eo1, hf⟩ := bS hf
  refine r_getR C dX11_feed_1 fl_X11_10 rfl eo1 ?_
  refine r_iload_n C dX11_feed_4 rfl ?_
  refine r_iload_n C dX11_feed_5 rfl ?_
  obtain ⟨a3, ea3, hf⟩ := bS hf
  obtain ⟨r2, er2, hf⟩ := bS hf
  refine r_invV1 (As := [.inl p1, .inl p2]) (ci := 8) C dX11_feed_6 mcX8_take wd_784 wd_785 wd_786 rfl rfl (by decide) ⟨by decide, by decide⟩ ⟨by decide, by decide⟩ rfl (Nat.le_of_ble_eq_true rfl) ea3 (kX8_take l G er2) ?_
  exact r_iretF C dX11_feed_9 hret hf (by decide) (by decide)

theorem dgX11_playLine_0 : (decode cX11_playLine 0 = .ok (.aload_n 0, 1)) ∧ (decode cX11_playLine 1 = .ok (.getfield 10, 3)) ∧ (decode cX11_playLine 4 = .ok (.getfield 219, 3)) ∧ (decode cX11_playLine 7 = .ok (.iload_n 1, 1)) ∧ (decode cX11_playLine 8 = .ok (.iaload, 1)) ∧ (decode cX11_playLine 9 = .ok (.istore_n 2, 1)) ∧ (decode cX11_playLine 10 = .ok (.aload_n 0, 1)) ∧ (decode cX11_playLine 11 = .ok (.getfield 10, 3)) ∧ (decode cX11_playLine 14 = .ok (.getfield 223, 3)) ∧ (decode cX11_playLine 17 = .ok (.iload_n 1, 1)) ∧ (decode cX11_playLine 18 = .ok (.iaload, 1)) ∧ (decode cX11_playLine 19 = .ok (.istore_n 3, 1)) ∧ True := dkW [(0, .aload_n 0, 1), (1, .getfield 10, 3), (4, .getfield 219, 3), (7, .iload_n 1, 1), (8, .iaload, 1), (9, .istore_n 2, 1), (10, .aload_n 0, 1), (11, .getfield 10, 3), (14, .getfield 223, 3), (17, .iload_n 1, 1), (18, .iaload, 1), (19, .istore_n 3, 1)] 0 (by decide +kernel)
theorem dX11_playLine_0 : decode cX11_playLine 0 = .ok (.aload_n 0, 1) := dgX11_playLine_0.1
theorem dX11_playLine_1 : decode cX11_playLine 1 = .ok (.getfield 10, 3) := dgX11_playLine_0.2.1
theorem dX11_playLine_4 : decode cX11_playLine 4 = .ok (.getfield 219, 3) := dgX11_playLine_0.2.2.1
theorem dX11_playLine_7 : decode cX11_playLine 7 = .ok (.iload_n 1, 1) := dgX11_playLine_0.2.2.2.1
theorem dX11_playLine_8 : decode cX11_playLine 8 = .ok (.iaload, 1) := dgX11_playLine_0.2.2.2.2.1
theorem dX11_playLine_9 : decode cX11_playLine 9 = .ok (.istore_n 2, 1) := dgX11_playLine_0.2.2.2.2.2.1
theorem dX11_playLine_10 : decode cX11_playLine 10 = .ok (.aload_n 0, 1) := dgX11_playLine_0.2.2.2.2.2.2.1
theorem dX11_playLine_11 : decode cX11_playLine 11 = .ok (.getfield 10, 3) := dgX11_playLine_0.2.2.2.2.2.2.2.1
theorem dX11_playLine_14 : decode cX11_playLine 14 = .ok (.getfield 223, 3) := dgX11_playLine_0.2.2.2.2.2.2.2.2.1
theorem dX11_playLine_17 : decode cX11_playLine 17 = .ok (.iload_n 1, 1) := dgX11_playLine_0.2.2.2.2.2.2.2.2.2.1
theorem dX11_playLine_18 : decode cX11_playLine 18 = .ok (.iaload, 1) := dgX11_playLine_0.2.2.2.2.2.2.2.2.2.2.1
theorem dX11_playLine_19 : decode cX11_playLine 19 = .ok (.istore_n 3, 1) := dgX11_playLine_0.2.2.2.2.2.2.2.2.2.2.2.1
theorem dgX11_playLine_20 : (decode cX11_playLine 20 = .ok (.aload_n 0, 1)) ∧ (decode cX11_playLine 21 = .ok (.getfield 10, 3)) ∧ (decode cX11_playLine 24 = .ok (.getfield 226, 3)) ∧ (decode cX11_playLine 27 = .ok (.iload_n 1, 1)) ∧ (decode cX11_playLine 28 = .ok (.iaload, 1)) ∧ True := dkW [(20, .aload_n 0, 1), (21, .getfield 10, 3), (24, .getfield 226, 3), (27, .iload_n 1, 1), (28, .iaload, 1)] 20 (by decide +kernel)
theorem dX11_playLine_20 : decode cX11_playLine 20 = .ok (.aload_n 0, 1) := dgX11_playLine_20.1
theorem dX11_playLine_21 : decode cX11_playLine 21 = .ok (.getfield 10, 3) := dgX11_playLine_20.2.1
theorem dX11_playLine_24 : decode cX11_playLine 24 = .ok (.getfield 226, 3) := dgX11_playLine_20.2.2.1
theorem dX11_playLine_27 : decode cX11_playLine 27 = .ok (.iload_n 1, 1) := dgX11_playLine_20.2.2.2.1
theorem dX11_playLine_28 : decode cX11_playLine 28 = .ok (.iaload, 1) := dgX11_playLine_20.2.2.2.2.1
theorem dX11_playLine_29 : decode cX11_playLine 29 = .ok (.tableswitch 91 116 119 #[31, 50, 91, 70], 31) := by decide +kernel
theorem dgX11_playLine_60 : (decode cX11_playLine 60 = .ok (.aload_n 0, 1)) ∧ (decode cX11_playLine 61 = .ok (.getfield 33, 3)) ∧ (decode cX11_playLine 64 = .ok (.iload_n 2, 1)) ∧ (decode cX11_playLine 65 = .ok (.iload_n 3, 1)) ∧ (decode cX11_playLine 66 = .ok (.invokevirtual 89, 3)) ∧ (decode cX11_playLine 69 = .ok (.ifCond .lt 7, 3)) ∧ (decode cX11_playLine 72 = .ok (.iconst 0, 1)) ∧ (decode cX11_playLine 73 = .ok (.goto 5, 3)) ∧ (decode cX11_playLine 76 = .ok (.bipush (-2), 2)) ∧ (decode cX11_playLine 78 = .ok (.ireturn, 1)) ∧ (decode cX11_playLine 79 = .ok (.aload_n 0, 1)) ∧ (decode cX11_playLine 80 = .ok (.getfield 33, 3)) ∧ True := dkW [(60, .aload_n 0, 1), (61, .getfield 33, 3), (64, .iload_n 2, 1), (65, .iload_n 3, 1), (66, .invokevirtual 89, 3), (69, .ifCond .lt 7, 3), (72, .iconst 0, 1), (73, .goto 5, 3), (76, .bipush (-2), 2), (78, .ireturn, 1), (79, .aload_n 0, 1), (80, .getfield 33, 3)] 60 (by decide +kernel)
theorem dX11_playLine_60 : decode cX11_playLine 60 = .ok (.aload_n 0, 1) := dgX11_playLine_60.1
theorem dX11_playLine_61 : decode cX11_playLine 61 = .ok (.getfield 33, 3) := dgX11_playLine_60.2.1
theorem dX11_playLine_64 : decode cX11_playLine 64 = .ok (.iload_n 2, 1) := dgX11_playLine_60.2.2.1
theorem dX11_playLine_65 : decode cX11_playLine 65 = .ok (.iload_n 3, 1) := dgX11_playLine_60.2.2.2.1
theorem dX11_playLine_66 : decode cX11_playLine 66 = .ok (.invokevirtual 89, 3) := dgX11_playLine_60.2.2.2.2.1
theorem dX11_playLine_69 : decode cX11_playLine 69 = .ok (.ifCond .lt 7, 3) := dgX11_playLine_60.2.2.2.2.2.1
theorem dX11_playLine_72 : decode cX11_playLine 72 = .ok (.iconst 0, 1) := dgX11_playLine_60.2.2.2.2.2.2.1
theorem dX11_playLine_73 : decode cX11_playLine 73 = .ok (.goto 5, 3) := dgX11_playLine_60.2.2.2.2.2.2.2.1
theorem dX11_playLine_76 : decode cX11_playLine 76 = .ok (.bipush (-2), 2) := dgX11_playLine_60.2.2.2.2.2.2.2.2.1
theorem dX11_playLine_78 : decode cX11_playLine 78 = .ok (.ireturn, 1) := dgX11_playLine_60.2.2.2.2.2.2.2.2.2.1
theorem dX11_playLine_79 : decode cX11_playLine 79 = .ok (.aload_n 0, 1) := dgX11_playLine_60.2.2.2.2.2.2.2.2.2.2.1
theorem dX11_playLine_80 : decode cX11_playLine 80 = .ok (.getfield 33, 3) := dgX11_playLine_60.2.2.2.2.2.2.2.2.2.2.2.1
theorem dgX11_playLine_83 : (decode cX11_playLine 83 = .ok (.iload_n 2, 1)) ∧ (decode cX11_playLine 84 = .ok (.invokevirtual 93, 3)) ∧ (decode cX11_playLine 87 = .ok (.ldc 85, 2)) ∧ (decode cX11_playLine 89 = .ok (.if_icmp .eq 7, 3)) ∧ (decode cX11_playLine 92 = .ok (.iconst 0, 1)) ∧ (decode cX11_playLine 93 = .ok (.goto 5, 3)) ∧ (decode cX11_playLine 96 = .ok (.bipush (-2), 2)) ∧ (decode cX11_playLine 98 = .ok (.ireturn, 1)) ∧ (decode cX11_playLine 99 = .ok (.aload_n 0, 1)) ∧ (decode cX11_playLine 100 = .ok (.getfield 33, 3)) ∧ (decode cX11_playLine 103 = .ok (.iload_n 2, 1)) ∧ (decode cX11_playLine 104 = .ok (.iload_n 3, 1)) ∧ True := dkW [(83, .iload_n 2, 1), (84, .invokevirtual 93, 3), (87, .ldc 85, 2), (89, .if_icmp .eq 7, 3), (92, .iconst 0, 1), (93, .goto 5, 3), (96, .bipush (-2), 2), (98, .ireturn, 1), (99, .aload_n 0, 1), (100, .getfield 33, 3), (103, .iload_n 2, 1), (104, .iload_n 3, 1)] 83 (by decide +kernel)
theorem dX11_playLine_83 : decode cX11_playLine 83 = .ok (.iload_n 2, 1) := dgX11_playLine_83.1
theorem dX11_playLine_84 : decode cX11_playLine 84 = .ok (.invokevirtual 93, 3) := dgX11_playLine_83.2.1
theorem dX11_playLine_87 : decode cX11_playLine 87 = .ok (.ldc 85, 2) := dgX11_playLine_83.2.2.1
theorem dX11_playLine_89 : decode cX11_playLine 89 = .ok (.if_icmp .eq 7, 3) := dgX11_playLine_83.2.2.2.1
theorem dX11_playLine_92 : decode cX11_playLine 92 = .ok (.iconst 0, 1) := dgX11_playLine_83.2.2.2.2.1
theorem dX11_playLine_93 : decode cX11_playLine 93 = .ok (.goto 5, 3) := dgX11_playLine_83.2.2.2.2.2.1
theorem dX11_playLine_96 : decode cX11_playLine 96 = .ok (.bipush (-2), 2) := dgX11_playLine_83.2.2.2.2.2.2.1
theorem dX11_playLine_98 : decode cX11_playLine 98 = .ok (.ireturn, 1) := dgX11_playLine_83.2.2.2.2.2.2.2.1
theorem dX11_playLine_99 : decode cX11_playLine 99 = .ok (.aload_n 0, 1) := dgX11_playLine_83.2.2.2.2.2.2.2.2.1
theorem dX11_playLine_100 : decode cX11_playLine 100 = .ok (.getfield 33, 3) := dgX11_playLine_83.2.2.2.2.2.2.2.2.2.1
theorem dX11_playLine_103 : decode cX11_playLine 103 = .ok (.iload_n 2, 1) := dgX11_playLine_83.2.2.2.2.2.2.2.2.2.2.1
theorem dX11_playLine_104 : decode cX11_playLine 104 = .ok (.iload_n 3, 1) := dgX11_playLine_83.2.2.2.2.2.2.2.2.2.2.2.1
theorem dgX11_playLine_105 : (decode cX11_playLine 105 = .ok (.invokevirtual 96, 3)) ∧ (decode cX11_playLine 108 = .ok (.ldc 85, 2)) ∧ (decode cX11_playLine 110 = .ok (.if_icmp .eq 7, 3)) ∧ (decode cX11_playLine 113 = .ok (.iconst 0, 1)) ∧ (decode cX11_playLine 114 = .ok (.goto 5, 3)) ∧ (decode cX11_playLine 117 = .ok (.bipush (-2), 2)) ∧ (decode cX11_playLine 119 = .ok (.ireturn, 1)) ∧ (decode cX11_playLine 120 = .ok (.aload_n 0, 1)) ∧ (decode cX11_playLine 121 = .ok (.getfield 42, 3)) ∧ (decode cX11_playLine 124 = .ok (.iload_n 2, 1)) ∧ (decode cX11_playLine 125 = .ok (.invokevirtual 110, 3)) ∧ (decode cX11_playLine 128 = .ok (.iload_n 2, 1)) ∧ True := dkW [(105, .invokevirtual 96, 3), (108, .ldc 85, 2), (110, .if_icmp .eq 7, 3), (113, .iconst 0, 1), (114, .goto 5, 3), (117, .bipush (-2), 2), (119, .ireturn, 1), (120, .aload_n 0, 1), (121, .getfield 42, 3), (124, .iload_n 2, 1), (125, .invokevirtual 110, 3), (128, .iload_n 2, 1)] 105 (by decide +kernel)
theorem dX11_playLine_105 : decode cX11_playLine 105 = .ok (.invokevirtual 96, 3) := dgX11_playLine_105.1
theorem dX11_playLine_108 : decode cX11_playLine 108 = .ok (.ldc 85, 2) := dgX11_playLine_105.2.1
theorem dX11_playLine_110 : decode cX11_playLine 110 = .ok (.if_icmp .eq 7, 3) := dgX11_playLine_105.2.2.1
theorem dX11_playLine_113 : decode cX11_playLine 113 = .ok (.iconst 0, 1) := dgX11_playLine_105.2.2.2.1
theorem dX11_playLine_114 : decode cX11_playLine 114 = .ok (.goto 5, 3) := dgX11_playLine_105.2.2.2.2.1
theorem dX11_playLine_117 : decode cX11_playLine 117 = .ok (.bipush (-2), 2) := dgX11_playLine_105.2.2.2.2.2.1
theorem dX11_playLine_119 : decode cX11_playLine 119 = .ok (.ireturn, 1) := dgX11_playLine_105.2.2.2.2.2.2.1
theorem dX11_playLine_120 : decode cX11_playLine 120 = .ok (.aload_n 0, 1) := dgX11_playLine_105.2.2.2.2.2.2.2.1
theorem dX11_playLine_121 : decode cX11_playLine 121 = .ok (.getfield 42, 3) := dgX11_playLine_105.2.2.2.2.2.2.2.2.1
theorem dX11_playLine_124 : decode cX11_playLine 124 = .ok (.iload_n 2, 1) := dgX11_playLine_105.2.2.2.2.2.2.2.2.2.1
theorem dX11_playLine_125 : decode cX11_playLine 125 = .ok (.invokevirtual 110, 3) := dgX11_playLine_105.2.2.2.2.2.2.2.2.2.2.1
theorem dX11_playLine_128 : decode cX11_playLine 128 = .ok (.iload_n 2, 1) := dgX11_playLine_105.2.2.2.2.2.2.2.2.2.2.2.1
theorem dgX11_playLine_129 : (decode cX11_playLine 129 = .ok (.invokestatic 229, 3)) ∧ (decode cX11_playLine 132 = .ok (.if_icmp .ne 7, 3)) ∧ (decode cX11_playLine 135 = .ok (.iconst 0, 1)) ∧ (decode cX11_playLine 136 = .ok (.goto 5, 3)) ∧ (decode cX11_playLine 139 = .ok (.bipush (-5), 2)) ∧ (decode cX11_playLine 141 = .ok (.ireturn, 1)) ∧ True := dkW [(129, .invokestatic 229, 3), (132, .if_icmp .ne 7, 3), (135, .iconst 0, 1), (136, .goto 5, 3), (139, .bipush (-5), 2), (141, .ireturn, 1)] 129 (by decide +kernel)
theorem dX11_playLine_129 : decode cX11_playLine 129 = .ok (.invokestatic 229, 3) := dgX11_playLine_129.1
theorem dX11_playLine_132 : decode cX11_playLine 132 = .ok (.if_icmp .ne 7, 3) := dgX11_playLine_129.2.1
theorem dX11_playLine_135 : decode cX11_playLine 135 = .ok (.iconst 0, 1) := dgX11_playLine_129.2.2.1
theorem dX11_playLine_136 : decode cX11_playLine 136 = .ok (.goto 5, 3) := dgX11_playLine_129.2.2.2.1
theorem dX11_playLine_139 : decode cX11_playLine 139 = .ok (.bipush (-5), 2) := dgX11_playLine_129.2.2.2.2.1
theorem dX11_playLine_141 : decode cX11_playLine 141 = .ok (.ireturn, 1) := dgX11_playLine_129.2.2.2.2.2.1
abbrev rmX11_playLine : Room := { frames := 5, cells := 0, slots := 0, locals := 117 }
noncomputable def fX11_playLine_b141 (N : Nat)  (t : Nat) (h : Hs) (u0 : Int32) : Option (Int32 × Hs) :=
  some (u0, h)
set_option maxHeartbeats 4000000 in
set_option maxRecDepth 20000 in
theorem wX11_playLine_b141 {p : Program} {l : Launch} {e : Env} {s : State} {m : MethodId} {args : Array Value} {below : List Frame} {meth : Method} {c : Code} {G : Gl} {N : Nat} {h : Hs} {r : Int32 × Hs}  {t : Nat} {u0 : Int32} (C : Cx p s m args meth c cX11_playLine RX11 4 G) (hret : meth.sig.returnType = (some .int))  (hf : fX11_playLine_b141 N  t h u0 = some r) : V p l e rmX11_playLine s m args below meth c G 4 (MQ below (QcG G (some (.inl r.1)) r.2) args s rmX11_playLine.cells rmX11_playLine.slots (AG G)) h 0 0 141 [some (.inr (some t)), none, none, none] [.inl u0] := by
  unfold fX11_playLine_b141 at hf
  exact r_iretF C dX11_playLine_141 hret hf (by decide) (by decide)
noncomputable def fX11_playLine_b78 (N : Nat)  (t : Nat) (h : Hs) (u0 : Int32) : Option (Int32 × Hs) :=
  some (u0, h)
set_option maxHeartbeats 4000000 in
set_option maxRecDepth 20000 in
theorem wX11_playLine_b78 {p : Program} {l : Launch} {e : Env} {s : State} {m : MethodId} {args : Array Value} {below : List Frame} {meth : Method} {c : Code} {G : Gl} {N : Nat} {h : Hs} {r : Int32 × Hs}  {t : Nat} {u0 : Int32} (C : Cx p s m args meth c cX11_playLine RX11 4 G) (hret : meth.sig.returnType = (some .int))  (hf : fX11_playLine_b78 N  t h u0 = some r) : V p l e rmX11_playLine s m args below meth c G 4 (MQ below (QcG G (some (.inl r.1)) r.2) args s rmX11_playLine.cells rmX11_playLine.slots (AG G)) h 0 0 78 [some (.inr (some t)), none, none, none] [.inl u0] := by
  unfold fX11_playLine_b78 at hf
  exact r_iretF C dX11_playLine_78 hret hf (by decide) (by decide)
noncomputable def fX11_playLine_b98 (N : Nat)  (t : Nat) (h : Hs) (u0 : Int32) : Option (Int32 × Hs) :=
  some (u0, h)
set_option maxHeartbeats 4000000 in
set_option maxRecDepth 20000 in
theorem wX11_playLine_b98 {p : Program} {l : Launch} {e : Env} {s : State} {m : MethodId} {args : Array Value} {below : List Frame} {meth : Method} {c : Code} {G : Gl} {N : Nat} {h : Hs} {r : Int32 × Hs}  {t : Nat} {u0 : Int32} (C : Cx p s m args meth c cX11_playLine RX11 4 G) (hret : meth.sig.returnType = (some .int))  (hf : fX11_playLine_b98 N  t h u0 = some r) : V p l e rmX11_playLine s m args below meth c G 4 (MQ below (QcG G (some (.inl r.1)) r.2) args s rmX11_playLine.cells rmX11_playLine.slots (AG G)) h 0 0 98 [some (.inr (some t)), none, none, none] [.inl u0] := by
  unfold fX11_playLine_b98 at hf
  exact r_iretF C dX11_playLine_98 hret hf (by decide) (by decide)
noncomputable def fX11_playLine_b119 (N : Nat)  (t : Nat) (h : Hs) (u0 : Int32) : Option (Int32 × Hs) :=
  some (u0, h)
set_option maxHeartbeats 4000000 in
set_option maxRecDepth 20000 in
theorem wX11_playLine_b119 {p : Program} {l : Launch} {e : Env} {s : State} {m : MethodId} {args : Array Value} {below : List Frame} {meth : Method} {c : Code} {G : Gl} {N : Nat} {h : Hs} {r : Int32 × Hs}  {t : Nat} {u0 : Int32} (C : Cx p s m args meth c cX11_playLine RX11 4 G) (hret : meth.sig.returnType = (some .int))  (hf : fX11_playLine_b119 N  t h u0 = some r) : V p l e rmX11_playLine s m args below meth c G 4 (MQ below (QcG G (some (.inl r.1)) r.2) args s rmX11_playLine.cells rmX11_playLine.slots (AG G)) h 0 0 119 [some (.inr (some t)), none, none, none] [.inl u0] := by
  unfold fX11_playLine_b119 at hf
  exact r_iretF C dX11_playLine_119 hret hf (by decide) (by decide)
noncomputable def fX11_playLine (N : Nat) (h : Hs) (t : Nat) (p1 : Int32) : Option (Int32 × Hs) :=
  (oR 11 3 h (some t)).bind fun o1 =>
  (oR 8 2 h o1).bind fun o2 =>
  (lA 20 h o2 p1).bind fun v3 =>
  (oR 11 3 h (some t)).bind fun o4 =>
  (oR 8 3 h o4).bind fun o5 =>
  (lA 20 h o5 p1).bind fun v6 =>
  (oR 11 3 h (some t)).bind fun o7 =>
  (oR 8 1 h o7).bind fun o8 =>
  (lA 20 h o8 p1).bind fun v9 =>
  if v9 = 116 then (
  (oR 11 0 h (some t)).bind fun o10 =>
  (rc 5 h o10).bind fun a12 =>
  (fX5_tieRope N h a12 v3 v6).bind fun r11 =>
  if r11.1 < 0 then (
  fX11_playLine_b78 N t r11.2 (-2))
  else fX11_playLine_b78 N t r11.2 0)
  else if v9 = 117 then (
  (oR 11 0 h (some t)).bind fun o13 =>
  (rc 5 h o13).bind fun a15 =>
  (fX5_untieRope N h a15 v3).bind fun r14 =>
  if r14.1 = (-2000000000) then (
  fX11_playLine_b98 N t r14.2 (-2))
  else fX11_playLine_b98 N t r14.2 0)
  else if v9 = 119 then (
  (oR 11 0 h (some t)).bind fun o16 =>
  (rc 5 h o16).bind fun a18 =>
  (fX5_setWeight N h a18 v3 v6).bind fun r17 =>
  if r17.1 = (-2000000000) then (
  fX11_playLine_b119 N t r17.2 (-2))
  else fX11_playLine_b119 N t r17.2 0)
  else (oR 11 1 h (some t)).bind fun o19 =>
  (rc 10 h o19).bind fun a21 =>
  (fX10_turnBy N h a21 v3).bind fun r20 =>
  if r20.1 = (if 0 ≤ v3 then v3 else 0 - v3 : Int32) then (
  fX11_playLine_b141 N t r20.2 0)
  else fX11_playLine_b141 N t r20.2 (-5)
set_option maxHeartbeats 4000000 in
set_option maxRecDepth 20000 in
theorem kX11_playLine (l : Launch) (G : Gl) {N : Nat} {h : Hs} {t : Nat} {p1 : Int32} {r : Int32 × Hs} (hf : fX11_playLine N h t p1 = some r) : CT l G yX11_playLine cX11_playLine 4 (some .int) rmX11_playLine [.inr (some t), .inl p1] h (some (.inl r.1)) r.2 := by
  refine mk_CT (by decide) (Nat.le_of_ble_eq_true rfl) ?_
  intro p e s m args below meth c C hret hin
  unfold fX11_playLine at hf
  refine r_aload_n C dX11_playLine_0 rfl ?_
  obtain ⟨o1, eo1, hf⟩ := bS hf
  refine r_getR C dX11_playLine_1 fl_X11_10 rfl eo1 ?_
  obtain ⟨o2, eo2, hf⟩ := bS hf
  refine r_getR C dX11_playLine_4 fl_X11_219 rfl eo2 ?_
  refine r_iload_n C dX11_playLine_7 rfl ?_
  obtain ⟨v3, ev3, hf⟩ := bS hf
  refine r_iald C dX11_playLine_8 ev3 ?_
  refine r_istore_n C dX11_playLine_9 (by decide) ?_
  refine r_aload_n C dX11_playLine_10 rfl ?_
  obtain ⟨o4, eo4, hf⟩ := bS hf
  refine r_getR C dX11_playLine_11 fl_X11_10 rfl eo4 ?_
  obtain ⟨o5, eo5, hf⟩ := bS hf
  refine r_getR C dX11_playLine_14 fl_X11_223 rfl eo5 ?_
  refine r_iload_n C dX11_playLine_17 rfl ?_
  obtain ⟨v6, ev6, hf⟩ := bS hf
  refine r_iald C dX11_playLine_18 ev6 ?_
  refine r_istore_n C dX11_playLine_19 (by decide) ?_
  refine r_aload_n C dX11_playLine_20 rfl ?_
  obtain ⟨o7, eo7, hf⟩ := bS hf
  refine r_getR C dX11_playLine_21 fl_X11_10 rfl eo7 ?_
  obtain ⟨o8, eo8, hf⟩ := bS hf
  refine r_getR C dX11_playLine_24 fl_X11_226 rfl eo8 ?_
  refine r_iload_n C dX11_playLine_27 rfl ?_
  obtain ⟨v9, ev9, hf⟩ := bS hf
  refine r_iald C dX11_playLine_28 ev9 ?_
  by_cases k116 : v9 = 116
  · have hf := ifT hf k116
    refine r_tabIn (tgt := 60) (off := 31) C dX11_playLine_29 (by rw [k116]; decide) (by rw [k116]; decide) (by rw [k116]; rfl) (by decide) ?_
    refine r_aload_n C dX11_playLine_60 rfl ?_
    obtain ⟨o10, eo10, hf⟩ := bS hf
    refine r_getR C dX11_playLine_61 fl_X11_33 rfl eo10 ?_
    refine r_iload_n C dX11_playLine_64 rfl ?_
    refine r_iload_n C dX11_playLine_65 rfl ?_
    obtain ⟨a12, ea12, hf⟩ := bS hf
    obtain ⟨r11, er11, hf⟩ := bS hf
    refine r_invV1 (As := [.inl v3, .inl v6]) (ci := 5) C dX11_playLine_66 mcX5_tieRope wd_505 wd_506 wd_507 rfl rfl (by decide) ⟨by decide, by decide⟩ ⟨by decide, by decide⟩ rfl (Nat.le_of_ble_eq_true rfl) ea12 (kX5_tieRope l G er11) ?_
    refine r_if_lt (tgt := 76) C dX11_playLine_69 (by decide) (fun hc => ?_) (fun hc => ?_)
    · have hf := ifT hf hc
      refine r_bipush (v := -2) C dX11_playLine_76 (by decide) ?_
      exact V.sub (wX11_playLine_b78 C hret hf) (LW_s rfl (LW_n (LW_n (LW_n (LW_e)))))
    · have hf := ifF hf hc
      refine r_iconst (v := 0) C dX11_playLine_72 (by decide) ?_
      refine r_goto (tgt := 78) C dX11_playLine_73 (by decide) ?_
      exact V.sub (wX11_playLine_b78 C hret hf) (LW_s rfl (LW_n (LW_n (LW_n (LW_e)))))
  · have hf := ifF hf k116
    by_cases k117 : v9 = 117
    · have hf := ifT hf k117
      refine r_tabIn (tgt := 79) (off := 50) C dX11_playLine_29 (by rw [k117]; decide) (by rw [k117]; decide) (by rw [k117]; rfl) (by decide) ?_
      refine r_aload_n C dX11_playLine_79 rfl ?_
      obtain ⟨o13, eo13, hf⟩ := bS hf
      refine r_getR C dX11_playLine_80 fl_X11_33 rfl eo13 ?_
      refine r_iload_n C dX11_playLine_83 rfl ?_
      obtain ⟨a15, ea15, hf⟩ := bS hf
      obtain ⟨r14, er14, hf⟩ := bS hf
      refine r_invV1 (As := [.inl v3]) (ci := 5) C dX11_playLine_84 mcX5_untieRope wd_526 wd_527 wd_528 rfl rfl (by decide) ⟨by decide, by decide⟩ ⟨by decide, by decide⟩ rfl (Nat.le_of_ble_eq_true rfl) ea15 (kX5_untieRope l G er14) ?_
      refine r_ldc C dX11_playLine_87 wd_488 ?_
      refine r_icmp_eq (tgt := 96) C dX11_playLine_89 (by decide) (fun hc => ?_) (fun hc => ?_)
      · have hf := ifT hf hc
        refine r_bipush (v := -2) C dX11_playLine_96 (by decide) ?_
        exact V.sub (wX11_playLine_b98 C hret hf) (LW_s rfl (LW_n (LW_n (LW_n (LW_e)))))
      · have hf := ifF hf hc
        refine r_iconst (v := 0) C dX11_playLine_92 (by decide) ?_
        refine r_goto (tgt := 98) C dX11_playLine_93 (by decide) ?_
        exact V.sub (wX11_playLine_b98 C hret hf) (LW_s rfl (LW_n (LW_n (LW_n (LW_e)))))
    · have hf := ifF hf k117
      by_cases k119 : v9 = 119
      · have hf := ifT hf k119
        refine r_tabIn (tgt := 99) (off := 70) C dX11_playLine_29 (by rw [k119]; decide) (by rw [k119]; decide) (by rw [k119]; rfl) (by decide) ?_
        refine r_aload_n C dX11_playLine_99 rfl ?_
        obtain ⟨o16, eo16, hf⟩ := bS hf
        refine r_getR C dX11_playLine_100 fl_X11_33 rfl eo16 ?_
        refine r_iload_n C dX11_playLine_103 rfl ?_
        refine r_iload_n C dX11_playLine_104 rfl ?_
        obtain ⟨a18, ea18, hf⟩ := bS hf
        obtain ⟨r17, er17, hf⟩ := bS hf
        refine r_invV1 (As := [.inl v3, .inl v6]) (ci := 5) C dX11_playLine_105 mcX5_setWeight wd_539 wd_540 wd_541 rfl rfl (by decide) ⟨by decide, by decide⟩ ⟨by decide, by decide⟩ rfl (Nat.le_of_ble_eq_true rfl) ea18 (kX5_setWeight l G er17) ?_
        refine r_ldc C dX11_playLine_108 wd_488 ?_
        refine r_icmp_eq (tgt := 117) C dX11_playLine_110 (by decide) (fun hc => ?_) (fun hc => ?_)
        · have hf := ifT hf hc
          refine r_bipush (v := -2) C dX11_playLine_117 (by decide) ?_
          exact V.sub (wX11_playLine_b119 C hret hf) (LW_s rfl (LW_n (LW_n (LW_n (LW_e)))))
        · have hf := ifF hf hc
          refine r_iconst (v := 0) C dX11_playLine_113 (by decide) ?_
          refine r_goto (tgt := 119) C dX11_playLine_114 (by decide) ?_
          exact V.sub (wX11_playLine_b119 C hret hf) (LW_s rfl (LW_n (LW_n (LW_n (LW_e)))))
      · have hf := ifF hf k119
        by_cases k118 : v9 = 118
        · refine r_tabIn (tgt := 120) (off := 91) C dX11_playLine_29 (by rw [k118]; decide) (by rw [k118]; decide) (by rw [k118]; rfl) (by decide) ?_
          refine r_aload_n C dX11_playLine_120 rfl ?_
          obtain ⟨o19, eo19, hf⟩ := bS hf
          refine r_getR C dX11_playLine_121 fl_X11_42 rfl eo19 ?_
          refine r_iload_n C dX11_playLine_124 rfl ?_
          obtain ⟨a21, ea21, hf⟩ := bS hf
          obtain ⟨r20, er20, hf⟩ := bS hf
          refine r_invV1 (As := [.inl v3]) (ci := 10) C dX11_playLine_125 mcX10_turnBy wd_590 wd_591 wd_592 rfl rfl (by decide) ⟨by decide, by decide⟩ ⟨by decide, by decide⟩ rfl (Nat.le_of_ble_eq_true rfl) ea21 (kX10_turnBy l G er20) ?_
          refine r_iload_n C dX11_playLine_128 rfl ?_
          refine r_mabs C dX11_playLine_129 ⟨wd_832, wd_599, wd_14, wd_600⟩ (by decide) (Nat.le_of_ble_eq_true rfl) (by decide) (by decide) ?_
          refine r_icmp_ne (tgt := 139) C dX11_playLine_132 (by decide) (fun hc => ?_) (fun hc => ?_)
          · have hf := ifF hf hc
            refine r_bipush (v := -5) C dX11_playLine_139 (by decide) ?_
            exact V.sub (wX11_playLine_b141 C hret hf) (LW_s rfl (LW_n (LW_n (LW_n (LW_e)))))
          · have hf := ifT hf hc
            refine r_iconst (v := 0) C dX11_playLine_135 (by decide) ?_
            refine r_goto (tgt := 141) C dX11_playLine_136 (by decide) ?_
            exact V.sub (wX11_playLine_b141 C hret hf) (LW_s rfl (LW_n (LW_n (LW_n (LW_e)))))
        · skip
          refine r_tabOut (tgt := 120) C dX11_playLine_29 (sw_out (lo := 116) (hi := 119) [116, 117, 118, 119] (by decide) (List.forall_mem_cons.mpr ⟨k116, List.forall_mem_cons.mpr ⟨k117, List.forall_mem_cons.mpr ⟨k118, List.forall_mem_cons.mpr ⟨k119, fun _ q => absurd q List.not_mem_nil⟩⟩⟩⟩)) (by decide) ?_
          refine r_aload_n C dX11_playLine_120 rfl ?_
          obtain ⟨o19, eo19, hf⟩ := bS hf
          refine r_getR C dX11_playLine_121 fl_X11_42 rfl eo19 ?_
          refine r_iload_n C dX11_playLine_124 rfl ?_
          obtain ⟨a21, ea21, hf⟩ := bS hf
          obtain ⟨r20, er20, hf⟩ := bS hf
          refine r_invV1 (As := [.inl v3]) (ci := 10) C dX11_playLine_125 mcX10_turnBy wd_590 wd_591 wd_592 rfl rfl (by decide) ⟨by decide, by decide⟩ ⟨by decide, by decide⟩ rfl (Nat.le_of_ble_eq_true rfl) ea21 (kX10_turnBy l G er20) ?_
          refine r_iload_n C dX11_playLine_128 rfl ?_
          refine r_mabs C dX11_playLine_129 ⟨wd_832, wd_599, wd_14, wd_600⟩ (by decide) (Nat.le_of_ble_eq_true rfl) (by decide) (by decide) ?_
          refine r_icmp_ne (tgt := 139) C dX11_playLine_132 (by decide) (fun hc => ?_) (fun hc => ?_)
          · have hf := ifF hf hc
            refine r_bipush (v := -5) C dX11_playLine_139 (by decide) ?_
            exact V.sub (wX11_playLine_b141 C hret hf) (LW_s rfl (LW_n (LW_n (LW_n (LW_e)))))
          · have hf := ifT hf hc
            refine r_iconst (v := 0) C dX11_playLine_135 (by decide) ?_
            refine r_goto (tgt := 141) C dX11_playLine_136 (by decide) ?_
            exact V.sub (wX11_playLine_b141 C hret hf) (LW_s rfl (LW_n (LW_n (LW_n (LW_e)))))

theorem dgX11_play_0 : (decode cX11_play 0 = .ok (.aload_n 0, 1)) ∧ (decode cX11_play 1 = .ok (.getfield 10, 3)) ∧ (decode cX11_play 4 = .ok (.invokevirtual 147, 3)) ∧ (decode cX11_play 7 = .ok (.istore_n 1, 1)) ∧ (decode cX11_play 8 = .ok (.aload_n 0, 1)) ∧ (decode cX11_play 9 = .ok (.getfield 10, 3)) ∧ (decode cX11_play 12 = .ok (.iconst 0, 1)) ∧ (decode cX11_play 13 = .ok (.putfield 150, 3)) ∧ (decode cX11_play 16 = .ok (.iload_n 1, 1)) ∧ (decode cX11_play 17 = .ok (.ifCond .lt 8, 3)) ∧ (decode cX11_play 20 = .ok (.bipush (-100), 2)) ∧ (decode cX11_play 22 = .ok (.iload_n 1, 1)) ∧ True := dkW [(0, .aload_n 0, 1), (1, .getfield 10, 3), (4, .invokevirtual 147, 3), (7, .istore_n 1, 1), (8, .aload_n 0, 1), (9, .getfield 10, 3), (12, .iconst 0, 1), (13, .putfield 150, 3), (16, .iload_n 1, 1), (17, .ifCond .lt 8, 3), (20, .bipush (-100), 2), (22, .iload_n 1, 1)] 0 (by decide +kernel)
theorem dX11_play_0 : decode cX11_play 0 = .ok (.aload_n 0, 1) := dgX11_play_0.1
theorem dX11_play_1 : decode cX11_play 1 = .ok (.getfield 10, 3) := dgX11_play_0.2.1
theorem dX11_play_4 : decode cX11_play 4 = .ok (.invokevirtual 147, 3) := dgX11_play_0.2.2.1
theorem dX11_play_7 : decode cX11_play 7 = .ok (.istore_n 1, 1) := dgX11_play_0.2.2.2.1
theorem dX11_play_8 : decode cX11_play 8 = .ok (.aload_n 0, 1) := dgX11_play_0.2.2.2.2.1
theorem dX11_play_9 : decode cX11_play 9 = .ok (.getfield 10, 3) := dgX11_play_0.2.2.2.2.2.1
theorem dX11_play_12 : decode cX11_play 12 = .ok (.iconst 0, 1) := dgX11_play_0.2.2.2.2.2.2.1
theorem dX11_play_13 : decode cX11_play 13 = .ok (.putfield 150, 3) := dgX11_play_0.2.2.2.2.2.2.2.1
theorem dX11_play_16 : decode cX11_play 16 = .ok (.iload_n 1, 1) := dgX11_play_0.2.2.2.2.2.2.2.2.1
theorem dX11_play_17 : decode cX11_play 17 = .ok (.ifCond .lt 8, 3) := dgX11_play_0.2.2.2.2.2.2.2.2.2.1
theorem dX11_play_20 : decode cX11_play 20 = .ok (.bipush (-100), 2) := dgX11_play_0.2.2.2.2.2.2.2.2.2.2.1
theorem dX11_play_22 : decode cX11_play 22 = .ok (.iload_n 1, 1) := dgX11_play_0.2.2.2.2.2.2.2.2.2.2.2.1
theorem dgX11_play_23 : (decode cX11_play 23 = .ok (.isub, 1)) ∧ (decode cX11_play 24 = .ok (.ireturn, 1)) ∧ (decode cX11_play 25 = .ok (.aload_n 0, 1)) ∧ (decode cX11_play 26 = .ok (.getfield 33, 3)) ∧ (decode cX11_play 29 = .ok (.invokevirtual 154, 3)) ∧ (decode cX11_play 32 = .ok (.aload_n 0, 1)) ∧ (decode cX11_play 33 = .ok (.iconst 1, 1)) ∧ (decode cX11_play 34 = .ok (.putfield 157, 3)) ∧ (decode cX11_play 37 = .ok (.iconst 0, 1)) ∧ (decode cX11_play 38 = .ok (.istore_n 2, 1)) ∧ (decode cX11_play 39 = .ok (.iload_n 2, 1)) ∧ (decode cX11_play 40 = .ok (.aload_n 0, 1)) ∧ True := dkW [(23, .isub, 1), (24, .ireturn, 1), (25, .aload_n 0, 1), (26, .getfield 33, 3), (29, .invokevirtual 154, 3), (32, .aload_n 0, 1), (33, .iconst 1, 1), (34, .putfield 157, 3), (37, .iconst 0, 1), (38, .istore_n 2, 1), (39, .iload_n 2, 1), (40, .aload_n 0, 1)] 23 (by decide +kernel)
theorem dX11_play_23 : decode cX11_play 23 = .ok (.isub, 1) := dgX11_play_23.1
theorem dX11_play_24 : decode cX11_play 24 = .ok (.ireturn, 1) := dgX11_play_23.2.1
theorem dX11_play_25 : decode cX11_play 25 = .ok (.aload_n 0, 1) := dgX11_play_23.2.2.1
theorem dX11_play_26 : decode cX11_play 26 = .ok (.getfield 33, 3) := dgX11_play_23.2.2.2.1
theorem dX11_play_29 : decode cX11_play 29 = .ok (.invokevirtual 154, 3) := dgX11_play_23.2.2.2.2.1
theorem dX11_play_32 : decode cX11_play 32 = .ok (.aload_n 0, 1) := dgX11_play_23.2.2.2.2.2.1
theorem dX11_play_33 : decode cX11_play 33 = .ok (.iconst 1, 1) := dgX11_play_23.2.2.2.2.2.2.1
theorem dX11_play_34 : decode cX11_play 34 = .ok (.putfield 157, 3) := dgX11_play_23.2.2.2.2.2.2.2.1
theorem dX11_play_37 : decode cX11_play 37 = .ok (.iconst 0, 1) := dgX11_play_23.2.2.2.2.2.2.2.2.1
theorem dX11_play_38 : decode cX11_play 38 = .ok (.istore_n 2, 1) := dgX11_play_23.2.2.2.2.2.2.2.2.2.1
theorem dX11_play_39 : decode cX11_play 39 = .ok (.iload_n 2, 1) := dgX11_play_23.2.2.2.2.2.2.2.2.2.2.1
theorem dX11_play_40 : decode cX11_play 40 = .ok (.aload_n 0, 1) := dgX11_play_23.2.2.2.2.2.2.2.2.2.2.2.1
theorem dgX11_play_41 : (decode cX11_play 41 = .ok (.getfield 10, 3)) ∧ (decode cX11_play 44 = .ok (.getfield 161, 3)) ∧ (decode cX11_play 47 = .ok (.if_icmp .ge 36, 3)) ∧ (decode cX11_play 50 = .ok (.aload_n 0, 1)) ∧ (decode cX11_play 51 = .ok (.iload_n 2, 1)) ∧ (decode cX11_play 52 = .ok (.invokevirtual 164, 3)) ∧ (decode cX11_play 55 = .ok (.istore_n 3, 1)) ∧ (decode cX11_play 56 = .ok (.iload_n 3, 1)) ∧ (decode cX11_play 57 = .ok (.ifCond .eq 20, 3)) ∧ (decode cX11_play 60 = .ok (.iload_n 3, 1)) ∧ (decode cX11_play 61 = .ok (.bipush (-5), 2)) ∧ (decode cX11_play 63 = .ok (.if_icmp .ne 8, 3)) ∧ True := dkW [(41, .getfield 10, 3), (44, .getfield 161, 3), (47, .if_icmp .ge 36, 3), (50, .aload_n 0, 1), (51, .iload_n 2, 1), (52, .invokevirtual 164, 3), (55, .istore_n 3, 1), (56, .iload_n 3, 1), (57, .ifCond .eq 20, 3), (60, .iload_n 3, 1), (61, .bipush (-5), 2), (63, .if_icmp .ne 8, 3)] 41 (by decide +kernel)
theorem dX11_play_41 : decode cX11_play 41 = .ok (.getfield 10, 3) := dgX11_play_41.1
theorem dX11_play_44 : decode cX11_play 44 = .ok (.getfield 161, 3) := dgX11_play_41.2.1
theorem dX11_play_47 : decode cX11_play 47 = .ok (.if_icmp .ge 36, 3) := dgX11_play_41.2.2.1
theorem dX11_play_50 : decode cX11_play 50 = .ok (.aload_n 0, 1) := dgX11_play_41.2.2.2.1
theorem dX11_play_51 : decode cX11_play 51 = .ok (.iload_n 2, 1) := dgX11_play_41.2.2.2.2.1
theorem dX11_play_52 : decode cX11_play 52 = .ok (.invokevirtual 164, 3) := dgX11_play_41.2.2.2.2.2.1
theorem dX11_play_55 : decode cX11_play 55 = .ok (.istore_n 3, 1) := dgX11_play_41.2.2.2.2.2.2.1
theorem dX11_play_56 : decode cX11_play 56 = .ok (.iload_n 3, 1) := dgX11_play_41.2.2.2.2.2.2.2.1
theorem dX11_play_57 : decode cX11_play 57 = .ok (.ifCond .eq 20, 3) := dgX11_play_41.2.2.2.2.2.2.2.2.1
theorem dX11_play_60 : decode cX11_play 60 = .ok (.iload_n 3, 1) := dgX11_play_41.2.2.2.2.2.2.2.2.2.1
theorem dX11_play_61 : decode cX11_play 61 = .ok (.bipush (-5), 2) := dgX11_play_41.2.2.2.2.2.2.2.2.2.2.1
theorem dX11_play_63 : decode cX11_play 63 = .ok (.if_icmp .ne 8, 3) := dgX11_play_41.2.2.2.2.2.2.2.2.2.2.2.1
theorem dgX11_play_66 : (decode cX11_play 66 = .ok (.bipush (-5), 2)) ∧ (decode cX11_play 68 = .ok (.goto 8, 3)) ∧ (decode cX11_play 71 = .ok (.sipush (-1000), 3)) ∧ (decode cX11_play 74 = .ok (.iload_n 2, 1)) ∧ (decode cX11_play 75 = .ok (.isub, 1)) ∧ (decode cX11_play 76 = .ok (.ireturn, 1)) ∧ (decode cX11_play 77 = .ok (.iinc 2 1, 3)) ∧ (decode cX11_play 80 = .ok (.goto (-41), 3)) ∧ (decode cX11_play 83 = .ok (.aload_n 0, 1)) ∧ (decode cX11_play 84 = .ok (.getfield 10, 3)) ∧ (decode cX11_play 87 = .ok (.getfield 161, 3)) ∧ (decode cX11_play 90 = .ok (.ireturn, 1)) ∧ True := dkW [(66, .bipush (-5), 2), (68, .goto 8, 3), (71, .sipush (-1000), 3), (74, .iload_n 2, 1), (75, .isub, 1), (76, .ireturn, 1), (77, .iinc 2 1, 3), (80, .goto (-41), 3), (83, .aload_n 0, 1), (84, .getfield 10, 3), (87, .getfield 161, 3), (90, .ireturn, 1)] 66 (by decide +kernel)
theorem dX11_play_66 : decode cX11_play 66 = .ok (.bipush (-5), 2) := dgX11_play_66.1
theorem dX11_play_68 : decode cX11_play 68 = .ok (.goto 8, 3) := dgX11_play_66.2.1
theorem dX11_play_71 : decode cX11_play 71 = .ok (.sipush (-1000), 3) := dgX11_play_66.2.2.1
theorem dX11_play_74 : decode cX11_play 74 = .ok (.iload_n 2, 1) := dgX11_play_66.2.2.2.1
theorem dX11_play_75 : decode cX11_play 75 = .ok (.isub, 1) := dgX11_play_66.2.2.2.2.1
theorem dX11_play_76 : decode cX11_play 76 = .ok (.ireturn, 1) := dgX11_play_66.2.2.2.2.2.1
theorem dX11_play_77 : decode cX11_play 77 = .ok (.iinc 2 1, 3) := dgX11_play_66.2.2.2.2.2.2.1
theorem dX11_play_80 : decode cX11_play 80 = .ok (.goto (-41), 3) := dgX11_play_66.2.2.2.2.2.2.2.1
theorem dX11_play_83 : decode cX11_play 83 = .ok (.aload_n 0, 1) := dgX11_play_66.2.2.2.2.2.2.2.2.1
theorem dX11_play_84 : decode cX11_play 84 = .ok (.getfield 10, 3) := dgX11_play_66.2.2.2.2.2.2.2.2.2.1
theorem dX11_play_87 : decode cX11_play 87 = .ok (.getfield 161, 3) := dgX11_play_66.2.2.2.2.2.2.2.2.2.2.1
theorem dX11_play_90 : decode cX11_play 90 = .ok (.ireturn, 1) := dgX11_play_66.2.2.2.2.2.2.2.2.2.2.2.1
abbrev rmX11_play : Room := { frames := 6, cells := 0, slots := 0, locals := 140 }
noncomputable def fX11_play_b76 (N : Nat)  (t : Nat) (h : Hs) (u0 : Int32) : Option (Int32 × Hs) :=
  some (u0, h)
set_option maxHeartbeats 4000000 in
set_option maxRecDepth 20000 in
theorem wX11_play_b76 {p : Program} {l : Launch} {e : Env} {s : State} {m : MethodId} {args : Array Value} {below : List Frame} {meth : Method} {c : Code} {G : Gl} {N : Nat} {h : Hs} {r : Int32 × Hs}  {t : Nat} {u0 : Int32} (C : Cx p s m args meth c cX11_play RX11 4 G) (hret : meth.sig.returnType = (some .int))  (hf : fX11_play_b76 N  t h u0 = some r) : V p l e rmX11_play s m args below meth c G 4 (MQ below (QcG G (some (.inl r.1)) r.2) args s rmX11_play.cells rmX11_play.slots (AG G)) h 0 0 76 [some (.inr (some t)), none, none, none] [.inl u0] := by
  unfold fX11_play_b76 at hf
  exact r_iretF C dX11_play_76 hret hf (by decide) (by decide)
noncomputable def fX11_play_b39_body (N : Nat)  (g39 : Hs → Int32 → Option (Int32 × Hs)) (t : Nat) (h : Hs) (x2 : Int32) : Option (Int32 × Hs) :=
  (oR 11 3 h (some t)).bind fun o1 =>
  (oI 8 5 h o1).bind fun v2 =>
  if v2 ≤ x2 then (
  (oR 11 3 h (some t)).bind fun o3 =>
  (oI 8 5 h o3).bind fun v4 =>
  some (v4, h))
  else (rc 11 h (some t)).bind fun a6 =>
  (fX11_playLine N h a6 x2).bind fun r5 =>
  if r5.1 = 0 then (
  (some (x2 + 1)).bind fun y7 =>
  g39 r5.2 y7)
  else if r5.1 = (-5) then (
  fX11_play_b76 N t r5.2 (-5))
  else fX11_play_b76 N t r5.2 ((-1000) - x2)
noncomputable def fX11_play_b39 (N : Nat)  (t : Nat) (n : Nat) : Hs → Int32 → Option (Int32 × Hs) := lp (fun _ _ => none) (fun g h x2 => fX11_play_b39_body N  g t h x2) n
set_option maxHeartbeats 4000000 in
set_option maxRecDepth 20000 in
theorem wX11_play_b39_body {p : Program} {l : Launch} {e : Env} {s : State} {m : MethodId} {args : Array Value} {below : List Frame} {meth : Method} {c : Code} {G : Gl} {N : Nat} {h : Hs} {r : Int32 × Hs}  {g39 : Hs → Int32 → Option (Int32 × Hs)} {t : Nat} {x2 : Int32} (C : Cx p s m args meth c cX11_play RX11 4 G) (hret : meth.sig.returnType = (some .int))  (hg39 : ∀ (h : Hs) (x2 : Int32), g39 h x2 = some r → V p l e rmX11_play s m args below meth c G 4 (MQ below (QcG G (some (.inl r.1)) r.2) args s rmX11_play.cells rmX11_play.slots (AG G)) h 0 0 39 [some (.inr (some t)), none, some (.inl x2), none] []) (hf : fX11_play_b39_body N  g39 t h x2 = some r) : V p l e rmX11_play s m args below meth c G 4 (MQ below (QcG G (some (.inl r.1)) r.2) args s rmX11_play.cells rmX11_play.slots (AG G)) h 0 0 39 [some (.inr (some t)), none, some (.inl x2), none] [] := by
  unfold fX11_play_b39_body at hf
  refine r_iload_n C dX11_play_39 rfl ?_
  refine r_aload_n C dX11_play_40 rfl ?_
  obtain ⟨o1, eo1, hf⟩ := bS hf
  refine r_getR C dX11_play_41 fl_X11_10 rfl eo1 ?_
  obtain ⟨v2, ev2, hf⟩ := bS hf
  refine r_getI C dX11_play_44 fl_X11_161 rfl ev2 ?_
  refine r_icmp_ge (tgt := 83) C dX11_play_47 (by decide) (fun hc => ?_) (fun hc => ?_)
  · have hf := ifT hf hc
    refine r_aload_n C dX11_play_83 rfl ?_
    obtain ⟨o3, eo3, hf⟩ := bS hf
    refine r_getR C dX11_play_84 fl_X11_10 rfl eo3 ?_
    obtain ⟨v4, ev4, hf⟩ := bS hf
    refine r_getI C dX11_play_87 fl_X11_161 rfl ev4 ?_
    exact r_iretF C dX11_play_90 hret hf (by decide) (by decide)
  · have hf := ifF hf hc
    refine r_aload_n C dX11_play_50 rfl ?_
    refine r_iload_n C dX11_play_51 rfl ?_
    obtain ⟨a6, ea6, hf⟩ := bS hf
    obtain ⟨r5, er5, hf⟩ := bS hf
    refine r_invV1 (As := [.inl x2]) (ci := 11) C dX11_play_52 mcX11_playLine wd_828 wd_830 wp_24 rfl rfl (by decide) ⟨by decide, by decide⟩ ⟨by decide, by decide⟩ rfl (Nat.le_of_ble_eq_true rfl) ea6 (kX11_playLine l G er5) ?_
    refine r_istore_n C dX11_play_55 (by decide) ?_
    refine r_iload_n C dX11_play_56 rfl ?_
    refine r_if_eq (tgt := 77) C dX11_play_57 (by decide) (fun hc => ?_) (fun hc => ?_)
    · have hf := ifT hf hc
      obtain ⟨y7, ey7, hf⟩ := bS hf
      refine r_iincE (v := 1) C dX11_play_77 rfl (by decide) (by decide) ey7 ?_
      refine r_goto (tgt := 39) C dX11_play_80 (by decide) ?_
      exact V.sub (hg39 _ _ hf) (LW_s rfl (LW_n (LW_s rfl (LW_n (LW_e)))))
    · have hf := ifF hf hc
      refine r_iload_n C dX11_play_60 rfl ?_
      refine r_bipush (v := -5) C dX11_play_61 (by decide) ?_
      refine r_icmp_ne (tgt := 71) C dX11_play_63 (by decide) (fun hc => ?_) (fun hc => ?_)
      · have hf := ifF hf hc
        refine r_sipush (v := -1000) C dX11_play_71 (by decide) ?_
        refine r_iload_n C dX11_play_74 rfl ?_
        refine r_isub C dX11_play_75 ?_
        exact V.sub (wX11_play_b76 C hret hf) (LW_s rfl (LW_n (LW_n (LW_n (LW_e)))))
      · have hf := ifT hf hc
        refine r_bipush (v := -5) C dX11_play_66 (by decide) ?_
        refine r_goto (tgt := 76) C dX11_play_68 (by decide) ?_
        exact V.sub (wX11_play_b76 C hret hf) (LW_s rfl (LW_n (LW_n (LW_n (LW_e)))))
theorem wX11_play_b39 {p : Program} {l : Launch} {e : Env} {s : State} {m : MethodId} {args : Array Value} {below : List Frame} {meth : Method} {c : Code} {G : Gl} {N : Nat} {r : Int32 × Hs}  {t : Nat} (C : Cx p s m args meth c cX11_play RX11 4 G) (hret : meth.sig.returnType = (some .int))  : ∀ (n : Nat) (h : Hs) (x2 : Int32), fX11_play_b39 N  t n h x2 = some r → V p l e rmX11_play s m args below meth c G 4 (MQ below (QcG G (some (.inl r.1)) r.2) args s rmX11_play.cells rmX11_play.slots (AG G)) h 0 0 39 [some (.inr (some t)), none, some (.inl x2), none] [] := by
  intro n
  induction n with
  | zero => intro h x2 hf; exact absurd (show (none : Option (Int32 × Hs)) = some r from hf) (fun q => by cases q)
  | succ n ih => intro h x2 hf; exact wX11_play_b39_body C hret  ih (show fX11_play_b39_body N  (fX11_play_b39 N  t n) t h x2 = some r from hf)
noncomputable def fX11_play (N : Nat) (h : Hs) (t : Nat)  : Option (Int32 × Hs) :=
  (oR 11 3 h (some t)).bind fun o1 =>
  (rc 8 h o1).bind fun a3 =>
  (fX8_readLines N h a3 ).bind fun r2 =>
  (oR 11 3 r2.2 (some t)).bind fun o4 =>
  (qI 8 4 r2.2 o4 0).bind fun h5 =>
  if r2.1 < 0 then (
  (oR 11 0 h5 (some t)).bind fun o6 =>
  (rc 5 h5 o6).bind fun a8 =>
  (fX5_keep N h5 a8 ).bind fun r7 =>
  (qZ 11 6 r7 (some t) 1).bind fun h9 =>
  fX11_play_b39 N t N h9 0)
  else some ((-100) - r2.1, h5)
set_option maxHeartbeats 4000000 in
set_option maxRecDepth 20000 in
theorem kX11_play (l : Launch) (G : Gl) {N : Nat} {h : Hs} {t : Nat}  {r : Int32 × Hs} (hf : fX11_play N h t  = some r) : CT l G yX11_play cX11_play 4 (some .int) rmX11_play [.inr (some t)] h (some (.inl r.1)) r.2 := by
  refine mk_CT (by decide) (Nat.le_of_ble_eq_true rfl) ?_
  intro p e s m args below meth c C hret hin
  unfold fX11_play at hf
  refine r_aload_n C dX11_play_0 rfl ?_
  obtain ⟨o1, eo1, hf⟩ := bS hf
  refine r_getR C dX11_play_1 fl_X11_10 rfl eo1 ?_
  obtain ⟨a3, ea3, hf⟩ := bS hf
  obtain ⟨r2, er2, hf⟩ := bS hf
  refine r_invV1 (As := []) (ci := 8) C dX11_play_4 mcX8_readLines wd_793 wd_794 wd_795 rfl rfl (by decide) ⟨by decide, by decide⟩ ⟨by decide, by decide⟩ rfl (Nat.le_of_ble_eq_true rfl) ea3 (kX8_readLines l G er2) ?_
  refine r_istore_n C dX11_play_7 (by decide) ?_
  refine r_aload_n C dX11_play_8 rfl ?_
  obtain ⟨o4, eo4, hf⟩ := bS hf
  refine r_getR C dX11_play_9 fl_X11_10 rfl eo4 ?_
  refine r_iconst (v := 0) C dX11_play_12 (by decide) ?_
  obtain ⟨h5, eh5, hf⟩ := bS hf
  refine r_putI C dX11_play_13 fl_X11_150 (Or.inl fn_8_4) rfl eh5 ?_
  refine r_iload_n C dX11_play_16 rfl ?_
  refine r_if_lt (tgt := 25) C dX11_play_17 (by decide) (fun hc => ?_) (fun hc => ?_)
  · have hf := ifT hf hc
    refine r_aload_n C dX11_play_25 rfl ?_
    obtain ⟨o6, eo6, hf⟩ := bS hf
    refine r_getR C dX11_play_26 fl_X11_33 rfl eo6 ?_
    obtain ⟨a8, ea8, hf⟩ := bS hf
    obtain ⟨r7, er7, hf⟩ := bS hf
    refine r_invV0 (As := []) (ci := 5) C dX11_play_29 mcX5_keep wd_821 wd_822 wd_823 rfl rfl (by decide) ⟨by decide, by decide⟩ ⟨by decide, by decide⟩ rfl (Nat.le_of_ble_eq_true rfl) ea8 (kX5_keep l G er7) ?_
    refine r_aload_n C dX11_play_32 rfl ?_
    refine r_iconst (v := 1) C dX11_play_33 (by decide) ?_
    obtain ⟨h9, eh9, hf⟩ := bS hf
    refine r_putZ C dX11_play_34 fl_X11_157 (Or.inl fn_11_6) rfl eh9 ?_
    refine r_iconst (v := 0) C dX11_play_37 (by decide) ?_
    refine r_istore_n C dX11_play_38 (by decide) ?_
    exact V.sub (wX11_play_b39 C hret N _ _ hf) (LW_s rfl (LW_n (LW_s rfl (LW_n (LW_e)))))
  · have hf := ifF hf hc
    refine r_bipush (v := -100) C dX11_play_20 (by decide) ?_
    refine r_iload_n C dX11_play_22 rfl ?_
    refine r_isub C dX11_play_23 ?_
    exact r_iretF C dX11_play_24 hret hf (by decide) (by decide)

theorem dgX11_back_0 : (decode cX11_back 0 = .ok (.aload_n 0, 1)) ∧ (decode cX11_back 1 = .ok (.getfield 157, 3)) ∧ (decode cX11_back 4 = .ok (.ifCond .ne 6, 3)) ∧ (decode cX11_back 7 = .ok (.bipush (-2), 2)) ∧ (decode cX11_back 9 = .ok (.ireturn, 1)) ∧ (decode cX11_back 10 = .ok (.aload_n 0, 1)) ∧ (decode cX11_back 11 = .ok (.iconst 0, 1)) ∧ (decode cX11_back 12 = .ok (.putfield 157, 3)) ∧ (decode cX11_back 15 = .ok (.aload_n 0, 1)) ∧ (decode cX11_back 16 = .ok (.getfield 33, 3)) ∧ (decode cX11_back 19 = .ok (.invokevirtual 167, 3)) ∧ (decode cX11_back 22 = .ok (.iconst 1, 1)) ∧ True := dkW [(0, .aload_n 0, 1), (1, .getfield 157, 3), (4, .ifCond .ne 6, 3), (7, .bipush (-2), 2), (9, .ireturn, 1), (10, .aload_n 0, 1), (11, .iconst 0, 1), (12, .putfield 157, 3), (15, .aload_n 0, 1), (16, .getfield 33, 3), (19, .invokevirtual 167, 3), (22, .iconst 1, 1)] 0 (by decide +kernel)
theorem dX11_back_0 : decode cX11_back 0 = .ok (.aload_n 0, 1) := dgX11_back_0.1
theorem dX11_back_1 : decode cX11_back 1 = .ok (.getfield 157, 3) := dgX11_back_0.2.1
theorem dX11_back_4 : decode cX11_back 4 = .ok (.ifCond .ne 6, 3) := dgX11_back_0.2.2.1
theorem dX11_back_7 : decode cX11_back 7 = .ok (.bipush (-2), 2) := dgX11_back_0.2.2.2.1
theorem dX11_back_9 : decode cX11_back 9 = .ok (.ireturn, 1) := dgX11_back_0.2.2.2.2.1
theorem dX11_back_10 : decode cX11_back 10 = .ok (.aload_n 0, 1) := dgX11_back_0.2.2.2.2.2.1
theorem dX11_back_11 : decode cX11_back 11 = .ok (.iconst 0, 1) := dgX11_back_0.2.2.2.2.2.2.1
theorem dX11_back_12 : decode cX11_back 12 = .ok (.putfield 157, 3) := dgX11_back_0.2.2.2.2.2.2.2.1
theorem dX11_back_15 : decode cX11_back 15 = .ok (.aload_n 0, 1) := dgX11_back_0.2.2.2.2.2.2.2.2.1
theorem dX11_back_16 : decode cX11_back 16 = .ok (.getfield 33, 3) := dgX11_back_0.2.2.2.2.2.2.2.2.2.1
theorem dX11_back_19 : decode cX11_back 19 = .ok (.invokevirtual 167, 3) := dgX11_back_0.2.2.2.2.2.2.2.2.2.2.1
theorem dX11_back_22 : decode cX11_back 22 = .ok (.iconst 1, 1) := dgX11_back_0.2.2.2.2.2.2.2.2.2.2.2.1
theorem dgX11_back_23 : (decode cX11_back 23 = .ok (.ireturn, 1)) ∧ True := dkW [(23, .ireturn, 1)] 23 (by decide +kernel)
theorem dX11_back_23 : decode cX11_back 23 = .ok (.ireturn, 1) := dgX11_back_23.1
abbrev rmX11_back : Room := { frames := 2, cells := 0, slots := 0, locals := 40 }
noncomputable def fX11_back (N : Nat) (h : Hs) (t : Nat)  : Option (Int32 × Hs) :=
  (oI 11 6 h (some t)).bind fun v1 =>
  if v1 = 0 then (
  some ((-2), h))
  else (qZ 11 6 h (some t) 0).bind fun h2 =>
  (oR 11 0 h2 (some t)).bind fun o3 =>
  (rc 5 h2 o3).bind fun a5 =>
  (fX5_restore N h2 a5 ).bind fun r4 =>
  some (1, r4)
set_option maxHeartbeats 4000000 in
set_option maxRecDepth 20000 in
theorem kX11_back (l : Launch) (G : Gl) {N : Nat} {h : Hs} {t : Nat}  {r : Int32 × Hs} (hf : fX11_back N h t  = some r) : CT l G yX11_back cX11_back 1 (some .int) rmX11_back [.inr (some t)] h (some (.inl r.1)) r.2 := by
  refine mk_CT (by decide) (Nat.le_of_ble_eq_true rfl) ?_
  intro p e s m args below meth c C hret hin
  unfold fX11_back at hf
  refine r_aload_n C dX11_back_0 rfl ?_
  obtain ⟨v1, ev1, hf⟩ := bS hf
  refine r_getI C dX11_back_1 fl_X11_157 rfl ev1 ?_
  refine r_if_ne (tgt := 10) C dX11_back_4 (by decide) (fun hc => ?_) (fun hc => ?_)
  · have hf := ifF hf hc
    refine r_aload_n C dX11_back_10 rfl ?_
    refine r_iconst (v := 0) C dX11_back_11 (by decide) ?_
    obtain ⟨h2, eh2, hf⟩ := bS hf
    refine r_putZ C dX11_back_12 fl_X11_157 (Or.inl fn_11_6) rfl eh2 ?_
    refine r_aload_n C dX11_back_15 rfl ?_
    obtain ⟨o3, eo3, hf⟩ := bS hf
    refine r_getR C dX11_back_16 fl_X11_33 rfl eo3 ?_
    obtain ⟨a5, ea5, hf⟩ := bS hf
    obtain ⟨r4, er4, hf⟩ := bS hf
    refine r_invV0 (As := []) (ci := 5) C dX11_back_19 mcX5_restore wd_837 wd_838 wd_839 rfl rfl (by decide) ⟨by decide, by decide⟩ ⟨by decide, by decide⟩ rfl (Nat.le_of_ble_eq_true rfl) ea5 (kX5_restore l G er4) ?_
    refine r_iconst (v := 1) C dX11_back_22 (by decide) ?_
    exact r_iretF C dX11_back_23 hret hf (by decide) (by decide)
  · have hf := ifT hf hc
    refine r_bipush (v := -2) C dX11_back_7 (by decide) ?_
    exact r_iretF C dX11_back_9 hret hf (by decide) (by decide)

theorem dgX11_candle_0 : (decode cX11_candle 0 = .ok (.aload_n 0, 1)) ∧ (decode cX11_candle 1 = .ok (.getfield 19, 3)) ∧ (decode cX11_candle 4 = .ok (.iload_n 1, 1)) ∧ (decode cX11_candle 5 = .ok (.invokevirtual 170, 3)) ∧ (decode cX11_candle 8 = .ok (.ireturn, 1)) ∧ True := dkW [(0, .aload_n 0, 1), (1, .getfield 19, 3), (4, .iload_n 1, 1), (5, .invokevirtual 170, 3), (8, .ireturn, 1)] 0 (by decide +kernel)
theorem dX11_candle_0 : decode cX11_candle 0 = .ok (.aload_n 0, 1) := dgX11_candle_0.1
theorem dX11_candle_1 : decode cX11_candle 1 = .ok (.getfield 19, 3) := dgX11_candle_0.2.1
theorem dX11_candle_4 : decode cX11_candle 4 = .ok (.iload_n 1, 1) := dgX11_candle_0.2.2.1
theorem dX11_candle_5 : decode cX11_candle 5 = .ok (.invokevirtual 170, 3) := dgX11_candle_0.2.2.2.1
theorem dX11_candle_8 : decode cX11_candle 8 = .ok (.ireturn, 1) := dgX11_candle_0.2.2.2.2.1
abbrev rmX11_candle : Room := { frames := 2, cells := 0, slots := 0, locals := 43 }
noncomputable def fX11_candle (N : Nat) (h : Hs) (t : Nat) (p1 : Int32) : Option (Int32 × Hs) :=
  (oR 11 4 h (some t)).bind fun o1 =>
  (rc 0 h o1).bind fun a3 =>
  (fX0_add N h a3 p1).bind fun r2 =>
  some (r2.1, r2.2)
set_option maxHeartbeats 4000000 in
set_option maxRecDepth 20000 in
theorem kX11_candle (l : Launch) (G : Gl) {N : Nat} {h : Hs} {t : Nat} {p1 : Int32} {r : Int32 × Hs} (hf : fX11_candle N h t p1 = some r) : CT l G yX11_candle cX11_candle 2 (some .int) rmX11_candle [.inr (some t), .inl p1] h (some (.inl r.1)) r.2 := by
  refine mk_CT (by decide) (Nat.le_of_ble_eq_true rfl) ?_
  intro p e s m args below meth c C hret hin
  unfold fX11_candle at hf
  refine r_aload_n C dX11_candle_0 rfl ?_
  obtain ⟨o1, eo1, hf⟩ := bS hf
  refine r_getR C dX11_candle_1 fl_X11_19 rfl eo1 ?_
  refine r_iload_n C dX11_candle_4 rfl ?_
  obtain ⟨a3, ea3, hf⟩ := bS hf
  obtain ⟨r2, er2, hf⟩ := bS hf
  refine r_invV1 (As := [.inl p1]) (ci := 0) C dX11_candle_5 mcX0_add wd_845 wd_846 wd_847 rfl rfl (by decide) ⟨by decide, by decide⟩ ⟨by decide, by decide⟩ rfl (Nat.le_of_ble_eq_true rfl) ea3 (kX0_add l G er2) ?_
  exact r_iretF C dX11_candle_8 hret hf (by decide) (by decide)

theorem dgX11_minutes_0 : (decode cX11_minutes 0 = .ok (.aload_n 0, 1)) ∧ (decode cX11_minutes 1 = .ok (.getfield 19, 3)) ∧ (decode cX11_minutes 4 = .ok (.iload_n 1, 1)) ∧ (decode cX11_minutes 5 = .ok (.invokevirtual 173, 3)) ∧ (decode cX11_minutes 8 = .ok (.ireturn, 1)) ∧ True := dkW [(0, .aload_n 0, 1), (1, .getfield 19, 3), (4, .iload_n 1, 1), (5, .invokevirtual 173, 3), (8, .ireturn, 1)] 0 (by decide +kernel)
theorem dX11_minutes_0 : decode cX11_minutes 0 = .ok (.aload_n 0, 1) := dgX11_minutes_0.1
theorem dX11_minutes_1 : decode cX11_minutes 1 = .ok (.getfield 19, 3) := dgX11_minutes_0.2.1
theorem dX11_minutes_4 : decode cX11_minutes 4 = .ok (.iload_n 1, 1) := dgX11_minutes_0.2.2.1
theorem dX11_minutes_5 : decode cX11_minutes 5 = .ok (.invokevirtual 173, 3) := dgX11_minutes_0.2.2.2.1
theorem dX11_minutes_8 : decode cX11_minutes 8 = .ok (.ireturn, 1) := dgX11_minutes_0.2.2.2.2.1
abbrev rmX11_minutes : Room := { frames := 2, cells := 0, slots := 0, locals := 43 }
noncomputable def fX11_minutes (N : Nat) (h : Hs) (t : Nat) (p1 : Int32) : Option (Int32 × Hs) :=
  (oR 11 4 h (some t)).bind fun o1 =>
  (rc 0 h o1).bind fun a3 =>
  (fX0_pass N h a3 p1).bind fun r2 =>
  some (r2.1, r2.2)
set_option maxHeartbeats 4000000 in
set_option maxRecDepth 20000 in
theorem kX11_minutes (l : Launch) (G : Gl) {N : Nat} {h : Hs} {t : Nat} {p1 : Int32} {r : Int32 × Hs} (hf : fX11_minutes N h t p1 = some r) : CT l G yX11_minutes cX11_minutes 2 (some .int) rmX11_minutes [.inr (some t), .inl p1] h (some (.inl r.1)) r.2 := by
  refine mk_CT (by decide) (Nat.le_of_ble_eq_true rfl) ?_
  intro p e s m args below meth c C hret hin
  unfold fX11_minutes at hf
  refine r_aload_n C dX11_minutes_0 rfl ?_
  obtain ⟨o1, eo1, hf⟩ := bS hf
  refine r_getR C dX11_minutes_1 fl_X11_19 rfl eo1 ?_
  refine r_iload_n C dX11_minutes_4 rfl ?_
  obtain ⟨a3, ea3, hf⟩ := bS hf
  obtain ⟨r2, er2, hf⟩ := bS hf
  refine r_invV1 (As := [.inl p1]) (ci := 0) C dX11_minutes_5 mcX0_pass wd_854 wd_855 wd_856 rfl rfl (by decide) ⟨by decide, by decide⟩ ⟨by decide, by decide⟩ rfl (Nat.le_of_ble_eq_true rfl) ea3 (kX0_pass l G er2) ?_
  exact r_iretF C dX11_minutes_8 hret hf (by decide) (by decide)

theorem dgX11_trim_0 : (decode cX11_trim 0 = .ok (.aload_n 0, 1)) ∧ (decode cX11_trim 1 = .ok (.getfield 19, 3)) ∧ (decode cX11_trim 4 = .ok (.iload_n 1, 1)) ∧ (decode cX11_trim 5 = .ok (.invokevirtual 176, 3)) ∧ (decode cX11_trim 8 = .ok (.ireturn, 1)) ∧ True := dkW [(0, .aload_n 0, 1), (1, .getfield 19, 3), (4, .iload_n 1, 1), (5, .invokevirtual 176, 3), (8, .ireturn, 1)] 0 (by decide +kernel)
theorem dX11_trim_0 : decode cX11_trim 0 = .ok (.aload_n 0, 1) := dgX11_trim_0.1
theorem dX11_trim_1 : decode cX11_trim 1 = .ok (.getfield 19, 3) := dgX11_trim_0.2.1
theorem dX11_trim_4 : decode cX11_trim 4 = .ok (.iload_n 1, 1) := dgX11_trim_0.2.2.1
theorem dX11_trim_5 : decode cX11_trim 5 = .ok (.invokevirtual 176, 3) := dgX11_trim_0.2.2.2.1
theorem dX11_trim_8 : decode cX11_trim 8 = .ok (.ireturn, 1) := dgX11_trim_0.2.2.2.2.1
abbrev rmX11_trim : Room := { frames := 2, cells := 0, slots := 0, locals := 45 }
noncomputable def fX11_trim (N : Nat) (h : Hs) (t : Nat) (p1 : Int32) : Option (Int32 × Hs) :=
  (oR 11 4 h (some t)).bind fun o1 =>
  (rc 0 h o1).bind fun a3 =>
  (fX0_renew N h a3 p1).bind fun r2 =>
  some (r2.1, r2.2)
set_option maxHeartbeats 4000000 in
set_option maxRecDepth 20000 in
theorem kX11_trim (l : Launch) (G : Gl) {N : Nat} {h : Hs} {t : Nat} {p1 : Int32} {r : Int32 × Hs} (hf : fX11_trim N h t p1 = some r) : CT l G yX11_trim cX11_trim 2 (some .int) rmX11_trim [.inr (some t), .inl p1] h (some (.inl r.1)) r.2 := by
  refine mk_CT (by decide) (Nat.le_of_ble_eq_true rfl) ?_
  intro p e s m args below meth c C hret hin
  unfold fX11_trim at hf
  refine r_aload_n C dX11_trim_0 rfl ?_
  obtain ⟨o1, eo1, hf⟩ := bS hf
  refine r_getR C dX11_trim_1 fl_X11_19 rfl eo1 ?_
  refine r_iload_n C dX11_trim_4 rfl ?_
  obtain ⟨a3, ea3, hf⟩ := bS hf
  obtain ⟨r2, er2, hf⟩ := bS hf
  refine r_invV1 (As := [.inl p1]) (ci := 0) C dX11_trim_5 mcX0_renew wd_862 wd_863 wd_864 rfl rfl (by decide) ⟨by decide, by decide⟩ ⟨by decide, by decide⟩ rfl (Nat.le_of_ble_eq_true rfl) ea3 (kX0_renew l G er2) ?_
  exact r_iretF C dX11_trim_8 hret hf (by decide) (by decide)

theorem dgX11_light_0 : (decode cX11_light 0 = .ok (.aload_n 0, 1)) ∧ (decode cX11_light 1 = .ok (.getfield 19, 3)) ∧ (decode cX11_light 4 = .ok (.iload_n 1, 1)) ∧ (decode cX11_light 5 = .ok (.invokevirtual 179, 3)) ∧ (decode cX11_light 8 = .ok (.ireturn, 1)) ∧ True := dkW [(0, .aload_n 0, 1), (1, .getfield 19, 3), (4, .iload_n 1, 1), (5, .invokevirtual 179, 3), (8, .ireturn, 1)] 0 (by decide +kernel)
theorem dX11_light_0 : decode cX11_light 0 = .ok (.aload_n 0, 1) := dgX11_light_0.1
theorem dX11_light_1 : decode cX11_light 1 = .ok (.getfield 19, 3) := dgX11_light_0.2.1
theorem dX11_light_4 : decode cX11_light 4 = .ok (.iload_n 1, 1) := dgX11_light_0.2.2.1
theorem dX11_light_5 : decode cX11_light 5 = .ok (.invokevirtual 179, 3) := dgX11_light_0.2.2.2.1
theorem dX11_light_8 : decode cX11_light 8 = .ok (.ireturn, 1) := dgX11_light_0.2.2.2.2.1
abbrev rmX11_light : Room := { frames := 2, cells := 0, slots := 0, locals := 44 }
noncomputable def fX11_light (N : Nat) (h : Hs) (t : Nat) (p1 : Int32) : Option (Int32 × Hs) :=
  (oR 11 4 h (some t)).bind fun o1 =>
  (rc 0 h o1).bind fun a3 =>
  (fX0_tell N h a3 p1).bind fun r2 =>
  some (r2.1, r2.2)
set_option maxHeartbeats 4000000 in
set_option maxRecDepth 20000 in
theorem kX11_light (l : Launch) (G : Gl) {N : Nat} {h : Hs} {t : Nat} {p1 : Int32} {r : Int32 × Hs} (hf : fX11_light N h t p1 = some r) : CT l G yX11_light cX11_light 2 (some .int) rmX11_light [.inr (some t), .inl p1] h (some (.inl r.1)) r.2 := by
  refine mk_CT (by decide) (Nat.le_of_ble_eq_true rfl) ?_
  intro p e s m args below meth c C hret hin
  unfold fX11_light at hf
  refine r_aload_n C dX11_light_0 rfl ?_
  obtain ⟨o1, eo1, hf⟩ := bS hf
  refine r_getR C dX11_light_1 fl_X11_19 rfl eo1 ?_
  refine r_iload_n C dX11_light_4 rfl ?_
  obtain ⟨a3, ea3, hf⟩ := bS hf
  obtain ⟨r2, er2, hf⟩ := bS hf
  refine r_invV1 (As := [.inl p1]) (ci := 0) C dX11_light_5 mcX0_tell wd_870 wd_871 wd_872 rfl rfl (by decide) ⟨by decide, by decide⟩ ⟨by decide, by decide⟩ rfl (Nat.le_of_ble_eq_true rfl) ea3 (kX0_tell l G er2) ?_
  exact r_iretF C dX11_light_8 hret hf (by decide) (by decide)

theorem dgX11_flat_0 : (decode cX11_flat 0 = .ok (.aload_n 0, 1)) ∧ (decode cX11_flat 1 = .ok (.getfield 26, 3)) ∧ (decode cX11_flat 4 = .ok (.iload_n 1, 1)) ∧ (decode cX11_flat 5 = .ok (.iload_n 2, 1)) ∧ (decode cX11_flat 6 = .ok (.invokevirtual 180, 3)) ∧ (decode cX11_flat 9 = .ok (.ireturn, 1)) ∧ True := dkW [(0, .aload_n 0, 1), (1, .getfield 26, 3), (4, .iload_n 1, 1), (5, .iload_n 2, 1), (6, .invokevirtual 180, 3), (9, .ireturn, 1)] 0 (by decide +kernel)
theorem dX11_flat_0 : decode cX11_flat 0 = .ok (.aload_n 0, 1) := dgX11_flat_0.1
theorem dX11_flat_1 : decode cX11_flat 1 = .ok (.getfield 26, 3) := dgX11_flat_0.2.1
theorem dX11_flat_4 : decode cX11_flat 4 = .ok (.iload_n 1, 1) := dgX11_flat_0.2.2.1
theorem dX11_flat_5 : decode cX11_flat 5 = .ok (.iload_n 2, 1) := dgX11_flat_0.2.2.2.1
theorem dX11_flat_6 : decode cX11_flat 6 = .ok (.invokevirtual 180, 3) := dgX11_flat_0.2.2.2.2.1
theorem dX11_flat_9 : decode cX11_flat 9 = .ok (.ireturn, 1) := dgX11_flat_0.2.2.2.2.2.1
abbrev rmX11_flat : Room := { frames := 3, cells := 1, slots := 3, locals := 65 }
noncomputable def fX11_flat (N : Nat) (h : Hs) (t : Nat) (p1 : Int32) (p2 : Int32) : Option (Int32 × Hs) :=
  (oR 11 5 h (some t)).bind fun o1 =>
  (rc 6 h o1).bind fun a3 =>
  (fX6_addFlat N h a3 p1 p2).bind fun r2 =>
  some (r2.1, r2.2)
set_option maxHeartbeats 4000000 in
set_option maxRecDepth 20000 in
theorem kX11_flat (l : Launch) (G : Gl) {N : Nat} {h : Hs} {t : Nat} {p1 : Int32} {p2 : Int32} {r : Int32 × Hs} (hf : fX11_flat N h t p1 p2 = some r) : CT l G yX11_flat cX11_flat 3 (some .int) rmX11_flat [.inr (some t), .inl p1, .inl p2] h (some (.inl r.1)) r.2 := by
  refine mk_CT (by decide) (Nat.le_of_ble_eq_true rfl) ?_
  intro p e s m args below meth c C hret hin
  unfold fX11_flat at hf
  refine r_aload_n C dX11_flat_0 rfl ?_
  obtain ⟨o1, eo1, hf⟩ := bS hf
  refine r_getR C dX11_flat_1 fl_X11_26 rfl eo1 ?_
  refine r_iload_n C dX11_flat_4 rfl ?_
  refine r_iload_n C dX11_flat_5 rfl ?_
  obtain ⟨a3, ea3, hf⟩ := bS hf
  obtain ⟨r2, er2, hf⟩ := bS hf
  refine r_invV1 (As := [.inl p1, .inl p2]) (ci := 6) C dX11_flat_6 mcX6_addFlat wd_886 wd_887 wd_888 rfl rfl (by decide) ⟨by decide, by decide⟩ ⟨by decide, by decide⟩ rfl (Nat.le_of_ble_eq_true rfl) ea3 (kX6_addFlat l G er2) ?_
  exact r_iretF C dX11_flat_9 hret hf (by decide) (by decide)

theorem dgX11_want_0 : (decode cX11_want 0 = .ok (.aload_n 0, 1)) ∧ (decode cX11_want 1 = .ok (.getfield 26, 3)) ∧ (decode cX11_want 4 = .ok (.iload_n 1, 1)) ∧ (decode cX11_want 5 = .ok (.iload_n 2, 1)) ∧ (decode cX11_want 6 = .ok (.invokevirtual 183, 3)) ∧ (decode cX11_want 9 = .ok (.ireturn, 1)) ∧ True := dkW [(0, .aload_n 0, 1), (1, .getfield 26, 3), (4, .iload_n 1, 1), (5, .iload_n 2, 1), (6, .invokevirtual 183, 3), (9, .ireturn, 1)] 0 (by decide +kernel)
theorem dX11_want_0 : decode cX11_want 0 = .ok (.aload_n 0, 1) := dgX11_want_0.1
theorem dX11_want_1 : decode cX11_want 1 = .ok (.getfield 26, 3) := dgX11_want_0.2.1
theorem dX11_want_4 : decode cX11_want 4 = .ok (.iload_n 1, 1) := dgX11_want_0.2.2.1
theorem dX11_want_5 : decode cX11_want 5 = .ok (.iload_n 2, 1) := dgX11_want_0.2.2.2.1
theorem dX11_want_6 : decode cX11_want 6 = .ok (.invokevirtual 183, 3) := dgX11_want_0.2.2.2.2.1
theorem dX11_want_9 : decode cX11_want 9 = .ok (.ireturn, 1) := dgX11_want_0.2.2.2.2.2.1
abbrev rmX11_want : Room := { frames := 3, cells := 1, slots := 3, locals := 65 }
noncomputable def fX11_want (N : Nat) (h : Hs) (t : Nat) (p1 : Int32) (p2 : Int32) : Option (Int32 × Hs) :=
  (oR 11 5 h (some t)).bind fun o1 =>
  (rc 6 h o1).bind fun a3 =>
  (fX6_addWant N h a3 p1 p2).bind fun r2 =>
  some (r2.1, r2.2)
set_option maxHeartbeats 4000000 in
set_option maxRecDepth 20000 in
theorem kX11_want (l : Launch) (G : Gl) {N : Nat} {h : Hs} {t : Nat} {p1 : Int32} {p2 : Int32} {r : Int32 × Hs} (hf : fX11_want N h t p1 p2 = some r) : CT l G yX11_want cX11_want 3 (some .int) rmX11_want [.inr (some t), .inl p1, .inl p2] h (some (.inl r.1)) r.2 := by
  refine mk_CT (by decide) (Nat.le_of_ble_eq_true rfl) ?_
  intro p e s m args below meth c C hret hin
  unfold fX11_want at hf
  refine r_aload_n C dX11_want_0 rfl ?_
  obtain ⟨o1, eo1, hf⟩ := bS hf
  refine r_getR C dX11_want_1 fl_X11_26 rfl eo1 ?_
  refine r_iload_n C dX11_want_4 rfl ?_
  refine r_iload_n C dX11_want_5 rfl ?_
  obtain ⟨a3, ea3, hf⟩ := bS hf
  obtain ⟨r2, er2, hf⟩ := bS hf
  refine r_invV1 (As := [.inl p1, .inl p2]) (ci := 6) C dX11_want_6 mcX6_addWant wd_913 wd_914 wd_915 rfl rfl (by decide) ⟨by decide, by decide⟩ ⟨by decide, by decide⟩ rfl (Nat.le_of_ble_eq_true rfl) ea3 (kX6_addWant l G er2) ?_
  exact r_iretF C dX11_want_9 hret hf (by decide) (by decide)

theorem dgX11_paint_0 : (decode cX11_paint 0 = .ok (.aload_n 0, 1)) ∧ (decode cX11_paint 1 = .ok (.getfield 26, 3)) ∧ (decode cX11_paint 4 = .ok (.invokevirtual 186, 3)) ∧ (decode cX11_paint 7 = .ok (.ireturn, 1)) ∧ True := dkW [(0, .aload_n 0, 1), (1, .getfield 26, 3), (4, .invokevirtual 186, 3), (7, .ireturn, 1)] 0 (by decide +kernel)
theorem dX11_paint_0 : decode cX11_paint 0 = .ok (.aload_n 0, 1) := dgX11_paint_0.1
theorem dX11_paint_1 : decode cX11_paint 1 = .ok (.getfield 26, 3) := dgX11_paint_0.2.1
theorem dX11_paint_4 : decode cX11_paint 4 = .ok (.invokevirtual 186, 3) := dgX11_paint_0.2.2.1
theorem dX11_paint_7 : decode cX11_paint 7 = .ok (.ireturn, 1) := dgX11_paint_0.2.2.2.1
abbrev rmX11_paint : Room := { frames := 6, cells := 0, slots := 0, locals := 133 }
noncomputable def fX11_paint (N : Nat) (h : Hs) (t : Nat)  : Option (Int32 × Hs) :=
  (oR 11 5 h (some t)).bind fun o1 =>
  (rc 6 h o1).bind fun a3 =>
  (fX6_leastPainting N h a3 ).bind fun r2 =>
  some (r2.1, r2.2)
set_option maxHeartbeats 4000000 in
set_option maxRecDepth 20000 in
theorem kX11_paint (l : Launch) (G : Gl) {N : Nat} {h : Hs} {t : Nat}  {r : Int32 × Hs} (hf : fX11_paint N h t  = some r) : CT l G yX11_paint cX11_paint 1 (some .int) rmX11_paint [.inr (some t)] h (some (.inl r.1)) r.2 := by
  refine mk_CT (by decide) (Nat.le_of_ble_eq_true rfl) ?_
  intro p e s m args below meth c C hret hin
  unfold fX11_paint at hf
  refine r_aload_n C dX11_paint_0 rfl ?_
  obtain ⟨o1, eo1, hf⟩ := bS hf
  refine r_getR C dX11_paint_1 fl_X11_26 rfl eo1 ?_
  obtain ⟨a3, ea3, hf⟩ := bS hf
  obtain ⟨r2, er2, hf⟩ := bS hf
  refine r_invV1 (As := []) (ci := 6) C dX11_paint_4 mcX6_leastPainting wd_921 wd_922 wd_923 rfl rfl (by decide) ⟨by decide, by decide⟩ ⟨by decide, by decide⟩ rfl (Nat.le_of_ble_eq_true rfl) ea3 (kX6_leastPainting l G er2) ?_
  exact r_iretF C dX11_paint_7 hret hf (by decide) (by decide)

theorem dgX11_given_0 : (decode cX11_given 0 = .ok (.aload_n 0, 1)) ∧ (decode cX11_given 1 = .ok (.getfield 26, 3)) ∧ (decode cX11_given 4 = .ok (.iload_n 1, 1)) ∧ (decode cX11_given 5 = .ok (.invokevirtual 189, 3)) ∧ (decode cX11_given 8 = .ok (.ireturn, 1)) ∧ True := dkW [(0, .aload_n 0, 1), (1, .getfield 26, 3), (4, .iload_n 1, 1), (5, .invokevirtual 189, 3), (8, .ireturn, 1)] 0 (by decide +kernel)
theorem dX11_given_0 : decode cX11_given 0 = .ok (.aload_n 0, 1) := dgX11_given_0.1
theorem dX11_given_1 : decode cX11_given 1 = .ok (.getfield 26, 3) := dgX11_given_0.2.1
theorem dX11_given_4 : decode cX11_given 4 = .ok (.iload_n 1, 1) := dgX11_given_0.2.2.1
theorem dX11_given_5 : decode cX11_given 5 = .ok (.invokevirtual 189, 3) := dgX11_given_0.2.2.2.1
theorem dX11_given_8 : decode cX11_given 8 = .ok (.ireturn, 1) := dgX11_given_0.2.2.2.2.1
abbrev rmX11_given : Room := { frames := 2, cells := 0, slots := 0, locals := 43 }
noncomputable def fX11_given (N : Nat) (h : Hs) (t : Nat) (p1 : Int32) : Option (Int32 × Hs) :=
  (oR 11 5 h (some t)).bind fun o1 =>
  (rc 6 h o1).bind fun a3 =>
  (fX6_givenTo N h a3 p1).bind fun r2 =>
  some (r2.1, r2.2)
set_option maxHeartbeats 4000000 in
set_option maxRecDepth 20000 in
theorem kX11_given (l : Launch) (G : Gl) {N : Nat} {h : Hs} {t : Nat} {p1 : Int32} {r : Int32 × Hs} (hf : fX11_given N h t p1 = some r) : CT l G yX11_given cX11_given 2 (some .int) rmX11_given [.inr (some t), .inl p1] h (some (.inl r.1)) r.2 := by
  refine mk_CT (by decide) (Nat.le_of_ble_eq_true rfl) ?_
  intro p e s m args below meth c C hret hin
  unfold fX11_given at hf
  refine r_aload_n C dX11_given_0 rfl ?_
  obtain ⟨o1, eo1, hf⟩ := bS hf
  refine r_getR C dX11_given_1 fl_X11_26 rfl eo1 ?_
  refine r_iload_n C dX11_given_4 rfl ?_
  obtain ⟨a3, ea3, hf⟩ := bS hf
  obtain ⟨r2, er2, hf⟩ := bS hf
  refine r_invV1 (As := [.inl p1]) (ci := 6) C dX11_given_5 mcX6_givenTo wd_965 wd_966 wd_967 rfl rfl (by decide) ⟨by decide, by decide⟩ ⟨by decide, by decide⟩ rfl (Nat.le_of_ble_eq_true rfl) ea3 (kX6_givenTo l G er2) ?_
  exact r_iretF C dX11_given_8 hret hf (by decide) (by decide)

theorem dgX11_count_0 : (decode cX11_count 0 = .ok (.iload_n 1, 1)) ∧ True := dkW [(0, .iload_n 1, 1)] 0 (by decide +kernel)
theorem dX11_count_0 : decode cX11_count 0 = .ok (.iload_n 1, 1) := dgX11_count_0.1
theorem dX11_count_1 : decode cX11_count 1 = .ok (.tableswitch 135 0 9 #[55, 63, 71, 79, 87, 95, 103, 111, 119, 127], 55) := by decide +kernel
theorem dgX11_count_56 : (decode cX11_count 56 = .ok (.aload_n 0, 1)) ∧ (decode cX11_count 57 = .ok (.getfield 33, 3)) ∧ (decode cX11_count 60 = .ok (.getfield 192, 3)) ∧ (decode cX11_count 63 = .ok (.ireturn, 1)) ∧ (decode cX11_count 64 = .ok (.aload_n 0, 1)) ∧ (decode cX11_count 65 = .ok (.getfield 33, 3)) ∧ (decode cX11_count 68 = .ok (.getfield 195, 3)) ∧ (decode cX11_count 71 = .ok (.ireturn, 1)) ∧ (decode cX11_count 72 = .ok (.aload_n 0, 1)) ∧ (decode cX11_count 73 = .ok (.getfield 33, 3)) ∧ (decode cX11_count 76 = .ok (.getfield 198, 3)) ∧ (decode cX11_count 79 = .ok (.ireturn, 1)) ∧ True := dkW [(56, .aload_n 0, 1), (57, .getfield 33, 3), (60, .getfield 192, 3), (63, .ireturn, 1), (64, .aload_n 0, 1), (65, .getfield 33, 3), (68, .getfield 195, 3), (71, .ireturn, 1), (72, .aload_n 0, 1), (73, .getfield 33, 3), (76, .getfield 198, 3), (79, .ireturn, 1)] 56 (by decide +kernel)
theorem dX11_count_56 : decode cX11_count 56 = .ok (.aload_n 0, 1) := dgX11_count_56.1
theorem dX11_count_57 : decode cX11_count 57 = .ok (.getfield 33, 3) := dgX11_count_56.2.1
theorem dX11_count_60 : decode cX11_count 60 = .ok (.getfield 192, 3) := dgX11_count_56.2.2.1
theorem dX11_count_63 : decode cX11_count 63 = .ok (.ireturn, 1) := dgX11_count_56.2.2.2.1
theorem dX11_count_64 : decode cX11_count 64 = .ok (.aload_n 0, 1) := dgX11_count_56.2.2.2.2.1
theorem dX11_count_65 : decode cX11_count 65 = .ok (.getfield 33, 3) := dgX11_count_56.2.2.2.2.2.1
theorem dX11_count_68 : decode cX11_count 68 = .ok (.getfield 195, 3) := dgX11_count_56.2.2.2.2.2.2.1
theorem dX11_count_71 : decode cX11_count 71 = .ok (.ireturn, 1) := dgX11_count_56.2.2.2.2.2.2.2.1
theorem dX11_count_72 : decode cX11_count 72 = .ok (.aload_n 0, 1) := dgX11_count_56.2.2.2.2.2.2.2.2.1
theorem dX11_count_73 : decode cX11_count 73 = .ok (.getfield 33, 3) := dgX11_count_56.2.2.2.2.2.2.2.2.2.1
theorem dX11_count_76 : decode cX11_count 76 = .ok (.getfield 198, 3) := dgX11_count_56.2.2.2.2.2.2.2.2.2.2.1
theorem dX11_count_79 : decode cX11_count 79 = .ok (.ireturn, 1) := dgX11_count_56.2.2.2.2.2.2.2.2.2.2.2.1
theorem dgX11_count_80 : (decode cX11_count 80 = .ok (.aload_n 0, 1)) ∧ (decode cX11_count 81 = .ok (.getfield 33, 3)) ∧ (decode cX11_count 84 = .ok (.invokevirtual 201, 3)) ∧ (decode cX11_count 87 = .ok (.ireturn, 1)) ∧ (decode cX11_count 88 = .ok (.aload_n 0, 1)) ∧ (decode cX11_count 89 = .ok (.getfield 33, 3)) ∧ (decode cX11_count 92 = .ok (.getfield 204, 3)) ∧ (decode cX11_count 95 = .ok (.ireturn, 1)) ∧ (decode cX11_count 96 = .ok (.aload_n 0, 1)) ∧ (decode cX11_count 97 = .ok (.getfield 19, 3)) ∧ (decode cX11_count 100 = .ok (.getfield 207, 3)) ∧ (decode cX11_count 103 = .ok (.ireturn, 1)) ∧ True := dkW [(80, .aload_n 0, 1), (81, .getfield 33, 3), (84, .invokevirtual 201, 3), (87, .ireturn, 1), (88, .aload_n 0, 1), (89, .getfield 33, 3), (92, .getfield 204, 3), (95, .ireturn, 1), (96, .aload_n 0, 1), (97, .getfield 19, 3), (100, .getfield 207, 3), (103, .ireturn, 1)] 80 (by decide +kernel)
theorem dX11_count_80 : decode cX11_count 80 = .ok (.aload_n 0, 1) := dgX11_count_80.1
theorem dX11_count_81 : decode cX11_count 81 = .ok (.getfield 33, 3) := dgX11_count_80.2.1
theorem dX11_count_84 : decode cX11_count 84 = .ok (.invokevirtual 201, 3) := dgX11_count_80.2.2.1
theorem dX11_count_87 : decode cX11_count 87 = .ok (.ireturn, 1) := dgX11_count_80.2.2.2.1
theorem dX11_count_88 : decode cX11_count 88 = .ok (.aload_n 0, 1) := dgX11_count_80.2.2.2.2.1
theorem dX11_count_89 : decode cX11_count 89 = .ok (.getfield 33, 3) := dgX11_count_80.2.2.2.2.2.1
theorem dX11_count_92 : decode cX11_count 92 = .ok (.getfield 204, 3) := dgX11_count_80.2.2.2.2.2.2.1
theorem dX11_count_95 : decode cX11_count 95 = .ok (.ireturn, 1) := dgX11_count_80.2.2.2.2.2.2.2.1
theorem dX11_count_96 : decode cX11_count 96 = .ok (.aload_n 0, 1) := dgX11_count_80.2.2.2.2.2.2.2.2.1
theorem dX11_count_97 : decode cX11_count 97 = .ok (.getfield 19, 3) := dgX11_count_80.2.2.2.2.2.2.2.2.2.1
theorem dX11_count_100 : decode cX11_count 100 = .ok (.getfield 207, 3) := dgX11_count_80.2.2.2.2.2.2.2.2.2.2.1
theorem dX11_count_103 : decode cX11_count 103 = .ok (.ireturn, 1) := dgX11_count_80.2.2.2.2.2.2.2.2.2.2.2.1
theorem dgX11_count_104 : (decode cX11_count 104 = .ok (.aload_n 0, 1)) ∧ (decode cX11_count 105 = .ok (.getfield 19, 3)) ∧ (decode cX11_count 108 = .ok (.getfield 210, 3)) ∧ (decode cX11_count 111 = .ok (.ireturn, 1)) ∧ (decode cX11_count 112 = .ok (.aload_n 0, 1)) ∧ (decode cX11_count 113 = .ok (.getfield 26, 3)) ∧ (decode cX11_count 116 = .ok (.getfield 213, 3)) ∧ (decode cX11_count 119 = .ok (.ireturn, 1)) ∧ (decode cX11_count 120 = .ok (.aload_n 0, 1)) ∧ (decode cX11_count 121 = .ok (.getfield 10, 3)) ∧ (decode cX11_count 124 = .ok (.getfield 150, 3)) ∧ (decode cX11_count 127 = .ok (.ireturn, 1)) ∧ True := dkW [(104, .aload_n 0, 1), (105, .getfield 19, 3), (108, .getfield 210, 3), (111, .ireturn, 1), (112, .aload_n 0, 1), (113, .getfield 26, 3), (116, .getfield 213, 3), (119, .ireturn, 1), (120, .aload_n 0, 1), (121, .getfield 10, 3), (124, .getfield 150, 3), (127, .ireturn, 1)] 104 (by decide +kernel)
theorem dX11_count_104 : decode cX11_count 104 = .ok (.aload_n 0, 1) := dgX11_count_104.1
theorem dX11_count_105 : decode cX11_count 105 = .ok (.getfield 19, 3) := dgX11_count_104.2.1
theorem dX11_count_108 : decode cX11_count 108 = .ok (.getfield 210, 3) := dgX11_count_104.2.2.1
theorem dX11_count_111 : decode cX11_count 111 = .ok (.ireturn, 1) := dgX11_count_104.2.2.2.1
theorem dX11_count_112 : decode cX11_count 112 = .ok (.aload_n 0, 1) := dgX11_count_104.2.2.2.2.1
theorem dX11_count_113 : decode cX11_count 113 = .ok (.getfield 26, 3) := dgX11_count_104.2.2.2.2.2.1
theorem dX11_count_116 : decode cX11_count 116 = .ok (.getfield 213, 3) := dgX11_count_104.2.2.2.2.2.2.1
theorem dX11_count_119 : decode cX11_count 119 = .ok (.ireturn, 1) := dgX11_count_104.2.2.2.2.2.2.2.1
theorem dX11_count_120 : decode cX11_count 120 = .ok (.aload_n 0, 1) := dgX11_count_104.2.2.2.2.2.2.2.2.1
theorem dX11_count_121 : decode cX11_count 121 = .ok (.getfield 10, 3) := dgX11_count_104.2.2.2.2.2.2.2.2.2.1
theorem dX11_count_124 : decode cX11_count 124 = .ok (.getfield 150, 3) := dgX11_count_104.2.2.2.2.2.2.2.2.2.2.1
theorem dX11_count_127 : decode cX11_count 127 = .ok (.ireturn, 1) := dgX11_count_104.2.2.2.2.2.2.2.2.2.2.2.1
theorem dgX11_count_128 : (decode cX11_count 128 = .ok (.aload_n 0, 1)) ∧ (decode cX11_count 129 = .ok (.getfield 33, 3)) ∧ (decode cX11_count 132 = .ok (.getfield 216, 3)) ∧ (decode cX11_count 135 = .ok (.ireturn, 1)) ∧ (decode cX11_count 136 = .ok (.ldc 85, 2)) ∧ (decode cX11_count 138 = .ok (.ireturn, 1)) ∧ True := dkW [(128, .aload_n 0, 1), (129, .getfield 33, 3), (132, .getfield 216, 3), (135, .ireturn, 1), (136, .ldc 85, 2), (138, .ireturn, 1)] 128 (by decide +kernel)
theorem dX11_count_128 : decode cX11_count 128 = .ok (.aload_n 0, 1) := dgX11_count_128.1
theorem dX11_count_129 : decode cX11_count 129 = .ok (.getfield 33, 3) := dgX11_count_128.2.1
theorem dX11_count_132 : decode cX11_count 132 = .ok (.getfield 216, 3) := dgX11_count_128.2.2.1
theorem dX11_count_135 : decode cX11_count 135 = .ok (.ireturn, 1) := dgX11_count_128.2.2.2.1
theorem dX11_count_136 : decode cX11_count 136 = .ok (.ldc 85, 2) := dgX11_count_128.2.2.2.2.1
theorem dX11_count_138 : decode cX11_count 138 = .ok (.ireturn, 1) := dgX11_count_128.2.2.2.2.2.1
abbrev rmX11_count : Room := { frames := 1, cells := 0, slots := 0, locals := 22 }
noncomputable def fX11_count (N : Nat) (h : Hs) (t : Nat) (p1 : Int32) : Option (Int32 × Hs) :=
  if p1 = 0 then (
  (oR 11 0 h (some t)).bind fun o1 =>
  (oI 5 7 h o1).bind fun v2 =>
  some (v2, h))
  else if p1 = 1 then (
  (oR 11 0 h (some t)).bind fun o3 =>
  (oI 5 8 h o3).bind fun v4 =>
  some (v4, h))
  else if p1 = 2 then (
  (oR 11 0 h (some t)).bind fun o5 =>
  (oI 5 9 h o5).bind fun v6 =>
  some (v6, h))
  else if p1 = 3 then (
  (oR 11 0 h (some t)).bind fun o7 =>
  (rc 5 h o7).bind fun a9 =>
  (fX5_tiedCount N h a9 ).bind fun r8 =>
  some (r8.1, r8.2))
  else if p1 = 4 then (
  (oR 11 0 h (some t)).bind fun o10 =>
  (oI 5 11 h o10).bind fun v11 =>
  some (v11, h))
  else if p1 = 5 then (
  (oR 11 4 h (some t)).bind fun o12 =>
  (oI 0 3 h o12).bind fun v13 =>
  some (v13, h))
  else if p1 = 6 then (
  (oR 11 4 h (some t)).bind fun o14 =>
  (oI 0 2 h o14).bind fun v15 =>
  some (v15, h))
  else if p1 = 7 then (
  (oR 11 5 h (some t)).bind fun o16 =>
  (oI 6 4 h o16).bind fun v17 =>
  some (v17, h))
  else if p1 = 8 then (
  (oR 11 3 h (some t)).bind fun o18 =>
  (oI 8 4 h o18).bind fun v19 =>
  some (v19, h))
  else if p1 = 9 then (
  (oR 11 0 h (some t)).bind fun o20 =>
  (oI 5 12 h o20).bind fun v21 =>
  some (v21, h))
  else some ((-2000000000), h)
set_option maxHeartbeats 4000000 in
set_option maxRecDepth 20000 in
theorem kX11_count (l : Launch) (G : Gl) {N : Nat} {h : Hs} {t : Nat} {p1 : Int32} {r : Int32 × Hs} (hf : fX11_count N h t p1 = some r) : CT l G yX11_count cX11_count 2 (some .int) rmX11_count [.inr (some t), .inl p1] h (some (.inl r.1)) r.2 := by
  refine mk_CT (by decide) (Nat.le_of_ble_eq_true rfl) ?_
  intro p e s m args below meth c C hret hin
  unfold fX11_count at hf
  refine r_iload_n C dX11_count_0 rfl ?_
  by_cases k0 : p1 = 0
  · have hf := ifT hf k0
    refine r_tabIn (tgt := 56) (off := 55) C dX11_count_1 (by rw [k0]; decide) (by rw [k0]; decide) (by rw [k0]; rfl) (by decide) ?_
    refine r_aload_n C dX11_count_56 rfl ?_
    obtain ⟨o1, eo1, hf⟩ := bS hf
    refine r_getR C dX11_count_57 fl_X11_33 rfl eo1 ?_
    obtain ⟨v2, ev2, hf⟩ := bS hf
    refine r_getI C dX11_count_60 fl_X11_192 rfl ev2 ?_
    exact r_iretF C dX11_count_63 hret hf (by decide) (by decide)
  · have hf := ifF hf k0
    by_cases k1 : p1 = 1
    · have hf := ifT hf k1
      refine r_tabIn (tgt := 64) (off := 63) C dX11_count_1 (by rw [k1]; decide) (by rw [k1]; decide) (by rw [k1]; rfl) (by decide) ?_
      refine r_aload_n C dX11_count_64 rfl ?_
      obtain ⟨o3, eo3, hf⟩ := bS hf
      refine r_getR C dX11_count_65 fl_X11_33 rfl eo3 ?_
      obtain ⟨v4, ev4, hf⟩ := bS hf
      refine r_getI C dX11_count_68 fl_X11_195 rfl ev4 ?_
      exact r_iretF C dX11_count_71 hret hf (by decide) (by decide)
    · have hf := ifF hf k1
      by_cases k2 : p1 = 2
      · have hf := ifT hf k2
        refine r_tabIn (tgt := 72) (off := 71) C dX11_count_1 (by rw [k2]; decide) (by rw [k2]; decide) (by rw [k2]; rfl) (by decide) ?_
        refine r_aload_n C dX11_count_72 rfl ?_
        obtain ⟨o5, eo5, hf⟩ := bS hf
        refine r_getR C dX11_count_73 fl_X11_33 rfl eo5 ?_
        obtain ⟨v6, ev6, hf⟩ := bS hf
        refine r_getI C dX11_count_76 fl_X11_198 rfl ev6 ?_
        exact r_iretF C dX11_count_79 hret hf (by decide) (by decide)
      · have hf := ifF hf k2
        by_cases k3 : p1 = 3
        · have hf := ifT hf k3
          refine r_tabIn (tgt := 80) (off := 79) C dX11_count_1 (by rw [k3]; decide) (by rw [k3]; decide) (by rw [k3]; rfl) (by decide) ?_
          refine r_aload_n C dX11_count_80 rfl ?_
          obtain ⟨o7, eo7, hf⟩ := bS hf
          refine r_getR C dX11_count_81 fl_X11_33 rfl eo7 ?_
          obtain ⟨a9, ea9, hf⟩ := bS hf
          obtain ⟨r8, er8, hf⟩ := bS hf
          refine r_invV1 (As := []) (ci := 5) C dX11_count_84 mcX5_tiedCount wd_973 wd_974 wd_975 rfl rfl (by decide) ⟨by decide, by decide⟩ ⟨by decide, by decide⟩ rfl (Nat.le_of_ble_eq_true rfl) ea9 (kX5_tiedCount l G er8) ?_
          exact r_iretF C dX11_count_87 hret hf (by decide) (by decide)
        · have hf := ifF hf k3
          by_cases k4 : p1 = 4
          · have hf := ifT hf k4
            refine r_tabIn (tgt := 88) (off := 87) C dX11_count_1 (by rw [k4]; decide) (by rw [k4]; decide) (by rw [k4]; rfl) (by decide) ?_
            refine r_aload_n C dX11_count_88 rfl ?_
            obtain ⟨o10, eo10, hf⟩ := bS hf
            refine r_getR C dX11_count_89 fl_X11_33 rfl eo10 ?_
            obtain ⟨v11, ev11, hf⟩ := bS hf
            refine r_getI C dX11_count_92 fl_X11_204 rfl ev11 ?_
            exact r_iretF C dX11_count_95 hret hf (by decide) (by decide)
          · have hf := ifF hf k4
            by_cases k5 : p1 = 5
            · have hf := ifT hf k5
              refine r_tabIn (tgt := 96) (off := 95) C dX11_count_1 (by rw [k5]; decide) (by rw [k5]; decide) (by rw [k5]; rfl) (by decide) ?_
              refine r_aload_n C dX11_count_96 rfl ?_
              obtain ⟨o12, eo12, hf⟩ := bS hf
              refine r_getR C dX11_count_97 fl_X11_19 rfl eo12 ?_
              obtain ⟨v13, ev13, hf⟩ := bS hf
              refine r_getI C dX11_count_100 fl_X11_207 rfl ev13 ?_
              exact r_iretF C dX11_count_103 hret hf (by decide) (by decide)
            · have hf := ifF hf k5
              by_cases k6 : p1 = 6
              · have hf := ifT hf k6
                refine r_tabIn (tgt := 104) (off := 103) C dX11_count_1 (by rw [k6]; decide) (by rw [k6]; decide) (by rw [k6]; rfl) (by decide) ?_
                refine r_aload_n C dX11_count_104 rfl ?_
                obtain ⟨o14, eo14, hf⟩ := bS hf
                refine r_getR C dX11_count_105 fl_X11_19 rfl eo14 ?_
                obtain ⟨v15, ev15, hf⟩ := bS hf
                refine r_getI C dX11_count_108 fl_X11_210 rfl ev15 ?_
                exact r_iretF C dX11_count_111 hret hf (by decide) (by decide)
              · have hf := ifF hf k6
                by_cases k7 : p1 = 7
                · have hf := ifT hf k7
                  refine r_tabIn (tgt := 112) (off := 111) C dX11_count_1 (by rw [k7]; decide) (by rw [k7]; decide) (by rw [k7]; rfl) (by decide) ?_
                  refine r_aload_n C dX11_count_112 rfl ?_
                  obtain ⟨o16, eo16, hf⟩ := bS hf
                  refine r_getR C dX11_count_113 fl_X11_26 rfl eo16 ?_
                  obtain ⟨v17, ev17, hf⟩ := bS hf
                  refine r_getI C dX11_count_116 fl_X11_213 rfl ev17 ?_
                  exact r_iretF C dX11_count_119 hret hf (by decide) (by decide)
                · have hf := ifF hf k7
                  by_cases k8 : p1 = 8
                  · have hf := ifT hf k8
                    refine r_tabIn (tgt := 120) (off := 119) C dX11_count_1 (by rw [k8]; decide) (by rw [k8]; decide) (by rw [k8]; rfl) (by decide) ?_
                    refine r_aload_n C dX11_count_120 rfl ?_
                    obtain ⟨o18, eo18, hf⟩ := bS hf
                    refine r_getR C dX11_count_121 fl_X11_10 rfl eo18 ?_
                    obtain ⟨v19, ev19, hf⟩ := bS hf
                    refine r_getI C dX11_count_124 fl_X11_150 rfl ev19 ?_
                    exact r_iretF C dX11_count_127 hret hf (by decide) (by decide)
                  · have hf := ifF hf k8
                    by_cases k9 : p1 = 9
                    · have hf := ifT hf k9
                      refine r_tabIn (tgt := 128) (off := 127) C dX11_count_1 (by rw [k9]; decide) (by rw [k9]; decide) (by rw [k9]; rfl) (by decide) ?_
                      refine r_aload_n C dX11_count_128 rfl ?_
                      obtain ⟨o20, eo20, hf⟩ := bS hf
                      refine r_getR C dX11_count_129 fl_X11_33 rfl eo20 ?_
                      obtain ⟨v21, ev21, hf⟩ := bS hf
                      refine r_getI C dX11_count_132 fl_X11_216 rfl ev21 ?_
                      exact r_iretF C dX11_count_135 hret hf (by decide) (by decide)
                    · have hf := ifF hf k9
                      refine r_tabOut (tgt := 136) C dX11_count_1 (sw_out (lo := 0) (hi := 9) [0, 1, 2, 3, 4, 5, 6, 7, 8, 9] (by decide) (List.forall_mem_cons.mpr ⟨k0, List.forall_mem_cons.mpr ⟨k1, List.forall_mem_cons.mpr ⟨k2, List.forall_mem_cons.mpr ⟨k3, List.forall_mem_cons.mpr ⟨k4, List.forall_mem_cons.mpr ⟨k5, List.forall_mem_cons.mpr ⟨k6, List.forall_mem_cons.mpr ⟨k7, List.forall_mem_cons.mpr ⟨k8, List.forall_mem_cons.mpr ⟨k9, fun _ q => absurd q List.not_mem_nil⟩⟩⟩⟩⟩⟩⟩⟩⟩⟩)) (by decide) ?_
                      refine r_ldc C dX11_count_136 wd_488 ?_
                      exact r_iretF C dX11_count_138 hret hf (by decide) (by decide)
