theorem dgX6_leastSumBehind_0 : (decode cX6_leastSumBehind 0 = .ok (.ldc 45, 2)) ∧ (decode cX6_leastSumBehind 2 = .ok (.istore_n 3, 1)) ∧ (decode cX6_leastSumBehind 3 = .ok (.iconst 0, 1)) ∧ (decode cX6_leastSumBehind 4 = .ok (.istore 4, 2)) ∧ (decode cX6_leastSumBehind 6 = .ok (.iload 4, 2)) ∧ (decode cX6_leastSumBehind 8 = .ok (.aload_n 0, 1)) ∧ (decode cX6_leastSumBehind 9 = .ok (.getfield 31, 3)) ∧ (decode cX6_leastSumBehind 12 = .ok (.if_icmp .ge 22, 3)) ∧ (decode cX6_leastSumBehind 15 = .ok (.iload_n 3, 1)) ∧ (decode cX6_leastSumBehind 16 = .ok (.aload_n 0, 1)) ∧ (decode cX6_leastSumBehind 17 = .ok (.iload_n 1, 1)) ∧ (decode cX6_leastSumBehind 18 = .ok (.iload 4, 2)) ∧ True := dkW [(0, .ldc 45, 2), (2, .istore_n 3, 1), (3, .iconst 0, 1), (4, .istore 4, 2), (6, .iload 4, 2), (8, .aload_n 0, 1), (9, .getfield 31, 3), (12, .if_icmp .ge 22, 3), (15, .iload_n 3, 1), (16, .aload_n 0, 1), (17, .iload_n 1, 1), (18, .iload 4, 2)] 0 (by decide +kernel)
theorem dX6_leastSumBehind_0 : decode cX6_leastSumBehind 0 = .ok (.ldc 45, 2) := dgX6_leastSumBehind_0.1
theorem dX6_leastSumBehind_2 : decode cX6_leastSumBehind 2 = .ok (.istore_n 3, 1) := dgX6_leastSumBehind_0.2.1
theorem dX6_leastSumBehind_3 : decode cX6_leastSumBehind 3 = .ok (.iconst 0, 1) := dgX6_leastSumBehind_0.2.2.1
theorem dX6_leastSumBehind_4 : decode cX6_leastSumBehind 4 = .ok (.istore 4, 2) := dgX6_leastSumBehind_0.2.2.2.1
theorem dX6_leastSumBehind_6 : decode cX6_leastSumBehind 6 = .ok (.iload 4, 2) := dgX6_leastSumBehind_0.2.2.2.2.1
theorem dX6_leastSumBehind_8 : decode cX6_leastSumBehind 8 = .ok (.aload_n 0, 1) := dgX6_leastSumBehind_0.2.2.2.2.2.1
theorem dX6_leastSumBehind_9 : decode cX6_leastSumBehind 9 = .ok (.getfield 31, 3) := dgX6_leastSumBehind_0.2.2.2.2.2.2.1
theorem dX6_leastSumBehind_12 : decode cX6_leastSumBehind 12 = .ok (.if_icmp .ge 22, 3) := dgX6_leastSumBehind_0.2.2.2.2.2.2.2.1
theorem dX6_leastSumBehind_15 : decode cX6_leastSumBehind 15 = .ok (.iload_n 3, 1) := dgX6_leastSumBehind_0.2.2.2.2.2.2.2.2.1
theorem dX6_leastSumBehind_16 : decode cX6_leastSumBehind 16 = .ok (.aload_n 0, 1) := dgX6_leastSumBehind_0.2.2.2.2.2.2.2.2.2.1
theorem dX6_leastSumBehind_17 : decode cX6_leastSumBehind 17 = .ok (.iload_n 1, 1) := dgX6_leastSumBehind_0.2.2.2.2.2.2.2.2.2.2.1
theorem dX6_leastSumBehind_18 : decode cX6_leastSumBehind 18 = .ok (.iload 4, 2) := dgX6_leastSumBehind_0.2.2.2.2.2.2.2.2.2.2.2.1
theorem dgX6_leastSumBehind_20 : (decode cX6_leastSumBehind 20 = .ok (.aload_n 2, 1)) ∧ (decode cX6_leastSumBehind 21 = .ok (.invokevirtual 63, 3)) ∧ (decode cX6_leastSumBehind 24 = .ok (.invokestatic 67, 3)) ∧ (decode cX6_leastSumBehind 27 = .ok (.istore_n 3, 1)) ∧ (decode cX6_leastSumBehind 28 = .ok (.iinc 4 1, 3)) ∧ (decode cX6_leastSumBehind 31 = .ok (.goto (-25), 3)) ∧ (decode cX6_leastSumBehind 34 = .ok (.iload_n 3, 1)) ∧ (decode cX6_leastSumBehind 35 = .ok (.ireturn, 1)) ∧ True := dkW [(20, .aload_n 2, 1), (21, .invokevirtual 63, 3), (24, .invokestatic 67, 3), (27, .istore_n 3, 1), (28, .iinc 4 1, 3), (31, .goto (-25), 3), (34, .iload_n 3, 1), (35, .ireturn, 1)] 20 (by decide +kernel)
theorem dX6_leastSumBehind_20 : decode cX6_leastSumBehind 20 = .ok (.aload_n 2, 1) := dgX6_leastSumBehind_20.1
theorem dX6_leastSumBehind_21 : decode cX6_leastSumBehind 21 = .ok (.invokevirtual 63, 3) := dgX6_leastSumBehind_20.2.1
theorem dX6_leastSumBehind_24 : decode cX6_leastSumBehind 24 = .ok (.invokestatic 67, 3) := dgX6_leastSumBehind_20.2.2.1
theorem dX6_leastSumBehind_27 : decode cX6_leastSumBehind 27 = .ok (.istore_n 3, 1) := dgX6_leastSumBehind_20.2.2.2.1
theorem dX6_leastSumBehind_28 : decode cX6_leastSumBehind 28 = .ok (.iinc 4 1, 3) := dgX6_leastSumBehind_20.2.2.2.2.1
theorem dX6_leastSumBehind_31 : decode cX6_leastSumBehind 31 = .ok (.goto (-25), 3) := dgX6_leastSumBehind_20.2.2.2.2.2.1
theorem dX6_leastSumBehind_34 : decode cX6_leastSumBehind 34 = .ok (.iload_n 3, 1) := dgX6_leastSumBehind_20.2.2.2.2.2.2.1
theorem dX6_leastSumBehind_35 : decode cX6_leastSumBehind 35 = .ok (.ireturn, 1) := dgX6_leastSumBehind_20.2.2.2.2.2.2.2.1
abbrev rmX6_leastSumBehind : Room := { frames := 3, cells := 0, slots := 0, locals := 66 }
noncomputable def fX6_leastSumBehind_b6_body (N : Nat)  (g6 : Hs → Int32 → Option Nat → Int32 → Int32 → Option (Int32 × Hs)) (t : Nat) (h : Hs) (x1 : Int32) (w2 : Option Nat) (x3 : Int32) (x4 : Int32) : Option (Int32 × Hs) :=
  (oI 6 4 h (some t)).bind fun v1 =>
  if v1 ≤ x4 then (
  some (x3, h))
  else (rc 6 h (some t)).bind fun a3 =>
  (fX6_sumWith N h a3 x1 x4 w2).bind fun r2 =>
  (some (if r2.1 < x3 then r2.1 else x3 : Int32)).bind fun y4 =>
  (some (x4 + 1)).bind fun y5 =>
  g6 r2.2 x1 w2 y4 y5
noncomputable def fX6_leastSumBehind_b6 (N : Nat)  (t : Nat) (n : Nat) : Hs → Int32 → Option Nat → Int32 → Int32 → Option (Int32 × Hs) := lp (fun _ _ _ _ _ => none) (fun g h x1 w2 x3 x4 => fX6_leastSumBehind_b6_body N  g t h x1 w2 x3 x4) n
set_option maxHeartbeats 4000000 in
set_option maxRecDepth 20000 in
theorem wX6_leastSumBehind_b6_body {p : Program} {l : Launch} {e : Env} {s : State} {m : MethodId} {args : Array Value} {below : List Frame} {meth : Method} {c : Code} {G : Gl} {N : Nat} {h : Hs} {r : Int32 × Hs}  {g6 : Hs → Int32 → Option Nat → Int32 → Int32 → Option (Int32 × Hs)} {t : Nat} {x1 : Int32} {w2 : Option Nat} {x3 : Int32} {x4 : Int32} (C : Cx p s m args meth c cX6_leastSumBehind RX6 5 G) (hret : meth.sig.returnType = (some .int))  (hg6 : ∀ (h : Hs) (x1 : Int32) (w2 : Option Nat) (x3 : Int32) (x4 : Int32), g6 h x1 w2 x3 x4 = some r → V p l e rmX6_leastSumBehind s m args below meth c G 5 (MQ below (QcG G (some (.inl r.1)) r.2) args s rmX6_leastSumBehind.cells rmX6_leastSumBehind.slots (AG G)) h 0 0 6 [some (.inr (some t)), some (.inl x1), some (.inr w2), some (.inl x3), some (.inl x4)] []) (hf : fX6_leastSumBehind_b6_body N  g6 t h x1 w2 x3 x4 = some r) : V p l e rmX6_leastSumBehind s m args below meth c G 5 (MQ below (QcG G (some (.inl r.1)) r.2) args s rmX6_leastSumBehind.cells rmX6_leastSumBehind.slots (AG G)) h 0 0 6 [some (.inr (some t)), some (.inl x1), some (.inr w2), some (.inl x3), some (.inl x4)] [] := by
  unfold fX6_leastSumBehind_b6_body at hf
  refine r_iload C dX6_leastSumBehind_6 rfl ?_
  refine r_aload_n C dX6_leastSumBehind_8 rfl ?_
  obtain ⟨v1, ev1, hf⟩ := bS hf
  refine r_getI C dX6_leastSumBehind_9 fl_X6_31 rfl ev1 ?_
  refine r_icmp_ge (tgt := 34) C dX6_leastSumBehind_12 (by decide) (fun hc => ?_) (fun hc => ?_)
  · have hf := ifT hf hc
    refine r_iload_n C dX6_leastSumBehind_34 rfl ?_
    exact r_iretF C dX6_leastSumBehind_35 hret hf (by decide) (by decide)
  · have hf := ifF hf hc
    refine r_iload_n C dX6_leastSumBehind_15 rfl ?_
    refine r_aload_n C dX6_leastSumBehind_16 rfl ?_
    refine r_iload_n C dX6_leastSumBehind_17 rfl ?_
    refine r_iload C dX6_leastSumBehind_18 rfl ?_
    refine r_aload_n C dX6_leastSumBehind_20 rfl ?_
    obtain ⟨a3, ea3, hf⟩ := bS hf
    obtain ⟨r2, er2, hf⟩ := bS hf
    refine r_invV1 (As := [.inl x1, .inl x4, .inr w2]) (ci := 6) C dX6_leastSumBehind_21 mcX6_sumWith wd_940 wd_942 wp_29 rfl rfl (by decide) ⟨by decide, by decide⟩ ⟨by decide, by decide⟩ rfl (Nat.le_of_ble_eq_true rfl) ea3 (kX6_sumWith l G er2) ?_
    refine r_mmin C dX6_leastSumBehind_24 ⟨wd_956, wd_634, wd_14, wd_635⟩ (by decide) (Nat.le_of_ble_eq_true rfl) (by decide) (by decide) ?_
    obtain ⟨y4, ey4, hf⟩ := bS hf
    refine r_istore_nE C dX6_leastSumBehind_27 (by decide) ey4 ?_
    obtain ⟨y5, ey5, hf⟩ := bS hf
    refine r_iincE (v := 1) C dX6_leastSumBehind_28 rfl (by decide) (by decide) ey5 ?_
    refine r_goto (tgt := 6) C dX6_leastSumBehind_31 (by decide) ?_
    exact V.sub (hg6 _ _ _ _ _ hf) (LW_s rfl (LW_s rfl (LW_s rfl (LW_s rfl (LW_s rfl (LW_e))))))
theorem wX6_leastSumBehind_b6 {p : Program} {l : Launch} {e : Env} {s : State} {m : MethodId} {args : Array Value} {below : List Frame} {meth : Method} {c : Code} {G : Gl} {N : Nat} {r : Int32 × Hs}  {t : Nat} (C : Cx p s m args meth c cX6_leastSumBehind RX6 5 G) (hret : meth.sig.returnType = (some .int))  : ∀ (n : Nat) (h : Hs) (x1 : Int32) (w2 : Option Nat) (x3 : Int32) (x4 : Int32), fX6_leastSumBehind_b6 N  t n h x1 w2 x3 x4 = some r → V p l e rmX6_leastSumBehind s m args below meth c G 5 (MQ below (QcG G (some (.inl r.1)) r.2) args s rmX6_leastSumBehind.cells rmX6_leastSumBehind.slots (AG G)) h 0 0 6 [some (.inr (some t)), some (.inl x1), some (.inr w2), some (.inl x3), some (.inl x4)] [] := by
  intro n
  induction n with
  | zero => intro h x1 w2 x3 x4 hf; exact absurd (show (none : Option (Int32 × Hs)) = some r from hf) (fun q => by cases q)
  | succ n ih => intro h x1 w2 x3 x4 hf; exact wX6_leastSumBehind_b6_body C hret  ih (show fX6_leastSumBehind_b6_body N  (fX6_leastSumBehind_b6 N  t n) t h x1 w2 x3 x4 = some r from hf)
noncomputable def fX6_leastSumBehind (N : Nat) (h : Hs) (t : Nat) (p1 : Int32) (p2 : Option Nat) : Option (Int32 × Hs) :=
  fX6_leastSumBehind_b6 N t N h p1 p2 1000000 0
set_option maxHeartbeats 4000000 in
set_option maxRecDepth 20000 in
theorem kX6_leastSumBehind (l : Launch) (G : Gl) {N : Nat} {h : Hs} {t : Nat} {p1 : Int32} {p2 : Option Nat} {r : Int32 × Hs} (hf : fX6_leastSumBehind N h t p1 p2 = some r) : CT l G yX6_leastSumBehind cX6_leastSumBehind 5 (some .int) rmX6_leastSumBehind [.inr (some t), .inl p1, .inr p2] h (some (.inl r.1)) r.2 := by
  refine mk_CT (by decide) (Nat.le_of_ble_eq_true rfl) ?_
  intro p e s m args below meth c C hret hin
  unfold fX6_leastSumBehind at hf
  refine r_ldc C dX6_leastSumBehind_0 wd_925 ?_
  refine r_istore_n C dX6_leastSumBehind_2 (by decide) ?_
  refine r_iconst (v := 0) C dX6_leastSumBehind_3 (by decide) ?_
  refine r_istore C dX6_leastSumBehind_4 (by decide) ?_
  exact V.sub (wX6_leastSumBehind_b6 C hret N _ _ _ _ _ hf) (LW_s rfl (LW_s rfl (LW_s rfl (LW_s rfl (LW_s rfl (LW_e))))))

theorem dgX6_leastSum_0 : (decode cX6_leastSum 0 = .ok (.iconst 1, 1)) ∧ (decode cX6_leastSum 1 = .ok (.aload_n 0, 1)) ∧ (decode cX6_leastSum 2 = .ok (.getfield 31, 3)) ∧ (decode cX6_leastSum 5 = .ok (.ishl, 1)) ∧ (decode cX6_leastSum 6 = .ok (.iconst 1, 1)) ∧ (decode cX6_leastSum 7 = .ok (.isub, 1)) ∧ (decode cX6_leastSum 8 = .ok (.istore_n 1, 1)) ∧ (decode cX6_leastSum 9 = .ok (.iload_n 1, 1)) ∧ (decode cX6_leastSum 10 = .ok (.ifCond .lt 57, 3)) ∧ (decode cX6_leastSum 13 = .ok (.iload_n 1, 1)) ∧ (decode cX6_leastSum 14 = .ok (.invokestatic 53, 3)) ∧ (decode cX6_leastSum 17 = .ok (.istore_n 2, 1)) ∧ True := dkW [(0, .iconst 1, 1), (1, .aload_n 0, 1), (2, .getfield 31, 3), (5, .ishl, 1), (6, .iconst 1, 1), (7, .isub, 1), (8, .istore_n 1, 1), (9, .iload_n 1, 1), (10, .ifCond .lt 57, 3), (13, .iload_n 1, 1), (14, .invokestatic 53, 3), (17, .istore_n 2, 1)] 0 (by decide +kernel)
theorem dX6_leastSum_0 : decode cX6_leastSum 0 = .ok (.iconst 1, 1) := dgX6_leastSum_0.1
theorem dX6_leastSum_1 : decode cX6_leastSum 1 = .ok (.aload_n 0, 1) := dgX6_leastSum_0.2.1
theorem dX6_leastSum_2 : decode cX6_leastSum 2 = .ok (.getfield 31, 3) := dgX6_leastSum_0.2.2.1
theorem dX6_leastSum_5 : decode cX6_leastSum 5 = .ok (.ishl, 1) := dgX6_leastSum_0.2.2.2.1
theorem dX6_leastSum_6 : decode cX6_leastSum 6 = .ok (.iconst 1, 1) := dgX6_leastSum_0.2.2.2.2.1
theorem dX6_leastSum_7 : decode cX6_leastSum 7 = .ok (.isub, 1) := dgX6_leastSum_0.2.2.2.2.2.1
theorem dX6_leastSum_8 : decode cX6_leastSum 8 = .ok (.istore_n 1, 1) := dgX6_leastSum_0.2.2.2.2.2.2.1
theorem dX6_leastSum_9 : decode cX6_leastSum 9 = .ok (.iload_n 1, 1) := dgX6_leastSum_0.2.2.2.2.2.2.2.1
theorem dX6_leastSum_10 : decode cX6_leastSum 10 = .ok (.ifCond .lt 57, 3) := dgX6_leastSum_0.2.2.2.2.2.2.2.2.1
theorem dX6_leastSum_13 : decode cX6_leastSum 13 = .ok (.iload_n 1, 1) := dgX6_leastSum_0.2.2.2.2.2.2.2.2.2.1
theorem dX6_leastSum_14 : decode cX6_leastSum 14 = .ok (.invokestatic 53, 3) := dgX6_leastSum_0.2.2.2.2.2.2.2.2.2.2.1
theorem dX6_leastSum_17 : decode cX6_leastSum 17 = .ok (.istore_n 2, 1) := dgX6_leastSum_0.2.2.2.2.2.2.2.2.2.2.2.1
theorem dgX6_leastSum_18 : (decode cX6_leastSum 18 = .ok (.iload_n 2, 1)) ∧ (decode cX6_leastSum 19 = .ok (.aload_n 0, 1)) ∧ (decode cX6_leastSum 20 = .ok (.getfield 38, 3)) ∧ (decode cX6_leastSum 23 = .ok (.if_icmp .ne 13, 3)) ∧ (decode cX6_leastSum 26 = .ok (.aload_n 0, 1)) ∧ (decode cX6_leastSum 27 = .ok (.getfield 24, 3)) ∧ (decode cX6_leastSum 30 = .ok (.iload_n 1, 1)) ∧ (decode cX6_leastSum 31 = .ok (.iconst 0, 1)) ∧ (decode cX6_leastSum 32 = .ok (.iastore, 1)) ∧ (decode cX6_leastSum 33 = .ok (.goto 28, 3)) ∧ (decode cX6_leastSum 36 = .ok (.iload_n 2, 1)) ∧ (decode cX6_leastSum 37 = .ok (.aload_n 0, 1)) ∧ True := dkW [(18, .iload_n 2, 1), (19, .aload_n 0, 1), (20, .getfield 38, 3), (23, .if_icmp .ne 13, 3), (26, .aload_n 0, 1), (27, .getfield 24, 3), (30, .iload_n 1, 1), (31, .iconst 0, 1), (32, .iastore, 1), (33, .goto 28, 3), (36, .iload_n 2, 1), (37, .aload_n 0, 1)] 18 (by decide +kernel)
theorem dX6_leastSum_18 : decode cX6_leastSum 18 = .ok (.iload_n 2, 1) := dgX6_leastSum_18.1
theorem dX6_leastSum_19 : decode cX6_leastSum 19 = .ok (.aload_n 0, 1) := dgX6_leastSum_18.2.1
theorem dX6_leastSum_20 : decode cX6_leastSum 20 = .ok (.getfield 38, 3) := dgX6_leastSum_18.2.2.1
theorem dX6_leastSum_23 : decode cX6_leastSum 23 = .ok (.if_icmp .ne 13, 3) := dgX6_leastSum_18.2.2.2.1
theorem dX6_leastSum_26 : decode cX6_leastSum 26 = .ok (.aload_n 0, 1) := dgX6_leastSum_18.2.2.2.2.1
theorem dX6_leastSum_27 : decode cX6_leastSum 27 = .ok (.getfield 24, 3) := dgX6_leastSum_18.2.2.2.2.2.1
theorem dX6_leastSum_30 : decode cX6_leastSum 30 = .ok (.iload_n 1, 1) := dgX6_leastSum_18.2.2.2.2.2.2.1
theorem dX6_leastSum_31 : decode cX6_leastSum 31 = .ok (.iconst 0, 1) := dgX6_leastSum_18.2.2.2.2.2.2.2.1
theorem dX6_leastSum_32 : decode cX6_leastSum 32 = .ok (.iastore, 1) := dgX6_leastSum_18.2.2.2.2.2.2.2.2.1
theorem dX6_leastSum_33 : decode cX6_leastSum 33 = .ok (.goto 28, 3) := dgX6_leastSum_18.2.2.2.2.2.2.2.2.2.1
theorem dX6_leastSum_36 : decode cX6_leastSum 36 = .ok (.iload_n 2, 1) := dgX6_leastSum_18.2.2.2.2.2.2.2.2.2.2.1
theorem dX6_leastSum_37 : decode cX6_leastSum 37 = .ok (.aload_n 0, 1) := dgX6_leastSum_18.2.2.2.2.2.2.2.2.2.2.2.1
theorem dgX6_leastSum_38 : (decode cX6_leastSum 38 = .ok (.getfield 38, 3)) ∧ (decode cX6_leastSum 41 = .ok (.if_icmp .ge 20, 3)) ∧ (decode cX6_leastSum 44 = .ok (.aload_n 0, 1)) ∧ (decode cX6_leastSum 45 = .ok (.getfield 24, 3)) ∧ (decode cX6_leastSum 48 = .ok (.iload_n 1, 1)) ∧ (decode cX6_leastSum 49 = .ok (.aload_n 0, 1)) ∧ (decode cX6_leastSum 50 = .ok (.iload_n 1, 1)) ∧ (decode cX6_leastSum 51 = .ok (.aload_n 0, 1)) ∧ (decode cX6_leastSum 52 = .ok (.getfield 17, 3)) ∧ (decode cX6_leastSum 55 = .ok (.iload_n 2, 1)) ∧ (decode cX6_leastSum 56 = .ok (.aaload, 1)) ∧ (decode cX6_leastSum 57 = .ok (.invokevirtual 59, 3)) ∧ True := dkW [(38, .getfield 38, 3), (41, .if_icmp .ge 20, 3), (44, .aload_n 0, 1), (45, .getfield 24, 3), (48, .iload_n 1, 1), (49, .aload_n 0, 1), (50, .iload_n 1, 1), (51, .aload_n 0, 1), (52, .getfield 17, 3), (55, .iload_n 2, 1), (56, .aaload, 1), (57, .invokevirtual 59, 3)] 38 (by decide +kernel)
theorem dX6_leastSum_38 : decode cX6_leastSum 38 = .ok (.getfield 38, 3) := dgX6_leastSum_38.1
theorem dX6_leastSum_41 : decode cX6_leastSum 41 = .ok (.if_icmp .ge 20, 3) := dgX6_leastSum_38.2.1
theorem dX6_leastSum_44 : decode cX6_leastSum 44 = .ok (.aload_n 0, 1) := dgX6_leastSum_38.2.2.1
theorem dX6_leastSum_45 : decode cX6_leastSum 45 = .ok (.getfield 24, 3) := dgX6_leastSum_38.2.2.2.1
theorem dX6_leastSum_48 : decode cX6_leastSum 48 = .ok (.iload_n 1, 1) := dgX6_leastSum_38.2.2.2.2.1
theorem dX6_leastSum_49 : decode cX6_leastSum 49 = .ok (.aload_n 0, 1) := dgX6_leastSum_38.2.2.2.2.2.1
theorem dX6_leastSum_50 : decode cX6_leastSum 50 = .ok (.iload_n 1, 1) := dgX6_leastSum_38.2.2.2.2.2.2.1
theorem dX6_leastSum_51 : decode cX6_leastSum 51 = .ok (.aload_n 0, 1) := dgX6_leastSum_38.2.2.2.2.2.2.2.1
theorem dX6_leastSum_52 : decode cX6_leastSum 52 = .ok (.getfield 17, 3) := dgX6_leastSum_38.2.2.2.2.2.2.2.2.1
theorem dX6_leastSum_55 : decode cX6_leastSum 55 = .ok (.iload_n 2, 1) := dgX6_leastSum_38.2.2.2.2.2.2.2.2.2.1
theorem dX6_leastSum_56 : decode cX6_leastSum 56 = .ok (.aaload, 1) := dgX6_leastSum_38.2.2.2.2.2.2.2.2.2.2.1
theorem dX6_leastSum_57 : decode cX6_leastSum 57 = .ok (.invokevirtual 59, 3) := dgX6_leastSum_38.2.2.2.2.2.2.2.2.2.2.2.1
theorem dgX6_leastSum_60 : (decode cX6_leastSum 60 = .ok (.iastore, 1)) ∧ (decode cX6_leastSum 61 = .ok (.iinc 1 (-1), 3)) ∧ (decode cX6_leastSum 64 = .ok (.goto (-55), 3)) ∧ (decode cX6_leastSum 67 = .ok (.aload_n 0, 1)) ∧ (decode cX6_leastSum 68 = .ok (.getfield 24, 3)) ∧ (decode cX6_leastSum 71 = .ok (.iconst 0, 1)) ∧ (decode cX6_leastSum 72 = .ok (.iaload, 1)) ∧ (decode cX6_leastSum 73 = .ok (.ireturn, 1)) ∧ True := dkW [(60, .iastore, 1), (61, .iinc 1 (-1), 3), (64, .goto (-55), 3), (67, .aload_n 0, 1), (68, .getfield 24, 3), (71, .iconst 0, 1), (72, .iaload, 1), (73, .ireturn, 1)] 60 (by decide +kernel)
theorem dX6_leastSum_60 : decode cX6_leastSum 60 = .ok (.iastore, 1) := dgX6_leastSum_60.1
theorem dX6_leastSum_61 : decode cX6_leastSum 61 = .ok (.iinc 1 (-1), 3) := dgX6_leastSum_60.2.1
theorem dX6_leastSum_64 : decode cX6_leastSum 64 = .ok (.goto (-55), 3) := dgX6_leastSum_60.2.2.1
theorem dX6_leastSum_67 : decode cX6_leastSum 67 = .ok (.aload_n 0, 1) := dgX6_leastSum_60.2.2.2.1
theorem dX6_leastSum_68 : decode cX6_leastSum 68 = .ok (.getfield 24, 3) := dgX6_leastSum_60.2.2.2.2.1
theorem dX6_leastSum_71 : decode cX6_leastSum 71 = .ok (.iconst 0, 1) := dgX6_leastSum_60.2.2.2.2.2.1
theorem dX6_leastSum_72 : decode cX6_leastSum 72 = .ok (.iaload, 1) := dgX6_leastSum_60.2.2.2.2.2.2.1
theorem dX6_leastSum_73 : decode cX6_leastSum 73 = .ok (.ireturn, 1) := dgX6_leastSum_60.2.2.2.2.2.2.2.1
abbrev rmX6_leastSum : Room := { frames := 4, cells := 0, slots := 0, locals := 90 }
noncomputable def fX6_leastSum_b61 (N : Nat) (g9 : Hs → Int32 → Option (Int32 × Hs)) (t : Nat) (h : Hs) (x1 : Int32) : Option (Int32 × Hs) :=
  (some (x1 + (-1))).bind fun y1 =>
  g9 h y1
set_option maxHeartbeats 4000000 in
set_option maxRecDepth 20000 in
theorem wX6_leastSum_b61 {p : Program} {l : Launch} {e : Env} {s : State} {m : MethodId} {args : Array Value} {below : List Frame} {meth : Method} {c : Code} {G : Gl} {N : Nat} {h : Hs} {r : Int32 × Hs} {g9 : Hs → Int32 → Option (Int32 × Hs)} {t : Nat} {x1 : Int32} (C : Cx p s m args meth c cX6_leastSum RX6 3 G) (hret : meth.sig.returnType = (some .int)) (hg9 : ∀ (h : Hs) (x1 : Int32), g9 h x1 = some r → V p l e rmX6_leastSum s m args below meth c G 3 (MQ below (QcG G (some (.inl r.1)) r.2) args s rmX6_leastSum.cells rmX6_leastSum.slots (AG G)) h 0 0 9 [some (.inr (some t)), some (.inl x1), none] []) (hf : fX6_leastSum_b61 N g9 t h x1 = some r) : V p l e rmX6_leastSum s m args below meth c G 3 (MQ below (QcG G (some (.inl r.1)) r.2) args s rmX6_leastSum.cells rmX6_leastSum.slots (AG G)) h 0 0 61 [some (.inr (some t)), some (.inl x1), none] [] := by
  unfold fX6_leastSum_b61 at hf
  obtain ⟨y1, ey1, hf⟩ := bS hf
  refine r_iincE (v := -1) C dX6_leastSum_61 rfl (by decide) (by decide) ey1 ?_
  refine r_goto (tgt := 9) C dX6_leastSum_64 (by decide) ?_
  exact V.sub (hg9 _ _ hf) (LW_s rfl (LW_s rfl (LW_n (LW_e))))
noncomputable def fX6_leastSum_b9_body (N : Nat)  (g9 : Hs → Int32 → Option (Int32 × Hs)) (t : Nat) (h : Hs) (x1 : Int32) : Option (Int32 × Hs) :=
  if x1 < 0 then (
  (oR 6 3 h (some t)).bind fun o1 =>
  (lA 20 h o1 0).bind fun v2 =>
  some (v2, h))
  else (fJ6_bitCount_0f7a4 N h x1).bind fun r3 =>
  (oI 6 5 r3.2 (some t)).bind fun v4 =>
  if r3.1 = v4 then (
  (oR 6 3 r3.2 (some t)).bind fun o12 =>
  (sA r3.2 o12 x1 0).bind fun h13 =>
  fX6_leastSum_b61 N g9 t h13 x1)
  else (oI 6 5 r3.2 (some t)).bind fun v5 =>
  if v5 ≤ r3.1 then (
  fX6_leastSum_b61 N g9 t r3.2 x1)
  else (oR 6 3 r3.2 (some t)).bind fun o6 =>
  (oR 6 1 r3.2 (some t)).bind fun o7 =>
  (lQ 26 r3.2 o7 r3.1).bind fun o8 =>
  (rc 6 r3.2 (some t)).bind fun a10 =>
  (fX6_leastSumBehind N r3.2 a10 x1 o8).bind fun r9 =>
  (sA r9.2 o6 x1 r9.1).bind fun h11 =>
  fX6_leastSum_b61 N g9 t h11 x1
noncomputable def fX6_leastSum_b9 (N : Nat)  (t : Nat) (n : Nat) : Hs → Int32 → Option (Int32 × Hs) := lp (fun _ _ => none) (fun g h x1 => fX6_leastSum_b9_body N  g t h x1) n
set_option maxHeartbeats 4000000 in
set_option maxRecDepth 20000 in
theorem wX6_leastSum_b9_body {p : Program} {l : Launch} {e : Env} {s : State} {m : MethodId} {args : Array Value} {below : List Frame} {meth : Method} {c : Code} {G : Gl} {N : Nat} {h : Hs} {r : Int32 × Hs}  {g9 : Hs → Int32 → Option (Int32 × Hs)} {t : Nat} {x1 : Int32} (C : Cx p s m args meth c cX6_leastSum RX6 3 G) (hret : meth.sig.returnType = (some .int))  (hg9 : ∀ (h : Hs) (x1 : Int32), g9 h x1 = some r → V p l e rmX6_leastSum s m args below meth c G 3 (MQ below (QcG G (some (.inl r.1)) r.2) args s rmX6_leastSum.cells rmX6_leastSum.slots (AG G)) h 0 0 9 [some (.inr (some t)), some (.inl x1), none] []) (hf : fX6_leastSum_b9_body N  g9 t h x1 = some r) : V p l e rmX6_leastSum s m args below meth c G 3 (MQ below (QcG G (some (.inl r.1)) r.2) args s rmX6_leastSum.cells rmX6_leastSum.slots (AG G)) h 0 0 9 [some (.inr (some t)), some (.inl x1), none] [] := by
  unfold fX6_leastSum_b9_body at hf
  refine r_iload_n C dX6_leastSum_9 rfl ?_
  refine r_if_lt (tgt := 67) C dX6_leastSum_10 (by decide) (fun hc => ?_) (fun hc => ?_)
  · have hf := ifT hf hc
    refine r_aload_n C dX6_leastSum_67 rfl ?_
    obtain ⟨o1, eo1, hf⟩ := bS hf
    refine r_getR C dX6_leastSum_68 fl_X6_24 rfl eo1 ?_
    refine r_iconst (v := 0) C dX6_leastSum_71 (by decide) ?_
    obtain ⟨v2, ev2, hf⟩ := bS hf
    refine r_iald C dX6_leastSum_72 ev2 ?_
    exact r_iretF C dX6_leastSum_73 hret hf (by decide) (by decide)
  · have hf := ifF hf hc
    refine r_iload_n C dX6_leastSum_13 rfl ?_
    obtain ⟨r3, er3, hf⟩ := bS hf
    refine r_invS1 (As := [.inl x1]) C dX6_leastSum_14 mcJ6_bitCount_0f7a4 wd_930 wd_931 ⟨by decide, by decide⟩ ⟨by decide, by decide⟩ rfl (Nat.le_of_ble_eq_true rfl) (kJ6_bitCount_0f7a4 l G er3) ?_
    refine r_istore_n C dX6_leastSum_17 (by decide) ?_
    refine r_iload_n C dX6_leastSum_18 rfl ?_
    refine r_aload_n C dX6_leastSum_19 rfl ?_
    obtain ⟨v4, ev4, hf⟩ := bS hf
    refine r_getI C dX6_leastSum_20 fl_X6_38 rfl ev4 ?_
    refine r_icmp_ne (tgt := 36) C dX6_leastSum_23 (by decide) (fun hc => ?_) (fun hc => ?_)
    · have hf := ifF hf hc
      refine r_iload_n C dX6_leastSum_36 rfl ?_
      refine r_aload_n C dX6_leastSum_37 rfl ?_
      obtain ⟨v5, ev5, hf⟩ := bS hf
      refine r_getI C dX6_leastSum_38 fl_X6_38 rfl ev5 ?_
      refine r_icmp_ge (tgt := 61) C dX6_leastSum_41 (by decide) (fun hc => ?_) (fun hc => ?_)
      · have hf := ifT hf hc
        exact V.sub (wX6_leastSum_b61 C hret hg9 hf) (LW_s rfl (LW_s rfl (LW_n (LW_e))))
      · have hf := ifF hf hc
        refine r_aload_n C dX6_leastSum_44 rfl ?_
        obtain ⟨o6, eo6, hf⟩ := bS hf
        refine r_getR C dX6_leastSum_45 fl_X6_24 rfl eo6 ?_
        refine r_iload_n C dX6_leastSum_48 rfl ?_
        refine r_aload_n C dX6_leastSum_49 rfl ?_
        refine r_iload_n C dX6_leastSum_50 rfl ?_
        refine r_aload_n C dX6_leastSum_51 rfl ?_
        obtain ⟨o7, eo7, hf⟩ := bS hf
        refine r_getR C dX6_leastSum_52 fl_X6_17 rfl eo7 ?_
        refine r_iload_n C dX6_leastSum_55 rfl ?_
        obtain ⟨o8, eo8, hf⟩ := bS hf
        refine r_qald (t := 6) C dX6_leastSum_56 (by decide) (by decide) rfl eo8 ?_
        obtain ⟨a10, ea10, hf⟩ := bS hf
        obtain ⟨r9, er9, hf⟩ := bS hf
        refine r_invV1 (As := [.inl x1, .inr o8]) (ci := 6) C dX6_leastSum_57 mcX6_leastSumBehind wd_936 wd_938 wp_28 rfl rfl (by decide) ⟨by decide, by decide⟩ ⟨by decide, by decide⟩ rfl (Nat.le_of_ble_eq_true rfl) ea10 (kX6_leastSumBehind l G er9) ?_
        obtain ⟨h11, eh11, hf⟩ := bS hf
        refine r_iast C dX6_leastSum_60 eh11 ?_
        exact V.sub (wX6_leastSum_b61 C hret hg9 hf) (LW_s rfl (LW_s rfl (LW_n (LW_e))))
    · have hf := ifT hf hc
      refine r_aload_n C dX6_leastSum_26 rfl ?_
      obtain ⟨o12, eo12, hf⟩ := bS hf
      refine r_getR C dX6_leastSum_27 fl_X6_24 rfl eo12 ?_
      refine r_iload_n C dX6_leastSum_30 rfl ?_
      refine r_iconst (v := 0) C dX6_leastSum_31 (by decide) ?_
      obtain ⟨h13, eh13, hf⟩ := bS hf
      refine r_iast C dX6_leastSum_32 eh13 ?_
      refine r_goto (tgt := 61) C dX6_leastSum_33 (by decide) ?_
      exact V.sub (wX6_leastSum_b61 C hret hg9 hf) (LW_s rfl (LW_s rfl (LW_n (LW_e))))
theorem wX6_leastSum_b9 {p : Program} {l : Launch} {e : Env} {s : State} {m : MethodId} {args : Array Value} {below : List Frame} {meth : Method} {c : Code} {G : Gl} {N : Nat} {r : Int32 × Hs}  {t : Nat} (C : Cx p s m args meth c cX6_leastSum RX6 3 G) (hret : meth.sig.returnType = (some .int))  : ∀ (n : Nat) (h : Hs) (x1 : Int32), fX6_leastSum_b9 N  t n h x1 = some r → V p l e rmX6_leastSum s m args below meth c G 3 (MQ below (QcG G (some (.inl r.1)) r.2) args s rmX6_leastSum.cells rmX6_leastSum.slots (AG G)) h 0 0 9 [some (.inr (some t)), some (.inl x1), none] [] := by
  intro n
  induction n with
  | zero => intro h x1 hf; exact absurd (show (none : Option (Int32 × Hs)) = some r from hf) (fun q => by cases q)
  | succ n ih => intro h x1 hf; exact wX6_leastSum_b9_body C hret  ih (show fX6_leastSum_b9_body N  (fX6_leastSum_b9 N  t n) t h x1 = some r from hf)
noncomputable def fX6_leastSum (N : Nat) (h : Hs) (t : Nat)  : Option (Int32 × Hs) :=
  (oI 6 4 h (some t)).bind fun v1 =>
  (some ((1 <<< (v1 &&& 31)) - 1)).bind fun y2 =>
  fX6_leastSum_b9 N t N h y2
set_option maxHeartbeats 4000000 in
set_option maxRecDepth 20000 in
theorem kX6_leastSum (l : Launch) (G : Gl) {N : Nat} {h : Hs} {t : Nat}  {r : Int32 × Hs} (hf : fX6_leastSum N h t  = some r) : CT l G yX6_leastSum cX6_leastSum 3 (some .int) rmX6_leastSum [.inr (some t)] h (some (.inl r.1)) r.2 := by
  refine mk_CT (by decide) (Nat.le_of_ble_eq_true rfl) ?_
  intro p e s m args below meth c C hret hin
  unfold fX6_leastSum at hf
  refine r_iconst (v := 1) C dX6_leastSum_0 (by decide) ?_
  refine r_aload_n C dX6_leastSum_1 rfl ?_
  obtain ⟨v1, ev1, hf⟩ := bS hf
  refine r_getI C dX6_leastSum_2 fl_X6_31 rfl ev1 ?_
  refine r_ishl C dX6_leastSum_5 ?_
  refine r_iconst (v := 1) C dX6_leastSum_6 (by decide) ?_
  refine r_isub C dX6_leastSum_7 ?_
  obtain ⟨y2, ey2, hf⟩ := bS hf
  refine r_istore_nE C dX6_leastSum_8 (by decide) ey2 ?_
  exact V.sub (wX6_leastSum_b9 C hret N _ _ hf) (LW_s rfl (LW_s rfl (LW_n (LW_e))))

theorem dgX6_give_0 : (decode cX6_give 0 = .ok (.iconst 0, 1)) ∧ (decode cX6_give 1 = .ok (.istore_n 1, 1)) ∧ (decode cX6_give 2 = .ok (.iconst 0, 1)) ∧ (decode cX6_give 3 = .ok (.istore_n 2, 1)) ∧ (decode cX6_give 4 = .ok (.iload_n 2, 1)) ∧ (decode cX6_give 5 = .ok (.aload_n 0, 1)) ∧ (decode cX6_give 6 = .ok (.getfield 38, 3)) ∧ (decode cX6_give 9 = .ok (.if_icmp .ge 61, 3)) ∧ (decode cX6_give 12 = .ok (.iconst 0, 1)) ∧ (decode cX6_give 13 = .ok (.istore_n 3, 1)) ∧ (decode cX6_give 14 = .ok (.iload_n 3, 1)) ∧ (decode cX6_give 15 = .ok (.aload_n 0, 1)) ∧ True := dkW [(0, .iconst 0, 1), (1, .istore_n 1, 1), (2, .iconst 0, 1), (3, .istore_n 2, 1), (4, .iload_n 2, 1), (5, .aload_n 0, 1), (6, .getfield 38, 3), (9, .if_icmp .ge 61, 3), (12, .iconst 0, 1), (13, .istore_n 3, 1), (14, .iload_n 3, 1), (15, .aload_n 0, 1)] 0 (by decide +kernel)
theorem dX6_give_0 : decode cX6_give 0 = .ok (.iconst 0, 1) := dgX6_give_0.1
theorem dX6_give_1 : decode cX6_give 1 = .ok (.istore_n 1, 1) := dgX6_give_0.2.1
theorem dX6_give_2 : decode cX6_give 2 = .ok (.iconst 0, 1) := dgX6_give_0.2.2.1
theorem dX6_give_3 : decode cX6_give 3 = .ok (.istore_n 2, 1) := dgX6_give_0.2.2.2.1
theorem dX6_give_4 : decode cX6_give 4 = .ok (.iload_n 2, 1) := dgX6_give_0.2.2.2.2.1
theorem dX6_give_5 : decode cX6_give 5 = .ok (.aload_n 0, 1) := dgX6_give_0.2.2.2.2.2.1
theorem dX6_give_6 : decode cX6_give 6 = .ok (.getfield 38, 3) := dgX6_give_0.2.2.2.2.2.2.1
theorem dX6_give_9 : decode cX6_give 9 = .ok (.if_icmp .ge 61, 3) := dgX6_give_0.2.2.2.2.2.2.2.1
theorem dX6_give_12 : decode cX6_give 12 = .ok (.iconst 0, 1) := dgX6_give_0.2.2.2.2.2.2.2.2.1
theorem dX6_give_13 : decode cX6_give 13 = .ok (.istore_n 3, 1) := dgX6_give_0.2.2.2.2.2.2.2.2.2.1
theorem dX6_give_14 : decode cX6_give 14 = .ok (.iload_n 3, 1) := dgX6_give_0.2.2.2.2.2.2.2.2.2.2.1
theorem dX6_give_15 : decode cX6_give 15 = .ok (.aload_n 0, 1) := dgX6_give_0.2.2.2.2.2.2.2.2.2.2.2.1
theorem dgX6_give_16 : (decode cX6_give 16 = .ok (.getfield 31, 3)) ∧ (decode cX6_give 19 = .ok (.iconst 1, 1)) ∧ (decode cX6_give 20 = .ok (.isub, 1)) ∧ (decode cX6_give 21 = .ok (.if_icmp .ge 30, 3)) ∧ (decode cX6_give 24 = .ok (.aload_n 0, 1)) ∧ (decode cX6_give 25 = .ok (.iload_n 1, 1)) ∧ (decode cX6_give 26 = .ok (.iload_n 3, 1)) ∧ (decode cX6_give 27 = .ok (.aload_n 0, 1)) ∧ (decode cX6_give 28 = .ok (.getfield 17, 3)) ∧ (decode cX6_give 31 = .ok (.iload_n 2, 1)) ∧ (decode cX6_give 32 = .ok (.aaload, 1)) ∧ (decode cX6_give 33 = .ok (.invokevirtual 63, 3)) ∧ True := dkW [(16, .getfield 31, 3), (19, .iconst 1, 1), (20, .isub, 1), (21, .if_icmp .ge 30, 3), (24, .aload_n 0, 1), (25, .iload_n 1, 1), (26, .iload_n 3, 1), (27, .aload_n 0, 1), (28, .getfield 17, 3), (31, .iload_n 2, 1), (32, .aaload, 1), (33, .invokevirtual 63, 3)] 16 (by decide +kernel)
theorem dX6_give_16 : decode cX6_give 16 = .ok (.getfield 31, 3) := dgX6_give_16.1
theorem dX6_give_19 : decode cX6_give 19 = .ok (.iconst 1, 1) := dgX6_give_16.2.1
theorem dX6_give_20 : decode cX6_give 20 = .ok (.isub, 1) := dgX6_give_16.2.2.1
theorem dX6_give_21 : decode cX6_give 21 = .ok (.if_icmp .ge 30, 3) := dgX6_give_16.2.2.2.1
theorem dX6_give_24 : decode cX6_give 24 = .ok (.aload_n 0, 1) := dgX6_give_16.2.2.2.2.1
theorem dX6_give_25 : decode cX6_give 25 = .ok (.iload_n 1, 1) := dgX6_give_16.2.2.2.2.2.1
theorem dX6_give_26 : decode cX6_give 26 = .ok (.iload_n 3, 1) := dgX6_give_16.2.2.2.2.2.2.1
theorem dX6_give_27 : decode cX6_give 27 = .ok (.aload_n 0, 1) := dgX6_give_16.2.2.2.2.2.2.2.1
theorem dX6_give_28 : decode cX6_give 28 = .ok (.getfield 17, 3) := dgX6_give_16.2.2.2.2.2.2.2.2.1
theorem dX6_give_31 : decode cX6_give 31 = .ok (.iload_n 2, 1) := dgX6_give_16.2.2.2.2.2.2.2.2.2.1
theorem dX6_give_32 : decode cX6_give 32 = .ok (.aaload, 1) := dgX6_give_16.2.2.2.2.2.2.2.2.2.2.1
theorem dX6_give_33 : decode cX6_give 33 = .ok (.invokevirtual 63, 3) := dgX6_give_16.2.2.2.2.2.2.2.2.2.2.2.1
theorem dgX6_give_36 : (decode cX6_give 36 = .ok (.aload_n 0, 1)) ∧ (decode cX6_give 37 = .ok (.getfield 24, 3)) ∧ (decode cX6_give 40 = .ok (.iload_n 1, 1)) ∧ (decode cX6_give 41 = .ok (.iaload, 1)) ∧ (decode cX6_give 42 = .ok (.if_icmp .eq 9, 3)) ∧ (decode cX6_give 45 = .ok (.iinc 3 1, 3)) ∧ (decode cX6_give 48 = .ok (.goto (-34), 3)) ∧ (decode cX6_give 51 = .ok (.aload_n 0, 1)) ∧ (decode cX6_give 52 = .ok (.getfield 20, 3)) ∧ (decode cX6_give 55 = .ok (.iload_n 2, 1)) ∧ (decode cX6_give 56 = .ok (.iload_n 3, 1)) ∧ (decode cX6_give 57 = .ok (.iastore, 1)) ∧ True := dkW [(36, .aload_n 0, 1), (37, .getfield 24, 3), (40, .iload_n 1, 1), (41, .iaload, 1), (42, .if_icmp .eq 9, 3), (45, .iinc 3 1, 3), (48, .goto (-34), 3), (51, .aload_n 0, 1), (52, .getfield 20, 3), (55, .iload_n 2, 1), (56, .iload_n 3, 1), (57, .iastore, 1)] 36 (by decide +kernel)
theorem dX6_give_36 : decode cX6_give 36 = .ok (.aload_n 0, 1) := dgX6_give_36.1
theorem dX6_give_37 : decode cX6_give 37 = .ok (.getfield 24, 3) := dgX6_give_36.2.1
theorem dX6_give_40 : decode cX6_give 40 = .ok (.iload_n 1, 1) := dgX6_give_36.2.2.1
theorem dX6_give_41 : decode cX6_give 41 = .ok (.iaload, 1) := dgX6_give_36.2.2.2.1
theorem dX6_give_42 : decode cX6_give 42 = .ok (.if_icmp .eq 9, 3) := dgX6_give_36.2.2.2.2.1
theorem dX6_give_45 : decode cX6_give 45 = .ok (.iinc 3 1, 3) := dgX6_give_36.2.2.2.2.2.1
theorem dX6_give_48 : decode cX6_give 48 = .ok (.goto (-34), 3) := dgX6_give_36.2.2.2.2.2.2.1
theorem dX6_give_51 : decode cX6_give 51 = .ok (.aload_n 0, 1) := dgX6_give_36.2.2.2.2.2.2.2.1
theorem dX6_give_52 : decode cX6_give 52 = .ok (.getfield 20, 3) := dgX6_give_36.2.2.2.2.2.2.2.2.1
theorem dX6_give_55 : decode cX6_give 55 = .ok (.iload_n 2, 1) := dgX6_give_36.2.2.2.2.2.2.2.2.2.1
theorem dX6_give_56 : decode cX6_give 56 = .ok (.iload_n 3, 1) := dgX6_give_36.2.2.2.2.2.2.2.2.2.2.1
theorem dX6_give_57 : decode cX6_give 57 = .ok (.iastore, 1) := dgX6_give_36.2.2.2.2.2.2.2.2.2.2.2.1
theorem dgX6_give_58 : (decode cX6_give 58 = .ok (.iload_n 1, 1)) ∧ (decode cX6_give 59 = .ok (.iconst 1, 1)) ∧ (decode cX6_give 60 = .ok (.iload_n 3, 1)) ∧ (decode cX6_give 61 = .ok (.ishl, 1)) ∧ (decode cX6_give 62 = .ok (.ior, 1)) ∧ (decode cX6_give 63 = .ok (.istore_n 1, 1)) ∧ (decode cX6_give 64 = .ok (.iinc 2 1, 3)) ∧ (decode cX6_give 67 = .ok (.goto (-63), 3)) ∧ (decode cX6_give 70 = .ok (.aload_n 0, 1)) ∧ (decode cX6_give 71 = .ok (.aload_n 0, 1)) ∧ (decode cX6_give 72 = .ok (.getfield 38, 3)) ∧ (decode cX6_give 75 = .ok (.putfield 81, 3)) ∧ True := dkW [(58, .iload_n 1, 1), (59, .iconst 1, 1), (60, .iload_n 3, 1), (61, .ishl, 1), (62, .ior, 1), (63, .istore_n 1, 1), (64, .iinc 2 1, 3), (67, .goto (-63), 3), (70, .aload_n 0, 1), (71, .aload_n 0, 1), (72, .getfield 38, 3), (75, .putfield 81, 3)] 58 (by decide +kernel)
theorem dX6_give_58 : decode cX6_give 58 = .ok (.iload_n 1, 1) := dgX6_give_58.1
theorem dX6_give_59 : decode cX6_give 59 = .ok (.iconst 1, 1) := dgX6_give_58.2.1
theorem dX6_give_60 : decode cX6_give 60 = .ok (.iload_n 3, 1) := dgX6_give_58.2.2.1
theorem dX6_give_61 : decode cX6_give 61 = .ok (.ishl, 1) := dgX6_give_58.2.2.2.1
theorem dX6_give_62 : decode cX6_give 62 = .ok (.ior, 1) := dgX6_give_58.2.2.2.2.1
theorem dX6_give_63 : decode cX6_give 63 = .ok (.istore_n 1, 1) := dgX6_give_58.2.2.2.2.2.1
theorem dX6_give_64 : decode cX6_give 64 = .ok (.iinc 2 1, 3) := dgX6_give_58.2.2.2.2.2.2.1
theorem dX6_give_67 : decode cX6_give 67 = .ok (.goto (-63), 3) := dgX6_give_58.2.2.2.2.2.2.2.1
theorem dX6_give_70 : decode cX6_give 70 = .ok (.aload_n 0, 1) := dgX6_give_58.2.2.2.2.2.2.2.2.1
theorem dX6_give_71 : decode cX6_give 71 = .ok (.aload_n 0, 1) := dgX6_give_58.2.2.2.2.2.2.2.2.2.1
theorem dX6_give_72 : decode cX6_give 72 = .ok (.getfield 38, 3) := dgX6_give_58.2.2.2.2.2.2.2.2.2.2.1
theorem dX6_give_75 : decode cX6_give 75 = .ok (.putfield 81, 3) := dgX6_give_58.2.2.2.2.2.2.2.2.2.2.2.1
theorem dgX6_give_78 : (decode cX6_give 78 = .ok (.return_, 1)) ∧ True := dkW [(78, .return_, 1)] 78 (by decide +kernel)
theorem dX6_give_78 : decode cX6_give 78 = .ok (.return_, 1) := dgX6_give_78.1
abbrev rmX6_give : Room := { frames := 3, cells := 0, slots := 0, locals := 66 }
noncomputable def fX6_give_b51 (N : Nat) (g4 : Hs → Int32 → Int32 → Option (Hs)) (t : Nat) (h : Hs) (x1 : Int32) (x2 : Int32) (x3 : Int32) : Option (Hs) :=
  (oR 6 2 h (some t)).bind fun o1 =>
  (sA h o1 x2 x3).bind fun h2 =>
  (some (x1 ||| (1 <<< (x3 &&& 31)))).bind fun y3 =>
  (some (x2 + 1)).bind fun y4 =>
  g4 h2 y3 y4
set_option maxHeartbeats 4000000 in
set_option maxRecDepth 20000 in
theorem wX6_give_b51 {p : Program} {l : Launch} {e : Env} {s : State} {m : MethodId} {args : Array Value} {below : List Frame} {meth : Method} {c : Code} {G : Gl} {N : Nat} {h : Hs} {r : Hs} {g4 : Hs → Int32 → Int32 → Option (Hs)} {t : Nat} {x1 : Int32} {x2 : Int32} {x3 : Int32} (C : Cx p s m args meth c cX6_give RX6 4 G) (hret : meth.sig.returnType = none) (hg4 : ∀ (h : Hs) (x1 : Int32) (x2 : Int32), g4 h x1 x2 = some r → V p l e rmX6_give s m args below meth c G 4 (MQ below (QcG G (none) r) args s rmX6_give.cells rmX6_give.slots (AG G)) h 0 0 4 [some (.inr (some t)), some (.inl x1), some (.inl x2), none] []) (hf : fX6_give_b51 N g4 t h x1 x2 x3 = some r) : V p l e rmX6_give s m args below meth c G 4 (MQ below (QcG G (none) r) args s rmX6_give.cells rmX6_give.slots (AG G)) h 0 0 51 [some (.inr (some t)), some (.inl x1), some (.inl x2), some (.inl x3)] [] := by
  unfold fX6_give_b51 at hf
  refine r_aload_n C dX6_give_51 rfl ?_
  obtain ⟨o1, eo1, hf⟩ := bS hf
  refine r_getR C dX6_give_52 fl_X6_20 rfl eo1 ?_
  refine r_iload_n C dX6_give_55 rfl ?_
  refine r_iload_n C dX6_give_56 rfl ?_
  obtain ⟨h2, eh2, hf⟩ := bS hf
  refine r_iast C dX6_give_57 eh2 ?_
  refine r_iload_n C dX6_give_58 rfl ?_
  refine r_iconst (v := 1) C dX6_give_59 (by decide) ?_
  refine r_iload_n C dX6_give_60 rfl ?_
  refine r_ishl C dX6_give_61 ?_
  refine r_ior C dX6_give_62 ?_
  obtain ⟨y3, ey3, hf⟩ := bS hf
  refine r_istore_nE C dX6_give_63 (by decide) ey3 ?_
  obtain ⟨y4, ey4, hf⟩ := bS hf
  refine r_iincE (v := 1) C dX6_give_64 rfl (by decide) (by decide) ey4 ?_
  refine r_goto (tgt := 4) C dX6_give_67 (by decide) ?_
  exact V.sub (hg4 _ _ _ hf) (LW_s rfl (LW_s rfl (LW_s rfl (LW_n (LW_e)))))
noncomputable def fX6_give_b14_body (N : Nat) (g4 : Hs → Int32 → Int32 → Option (Hs)) (g14 : Hs → Int32 → Int32 → Int32 → Option (Hs)) (t : Nat) (h : Hs) (x1 : Int32) (x2 : Int32) (x3 : Int32) : Option (Hs) :=
  (oI 6 4 h (some t)).bind fun v1 =>
  if (v1 - 1) ≤ x3 then (
  fX6_give_b51 N g4 t h x1 x2 x3)
  else (oR 6 1 h (some t)).bind fun o2 =>
  (lQ 26 h o2 x2).bind fun o3 =>
  (rc 6 h (some t)).bind fun a5 =>
  (fX6_sumWith N h a5 x1 x3 o3).bind fun r4 =>
  (oR 6 3 r4.2 (some t)).bind fun o6 =>
  (lA 20 r4.2 o6 x1).bind fun v7 =>
  if r4.1 = v7 then (
  fX6_give_b51 N g4 t r4.2 x1 x2 x3)
  else (some (x3 + 1)).bind fun y8 =>
  g14 r4.2 x1 x2 y8
noncomputable def fX6_give_b14 (N : Nat) (g4 : Hs → Int32 → Int32 → Option (Hs)) (t : Nat) (n : Nat) : Hs → Int32 → Int32 → Int32 → Option (Hs) := lp (fun _ _ _ _ => none) (fun g h x1 x2 x3 => fX6_give_b14_body N g4 g t h x1 x2 x3) n
set_option maxHeartbeats 4000000 in
set_option maxRecDepth 20000 in
theorem wX6_give_b14_body {p : Program} {l : Launch} {e : Env} {s : State} {m : MethodId} {args : Array Value} {below : List Frame} {meth : Method} {c : Code} {G : Gl} {N : Nat} {h : Hs} {r : Hs} {g4 : Hs → Int32 → Int32 → Option (Hs)} {g14 : Hs → Int32 → Int32 → Int32 → Option (Hs)} {t : Nat} {x1 : Int32} {x2 : Int32} {x3 : Int32} (C : Cx p s m args meth c cX6_give RX6 4 G) (hret : meth.sig.returnType = none) (hg4 : ∀ (h : Hs) (x1 : Int32) (x2 : Int32), g4 h x1 x2 = some r → V p l e rmX6_give s m args below meth c G 4 (MQ below (QcG G (none) r) args s rmX6_give.cells rmX6_give.slots (AG G)) h 0 0 4 [some (.inr (some t)), some (.inl x1), some (.inl x2), none] []) (hg14 : ∀ (h : Hs) (x1 : Int32) (x2 : Int32) (x3 : Int32), g14 h x1 x2 x3 = some r → V p l e rmX6_give s m args below meth c G 4 (MQ below (QcG G (none) r) args s rmX6_give.cells rmX6_give.slots (AG G)) h 0 0 14 [some (.inr (some t)), some (.inl x1), some (.inl x2), some (.inl x3)] []) (hf : fX6_give_b14_body N g4 g14 t h x1 x2 x3 = some r) : V p l e rmX6_give s m args below meth c G 4 (MQ below (QcG G (none) r) args s rmX6_give.cells rmX6_give.slots (AG G)) h 0 0 14 [some (.inr (some t)), some (.inl x1), some (.inl x2), some (.inl x3)] [] := by
  unfold fX6_give_b14_body at hf
  refine r_iload_n C dX6_give_14 rfl ?_
  refine r_aload_n C dX6_give_15 rfl ?_
  obtain ⟨v1, ev1, hf⟩ := bS hf
  refine r_getI C dX6_give_16 fl_X6_31 rfl ev1 ?_
  refine r_iconst (v := 1) C dX6_give_19 (by decide) ?_
  refine r_isub C dX6_give_20 ?_
  refine r_icmp_ge (tgt := 51) C dX6_give_21 (by decide) (fun hc => ?_) (fun hc => ?_)
  · have hf := ifT hf hc
    exact V.sub (wX6_give_b51 C hret hg4 hf) (LW_s rfl (LW_s rfl (LW_s rfl (LW_s rfl (LW_e)))))
  · have hf := ifF hf hc
    refine r_aload_n C dX6_give_24 rfl ?_
    refine r_iload_n C dX6_give_25 rfl ?_
    refine r_iload_n C dX6_give_26 rfl ?_
    refine r_aload_n C dX6_give_27 rfl ?_
    obtain ⟨o2, eo2, hf⟩ := bS hf
    refine r_getR C dX6_give_28 fl_X6_17 rfl eo2 ?_
    refine r_iload_n C dX6_give_31 rfl ?_
    obtain ⟨o3, eo3, hf⟩ := bS hf
    refine r_qald (t := 6) C dX6_give_32 (by decide) (by decide) rfl eo3 ?_
    obtain ⟨a5, ea5, hf⟩ := bS hf
    obtain ⟨r4, er4, hf⟩ := bS hf
    refine r_invV1 (As := [.inl x1, .inl x3, .inr o3]) (ci := 6) C dX6_give_33 mcX6_sumWith wd_940 wd_942 wp_29 rfl rfl (by decide) ⟨by decide, by decide⟩ ⟨by decide, by decide⟩ rfl (Nat.le_of_ble_eq_true rfl) ea5 (kX6_sumWith l G er4) ?_
    refine r_aload_n C dX6_give_36 rfl ?_
    obtain ⟨o6, eo6, hf⟩ := bS hf
    refine r_getR C dX6_give_37 fl_X6_24 rfl eo6 ?_
    refine r_iload_n C dX6_give_40 rfl ?_
    obtain ⟨v7, ev7, hf⟩ := bS hf
    refine r_iald C dX6_give_41 ev7 ?_
    refine r_icmp_eq (tgt := 51) C dX6_give_42 (by decide) (fun hc => ?_) (fun hc => ?_)
    · have hf := ifT hf hc
      exact V.sub (wX6_give_b51 C hret hg4 hf) (LW_s rfl (LW_s rfl (LW_s rfl (LW_s rfl (LW_e)))))
    · have hf := ifF hf hc
      obtain ⟨y8, ey8, hf⟩ := bS hf
      refine r_iincE (v := 1) C dX6_give_45 rfl (by decide) (by decide) ey8 ?_
      refine r_goto (tgt := 14) C dX6_give_48 (by decide) ?_
      exact V.sub (hg14 _ _ _ _ hf) (LW_s rfl (LW_s rfl (LW_s rfl (LW_s rfl (LW_e)))))
theorem wX6_give_b14 {p : Program} {l : Launch} {e : Env} {s : State} {m : MethodId} {args : Array Value} {below : List Frame} {meth : Method} {c : Code} {G : Gl} {N : Nat} {r : Hs} {g4 : Hs → Int32 → Int32 → Option (Hs)} {t : Nat} (C : Cx p s m args meth c cX6_give RX6 4 G) (hret : meth.sig.returnType = none) (hg4 : ∀ (h : Hs) (x1 : Int32) (x2 : Int32), g4 h x1 x2 = some r → V p l e rmX6_give s m args below meth c G 4 (MQ below (QcG G (none) r) args s rmX6_give.cells rmX6_give.slots (AG G)) h 0 0 4 [some (.inr (some t)), some (.inl x1), some (.inl x2), none] []) : ∀ (n : Nat) (h : Hs) (x1 : Int32) (x2 : Int32) (x3 : Int32), fX6_give_b14 N g4 t n h x1 x2 x3 = some r → V p l e rmX6_give s m args below meth c G 4 (MQ below (QcG G (none) r) args s rmX6_give.cells rmX6_give.slots (AG G)) h 0 0 14 [some (.inr (some t)), some (.inl x1), some (.inl x2), some (.inl x3)] [] := by
  intro n
  induction n with
  | zero => intro h x1 x2 x3 hf; exact absurd (show (none : Option (Hs)) = some r from hf) (fun q => by cases q)
  | succ n ih => intro h x1 x2 x3 hf; exact wX6_give_b14_body C hret hg4 ih (show fX6_give_b14_body N g4 (fX6_give_b14 N g4 t n) t h x1 x2 x3 = some r from hf)
noncomputable def fX6_give_b4_body (N : Nat)  (g4 : Hs → Int32 → Int32 → Option (Hs)) (t : Nat) (h : Hs) (x1 : Int32) (x2 : Int32) : Option (Hs) :=
  (oI 6 5 h (some t)).bind fun v1 =>
  if v1 ≤ x2 then (
  (oI 6 5 h (some t)).bind fun v2 =>
  (qI 6 6 h (some t) v2).bind fun h3 =>
  some h3)
  else fX6_give_b14 N g4 t N h x1 x2 0
noncomputable def fX6_give_b4 (N : Nat)  (t : Nat) (n : Nat) : Hs → Int32 → Int32 → Option (Hs) := lp (fun _ _ _ => none) (fun g h x1 x2 => fX6_give_b4_body N  g t h x1 x2) n
set_option maxHeartbeats 4000000 in
set_option maxRecDepth 20000 in
theorem wX6_give_b4_body {p : Program} {l : Launch} {e : Env} {s : State} {m : MethodId} {args : Array Value} {below : List Frame} {meth : Method} {c : Code} {G : Gl} {N : Nat} {h : Hs} {r : Hs}  {g4 : Hs → Int32 → Int32 → Option (Hs)} {t : Nat} {x1 : Int32} {x2 : Int32} (C : Cx p s m args meth c cX6_give RX6 4 G) (hret : meth.sig.returnType = none)  (hg4 : ∀ (h : Hs) (x1 : Int32) (x2 : Int32), g4 h x1 x2 = some r → V p l e rmX6_give s m args below meth c G 4 (MQ below (QcG G (none) r) args s rmX6_give.cells rmX6_give.slots (AG G)) h 0 0 4 [some (.inr (some t)), some (.inl x1), some (.inl x2), none] []) (hf : fX6_give_b4_body N  g4 t h x1 x2 = some r) : V p l e rmX6_give s m args below meth c G 4 (MQ below (QcG G (none) r) args s rmX6_give.cells rmX6_give.slots (AG G)) h 0 0 4 [some (.inr (some t)), some (.inl x1), some (.inl x2), none] [] := by
  unfold fX6_give_b4_body at hf
  refine r_iload_n C dX6_give_4 rfl ?_
  refine r_aload_n C dX6_give_5 rfl ?_
  obtain ⟨v1, ev1, hf⟩ := bS hf
  refine r_getI C dX6_give_6 fl_X6_38 rfl ev1 ?_
  refine r_icmp_ge (tgt := 70) C dX6_give_9 (by decide) (fun hc => ?_) (fun hc => ?_)
  · have hf := ifT hf hc
    refine r_aload_n C dX6_give_70 rfl ?_
    refine r_aload_n C dX6_give_71 rfl ?_
    obtain ⟨v2, ev2, hf⟩ := bS hf
    refine r_getI C dX6_give_72 fl_X6_38 rfl ev2 ?_
    obtain ⟨h3, eh3, hf⟩ := bS hf
    refine r_putI C dX6_give_75 fl_X6_81 (Or.inl fn_6_6) rfl eh3 ?_
    exact r_vretF C dX6_give_78 hret hf (by decide) (by decide)
  · have hf := ifF hf hc
    refine r_iconst (v := 0) C dX6_give_12 (by decide) ?_
    refine r_istore_n C dX6_give_13 (by decide) ?_
    exact V.sub (wX6_give_b14 C hret hg4 N _ _ _ _ hf) (LW_s rfl (LW_s rfl (LW_s rfl (LW_s rfl (LW_e)))))
theorem wX6_give_b4 {p : Program} {l : Launch} {e : Env} {s : State} {m : MethodId} {args : Array Value} {below : List Frame} {meth : Method} {c : Code} {G : Gl} {N : Nat} {r : Hs}  {t : Nat} (C : Cx p s m args meth c cX6_give RX6 4 G) (hret : meth.sig.returnType = none)  : ∀ (n : Nat) (h : Hs) (x1 : Int32) (x2 : Int32), fX6_give_b4 N  t n h x1 x2 = some r → V p l e rmX6_give s m args below meth c G 4 (MQ below (QcG G (none) r) args s rmX6_give.cells rmX6_give.slots (AG G)) h 0 0 4 [some (.inr (some t)), some (.inl x1), some (.inl x2), none] [] := by
  intro n
  induction n with
  | zero => intro h x1 x2 hf; exact absurd (show (none : Option (Hs)) = some r from hf) (fun q => by cases q)
  | succ n ih => intro h x1 x2 hf; exact wX6_give_b4_body C hret  ih (show fX6_give_b4_body N  (fX6_give_b4 N  t n) t h x1 x2 = some r from hf)
noncomputable def fX6_give (N : Nat) (h : Hs) (t : Nat)  : Option (Hs) :=
  fX6_give_b4 N t N h 0 0
set_option maxHeartbeats 4000000 in
set_option maxRecDepth 20000 in
theorem kX6_give (l : Launch) (G : Gl) {N : Nat} {h : Hs} {t : Nat}  {r : Hs} (hf : fX6_give N h t  = some r) : CT l G yX6_give cX6_give 4 none rmX6_give [.inr (some t)] h (none) r := by
  refine mk_CT (by decide) (Nat.le_of_ble_eq_true rfl) ?_
  intro p e s m args below meth c C hret hin
  unfold fX6_give at hf
  refine r_iconst (v := 0) C dX6_give_0 (by decide) ?_
  refine r_istore_n C dX6_give_1 (by decide) ?_
  refine r_iconst (v := 0) C dX6_give_2 (by decide) ?_
  refine r_istore_n C dX6_give_3 (by decide) ?_
  exact V.sub (wX6_give_b4 C hret N _ _ _ hf) (LW_s rfl (LW_s rfl (LW_s rfl (LW_n (LW_e)))))

theorem dgX6_leastPainting_0 : (decode cX6_leastPainting 0 = .ok (.aload_n 0, 1)) ∧ (decode cX6_leastPainting 1 = .ok (.getfield 38, 3)) ∧ (decode cX6_leastPainting 4 = .ok (.ifCond .ne 8, 3)) ∧ (decode cX6_leastPainting 7 = .ok (.ldc 45, 2)) ∧ (decode cX6_leastPainting 9 = .ok (.goto 7, 3)) ∧ (decode cX6_leastPainting 12 = .ok (.aload_n 0, 1)) ∧ (decode cX6_leastPainting 13 = .ok (.invokevirtual 46, 3)) ∧ (decode cX6_leastPainting 16 = .ok (.istore_n 1, 1)) ∧ (decode cX6_leastPainting 17 = .ok (.iload_n 1, 1)) ∧ (decode cX6_leastPainting 18 = .ok (.ldc 45, 2)) ∧ (decode cX6_leastPainting 20 = .ok (.if_icmp .ge 7, 3)) ∧ (decode cX6_leastPainting 23 = .ok (.aload_n 0, 1)) ∧ True := dkW [(0, .aload_n 0, 1), (1, .getfield 38, 3), (4, .ifCond .ne 8, 3), (7, .ldc 45, 2), (9, .goto 7, 3), (12, .aload_n 0, 1), (13, .invokevirtual 46, 3), (16, .istore_n 1, 1), (17, .iload_n 1, 1), (18, .ldc 45, 2), (20, .if_icmp .ge 7, 3), (23, .aload_n 0, 1)] 0 (by decide +kernel)
theorem dX6_leastPainting_0 : decode cX6_leastPainting 0 = .ok (.aload_n 0, 1) := dgX6_leastPainting_0.1
theorem dX6_leastPainting_1 : decode cX6_leastPainting 1 = .ok (.getfield 38, 3) := dgX6_leastPainting_0.2.1
theorem dX6_leastPainting_4 : decode cX6_leastPainting 4 = .ok (.ifCond .ne 8, 3) := dgX6_leastPainting_0.2.2.1
theorem dX6_leastPainting_7 : decode cX6_leastPainting 7 = .ok (.ldc 45, 2) := dgX6_leastPainting_0.2.2.2.1
theorem dX6_leastPainting_9 : decode cX6_leastPainting 9 = .ok (.goto 7, 3) := dgX6_leastPainting_0.2.2.2.2.1
theorem dX6_leastPainting_12 : decode cX6_leastPainting 12 = .ok (.aload_n 0, 1) := dgX6_leastPainting_0.2.2.2.2.2.1
theorem dX6_leastPainting_13 : decode cX6_leastPainting 13 = .ok (.invokevirtual 46, 3) := dgX6_leastPainting_0.2.2.2.2.2.2.1
theorem dX6_leastPainting_16 : decode cX6_leastPainting 16 = .ok (.istore_n 1, 1) := dgX6_leastPainting_0.2.2.2.2.2.2.2.1
theorem dX6_leastPainting_17 : decode cX6_leastPainting 17 = .ok (.iload_n 1, 1) := dgX6_leastPainting_0.2.2.2.2.2.2.2.2.1
theorem dX6_leastPainting_18 : decode cX6_leastPainting 18 = .ok (.ldc 45, 2) := dgX6_leastPainting_0.2.2.2.2.2.2.2.2.2.1
theorem dX6_leastPainting_20 : decode cX6_leastPainting 20 = .ok (.if_icmp .ge 7, 3) := dgX6_leastPainting_0.2.2.2.2.2.2.2.2.2.2.1
theorem dX6_leastPainting_23 : decode cX6_leastPainting 23 = .ok (.aload_n 0, 1) := dgX6_leastPainting_0.2.2.2.2.2.2.2.2.2.2.2.1
theorem dgX6_leastPainting_24 : (decode cX6_leastPainting 24 = .ok (.invokevirtual 50, 3)) ∧ (decode cX6_leastPainting 27 = .ok (.aload_n 0, 1)) ∧ (decode cX6_leastPainting 28 = .ok (.iconst 0, 1)) ∧ (decode cX6_leastPainting 29 = .ok (.putfield 38, 3)) ∧ (decode cX6_leastPainting 32 = .ok (.iload_n 1, 1)) ∧ (decode cX6_leastPainting 33 = .ok (.ldc 45, 2)) ∧ (decode cX6_leastPainting 35 = .ok (.if_icmp .ge 7, 3)) ∧ (decode cX6_leastPainting 38 = .ok (.iload_n 1, 1)) ∧ (decode cX6_leastPainting 39 = .ok (.goto 5, 3)) ∧ (decode cX6_leastPainting 42 = .ok (.bipush (-2), 2)) ∧ (decode cX6_leastPainting 44 = .ok (.ireturn, 1)) ∧ True := dkW [(24, .invokevirtual 50, 3), (27, .aload_n 0, 1), (28, .iconst 0, 1), (29, .putfield 38, 3), (32, .iload_n 1, 1), (33, .ldc 45, 2), (35, .if_icmp .ge 7, 3), (38, .iload_n 1, 1), (39, .goto 5, 3), (42, .bipush (-2), 2), (44, .ireturn, 1)] 24 (by decide +kernel)
theorem dX6_leastPainting_24 : decode cX6_leastPainting 24 = .ok (.invokevirtual 50, 3) := dgX6_leastPainting_24.1
theorem dX6_leastPainting_27 : decode cX6_leastPainting 27 = .ok (.aload_n 0, 1) := dgX6_leastPainting_24.2.1
theorem dX6_leastPainting_28 : decode cX6_leastPainting 28 = .ok (.iconst 0, 1) := dgX6_leastPainting_24.2.2.1
theorem dX6_leastPainting_29 : decode cX6_leastPainting 29 = .ok (.putfield 38, 3) := dgX6_leastPainting_24.2.2.2.1
theorem dX6_leastPainting_32 : decode cX6_leastPainting 32 = .ok (.iload_n 1, 1) := dgX6_leastPainting_24.2.2.2.2.1
theorem dX6_leastPainting_33 : decode cX6_leastPainting 33 = .ok (.ldc 45, 2) := dgX6_leastPainting_24.2.2.2.2.2.1
theorem dX6_leastPainting_35 : decode cX6_leastPainting 35 = .ok (.if_icmp .ge 7, 3) := dgX6_leastPainting_24.2.2.2.2.2.2.1
theorem dX6_leastPainting_38 : decode cX6_leastPainting 38 = .ok (.iload_n 1, 1) := dgX6_leastPainting_24.2.2.2.2.2.2.2.1
theorem dX6_leastPainting_39 : decode cX6_leastPainting 39 = .ok (.goto 5, 3) := dgX6_leastPainting_24.2.2.2.2.2.2.2.2.1
theorem dX6_leastPainting_42 : decode cX6_leastPainting 42 = .ok (.bipush (-2), 2) := dgX6_leastPainting_24.2.2.2.2.2.2.2.2.2.1
theorem dX6_leastPainting_44 : decode cX6_leastPainting 44 = .ok (.ireturn, 1) := dgX6_leastPainting_24.2.2.2.2.2.2.2.2.2.2.1
abbrev rmX6_leastPainting : Room := { frames := 5, cells := 0, slots := 0, locals := 112 }
noncomputable def fX6_leastPainting_b44 (N : Nat)  (t : Nat) (h : Hs) (u0 : Int32) : Option (Int32 × Hs) :=
  some (u0, h)
set_option maxHeartbeats 4000000 in
set_option maxRecDepth 20000 in
theorem wX6_leastPainting_b44 {p : Program} {l : Launch} {e : Env} {s : State} {m : MethodId} {args : Array Value} {below : List Frame} {meth : Method} {c : Code} {G : Gl} {N : Nat} {h : Hs} {r : Int32 × Hs}  {t : Nat} {u0 : Int32} (C : Cx p s m args meth c cX6_leastPainting RX6 2 G) (hret : meth.sig.returnType = (some .int))  (hf : fX6_leastPainting_b44 N  t h u0 = some r) : V p l e rmX6_leastPainting s m args below meth c G 2 (MQ below (QcG G (some (.inl r.1)) r.2) args s rmX6_leastPainting.cells rmX6_leastPainting.slots (AG G)) h 0 0 44 [some (.inr (some t)), none] [.inl u0] := by
  unfold fX6_leastPainting_b44 at hf
  exact r_iretF C dX6_leastPainting_44 hret hf (by decide) (by decide)
noncomputable def fX6_leastPainting_b27 (N : Nat)  (t : Nat) (h : Hs) (x1 : Int32) : Option (Int32 × Hs) :=
  (qI 6 5 h (some t) 0).bind fun h1 =>
  if 1000000 ≤ x1 then (
  fX6_leastPainting_b44 N t h1 (-2))
  else fX6_leastPainting_b44 N t h1 x1
set_option maxHeartbeats 4000000 in
set_option maxRecDepth 20000 in
theorem wX6_leastPainting_b27 {p : Program} {l : Launch} {e : Env} {s : State} {m : MethodId} {args : Array Value} {below : List Frame} {meth : Method} {c : Code} {G : Gl} {N : Nat} {h : Hs} {r : Int32 × Hs}  {t : Nat} {x1 : Int32} (C : Cx p s m args meth c cX6_leastPainting RX6 2 G) (hret : meth.sig.returnType = (some .int))  (hf : fX6_leastPainting_b27 N  t h x1 = some r) : V p l e rmX6_leastPainting s m args below meth c G 2 (MQ below (QcG G (some (.inl r.1)) r.2) args s rmX6_leastPainting.cells rmX6_leastPainting.slots (AG G)) h 0 0 27 [some (.inr (some t)), some (.inl x1)] [] := by
  unfold fX6_leastPainting_b27 at hf
  refine r_aload_n C dX6_leastPainting_27 rfl ?_
  refine r_iconst (v := 0) C dX6_leastPainting_28 (by decide) ?_
  obtain ⟨h1, eh1, hf⟩ := bS hf
  refine r_putI C dX6_leastPainting_29 fl_X6_38 (Or.inl fn_6_5) rfl eh1 ?_
  refine r_iload_n C dX6_leastPainting_32 rfl ?_
  refine r_ldc C dX6_leastPainting_33 wd_925 ?_
  refine r_icmp_ge (tgt := 42) C dX6_leastPainting_35 (by decide) (fun hc => ?_) (fun hc => ?_)
  · have hf := ifT hf hc
    refine r_bipush (v := -2) C dX6_leastPainting_42 (by decide) ?_
    exact V.sub (wX6_leastPainting_b44 C hret hf) (LW_s rfl (LW_n (LW_e)))
  · have hf := ifF hf hc
    refine r_iload_n C dX6_leastPainting_38 rfl ?_
    refine r_goto (tgt := 44) C dX6_leastPainting_39 (by decide) ?_
    exact V.sub (wX6_leastPainting_b44 C hret hf) (LW_s rfl (LW_n (LW_e)))
noncomputable def fX6_leastPainting_b16 (N : Nat)  (t : Nat) (h : Hs) (u0 : Int32) : Option (Int32 × Hs) :=
  if 1000000 ≤ u0 then (
  fX6_leastPainting_b27 N t h u0)
  else (rc 6 h (some t)).bind fun a2 =>
  (fX6_give N h a2 ).bind fun r1 =>
  fX6_leastPainting_b27 N t r1 u0
set_option maxHeartbeats 4000000 in
set_option maxRecDepth 20000 in
theorem wX6_leastPainting_b16 {p : Program} {l : Launch} {e : Env} {s : State} {m : MethodId} {args : Array Value} {below : List Frame} {meth : Method} {c : Code} {G : Gl} {N : Nat} {h : Hs} {r : Int32 × Hs}  {t : Nat} {u0 : Int32} (C : Cx p s m args meth c cX6_leastPainting RX6 2 G) (hret : meth.sig.returnType = (some .int))  (hf : fX6_leastPainting_b16 N  t h u0 = some r) : V p l e rmX6_leastPainting s m args below meth c G 2 (MQ below (QcG G (some (.inl r.1)) r.2) args s rmX6_leastPainting.cells rmX6_leastPainting.slots (AG G)) h 0 0 16 [some (.inr (some t)), none] [.inl u0] := by
  unfold fX6_leastPainting_b16 at hf
  refine r_istore_n C dX6_leastPainting_16 (by decide) ?_
  refine r_iload_n C dX6_leastPainting_17 rfl ?_
  refine r_ldc C dX6_leastPainting_18 wd_925 ?_
  refine r_icmp_ge (tgt := 27) C dX6_leastPainting_20 (by decide) (fun hc => ?_) (fun hc => ?_)
  · have hf := ifT hf hc
    exact V.sub (wX6_leastPainting_b27 C hret hf) (LW_s rfl (LW_s rfl (LW_e)))
  · have hf := ifF hf hc
    refine r_aload_n C dX6_leastPainting_23 rfl ?_
    obtain ⟨a2, ea2, hf⟩ := bS hf
    obtain ⟨r1, er1, hf⟩ := bS hf
    refine r_invV0 (As := []) (ci := 6) C dX6_leastPainting_24 mcX6_give wd_957 wd_959 wp_30 rfl rfl (by decide) ⟨by decide, by decide⟩ ⟨by decide, by decide⟩ rfl (Nat.le_of_ble_eq_true rfl) ea2 (kX6_give l G er1) ?_
    exact V.sub (wX6_leastPainting_b27 C hret hf) (LW_s rfl (LW_s rfl (LW_e)))
noncomputable def fX6_leastPainting (N : Nat) (h : Hs) (t : Nat)  : Option (Int32 × Hs) :=
  (oI 6 5 h (some t)).bind fun v1 =>
  if v1 = 0 then (
  fX6_leastPainting_b16 N t h 1000000)
  else (rc 6 h (some t)).bind fun a3 =>
  (fX6_leastSum N h a3 ).bind fun r2 =>
  fX6_leastPainting_b16 N t r2.2 r2.1
set_option maxHeartbeats 4000000 in
set_option maxRecDepth 20000 in
theorem kX6_leastPainting (l : Launch) (G : Gl) {N : Nat} {h : Hs} {t : Nat}  {r : Int32 × Hs} (hf : fX6_leastPainting N h t  = some r) : CT l G yX6_leastPainting cX6_leastPainting 2 (some .int) rmX6_leastPainting [.inr (some t)] h (some (.inl r.1)) r.2 := by
  refine mk_CT (by decide) (Nat.le_of_ble_eq_true rfl) ?_
  intro p e s m args below meth c C hret hin
  unfold fX6_leastPainting at hf
  refine r_aload_n C dX6_leastPainting_0 rfl ?_
  obtain ⟨v1, ev1, hf⟩ := bS hf
  refine r_getI C dX6_leastPainting_1 fl_X6_38 rfl ev1 ?_
  refine r_if_ne (tgt := 12) C dX6_leastPainting_4 (by decide) (fun hc => ?_) (fun hc => ?_)
  · have hf := ifF hf hc
    refine r_aload_n C dX6_leastPainting_12 rfl ?_
    obtain ⟨a3, ea3, hf⟩ := bS hf
    obtain ⟨r2, er2, hf⟩ := bS hf
    refine r_invV1 (As := []) (ci := 6) C dX6_leastPainting_13 mcX6_leastSum wd_926 wd_928 wp_27 rfl rfl (by decide) ⟨by decide, by decide⟩ ⟨by decide, by decide⟩ rfl (Nat.le_of_ble_eq_true rfl) ea3 (kX6_leastSum l G er2) ?_
    exact V.sub (wX6_leastPainting_b16 C hret hf) (LW_s rfl (LW_n (LW_e)))
  · have hf := ifT hf hc
    refine r_ldc C dX6_leastPainting_7 wd_925 ?_
    refine r_goto (tgt := 16) C dX6_leastPainting_9 (by decide) ?_
    exact V.sub (wX6_leastPainting_b16 C hret hf) (LW_s rfl (LW_n (LW_e)))

theorem dgX6_givenTo_0 : (decode cX6_givenTo 0 = .ok (.iload_n 1, 1)) ∧ (decode cX6_givenTo 1 = .ok (.iconst 0, 1)) ∧ (decode cX6_givenTo 2 = .ok (.aload_n 0, 1)) ∧ (decode cX6_givenTo 3 = .ok (.getfield 81, 3)) ∧ (decode cX6_givenTo 6 = .ok (.iconst 1, 1)) ∧ (decode cX6_givenTo 7 = .ok (.isub, 1)) ∧ (decode cX6_givenTo 8 = .ok (.invokestatic 41, 3)) ∧ (decode cX6_givenTo 11 = .ok (.ifCond .eq 12, 3)) ∧ (decode cX6_givenTo 14 = .ok (.aload_n 0, 1)) ∧ (decode cX6_givenTo 15 = .ok (.getfield 20, 3)) ∧ (decode cX6_givenTo 18 = .ok (.iload_n 1, 1)) ∧ (decode cX6_givenTo 19 = .ok (.iaload, 1)) ∧ True := dkW [(0, .iload_n 1, 1), (1, .iconst 0, 1), (2, .aload_n 0, 1), (3, .getfield 81, 3), (6, .iconst 1, 1), (7, .isub, 1), (8, .invokestatic 41, 3), (11, .ifCond .eq 12, 3), (14, .aload_n 0, 1), (15, .getfield 20, 3), (18, .iload_n 1, 1), (19, .iaload, 1)] 0 (by decide +kernel)
theorem dX6_givenTo_0 : decode cX6_givenTo 0 = .ok (.iload_n 1, 1) := dgX6_givenTo_0.1
theorem dX6_givenTo_1 : decode cX6_givenTo 1 = .ok (.iconst 0, 1) := dgX6_givenTo_0.2.1
theorem dX6_givenTo_2 : decode cX6_givenTo 2 = .ok (.aload_n 0, 1) := dgX6_givenTo_0.2.2.1
theorem dX6_givenTo_3 : decode cX6_givenTo 3 = .ok (.getfield 81, 3) := dgX6_givenTo_0.2.2.2.1
theorem dX6_givenTo_6 : decode cX6_givenTo 6 = .ok (.iconst 1, 1) := dgX6_givenTo_0.2.2.2.2.1
theorem dX6_givenTo_7 : decode cX6_givenTo 7 = .ok (.isub, 1) := dgX6_givenTo_0.2.2.2.2.2.1
theorem dX6_givenTo_8 : decode cX6_givenTo 8 = .ok (.invokestatic 41, 3) := dgX6_givenTo_0.2.2.2.2.2.2.1
theorem dX6_givenTo_11 : decode cX6_givenTo 11 = .ok (.ifCond .eq 12, 3) := dgX6_givenTo_0.2.2.2.2.2.2.2.1
theorem dX6_givenTo_14 : decode cX6_givenTo 14 = .ok (.aload_n 0, 1) := dgX6_givenTo_0.2.2.2.2.2.2.2.2.1
theorem dX6_givenTo_15 : decode cX6_givenTo 15 = .ok (.getfield 20, 3) := dgX6_givenTo_0.2.2.2.2.2.2.2.2.2.1
theorem dX6_givenTo_18 : decode cX6_givenTo 18 = .ok (.iload_n 1, 1) := dgX6_givenTo_0.2.2.2.2.2.2.2.2.2.2.1
theorem dX6_givenTo_19 : decode cX6_givenTo 19 = .ok (.iaload, 1) := dgX6_givenTo_0.2.2.2.2.2.2.2.2.2.2.2.1
theorem dgX6_givenTo_20 : (decode cX6_givenTo 20 = .ok (.goto 4, 3)) ∧ True := dkW [(20, .goto 4, 3)] 20 (by decide +kernel)
theorem dX6_givenTo_20 : decode cX6_givenTo 20 = .ok (.goto 4, 3) := dgX6_givenTo_20.1
theorem dX6_givenTo_23 : decode cX6_givenTo 23 = .ok (.iconst (-1), 1) := by decide +kernel
theorem dgX6_givenTo_24 : (decode cX6_givenTo 24 = .ok (.ireturn, 1)) ∧ True := dkW [(24, .ireturn, 1)] 24 (by decide +kernel)
theorem dX6_givenTo_24 : decode cX6_givenTo 24 = .ok (.ireturn, 1) := dgX6_givenTo_24.1
abbrev rmX6_givenTo : Room := { frames := 1, cells := 0, slots := 0, locals := 22 }
noncomputable def fX6_givenTo_b24 (N : Nat)  (t : Nat) (h : Hs) (u0 : Int32) : Option (Int32 × Hs) :=
  some (u0, h)
set_option maxHeartbeats 4000000 in
set_option maxRecDepth 20000 in
theorem wX6_givenTo_b24 {p : Program} {l : Launch} {e : Env} {s : State} {m : MethodId} {args : Array Value} {below : List Frame} {meth : Method} {c : Code} {G : Gl} {N : Nat} {h : Hs} {r : Int32 × Hs}  {t : Nat} {u0 : Int32} (C : Cx p s m args meth c cX6_givenTo RX6 2 G) (hret : meth.sig.returnType = (some .int))  (hf : fX6_givenTo_b24 N  t h u0 = some r) : V p l e rmX6_givenTo s m args below meth c G 2 (MQ below (QcG G (some (.inl r.1)) r.2) args s rmX6_givenTo.cells rmX6_givenTo.slots (AG G)) h 0 0 24 [some (.inr (some t)), none] [.inl u0] := by
  unfold fX6_givenTo_b24 at hf
  exact r_iretF C dX6_givenTo_24 hret hf (by decide) (by decide)
noncomputable def fX6_givenTo (N : Nat) (h : Hs) (t : Nat) (p1 : Int32) : Option (Int32 × Hs) :=
  (oI 6 6 h (some t)).bind fun v1 =>
  (fX11_isWithin N h p1 0 (v1 - 1)).bind fun r2 =>
  if r2.1 = 0 then (
  fX6_givenTo_b24 N t r2.2 (-1))
  else (oR 6 2 r2.2 (some t)).bind fun o3 =>
  (lA 20 r2.2 o3 p1).bind fun v4 =>
  fX6_givenTo_b24 N t r2.2 v4
set_option maxHeartbeats 4000000 in
set_option maxRecDepth 20000 in
theorem kX6_givenTo (l : Launch) (G : Gl) {N : Nat} {h : Hs} {t : Nat} {p1 : Int32} {r : Int32 × Hs} (hf : fX6_givenTo N h t p1 = some r) : CT l G yX6_givenTo cX6_givenTo 2 (some .int) rmX6_givenTo [.inr (some t), .inl p1] h (some (.inl r.1)) r.2 := by
  refine mk_CT (by decide) (Nat.le_of_ble_eq_true rfl) ?_
  intro p e s m args below meth c C hret hin
  unfold fX6_givenTo at hf
  refine r_iload_n C dX6_givenTo_0 rfl ?_
  refine r_iconst (v := 0) C dX6_givenTo_1 (by decide) ?_
  refine r_aload_n C dX6_givenTo_2 rfl ?_
  obtain ⟨v1, ev1, hf⟩ := bS hf
  refine r_getI C dX6_givenTo_3 fl_X6_81 rfl ev1 ?_
  refine r_iconst (v := 1) C dX6_givenTo_6 (by decide) ?_
  refine r_isub C dX6_givenTo_7 ?_
  obtain ⟨r2, er2, hf⟩ := bS hf
  refine r_invSN1 (As := [.inl p1, .inl 0, .inl (v1 - 1)]) (host := "StageMachine") C dX6_givenTo_8 mcX11_isWithin (by decide) wd_291 ⟨by decide, by decide⟩ ⟨by decide, by decide⟩ rfl (Nat.le_of_ble_eq_true rfl) (kX11_isWithin l G er2) ?_
  refine r_if_eq (tgt := 23) C dX6_givenTo_11 (by decide) (fun hc => ?_) (fun hc => ?_)
  · have hf := ifT hf hc
    refine r_iconst (v := -1) C dX6_givenTo_23 (by decide) ?_
    exact V.sub (wX6_givenTo_b24 C hret hf) (LW_s rfl (LW_n (LW_e)))
  · have hf := ifF hf hc
    refine r_aload_n C dX6_givenTo_14 rfl ?_
    obtain ⟨o3, eo3, hf⟩ := bS hf
    refine r_getR C dX6_givenTo_15 fl_X6_20 rfl eo3 ?_
    refine r_iload_n C dX6_givenTo_18 rfl ?_
    obtain ⟨v4, ev4, hf⟩ := bS hf
    refine r_iald C dX6_givenTo_19 ev4 ?_
    refine r_goto (tgt := 24) C dX6_givenTo_20 (by decide) ?_
    exact V.sub (wX6_givenTo_b24 C hret hf) (LW_s rfl (LW_n (LW_e)))

theorem dgX7_init_0 : (decode cX7_init 0 = .ok (.aload_n 0, 1)) ∧ (decode cX7_init 1 = .ok (.invokespecial 3, 3)) ∧ (decode cX7_init 4 = .ok (.aload_n 0, 1)) ∧ True := dkW [(0, .aload_n 0, 1), (1, .invokespecial 3, 3), (4, .aload_n 0, 1)] 0 (by decide +kernel)
theorem dX7_init_0 : decode cX7_init 0 = .ok (.aload_n 0, 1) := dgX7_init_0.1
theorem dX7_init_1 : decode cX7_init 1 = .ok (.invokespecial 3, 3) := dgX7_init_0.2.1
theorem dX7_init_4 : decode cX7_init 4 = .ok (.aload_n 0, 1) := dgX7_init_0.2.2.1
theorem dX7_init_5 : decode cX7_init 5 = .ok (.iconst (-1), 1) := by decide +kernel
theorem dgX7_init_6 : (decode cX7_init 6 = .ok (.putfield 9, 3)) ∧ (decode cX7_init 9 = .ok (.aload_n 0, 1)) ∧ True := dkW [(6, .putfield 9, 3), (9, .aload_n 0, 1)] 6 (by decide +kernel)
theorem dX7_init_6 : decode cX7_init 6 = .ok (.putfield 9, 3) := dgX7_init_6.1
theorem dX7_init_9 : decode cX7_init 9 = .ok (.aload_n 0, 1) := dgX7_init_6.2.1
theorem dX7_init_10 : decode cX7_init 10 = .ok (.iconst (-1), 1) := by decide +kernel
theorem dgX7_init_11 : (decode cX7_init 11 = .ok (.putfield 15, 3)) ∧ (decode cX7_init 14 = .ok (.return_, 1)) ∧ True := dkW [(11, .putfield 15, 3), (14, .return_, 1)] 11 (by decide +kernel)
theorem dX7_init_11 : decode cX7_init 11 = .ok (.putfield 15, 3) := dgX7_init_11.1
theorem dX7_init_14 : decode cX7_init 14 = .ok (.return_, 1) := dgX7_init_11.2.1
abbrev rmX7_init : Room := { frames := 1, cells := 0, slots := 0, locals := 12 }
noncomputable def fX7_init (N : Nat) (h : Hs) (t : Nat)  : Option (Hs) :=
  (qI 7 1 h (some t) (-1)).bind fun h1 =>
  (qI 7 2 h1 (some t) (-1)).bind fun h2 =>
  some h2
set_option maxHeartbeats 4000000 in
set_option maxRecDepth 20000 in
theorem kX7_init (l : Launch) (G : Gl) {N : Nat} {h : Hs} {t : Nat}  {r : Hs} (hf : fX7_init N h t  = some r) : CT l G yX7_init cX7_init 1 none rmX7_init [.inr (some t)] h (none) r := by
  refine mk_CT (by decide) (Nat.le_of_ble_eq_true rfl) ?_
  intro p e s m args below meth c C hret hin
  unfold fX7_init at hf
  refine r_aload_n C dX7_init_0 rfl ?_
  refine r_objInit C dX7_init_1 wd_201 wd_24 wd_25 (by decide) (Nat.le_of_ble_eq_true rfl) ?_
  refine r_aload_n C dX7_init_4 rfl ?_
  refine r_iconst (v := -1) C dX7_init_5 (by decide) ?_
  obtain ⟨h1, eh1, hf⟩ := bS hf
  refine r_putI C dX7_init_6 fl_X7_9 (Or.inl fn_7_1) rfl eh1 ?_
  refine r_aload_n C dX7_init_9 rfl ?_
  refine r_iconst (v := -1) C dX7_init_10 (by decide) ?_
  obtain ⟨h2, eh2, hf⟩ := bS hf
  refine r_putI C dX7_init_11 fl_X7_15 (Or.inl fn_7_2) rfl eh2 ?_
  exact r_vretF C dX7_init_14 hret hf (by decide) (by decide)

theorem dgX7_put_0 : (decode cX7_put 0 = .ok (.aload_n 0, 1)) ∧ (decode cX7_put 1 = .ok (.iload_n 1, 1)) ∧ (decode cX7_put 2 = .ok (.putfield 18, 3)) ∧ (decode cX7_put 5 = .ok (.aload_n 0, 1)) ∧ (decode cX7_put 6 = .ok (.iload_n 2, 1)) ∧ (decode cX7_put 7 = .ok (.putfield 9, 3)) ∧ (decode cX7_put 10 = .ok (.aload_n 0, 1)) ∧ (decode cX7_put 11 = .ok (.iload_n 3, 1)) ∧ (decode cX7_put 12 = .ok (.putfield 15, 3)) ∧ (decode cX7_put 15 = .ok (.return_, 1)) ∧ True := dkW [(0, .aload_n 0, 1), (1, .iload_n 1, 1), (2, .putfield 18, 3), (5, .aload_n 0, 1), (6, .iload_n 2, 1), (7, .putfield 9, 3), (10, .aload_n 0, 1), (11, .iload_n 3, 1), (12, .putfield 15, 3), (15, .return_, 1)] 0 (by decide +kernel)
theorem dX7_put_0 : decode cX7_put 0 = .ok (.aload_n 0, 1) := dgX7_put_0.1
theorem dX7_put_1 : decode cX7_put 1 = .ok (.iload_n 1, 1) := dgX7_put_0.2.1
theorem dX7_put_2 : decode cX7_put 2 = .ok (.putfield 18, 3) := dgX7_put_0.2.2.1
theorem dX7_put_5 : decode cX7_put 5 = .ok (.aload_n 0, 1) := dgX7_put_0.2.2.2.1
theorem dX7_put_6 : decode cX7_put 6 = .ok (.iload_n 2, 1) := dgX7_put_0.2.2.2.2.1
theorem dX7_put_7 : decode cX7_put 7 = .ok (.putfield 9, 3) := dgX7_put_0.2.2.2.2.2.1
theorem dX7_put_10 : decode cX7_put 10 = .ok (.aload_n 0, 1) := dgX7_put_0.2.2.2.2.2.2.1
theorem dX7_put_11 : decode cX7_put 11 = .ok (.iload_n 3, 1) := dgX7_put_0.2.2.2.2.2.2.2.1
theorem dX7_put_12 : decode cX7_put 12 = .ok (.putfield 15, 3) := dgX7_put_0.2.2.2.2.2.2.2.2.1
theorem dX7_put_15 : decode cX7_put 15 = .ok (.return_, 1) := dgX7_put_0.2.2.2.2.2.2.2.2.2.1
abbrev rmX7_put : Room := { frames := 0, cells := 0, slots := 0, locals := 0 }
noncomputable def fX7_put (N : Nat) (h : Hs) (t : Nat) (p1 : Int32) (p2 : Int32) (p3 : Int32) : Option (Hs) :=
  (qI 7 0 h (some t) p1).bind fun h1 =>
  (qI 7 1 h1 (some t) p2).bind fun h2 =>
  (qI 7 2 h2 (some t) p3).bind fun h3 =>
  some h3
set_option maxHeartbeats 4000000 in
set_option maxRecDepth 20000 in
theorem kX7_put (l : Launch) (G : Gl) {N : Nat} {h : Hs} {t : Nat} {p1 : Int32} {p2 : Int32} {p3 : Int32} {r : Hs} (hf : fX7_put N h t p1 p2 p3 = some r) : CT l G yX7_put cX7_put 4 none rmX7_put [.inr (some t), .inl p1, .inl p2, .inl p3] h (none) r := by
  refine mk_CT (by decide) (Nat.le_of_ble_eq_true rfl) ?_
  intro p e s m args below meth c C hret hin
  unfold fX7_put at hf
  refine r_aload_n C dX7_put_0 rfl ?_
  refine r_iload_n C dX7_put_1 rfl ?_
  obtain ⟨h1, eh1, hf⟩ := bS hf
  refine r_putI C dX7_put_2 fl_X7_18 (Or.inl fn_7_0) rfl eh1 ?_
  refine r_aload_n C dX7_put_5 rfl ?_
  refine r_iload_n C dX7_put_6 rfl ?_
  obtain ⟨h2, eh2, hf⟩ := bS hf
  refine r_putI C dX7_put_7 fl_X7_9 (Or.inl fn_7_1) rfl eh2 ?_
  refine r_aload_n C dX7_put_10 rfl ?_
  refine r_iload_n C dX7_put_11 rfl ?_
  obtain ⟨h3, eh3, hf⟩ := bS hf
  refine r_putI C dX7_put_12 fl_X7_15 (Or.inl fn_7_2) rfl eh3 ?_
  exact r_vretF C dX7_put_15 hret hf (by decide) (by decide)

theorem dgX7_tell_0 : (decode cX7_tell 0 = .ok (.iload_n 1, 1)) ∧ True := dkW [(0, .iload_n 1, 1)] 0 (by decide +kernel)
theorem dX7_tell_0 : decode cX7_tell 0 = .ok (.iload_n 1, 1) := dgX7_tell_0.1
theorem dX7_tell_1 : decode cX7_tell 1 = .ok (.tableswitch 42 0 2 #[27, 32, 37], 27) := by decide +kernel
theorem dgX7_tell_28 : (decode cX7_tell 28 = .ok (.aload_n 0, 1)) ∧ (decode cX7_tell 29 = .ok (.getfield 18, 3)) ∧ (decode cX7_tell 32 = .ok (.ireturn, 1)) ∧ (decode cX7_tell 33 = .ok (.aload_n 0, 1)) ∧ (decode cX7_tell 34 = .ok (.getfield 9, 3)) ∧ (decode cX7_tell 37 = .ok (.ireturn, 1)) ∧ (decode cX7_tell 38 = .ok (.aload_n 0, 1)) ∧ (decode cX7_tell 39 = .ok (.getfield 15, 3)) ∧ (decode cX7_tell 42 = .ok (.ireturn, 1)) ∧ True := dkW [(28, .aload_n 0, 1), (29, .getfield 18, 3), (32, .ireturn, 1), (33, .aload_n 0, 1), (34, .getfield 9, 3), (37, .ireturn, 1), (38, .aload_n 0, 1), (39, .getfield 15, 3), (42, .ireturn, 1)] 28 (by decide +kernel)
theorem dX7_tell_28 : decode cX7_tell 28 = .ok (.aload_n 0, 1) := dgX7_tell_28.1
theorem dX7_tell_29 : decode cX7_tell 29 = .ok (.getfield 18, 3) := dgX7_tell_28.2.1
theorem dX7_tell_32 : decode cX7_tell 32 = .ok (.ireturn, 1) := dgX7_tell_28.2.2.1
theorem dX7_tell_33 : decode cX7_tell 33 = .ok (.aload_n 0, 1) := dgX7_tell_28.2.2.2.1
theorem dX7_tell_34 : decode cX7_tell 34 = .ok (.getfield 9, 3) := dgX7_tell_28.2.2.2.2.1
theorem dX7_tell_37 : decode cX7_tell 37 = .ok (.ireturn, 1) := dgX7_tell_28.2.2.2.2.2.1
theorem dX7_tell_38 : decode cX7_tell 38 = .ok (.aload_n 0, 1) := dgX7_tell_28.2.2.2.2.2.2.1
theorem dX7_tell_39 : decode cX7_tell 39 = .ok (.getfield 15, 3) := dgX7_tell_28.2.2.2.2.2.2.2.1
theorem dX7_tell_42 : decode cX7_tell 42 = .ok (.ireturn, 1) := dgX7_tell_28.2.2.2.2.2.2.2.2.1
theorem dX7_tell_43 : decode cX7_tell 43 = .ok (.iconst (-1), 1) := by decide +kernel
theorem dgX7_tell_44 : (decode cX7_tell 44 = .ok (.ireturn, 1)) ∧ True := dkW [(44, .ireturn, 1)] 44 (by decide +kernel)
theorem dX7_tell_44 : decode cX7_tell 44 = .ok (.ireturn, 1) := dgX7_tell_44.1
abbrev rmX7_tell : Room := { frames := 0, cells := 0, slots := 0, locals := 0 }
noncomputable def fX7_tell (N : Nat) (h : Hs) (t : Nat) (p1 : Int32) : Option (Int32 × Hs) :=
  if p1 = 0 then (
  (oI 7 0 h (some t)).bind fun v1 =>
  some (v1, h))
  else if p1 = 1 then (
  (oI 7 1 h (some t)).bind fun v2 =>
  some (v2, h))
  else if p1 = 2 then (
  (oI 7 2 h (some t)).bind fun v3 =>
  some (v3, h))
  else some ((-1), h)
set_option maxHeartbeats 4000000 in
set_option maxRecDepth 20000 in
theorem kX7_tell (l : Launch) (G : Gl) {N : Nat} {h : Hs} {t : Nat} {p1 : Int32} {r : Int32 × Hs} (hf : fX7_tell N h t p1 = some r) : CT l G yX7_tell cX7_tell 2 (some .int) rmX7_tell [.inr (some t), .inl p1] h (some (.inl r.1)) r.2 := by
  refine mk_CT (by decide) (Nat.le_of_ble_eq_true rfl) ?_
  intro p e s m args below meth c C hret hin
  unfold fX7_tell at hf
  refine r_iload_n C dX7_tell_0 rfl ?_
  by_cases k0 : p1 = 0
  · have hf := ifT hf k0
    refine r_tabIn (tgt := 28) (off := 27) C dX7_tell_1 (by rw [k0]; decide) (by rw [k0]; decide) (by rw [k0]; rfl) (by decide) ?_
    refine r_aload_n C dX7_tell_28 rfl ?_
    obtain ⟨v1, ev1, hf⟩ := bS hf
    refine r_getI C dX7_tell_29 fl_X7_18 rfl ev1 ?_
    exact r_iretF C dX7_tell_32 hret hf (by decide) (by decide)
  · have hf := ifF hf k0
    by_cases k1 : p1 = 1
    · have hf := ifT hf k1
      refine r_tabIn (tgt := 33) (off := 32) C dX7_tell_1 (by rw [k1]; decide) (by rw [k1]; decide) (by rw [k1]; rfl) (by decide) ?_
      refine r_aload_n C dX7_tell_33 rfl ?_
      obtain ⟨v2, ev2, hf⟩ := bS hf
      refine r_getI C dX7_tell_34 fl_X7_9 rfl ev2 ?_
      exact r_iretF C dX7_tell_37 hret hf (by decide) (by decide)
    · have hf := ifF hf k1
      by_cases k2 : p1 = 2
      · have hf := ifT hf k2
        refine r_tabIn (tgt := 38) (off := 37) C dX7_tell_1 (by rw [k2]; decide) (by rw [k2]; decide) (by rw [k2]; rfl) (by decide) ?_
        refine r_aload_n C dX7_tell_38 rfl ?_
        obtain ⟨v3, ev3, hf⟩ := bS hf
        refine r_getI C dX7_tell_39 fl_X7_15 rfl ev3 ?_
        exact r_iretF C dX7_tell_42 hret hf (by decide) (by decide)
      · have hf := ifF hf k2
        refine r_tabOut (tgt := 43) C dX7_tell_1 (sw_out (lo := 0) (hi := 2) [0, 1, 2] (by decide) (List.forall_mem_cons.mpr ⟨k0, List.forall_mem_cons.mpr ⟨k1, List.forall_mem_cons.mpr ⟨k2, fun _ q => absurd q List.not_mem_nil⟩⟩⟩)) (by decide) ?_
        refine r_iconst (v := -1) C dX7_tell_43 (by decide) ?_
        exact r_iretF C dX7_tell_44 hret hf (by decide) (by decide)

theorem dgX8_init_0 : (decode cX8_init 0 = .ok (.aload_n 0, 1)) ∧ (decode cX8_init 1 = .ok (.invokespecial 3, 3)) ∧ (decode cX8_init 4 = .ok (.aload_n 0, 1)) ∧ (decode cX8_init 5 = .ok (.bipush 120, 2)) ∧ (decode cX8_init 7 = .ok (.newarray .int, 2)) ∧ (decode cX8_init 9 = .ok (.putfield 9, 3)) ∧ (decode cX8_init 12 = .ok (.aload_n 0, 1)) ∧ (decode cX8_init 13 = .ok (.bipush 30, 2)) ∧ (decode cX8_init 15 = .ok (.newarray .int, 2)) ∧ (decode cX8_init 17 = .ok (.putfield 15, 3)) ∧ (decode cX8_init 20 = .ok (.aload_n 0, 1)) ∧ (decode cX8_init 21 = .ok (.bipush 30, 2)) ∧ True := dkW [(0, .aload_n 0, 1), (1, .invokespecial 3, 3), (4, .aload_n 0, 1), (5, .bipush 120, 2), (7, .newarray .int, 2), (9, .putfield 9, 3), (12, .aload_n 0, 1), (13, .bipush 30, 2), (15, .newarray .int, 2), (17, .putfield 15, 3), (20, .aload_n 0, 1), (21, .bipush 30, 2)] 0 (by decide +kernel)
theorem dX8_init_0 : decode cX8_init 0 = .ok (.aload_n 0, 1) := dgX8_init_0.1
theorem dX8_init_1 : decode cX8_init 1 = .ok (.invokespecial 3, 3) := dgX8_init_0.2.1
theorem dX8_init_4 : decode cX8_init 4 = .ok (.aload_n 0, 1) := dgX8_init_0.2.2.1
theorem dX8_init_5 : decode cX8_init 5 = .ok (.bipush 120, 2) := dgX8_init_0.2.2.2.1
theorem dX8_init_7 : decode cX8_init 7 = .ok (.newarray .int, 2) := dgX8_init_0.2.2.2.2.1
theorem dX8_init_9 : decode cX8_init 9 = .ok (.putfield 9, 3) := dgX8_init_0.2.2.2.2.2.1
theorem dX8_init_12 : decode cX8_init 12 = .ok (.aload_n 0, 1) := dgX8_init_0.2.2.2.2.2.2.1
theorem dX8_init_13 : decode cX8_init 13 = .ok (.bipush 30, 2) := dgX8_init_0.2.2.2.2.2.2.2.1
theorem dX8_init_15 : decode cX8_init 15 = .ok (.newarray .int, 2) := dgX8_init_0.2.2.2.2.2.2.2.2.1
theorem dX8_init_17 : decode cX8_init 17 = .ok (.putfield 15, 3) := dgX8_init_0.2.2.2.2.2.2.2.2.2.1
theorem dX8_init_20 : decode cX8_init 20 = .ok (.aload_n 0, 1) := dgX8_init_0.2.2.2.2.2.2.2.2.2.2.1
theorem dX8_init_21 : decode cX8_init 21 = .ok (.bipush 30, 2) := dgX8_init_0.2.2.2.2.2.2.2.2.2.2.2.1
theorem dgX8_init_23 : (decode cX8_init 23 = .ok (.newarray .int, 2)) ∧ (decode cX8_init 25 = .ok (.putfield 18, 3)) ∧ (decode cX8_init 28 = .ok (.aload_n 0, 1)) ∧ (decode cX8_init 29 = .ok (.bipush 30, 2)) ∧ (decode cX8_init 31 = .ok (.newarray .int, 2)) ∧ (decode cX8_init 33 = .ok (.putfield 21, 3)) ∧ (decode cX8_init 36 = .ok (.return_, 1)) ∧ True := dkW [(23, .newarray .int, 2), (25, .putfield 18, 3), (28, .aload_n 0, 1), (29, .bipush 30, 2), (31, .newarray .int, 2), (33, .putfield 21, 3), (36, .return_, 1)] 23 (by decide +kernel)
theorem dX8_init_23 : decode cX8_init 23 = .ok (.newarray .int, 2) := dgX8_init_23.1
theorem dX8_init_25 : decode cX8_init 25 = .ok (.putfield 18, 3) := dgX8_init_23.2.1
theorem dX8_init_28 : decode cX8_init 28 = .ok (.aload_n 0, 1) := dgX8_init_23.2.2.1
theorem dX8_init_29 : decode cX8_init 29 = .ok (.bipush 30, 2) := dgX8_init_23.2.2.2.1
theorem dX8_init_31 : decode cX8_init 31 = .ok (.newarray .int, 2) := dgX8_init_23.2.2.2.2.1
theorem dX8_init_33 : decode cX8_init 33 = .ok (.putfield 21, 3) := dgX8_init_23.2.2.2.2.2.1
theorem dX8_init_36 : decode cX8_init 36 = .ok (.return_, 1) := dgX8_init_23.2.2.2.2.2.2.1
abbrev rmX8_init : Room := { frames := 1, cells := 4, slots := 210, locals := 12 }
noncomputable def fX8_init (N : Nat) (h : Hs) (t : Nat)  : Option (Hs) :=
  (some (nw h (20, 120))).bind fun h1 =>
  (qR 8 0 h1 (some t) (some (sz h))).bind fun h2 =>
  (some (nw h2 (20, 30))).bind fun h3 =>
  (qR 8 1 h3 (some t) (some (sz h2))).bind fun h4 =>
  (some (nw h4 (20, 30))).bind fun h5 =>
  (qR 8 2 h5 (some t) (some (sz h4))).bind fun h6 =>
  (some (nw h6 (20, 30))).bind fun h7 =>
  (qR 8 3 h7 (some t) (some (sz h6))).bind fun h8 =>
  some h8
set_option maxHeartbeats 4000000 in
set_option maxRecDepth 20000 in
theorem kX8_init (l : Launch) (G : Gl) {N : Nat} {h : Hs} {t : Nat}  {r : Hs} (hf : fX8_init N h t  = some r) : CT l G yX8_init cX8_init 1 none rmX8_init [.inr (some t)] h (none) r := by
  refine mk_CT (by decide) (Nat.le_of_ble_eq_true rfl) ?_
  intro p e s m args below meth c C hret hin
  unfold fX8_init at hf
  refine r_aload_n C dX8_init_0 rfl ?_
  refine r_objInit C dX8_init_1 wd_31 wd_24 wd_25 (by decide) (Nat.le_of_ble_eq_true rfl) ?_
  refine r_aload_n C dX8_init_4 rfl ?_
  refine r_bipush (v := 120) C dX8_init_5 (by decide) ?_
  obtain ⟨h1, eh1, hf⟩ := bS hf
  cases eh1
  refine r_newA (t := 0) (N := 120) C dX8_init_7 (by decide) rfl rfl wd_62 (by decide) (by decide) (by decide) (fun _ _ q => q) (by decide) (by decide) ?_
  obtain ⟨h2, eh2, hf⟩ := bS hf
  refine r_putR C dX8_init_9 fl_X8_9 (Or.inr ⟨ff_8_0, hin⟩) rfl eh2 ?_
  refine r_aload_n C dX8_init_12 rfl ?_
  refine r_bipush (v := 30) C dX8_init_13 (by decide) ?_
  obtain ⟨h3, eh3, hf⟩ := bS hf
  cases eh3
  refine r_newA (t := 0) (N := 30) C dX8_init_15 (by decide) rfl rfl wd_62 (by decide) (by decide) (by decide) (fun _ _ q => q) (by decide) (by decide) ?_
  obtain ⟨h4, eh4, hf⟩ := bS hf
  refine r_putR C dX8_init_17 fl_X8_15 (Or.inr ⟨ff_8_1, hin⟩) rfl eh4 ?_
  refine r_aload_n C dX8_init_20 rfl ?_
  refine r_bipush (v := 30) C dX8_init_21 (by decide) ?_
  obtain ⟨h5, eh5, hf⟩ := bS hf
  cases eh5
  refine r_newA (t := 0) (N := 30) C dX8_init_23 (by decide) rfl rfl wd_62 (by decide) (by decide) (by decide) (fun _ _ q => q) (by decide) (by decide) ?_
  obtain ⟨h6, eh6, hf⟩ := bS hf
  refine r_putR C dX8_init_25 fl_X8_18 (Or.inr ⟨ff_8_2, hin⟩) rfl eh6 ?_
  refine r_aload_n C dX8_init_28 rfl ?_
  refine r_bipush (v := 30) C dX8_init_29 (by decide) ?_
  obtain ⟨h7, eh7, hf⟩ := bS hf
  cases eh7
  refine r_newA (t := 0) (N := 30) C dX8_init_31 (by decide) rfl rfl wd_62 (by decide) (by decide) (by decide) (fun _ _ q => q) (by decide) (by decide) ?_
  obtain ⟨h8, eh8, hf⟩ := bS hf
  refine r_putR C dX8_init_33 fl_X8_21 (Or.inr ⟨ff_8_3, hin⟩) rfl eh8 ?_
  exact r_vretF C dX8_init_36 hret hf (by decide) (by decide)

theorem dgX8_take_0 : (decode cX8_take 0 = .ok (.iload_n 1, 1)) ∧ (decode cX8_take 1 = .ok (.iconst 1, 1)) ∧ (decode cX8_take 2 = .ok (.iconst 4, 1)) ∧ (decode cX8_take 3 = .ok (.invokestatic 24, 3)) ∧ (decode cX8_take 6 = .ok (.ifCond .ne 5, 3)) ∧ True := dkW [(0, .iload_n 1, 1), (1, .iconst 1, 1), (2, .iconst 4, 1), (3, .invokestatic 24, 3), (6, .ifCond .ne 5, 3)] 0 (by decide +kernel)
theorem dX8_take_0 : decode cX8_take 0 = .ok (.iload_n 1, 1) := dgX8_take_0.1
theorem dX8_take_1 : decode cX8_take 1 = .ok (.iconst 1, 1) := dgX8_take_0.2.1
theorem dX8_take_2 : decode cX8_take 2 = .ok (.iconst 4, 1) := dgX8_take_0.2.2.1
theorem dX8_take_3 : decode cX8_take 3 = .ok (.invokestatic 24, 3) := dgX8_take_0.2.2.2.1
theorem dX8_take_6 : decode cX8_take 6 = .ok (.ifCond .ne 5, 3) := dgX8_take_0.2.2.2.2.1
theorem dX8_take_9 : decode cX8_take 9 = .ok (.iconst (-1), 1) := by decide +kernel
theorem dgX8_take_10 : (decode cX8_take 10 = .ok (.ireturn, 1)) ∧ (decode cX8_take 11 = .ok (.aload_n 0, 1)) ∧ (decode cX8_take 12 = .ok (.getfield 28, 3)) ∧ (decode cX8_take 15 = .ok (.iload_n 1, 1)) ∧ (decode cX8_take 16 = .ok (.iadd, 1)) ∧ (decode cX8_take 17 = .ok (.bipush 120, 2)) ∧ (decode cX8_take 19 = .ok (.if_icmp .le 6, 3)) ∧ (decode cX8_take 22 = .ok (.bipush (-3), 2)) ∧ (decode cX8_take 24 = .ok (.ireturn, 1)) ∧ (decode cX8_take 25 = .ok (.iconst 0, 1)) ∧ (decode cX8_take 26 = .ok (.istore_n 3, 1)) ∧ (decode cX8_take 27 = .ok (.iload_n 3, 1)) ∧ True := dkW [(10, .ireturn, 1), (11, .aload_n 0, 1), (12, .getfield 28, 3), (15, .iload_n 1, 1), (16, .iadd, 1), (17, .bipush 120, 2), (19, .if_icmp .le 6, 3), (22, .bipush (-3), 2), (24, .ireturn, 1), (25, .iconst 0, 1), (26, .istore_n 3, 1), (27, .iload_n 3, 1)] 10 (by decide +kernel)
theorem dX8_take_10 : decode cX8_take 10 = .ok (.ireturn, 1) := dgX8_take_10.1
theorem dX8_take_11 : decode cX8_take 11 = .ok (.aload_n 0, 1) := dgX8_take_10.2.1
theorem dX8_take_12 : decode cX8_take 12 = .ok (.getfield 28, 3) := dgX8_take_10.2.2.1
theorem dX8_take_15 : decode cX8_take 15 = .ok (.iload_n 1, 1) := dgX8_take_10.2.2.2.1
theorem dX8_take_16 : decode cX8_take 16 = .ok (.iadd, 1) := dgX8_take_10.2.2.2.2.1
theorem dX8_take_17 : decode cX8_take 17 = .ok (.bipush 120, 2) := dgX8_take_10.2.2.2.2.2.1
theorem dX8_take_19 : decode cX8_take 19 = .ok (.if_icmp .le 6, 3) := dgX8_take_10.2.2.2.2.2.2.1
theorem dX8_take_22 : decode cX8_take 22 = .ok (.bipush (-3), 2) := dgX8_take_10.2.2.2.2.2.2.2.1
theorem dX8_take_24 : decode cX8_take 24 = .ok (.ireturn, 1) := dgX8_take_10.2.2.2.2.2.2.2.2.1
theorem dX8_take_25 : decode cX8_take 25 = .ok (.iconst 0, 1) := dgX8_take_10.2.2.2.2.2.2.2.2.2.1
theorem dX8_take_26 : decode cX8_take 26 = .ok (.istore_n 3, 1) := dgX8_take_10.2.2.2.2.2.2.2.2.2.2.1
theorem dX8_take_27 : decode cX8_take 27 = .ok (.iload_n 3, 1) := dgX8_take_10.2.2.2.2.2.2.2.2.2.2.2.1
theorem dgX8_take_28 : (decode cX8_take 28 = .ok (.iload_n 1, 1)) ∧ (decode cX8_take 29 = .ok (.if_icmp .ge 30, 3)) ∧ (decode cX8_take 32 = .ok (.aload_n 0, 1)) ∧ (decode cX8_take 33 = .ok (.getfield 9, 3)) ∧ (decode cX8_take 36 = .ok (.aload_n 0, 1)) ∧ (decode cX8_take 37 = .ok (.getfield 28, 3)) ∧ (decode cX8_take 40 = .ok (.iload_n 3, 1)) ∧ (decode cX8_take 41 = .ok (.iadd, 1)) ∧ (decode cX8_take 42 = .ok (.iload_n 2, 1)) ∧ (decode cX8_take 43 = .ok (.bipush 8, 2)) ∧ (decode cX8_take 45 = .ok (.iload_n 3, 1)) ∧ (decode cX8_take 46 = .ok (.imul, 1)) ∧ True := dkW [(28, .iload_n 1, 1), (29, .if_icmp .ge 30, 3), (32, .aload_n 0, 1), (33, .getfield 9, 3), (36, .aload_n 0, 1), (37, .getfield 28, 3), (40, .iload_n 3, 1), (41, .iadd, 1), (42, .iload_n 2, 1), (43, .bipush 8, 2), (45, .iload_n 3, 1), (46, .imul, 1)] 28 (by decide +kernel)
theorem dX8_take_28 : decode cX8_take 28 = .ok (.iload_n 1, 1) := dgX8_take_28.1
theorem dX8_take_29 : decode cX8_take 29 = .ok (.if_icmp .ge 30, 3) := dgX8_take_28.2.1
theorem dX8_take_32 : decode cX8_take 32 = .ok (.aload_n 0, 1) := dgX8_take_28.2.2.1
theorem dX8_take_33 : decode cX8_take 33 = .ok (.getfield 9, 3) := dgX8_take_28.2.2.2.1
theorem dX8_take_36 : decode cX8_take 36 = .ok (.aload_n 0, 1) := dgX8_take_28.2.2.2.2.1
theorem dX8_take_37 : decode cX8_take 37 = .ok (.getfield 28, 3) := dgX8_take_28.2.2.2.2.2.1
theorem dX8_take_40 : decode cX8_take 40 = .ok (.iload_n 3, 1) := dgX8_take_28.2.2.2.2.2.2.1
theorem dX8_take_41 : decode cX8_take 41 = .ok (.iadd, 1) := dgX8_take_28.2.2.2.2.2.2.2.1
theorem dX8_take_42 : decode cX8_take 42 = .ok (.iload_n 2, 1) := dgX8_take_28.2.2.2.2.2.2.2.2.1
theorem dX8_take_43 : decode cX8_take 43 = .ok (.bipush 8, 2) := dgX8_take_28.2.2.2.2.2.2.2.2.2.1
theorem dX8_take_45 : decode cX8_take 45 = .ok (.iload_n 3, 1) := dgX8_take_28.2.2.2.2.2.2.2.2.2.2.1
theorem dX8_take_46 : decode cX8_take 46 = .ok (.imul, 1) := dgX8_take_28.2.2.2.2.2.2.2.2.2.2.2.1
theorem dgX8_take_47 : (decode cX8_take 47 = .ok (.ishr, 1)) ∧ (decode cX8_take 48 = .ok (.sipush 255, 3)) ∧ (decode cX8_take 51 = .ok (.iand, 1)) ∧ (decode cX8_take 52 = .ok (.iastore, 1)) ∧ (decode cX8_take 53 = .ok (.iinc 3 1, 3)) ∧ (decode cX8_take 56 = .ok (.goto (-29), 3)) ∧ (decode cX8_take 59 = .ok (.aload_n 0, 1)) ∧ (decode cX8_take 60 = .ok (.dup, 1)) ∧ (decode cX8_take 61 = .ok (.getfield 28, 3)) ∧ (decode cX8_take 64 = .ok (.iload_n 1, 1)) ∧ (decode cX8_take 65 = .ok (.iadd, 1)) ∧ (decode cX8_take 66 = .ok (.putfield 28, 3)) ∧ True := dkW [(47, .ishr, 1), (48, .sipush 255, 3), (51, .iand, 1), (52, .iastore, 1), (53, .iinc 3 1, 3), (56, .goto (-29), 3), (59, .aload_n 0, 1), (60, .dup, 1), (61, .getfield 28, 3), (64, .iload_n 1, 1), (65, .iadd, 1), (66, .putfield 28, 3)] 47 (by decide +kernel)
theorem dX8_take_47 : decode cX8_take 47 = .ok (.ishr, 1) := dgX8_take_47.1
theorem dX8_take_48 : decode cX8_take 48 = .ok (.sipush 255, 3) := dgX8_take_47.2.1
theorem dX8_take_51 : decode cX8_take 51 = .ok (.iand, 1) := dgX8_take_47.2.2.1
theorem dX8_take_52 : decode cX8_take 52 = .ok (.iastore, 1) := dgX8_take_47.2.2.2.1
theorem dX8_take_53 : decode cX8_take 53 = .ok (.iinc 3 1, 3) := dgX8_take_47.2.2.2.2.1
theorem dX8_take_56 : decode cX8_take 56 = .ok (.goto (-29), 3) := dgX8_take_47.2.2.2.2.2.1
theorem dX8_take_59 : decode cX8_take 59 = .ok (.aload_n 0, 1) := dgX8_take_47.2.2.2.2.2.2.1
theorem dX8_take_60 : decode cX8_take 60 = .ok (.dup, 1) := dgX8_take_47.2.2.2.2.2.2.2.1
theorem dX8_take_61 : decode cX8_take 61 = .ok (.getfield 28, 3) := dgX8_take_47.2.2.2.2.2.2.2.2.1
theorem dX8_take_64 : decode cX8_take 64 = .ok (.iload_n 1, 1) := dgX8_take_47.2.2.2.2.2.2.2.2.2.1
theorem dX8_take_65 : decode cX8_take 65 = .ok (.iadd, 1) := dgX8_take_47.2.2.2.2.2.2.2.2.2.2.1
theorem dX8_take_66 : decode cX8_take 66 = .ok (.putfield 28, 3) := dgX8_take_47.2.2.2.2.2.2.2.2.2.2.2.1
theorem dgX8_take_69 : (decode cX8_take 69 = .ok (.aload_n 0, 1)) ∧ (decode cX8_take 70 = .ok (.getfield 28, 3)) ∧ (decode cX8_take 73 = .ok (.ireturn, 1)) ∧ True := dkW [(69, .aload_n 0, 1), (70, .getfield 28, 3), (73, .ireturn, 1)] 69 (by decide +kernel)
theorem dX8_take_69 : decode cX8_take 69 = .ok (.aload_n 0, 1) := dgX8_take_69.1
theorem dX8_take_70 : decode cX8_take 70 = .ok (.getfield 28, 3) := dgX8_take_69.2.1
theorem dX8_take_73 : decode cX8_take 73 = .ok (.ireturn, 1) := dgX8_take_69.2.2.1
abbrev rmX8_take : Room := { frames := 1, cells := 0, slots := 0, locals := 22 }
noncomputable def fX8_take_b27_body (N : Nat)  (g27 : Hs → Int32 → Int32 → Int32 → Option (Int32 × Hs)) (t : Nat) (h : Hs) (x1 : Int32) (x2 : Int32) (x3 : Int32) : Option (Int32 × Hs) :=
  if x1 ≤ x3 then (
  (oI 8 4 h (some t)).bind fun v1 =>
  (qI 8 4 h (some t) (v1 + x1)).bind fun h2 =>
  (oI 8 4 h2 (some t)).bind fun v3 =>
  some (v3, h2))
  else (oR 8 0 h (some t)).bind fun o4 =>
  (oI 8 4 h (some t)).bind fun v5 =>
  (sA h o4 (v5 + x3) ((x2 >>> ((8 * x3) &&& 31)) &&& 255)).bind fun h6 =>
  (some (x3 + 1)).bind fun y7 =>
  g27 h6 x1 x2 y7
noncomputable def fX8_take_b27 (N : Nat)  (t : Nat) (n : Nat) : Hs → Int32 → Int32 → Int32 → Option (Int32 × Hs) := lp (fun _ _ _ _ => none) (fun g h x1 x2 x3 => fX8_take_b27_body N  g t h x1 x2 x3) n
set_option maxHeartbeats 4000000 in
set_option maxRecDepth 20000 in
theorem wX8_take_b27_body {p : Program} {l : Launch} {e : Env} {s : State} {m : MethodId} {args : Array Value} {below : List Frame} {meth : Method} {c : Code} {G : Gl} {N : Nat} {h : Hs} {r : Int32 × Hs}  {g27 : Hs → Int32 → Int32 → Int32 → Option (Int32 × Hs)} {t : Nat} {x1 : Int32} {x2 : Int32} {x3 : Int32} (C : Cx p s m args meth c cX8_take RX8 4 G) (hret : meth.sig.returnType = (some .int))  (hg27 : ∀ (h : Hs) (x1 : Int32) (x2 : Int32) (x3 : Int32), g27 h x1 x2 x3 = some r → V p l e rmX8_take s m args below meth c G 4 (MQ below (QcG G (some (.inl r.1)) r.2) args s rmX8_take.cells rmX8_take.slots (AG G)) h 0 0 27 [some (.inr (some t)), some (.inl x1), some (.inl x2), some (.inl x3)] []) (hf : fX8_take_b27_body N  g27 t h x1 x2 x3 = some r) : V p l e rmX8_take s m args below meth c G 4 (MQ below (QcG G (some (.inl r.1)) r.2) args s rmX8_take.cells rmX8_take.slots (AG G)) h 0 0 27 [some (.inr (some t)), some (.inl x1), some (.inl x2), some (.inl x3)] [] := by
  unfold fX8_take_b27_body at hf
  refine r_iload_n C dX8_take_27 rfl ?_
  refine r_iload_n C dX8_take_28 rfl ?_
  refine r_icmp_ge (tgt := 59) C dX8_take_29 (by decide) (fun hc => ?_) (fun hc => ?_)
  · have hf := ifT hf hc
    refine r_aload_n C dX8_take_59 rfl ?_
    refine r_dup C dX8_take_60 ?_
    obtain ⟨v1, ev1, hf⟩ := bS hf
    refine r_getI C dX8_take_61 fl_X8_28 rfl ev1 ?_
    refine r_iload_n C dX8_take_64 rfl ?_
    refine r_iadd C dX8_take_65 ?_
    obtain ⟨h2, eh2, hf⟩ := bS hf
    refine r_putI C dX8_take_66 fl_X8_28 (Or.inl fn_8_4) rfl eh2 ?_
    refine r_aload_n C dX8_take_69 rfl ?_
    obtain ⟨v3, ev3, hf⟩ := bS hf
    refine r_getI C dX8_take_70 fl_X8_28 rfl ev3 ?_
    exact r_iretF C dX8_take_73 hret hf (by decide) (by decide)
  · have hf := ifF hf hc
    refine r_aload_n C dX8_take_32 rfl ?_
    obtain ⟨o4, eo4, hf⟩ := bS hf
    refine r_getR C dX8_take_33 fl_X8_9 rfl eo4 ?_
    refine r_aload_n C dX8_take_36 rfl ?_
    obtain ⟨v5, ev5, hf⟩ := bS hf
    refine r_getI C dX8_take_37 fl_X8_28 rfl ev5 ?_
    refine r_iload_n C dX8_take_40 rfl ?_
    refine r_iadd C dX8_take_41 ?_
    refine r_iload_n C dX8_take_42 rfl ?_
    refine r_bipush (v := 8) C dX8_take_43 (by decide) ?_
    refine r_iload_n C dX8_take_45 rfl ?_
    refine r_imul C dX8_take_46 ?_
    refine r_ishr C dX8_take_47 ?_
    refine r_sipush (v := 255) C dX8_take_48 (by decide) ?_
    refine r_iand C dX8_take_51 ?_
    obtain ⟨h6, eh6, hf⟩ := bS hf
    refine r_iast C dX8_take_52 eh6 ?_
    obtain ⟨y7, ey7, hf⟩ := bS hf
    refine r_iincE (v := 1) C dX8_take_53 rfl (by decide) (by decide) ey7 ?_
    refine r_goto (tgt := 27) C dX8_take_56 (by decide) ?_
    exact V.sub (hg27 _ _ _ _ hf) (LW_s rfl (LW_s rfl (LW_s rfl (LW_s rfl (LW_e)))))
theorem wX8_take_b27 {p : Program} {l : Launch} {e : Env} {s : State} {m : MethodId} {args : Array Value} {below : List Frame} {meth : Method} {c : Code} {G : Gl} {N : Nat} {r : Int32 × Hs}  {t : Nat} (C : Cx p s m args meth c cX8_take RX8 4 G) (hret : meth.sig.returnType = (some .int))  : ∀ (n : Nat) (h : Hs) (x1 : Int32) (x2 : Int32) (x3 : Int32), fX8_take_b27 N  t n h x1 x2 x3 = some r → V p l e rmX8_take s m args below meth c G 4 (MQ below (QcG G (some (.inl r.1)) r.2) args s rmX8_take.cells rmX8_take.slots (AG G)) h 0 0 27 [some (.inr (some t)), some (.inl x1), some (.inl x2), some (.inl x3)] [] := by
  intro n
  induction n with
  | zero => intro h x1 x2 x3 hf; exact absurd (show (none : Option (Int32 × Hs)) = some r from hf) (fun q => by cases q)
  | succ n ih => intro h x1 x2 x3 hf; exact wX8_take_b27_body C hret  ih (show fX8_take_b27_body N  (fX8_take_b27 N  t n) t h x1 x2 x3 = some r from hf)
noncomputable def fX8_take (N : Nat) (h : Hs) (t : Nat) (p1 : Int32) (p2 : Int32) : Option (Int32 × Hs) :=
  (fX11_isWithin N h p1 1 4).bind fun r1 =>
  if r1.1 = 0 then (
  some ((-1), r1.2))
  else (oI 8 4 r1.2 (some t)).bind fun v2 =>
  if (v2 + p1) ≤ 120 then (
  fX8_take_b27 N t N r1.2 p1 p2 0)
  else some ((-3), r1.2)
set_option maxHeartbeats 4000000 in
set_option maxRecDepth 20000 in
theorem kX8_take (l : Launch) (G : Gl) {N : Nat} {h : Hs} {t : Nat} {p1 : Int32} {p2 : Int32} {r : Int32 × Hs} (hf : fX8_take N h t p1 p2 = some r) : CT l G yX8_take cX8_take 4 (some .int) rmX8_take [.inr (some t), .inl p1, .inl p2] h (some (.inl r.1)) r.2 := by
  refine mk_CT (by decide) (Nat.le_of_ble_eq_true rfl) ?_
  intro p e s m args below meth c C hret hin
  unfold fX8_take at hf
  refine r_iload_n C dX8_take_0 rfl ?_
  refine r_iconst (v := 1) C dX8_take_1 (by decide) ?_
  refine r_iconst (v := 4) C dX8_take_2 (by decide) ?_
  obtain ⟨r1, er1, hf⟩ := bS hf
  refine r_invSN1 (As := [.inl p1, .inl 1, .inl 4]) (host := "StageMachine") C dX8_take_3 mcX11_isWithin (by decide) wd_291 ⟨by decide, by decide⟩ ⟨by decide, by decide⟩ rfl (Nat.le_of_ble_eq_true rfl) (kX11_isWithin l G er1) ?_
  refine r_if_ne (tgt := 11) C dX8_take_6 (by decide) (fun hc => ?_) (fun hc => ?_)
  · have hf := ifF hf hc
    refine r_aload_n C dX8_take_11 rfl ?_
    obtain ⟨v2, ev2, hf⟩ := bS hf
    refine r_getI C dX8_take_12 fl_X8_28 rfl ev2 ?_
    refine r_iload_n C dX8_take_15 rfl ?_
    refine r_iadd C dX8_take_16 ?_
    refine r_bipush (v := 120) C dX8_take_17 (by decide) ?_
    refine r_icmp_le (tgt := 25) C dX8_take_19 (by decide) (fun hc => ?_) (fun hc => ?_)
    · have hf := ifT hf hc
      refine r_iconst (v := 0) C dX8_take_25 (by decide) ?_
      refine r_istore_n C dX8_take_26 (by decide) ?_
      exact V.sub (wX8_take_b27 C hret N _ _ _ _ hf) (LW_s rfl (LW_s rfl (LW_s rfl (LW_s rfl (LW_e)))))
    · have hf := ifF hf hc
      refine r_bipush (v := -3) C dX8_take_22 (by decide) ?_
      exact r_iretF C dX8_take_24 hret hf (by decide) (by decide)
  · have hf := ifT hf hc
    refine r_iconst (v := -1) C dX8_take_9 (by decide) ?_
    exact r_iretF C dX8_take_10 hret hf (by decide) (by decide)

theorem dgX8_peek_0 : (decode cX8_peek 0 = .ok (.aload_n 0, 1)) ∧ (decode cX8_peek 1 = .ok (.getfield 32, 3)) ∧ (decode cX8_peek 4 = .ok (.ifCond .lt 26, 3)) ∧ (decode cX8_peek 7 = .ok (.aload_n 0, 1)) ∧ (decode cX8_peek 8 = .ok (.getfield 32, 3)) ∧ (decode cX8_peek 11 = .ok (.aload_n 0, 1)) ∧ (decode cX8_peek 12 = .ok (.getfield 28, 3)) ∧ (decode cX8_peek 15 = .ok (.if_icmp .ge 15, 3)) ∧ (decode cX8_peek 18 = .ok (.aload_n 0, 1)) ∧ (decode cX8_peek 19 = .ok (.getfield 9, 3)) ∧ (decode cX8_peek 22 = .ok (.aload_n 0, 1)) ∧ (decode cX8_peek 23 = .ok (.getfield 32, 3)) ∧ True := dkW [(0, .aload_n 0, 1), (1, .getfield 32, 3), (4, .ifCond .lt 26, 3), (7, .aload_n 0, 1), (8, .getfield 32, 3), (11, .aload_n 0, 1), (12, .getfield 28, 3), (15, .if_icmp .ge 15, 3), (18, .aload_n 0, 1), (19, .getfield 9, 3), (22, .aload_n 0, 1), (23, .getfield 32, 3)] 0 (by decide +kernel)
theorem dX8_peek_0 : decode cX8_peek 0 = .ok (.aload_n 0, 1) := dgX8_peek_0.1
theorem dX8_peek_1 : decode cX8_peek 1 = .ok (.getfield 32, 3) := dgX8_peek_0.2.1
theorem dX8_peek_4 : decode cX8_peek 4 = .ok (.ifCond .lt 26, 3) := dgX8_peek_0.2.2.1
theorem dX8_peek_7 : decode cX8_peek 7 = .ok (.aload_n 0, 1) := dgX8_peek_0.2.2.2.1
theorem dX8_peek_8 : decode cX8_peek 8 = .ok (.getfield 32, 3) := dgX8_peek_0.2.2.2.2.1
theorem dX8_peek_11 : decode cX8_peek 11 = .ok (.aload_n 0, 1) := dgX8_peek_0.2.2.2.2.2.1
theorem dX8_peek_12 : decode cX8_peek 12 = .ok (.getfield 28, 3) := dgX8_peek_0.2.2.2.2.2.2.1
theorem dX8_peek_15 : decode cX8_peek 15 = .ok (.if_icmp .ge 15, 3) := dgX8_peek_0.2.2.2.2.2.2.2.1
theorem dX8_peek_18 : decode cX8_peek 18 = .ok (.aload_n 0, 1) := dgX8_peek_0.2.2.2.2.2.2.2.2.1
theorem dX8_peek_19 : decode cX8_peek 19 = .ok (.getfield 9, 3) := dgX8_peek_0.2.2.2.2.2.2.2.2.2.1
theorem dX8_peek_22 : decode cX8_peek 22 = .ok (.aload_n 0, 1) := dgX8_peek_0.2.2.2.2.2.2.2.2.2.2.1
theorem dX8_peek_23 : decode cX8_peek 23 = .ok (.getfield 32, 3) := dgX8_peek_0.2.2.2.2.2.2.2.2.2.2.2.1
theorem dgX8_peek_26 : (decode cX8_peek 26 = .ok (.iaload, 1)) ∧ (decode cX8_peek 27 = .ok (.goto 4, 3)) ∧ True := dkW [(26, .iaload, 1), (27, .goto 4, 3)] 26 (by decide +kernel)
theorem dX8_peek_26 : decode cX8_peek 26 = .ok (.iaload, 1) := dgX8_peek_26.1
theorem dX8_peek_27 : decode cX8_peek 27 = .ok (.goto 4, 3) := dgX8_peek_26.2.1
theorem dX8_peek_30 : decode cX8_peek 30 = .ok (.iconst (-1), 1) := by decide +kernel
theorem dgX8_peek_31 : (decode cX8_peek 31 = .ok (.ireturn, 1)) ∧ True := dkW [(31, .ireturn, 1)] 31 (by decide +kernel)
theorem dX8_peek_31 : decode cX8_peek 31 = .ok (.ireturn, 1) := dgX8_peek_31.1
abbrev rmX8_peek : Room := { frames := 0, cells := 0, slots := 0, locals := 0 }
noncomputable def fX8_peek_b31 (N : Nat)  (t : Nat) (h : Hs) (u0 : Int32) : Option (Int32 × Hs) :=
  some (u0, h)
set_option maxHeartbeats 4000000 in
set_option maxRecDepth 20000 in
theorem wX8_peek_b31 {p : Program} {l : Launch} {e : Env} {s : State} {m : MethodId} {args : Array Value} {below : List Frame} {meth : Method} {c : Code} {G : Gl} {N : Nat} {h : Hs} {r : Int32 × Hs}  {t : Nat} {u0 : Int32} (C : Cx p s m args meth c cX8_peek RX8 1 G) (hret : meth.sig.returnType = (some .int))  (hf : fX8_peek_b31 N  t h u0 = some r) : V p l e rmX8_peek s m args below meth c G 1 (MQ below (QcG G (some (.inl r.1)) r.2) args s rmX8_peek.cells rmX8_peek.slots (AG G)) h 0 0 31 [some (.inr (some t))] [.inl u0] := by
  unfold fX8_peek_b31 at hf
  exact r_iretF C dX8_peek_31 hret hf (by decide) (by decide)
noncomputable def fX8_peek_b30 (N : Nat)  (t : Nat) (h : Hs)  : Option (Int32 × Hs) :=
  fX8_peek_b31 N t h (-1)
set_option maxHeartbeats 4000000 in
set_option maxRecDepth 20000 in
theorem wX8_peek_b30 {p : Program} {l : Launch} {e : Env} {s : State} {m : MethodId} {args : Array Value} {below : List Frame} {meth : Method} {c : Code} {G : Gl} {N : Nat} {h : Hs} {r : Int32 × Hs}  {t : Nat}  (C : Cx p s m args meth c cX8_peek RX8 1 G) (hret : meth.sig.returnType = (some .int))  (hf : fX8_peek_b30 N  t h  = some r) : V p l e rmX8_peek s m args below meth c G 1 (MQ below (QcG G (some (.inl r.1)) r.2) args s rmX8_peek.cells rmX8_peek.slots (AG G)) h 0 0 30 [some (.inr (some t))] [] := by
  unfold fX8_peek_b30 at hf
  refine r_iconst (v := -1) C dX8_peek_30 (by decide) ?_
  exact V.sub (wX8_peek_b31 C hret hf) (LW_s rfl (LW_e))
noncomputable def fX8_peek (N : Nat) (h : Hs) (t : Nat)  : Option (Int32 × Hs) :=
  (oI 8 6 h (some t)).bind fun v1 =>
  if v1 < 0 then (
  fX8_peek_b30 N t h)
  else (oI 8 6 h (some t)).bind fun v2 =>
  (oI 8 4 h (some t)).bind fun v3 =>
  if v3 ≤ v2 then (
  fX8_peek_b30 N t h)
  else (oR 8 0 h (some t)).bind fun o4 =>
  (oI 8 6 h (some t)).bind fun v5 =>
  (lA 20 h o4 v5).bind fun v6 =>
  fX8_peek_b31 N t h v6
set_option maxHeartbeats 4000000 in
set_option maxRecDepth 20000 in
theorem kX8_peek (l : Launch) (G : Gl) {N : Nat} {h : Hs} {t : Nat}  {r : Int32 × Hs} (hf : fX8_peek N h t  = some r) : CT l G yX8_peek cX8_peek 1 (some .int) rmX8_peek [.inr (some t)] h (some (.inl r.1)) r.2 := by
  refine mk_CT (by decide) (Nat.le_of_ble_eq_true rfl) ?_
  intro p e s m args below meth c C hret hin
  unfold fX8_peek at hf
  refine r_aload_n C dX8_peek_0 rfl ?_
  obtain ⟨v1, ev1, hf⟩ := bS hf
  refine r_getI C dX8_peek_1 fl_X8_32 rfl ev1 ?_
  refine r_if_lt (tgt := 30) C dX8_peek_4 (by decide) (fun hc => ?_) (fun hc => ?_)
  · have hf := ifT hf hc
    exact V.sub (wX8_peek_b30 C hret hf) (LW_s rfl (LW_e))
  · have hf := ifF hf hc
    refine r_aload_n C dX8_peek_7 rfl ?_
    obtain ⟨v2, ev2, hf⟩ := bS hf
    refine r_getI C dX8_peek_8 fl_X8_32 rfl ev2 ?_
    refine r_aload_n C dX8_peek_11 rfl ?_
    obtain ⟨v3, ev3, hf⟩ := bS hf
    refine r_getI C dX8_peek_12 fl_X8_28 rfl ev3 ?_
    refine r_icmp_ge (tgt := 30) C dX8_peek_15 (by decide) (fun hc => ?_) (fun hc => ?_)
    · have hf := ifT hf hc
      exact V.sub (wX8_peek_b30 C hret hf) (LW_s rfl (LW_e))
    · have hf := ifF hf hc
      refine r_aload_n C dX8_peek_18 rfl ?_
      obtain ⟨o4, eo4, hf⟩ := bS hf
      refine r_getR C dX8_peek_19 fl_X8_9 rfl eo4 ?_
      refine r_aload_n C dX8_peek_22 rfl ?_
      obtain ⟨v5, ev5, hf⟩ := bS hf
      refine r_getI C dX8_peek_23 fl_X8_32 rfl ev5 ?_
      obtain ⟨v6, ev6, hf⟩ := bS hf
      refine r_iald C dX8_peek_26 ev6 ?_
      refine r_goto (tgt := 31) C dX8_peek_27 (by decide) ?_
      exact V.sub (wX8_peek_b31 C hret hf) (LW_s rfl (LW_e))

theorem dgX8_readSign_0 : (decode cX8_readSign 0 = .ok (.aload_n 0, 1)) ∧ (decode cX8_readSign 1 = .ok (.invokevirtual 42, 3)) ∧ (decode cX8_readSign 4 = .ok (.iload_n 1, 1)) ∧ (decode cX8_readSign 5 = .ok (.if_icmp .eq 5, 3)) ∧ (decode cX8_readSign 8 = .ok (.iconst 0, 1)) ∧ (decode cX8_readSign 9 = .ok (.ireturn, 1)) ∧ (decode cX8_readSign 10 = .ok (.aload_n 0, 1)) ∧ (decode cX8_readSign 11 = .ok (.dup, 1)) ∧ (decode cX8_readSign 12 = .ok (.getfield 32, 3)) ∧ (decode cX8_readSign 15 = .ok (.iconst 1, 1)) ∧ (decode cX8_readSign 16 = .ok (.iadd, 1)) ∧ (decode cX8_readSign 17 = .ok (.putfield 32, 3)) ∧ True := dkW [(0, .aload_n 0, 1), (1, .invokevirtual 42, 3), (4, .iload_n 1, 1), (5, .if_icmp .eq 5, 3), (8, .iconst 0, 1), (9, .ireturn, 1), (10, .aload_n 0, 1), (11, .dup, 1), (12, .getfield 32, 3), (15, .iconst 1, 1), (16, .iadd, 1), (17, .putfield 32, 3)] 0 (by decide +kernel)
theorem dX8_readSign_0 : decode cX8_readSign 0 = .ok (.aload_n 0, 1) := dgX8_readSign_0.1
theorem dX8_readSign_1 : decode cX8_readSign 1 = .ok (.invokevirtual 42, 3) := dgX8_readSign_0.2.1
theorem dX8_readSign_4 : decode cX8_readSign 4 = .ok (.iload_n 1, 1) := dgX8_readSign_0.2.2.1
theorem dX8_readSign_5 : decode cX8_readSign 5 = .ok (.if_icmp .eq 5, 3) := dgX8_readSign_0.2.2.2.1
theorem dX8_readSign_8 : decode cX8_readSign 8 = .ok (.iconst 0, 1) := dgX8_readSign_0.2.2.2.2.1
theorem dX8_readSign_9 : decode cX8_readSign 9 = .ok (.ireturn, 1) := dgX8_readSign_0.2.2.2.2.2.1
theorem dX8_readSign_10 : decode cX8_readSign 10 = .ok (.aload_n 0, 1) := dgX8_readSign_0.2.2.2.2.2.2.1
theorem dX8_readSign_11 : decode cX8_readSign 11 = .ok (.dup, 1) := dgX8_readSign_0.2.2.2.2.2.2.2.1
theorem dX8_readSign_12 : decode cX8_readSign 12 = .ok (.getfield 32, 3) := dgX8_readSign_0.2.2.2.2.2.2.2.2.1
theorem dX8_readSign_15 : decode cX8_readSign 15 = .ok (.iconst 1, 1) := dgX8_readSign_0.2.2.2.2.2.2.2.2.2.1
theorem dX8_readSign_16 : decode cX8_readSign 16 = .ok (.iadd, 1) := dgX8_readSign_0.2.2.2.2.2.2.2.2.2.2.1
theorem dX8_readSign_17 : decode cX8_readSign 17 = .ok (.putfield 32, 3) := dgX8_readSign_0.2.2.2.2.2.2.2.2.2.2.2.1
theorem dgX8_readSign_20 : (decode cX8_readSign 20 = .ok (.iconst 1, 1)) ∧ (decode cX8_readSign 21 = .ok (.ireturn, 1)) ∧ True := dkW [(20, .iconst 1, 1), (21, .ireturn, 1)] 20 (by decide +kernel)
theorem dX8_readSign_20 : decode cX8_readSign 20 = .ok (.iconst 1, 1) := dgX8_readSign_20.1
theorem dX8_readSign_21 : decode cX8_readSign 21 = .ok (.ireturn, 1) := dgX8_readSign_20.2.1
abbrev rmX8_readSign : Room := { frames := 1, cells := 0, slots := 0, locals := 20 }
noncomputable def fX8_readSign (N : Nat) (h : Hs) (t : Nat) (p1 : Int32) : Option (Int32 × Hs) :=
  (rc 8 h (some t)).bind fun a2 =>
  (fX8_peek N h a2 ).bind fun r1 =>
  if r1.1 = p1 then (
  (oI 8 6 r1.2 (some t)).bind fun v3 =>
  (qI 8 6 r1.2 (some t) (v3 + 1)).bind fun h4 =>
  some (1, h4))
  else some (0, r1.2)
set_option maxHeartbeats 4000000 in
set_option maxRecDepth 20000 in
theorem kX8_readSign (l : Launch) (G : Gl) {N : Nat} {h : Hs} {t : Nat} {p1 : Int32} {r : Int32 × Hs} (hf : fX8_readSign N h t p1 = some r) : CT l G yX8_readSign cX8_readSign 2 (some .boolean) rmX8_readSign [.inr (some t), .inl p1] h (some (.inl r.1)) r.2 := by
  refine mk_CT (by decide) (Nat.le_of_ble_eq_true rfl) ?_
  intro p e s m args below meth c C hret hin
  unfold fX8_readSign at hf
  refine r_aload_n C dX8_readSign_0 rfl ?_
  obtain ⟨a2, ea2, hf⟩ := bS hf
  obtain ⟨r1, er1, hf⟩ := bS hf
  refine r_invV1 (As := []) (ci := 8) C dX8_readSign_1 mcX8_peek wd_801 wd_803 wp_19 rfl rfl (by decide) ⟨by decide, by decide⟩ ⟨by decide, by decide⟩ rfl (Nat.le_of_ble_eq_true rfl) ea2 (kX8_peek l G er1) ?_
  refine r_iload_n C dX8_readSign_4 rfl ?_
  refine r_icmp_eq (tgt := 10) C dX8_readSign_5 (by decide) (fun hc => ?_) (fun hc => ?_)
  · have hf := ifT hf hc
    refine r_aload_n C dX8_readSign_10 rfl ?_
    refine r_dup C dX8_readSign_11 ?_
    obtain ⟨v3, ev3, hf⟩ := bS hf
    refine r_getI C dX8_readSign_12 fl_X8_32 rfl ev3 ?_
    refine r_iconst (v := 1) C dX8_readSign_15 (by decide) ?_
    refine r_iadd C dX8_readSign_16 ?_
    obtain ⟨h4, eh4, hf⟩ := bS hf
    refine r_putI C dX8_readSign_17 fl_X8_32 (Or.inl fn_8_6) rfl eh4 ?_
    refine r_iconst (v := 1) C dX8_readSign_20 (by decide) ?_
    exact r_zretF C dX8_readSign_21 hret (z := 1) rfl hf (by decide) (by decide)
  · have hf := ifF hf hc
    refine r_iconst (v := 0) C dX8_readSign_8 (by decide) ?_
    exact r_zretF C dX8_readSign_9 hret (z := 0) rfl hf (by decide) (by decide)

theorem dgX8_readNumber_0 : (decode cX8_readNumber 0 = .ok (.aload_n 0, 1)) ∧ (decode cX8_readNumber 1 = .ok (.bipush 32, 2)) ∧ (decode cX8_readNumber 3 = .ok (.invokevirtual 60, 3)) ∧ (decode cX8_readNumber 6 = .ok (.ifCond .ne 5, 3)) ∧ (decode cX8_readNumber 9 = .ok (.iconst 0, 1)) ∧ (decode cX8_readNumber 10 = .ok (.ireturn, 1)) ∧ (decode cX8_readNumber 11 = .ok (.iload_n 1, 1)) ∧ (decode cX8_readNumber 12 = .ok (.ifCond .eq 16, 3)) ∧ (decode cX8_readNumber 15 = .ok (.aload_n 0, 1)) ∧ (decode cX8_readNumber 16 = .ok (.bipush 45, 2)) ∧ (decode cX8_readNumber 18 = .ok (.invokevirtual 60, 3)) ∧ (decode cX8_readNumber 21 = .ok (.ifCond .eq 7, 3)) ∧ True := dkW [(0, .aload_n 0, 1), (1, .bipush 32, 2), (3, .invokevirtual 60, 3), (6, .ifCond .ne 5, 3), (9, .iconst 0, 1), (10, .ireturn, 1), (11, .iload_n 1, 1), (12, .ifCond .eq 16, 3), (15, .aload_n 0, 1), (16, .bipush 45, 2), (18, .invokevirtual 60, 3), (21, .ifCond .eq 7, 3)] 0 (by decide +kernel)
theorem dX8_readNumber_0 : decode cX8_readNumber 0 = .ok (.aload_n 0, 1) := dgX8_readNumber_0.1
theorem dX8_readNumber_1 : decode cX8_readNumber 1 = .ok (.bipush 32, 2) := dgX8_readNumber_0.2.1
theorem dX8_readNumber_3 : decode cX8_readNumber 3 = .ok (.invokevirtual 60, 3) := dgX8_readNumber_0.2.2.1
theorem dX8_readNumber_6 : decode cX8_readNumber 6 = .ok (.ifCond .ne 5, 3) := dgX8_readNumber_0.2.2.2.1
theorem dX8_readNumber_9 : decode cX8_readNumber 9 = .ok (.iconst 0, 1) := dgX8_readNumber_0.2.2.2.2.1
theorem dX8_readNumber_10 : decode cX8_readNumber 10 = .ok (.ireturn, 1) := dgX8_readNumber_0.2.2.2.2.2.1
theorem dX8_readNumber_11 : decode cX8_readNumber 11 = .ok (.iload_n 1, 1) := dgX8_readNumber_0.2.2.2.2.2.2.1
theorem dX8_readNumber_12 : decode cX8_readNumber 12 = .ok (.ifCond .eq 16, 3) := dgX8_readNumber_0.2.2.2.2.2.2.2.1
theorem dX8_readNumber_15 : decode cX8_readNumber 15 = .ok (.aload_n 0, 1) := dgX8_readNumber_0.2.2.2.2.2.2.2.2.1
theorem dX8_readNumber_16 : decode cX8_readNumber 16 = .ok (.bipush 45, 2) := dgX8_readNumber_0.2.2.2.2.2.2.2.2.2.1
theorem dX8_readNumber_18 : decode cX8_readNumber 18 = .ok (.invokevirtual 60, 3) := dgX8_readNumber_0.2.2.2.2.2.2.2.2.2.2.1
theorem dX8_readNumber_21 : decode cX8_readNumber 21 = .ok (.ifCond .eq 7, 3) := dgX8_readNumber_0.2.2.2.2.2.2.2.2.2.2.2.1
theorem dgX8_readNumber_24 : (decode cX8_readNumber 24 = .ok (.iconst 1, 1)) ∧ (decode cX8_readNumber 25 = .ok (.goto 4, 3)) ∧ (decode cX8_readNumber 28 = .ok (.iconst 0, 1)) ∧ (decode cX8_readNumber 29 = .ok (.istore_n 2, 1)) ∧ (decode cX8_readNumber 30 = .ok (.iconst 0, 1)) ∧ (decode cX8_readNumber 31 = .ok (.istore_n 3, 1)) ∧ (decode cX8_readNumber 32 = .ok (.aload_n 0, 1)) ∧ (decode cX8_readNumber 33 = .ok (.iconst 0, 1)) ∧ (decode cX8_readNumber 34 = .ok (.putfield 57, 3)) ∧ (decode cX8_readNumber 37 = .ok (.iload_n 3, 1)) ∧ (decode cX8_readNumber 38 = .ok (.iconst 4, 1)) ∧ (decode cX8_readNumber 39 = .ok (.if_icmp .ge 52, 3)) ∧ True := dkW [(24, .iconst 1, 1), (25, .goto 4, 3), (28, .iconst 0, 1), (29, .istore_n 2, 1), (30, .iconst 0, 1), (31, .istore_n 3, 1), (32, .aload_n 0, 1), (33, .iconst 0, 1), (34, .putfield 57, 3), (37, .iload_n 3, 1), (38, .iconst 4, 1), (39, .if_icmp .ge 52, 3)] 24 (by decide +kernel)
theorem dX8_readNumber_24 : decode cX8_readNumber 24 = .ok (.iconst 1, 1) := dgX8_readNumber_24.1
theorem dX8_readNumber_25 : decode cX8_readNumber 25 = .ok (.goto 4, 3) := dgX8_readNumber_24.2.1
theorem dX8_readNumber_28 : decode cX8_readNumber 28 = .ok (.iconst 0, 1) := dgX8_readNumber_24.2.2.1
theorem dX8_readNumber_29 : decode cX8_readNumber 29 = .ok (.istore_n 2, 1) := dgX8_readNumber_24.2.2.2.1
theorem dX8_readNumber_30 : decode cX8_readNumber 30 = .ok (.iconst 0, 1) := dgX8_readNumber_24.2.2.2.2.1
theorem dX8_readNumber_31 : decode cX8_readNumber 31 = .ok (.istore_n 3, 1) := dgX8_readNumber_24.2.2.2.2.2.1
theorem dX8_readNumber_32 : decode cX8_readNumber 32 = .ok (.aload_n 0, 1) := dgX8_readNumber_24.2.2.2.2.2.2.1
theorem dX8_readNumber_33 : decode cX8_readNumber 33 = .ok (.iconst 0, 1) := dgX8_readNumber_24.2.2.2.2.2.2.2.1
theorem dX8_readNumber_34 : decode cX8_readNumber 34 = .ok (.putfield 57, 3) := dgX8_readNumber_24.2.2.2.2.2.2.2.2.1
theorem dX8_readNumber_37 : decode cX8_readNumber 37 = .ok (.iload_n 3, 1) := dgX8_readNumber_24.2.2.2.2.2.2.2.2.2.1
theorem dX8_readNumber_38 : decode cX8_readNumber 38 = .ok (.iconst 4, 1) := dgX8_readNumber_24.2.2.2.2.2.2.2.2.2.2.1
theorem dX8_readNumber_39 : decode cX8_readNumber 39 = .ok (.if_icmp .ge 52, 3) := dgX8_readNumber_24.2.2.2.2.2.2.2.2.2.2.2.1
theorem dgX8_readNumber_42 : (decode cX8_readNumber 42 = .ok (.aload_n 0, 1)) ∧ (decode cX8_readNumber 43 = .ok (.invokevirtual 42, 3)) ∧ (decode cX8_readNumber 46 = .ok (.bipush 48, 2)) ∧ (decode cX8_readNumber 48 = .ok (.bipush 57, 2)) ∧ (decode cX8_readNumber 50 = .ok (.invokestatic 24, 3)) ∧ (decode cX8_readNumber 53 = .ok (.ifCond .eq 38, 3)) ∧ (decode cX8_readNumber 56 = .ok (.aload_n 0, 1)) ∧ (decode cX8_readNumber 57 = .ok (.bipush 10, 2)) ∧ (decode cX8_readNumber 59 = .ok (.aload_n 0, 1)) ∧ (decode cX8_readNumber 60 = .ok (.getfield 57, 3)) ∧ (decode cX8_readNumber 63 = .ok (.imul, 1)) ∧ (decode cX8_readNumber 64 = .ok (.aload_n 0, 1)) ∧ True := dkW [(42, .aload_n 0, 1), (43, .invokevirtual 42, 3), (46, .bipush 48, 2), (48, .bipush 57, 2), (50, .invokestatic 24, 3), (53, .ifCond .eq 38, 3), (56, .aload_n 0, 1), (57, .bipush 10, 2), (59, .aload_n 0, 1), (60, .getfield 57, 3), (63, .imul, 1), (64, .aload_n 0, 1)] 42 (by decide +kernel)
theorem dX8_readNumber_42 : decode cX8_readNumber 42 = .ok (.aload_n 0, 1) := dgX8_readNumber_42.1
theorem dX8_readNumber_43 : decode cX8_readNumber 43 = .ok (.invokevirtual 42, 3) := dgX8_readNumber_42.2.1
theorem dX8_readNumber_46 : decode cX8_readNumber 46 = .ok (.bipush 48, 2) := dgX8_readNumber_42.2.2.1
theorem dX8_readNumber_48 : decode cX8_readNumber 48 = .ok (.bipush 57, 2) := dgX8_readNumber_42.2.2.2.1
theorem dX8_readNumber_50 : decode cX8_readNumber 50 = .ok (.invokestatic 24, 3) := dgX8_readNumber_42.2.2.2.2.1
theorem dX8_readNumber_53 : decode cX8_readNumber 53 = .ok (.ifCond .eq 38, 3) := dgX8_readNumber_42.2.2.2.2.2.1
theorem dX8_readNumber_56 : decode cX8_readNumber 56 = .ok (.aload_n 0, 1) := dgX8_readNumber_42.2.2.2.2.2.2.1
theorem dX8_readNumber_57 : decode cX8_readNumber 57 = .ok (.bipush 10, 2) := dgX8_readNumber_42.2.2.2.2.2.2.2.1
theorem dX8_readNumber_59 : decode cX8_readNumber 59 = .ok (.aload_n 0, 1) := dgX8_readNumber_42.2.2.2.2.2.2.2.2.1
theorem dX8_readNumber_60 : decode cX8_readNumber 60 = .ok (.getfield 57, 3) := dgX8_readNumber_42.2.2.2.2.2.2.2.2.2.1
theorem dX8_readNumber_63 : decode cX8_readNumber 63 = .ok (.imul, 1) := dgX8_readNumber_42.2.2.2.2.2.2.2.2.2.2.1
theorem dX8_readNumber_64 : decode cX8_readNumber 64 = .ok (.aload_n 0, 1) := dgX8_readNumber_42.2.2.2.2.2.2.2.2.2.2.2.1
theorem dgX8_readNumber_65 : (decode cX8_readNumber 65 = .ok (.invokevirtual 42, 3)) ∧ (decode cX8_readNumber 68 = .ok (.iadd, 1)) ∧ (decode cX8_readNumber 69 = .ok (.bipush 48, 2)) ∧ (decode cX8_readNumber 71 = .ok (.isub, 1)) ∧ (decode cX8_readNumber 72 = .ok (.putfield 57, 3)) ∧ (decode cX8_readNumber 75 = .ok (.aload_n 0, 1)) ∧ (decode cX8_readNumber 76 = .ok (.dup, 1)) ∧ (decode cX8_readNumber 77 = .ok (.getfield 32, 3)) ∧ (decode cX8_readNumber 80 = .ok (.iconst 1, 1)) ∧ (decode cX8_readNumber 81 = .ok (.iadd, 1)) ∧ (decode cX8_readNumber 82 = .ok (.putfield 32, 3)) ∧ (decode cX8_readNumber 85 = .ok (.iinc 3 1, 3)) ∧ True := dkW [(65, .invokevirtual 42, 3), (68, .iadd, 1), (69, .bipush 48, 2), (71, .isub, 1), (72, .putfield 57, 3), (75, .aload_n 0, 1), (76, .dup, 1), (77, .getfield 32, 3), (80, .iconst 1, 1), (81, .iadd, 1), (82, .putfield 32, 3), (85, .iinc 3 1, 3)] 65 (by decide +kernel)
theorem dX8_readNumber_65 : decode cX8_readNumber 65 = .ok (.invokevirtual 42, 3) := dgX8_readNumber_65.1
theorem dX8_readNumber_68 : decode cX8_readNumber 68 = .ok (.iadd, 1) := dgX8_readNumber_65.2.1
theorem dX8_readNumber_69 : decode cX8_readNumber 69 = .ok (.bipush 48, 2) := dgX8_readNumber_65.2.2.1
theorem dX8_readNumber_71 : decode cX8_readNumber 71 = .ok (.isub, 1) := dgX8_readNumber_65.2.2.2.1
theorem dX8_readNumber_72 : decode cX8_readNumber 72 = .ok (.putfield 57, 3) := dgX8_readNumber_65.2.2.2.2.1
theorem dX8_readNumber_75 : decode cX8_readNumber 75 = .ok (.aload_n 0, 1) := dgX8_readNumber_65.2.2.2.2.2.1
theorem dX8_readNumber_76 : decode cX8_readNumber 76 = .ok (.dup, 1) := dgX8_readNumber_65.2.2.2.2.2.2.1
theorem dX8_readNumber_77 : decode cX8_readNumber 77 = .ok (.getfield 32, 3) := dgX8_readNumber_65.2.2.2.2.2.2.2.1
theorem dX8_readNumber_80 : decode cX8_readNumber 80 = .ok (.iconst 1, 1) := dgX8_readNumber_65.2.2.2.2.2.2.2.2.1
theorem dX8_readNumber_81 : decode cX8_readNumber 81 = .ok (.iadd, 1) := dgX8_readNumber_65.2.2.2.2.2.2.2.2.2.1
theorem dX8_readNumber_82 : decode cX8_readNumber 82 = .ok (.putfield 32, 3) := dgX8_readNumber_65.2.2.2.2.2.2.2.2.2.2.1
theorem dX8_readNumber_85 : decode cX8_readNumber 85 = .ok (.iinc 3 1, 3) := dgX8_readNumber_65.2.2.2.2.2.2.2.2.2.2.2.1
theorem dgX8_readNumber_88 : (decode cX8_readNumber 88 = .ok (.goto (-51), 3)) ∧ (decode cX8_readNumber 91 = .ok (.iload_n 2, 1)) ∧ (decode cX8_readNumber 92 = .ok (.ifCond .eq 12, 3)) ∧ (decode cX8_readNumber 95 = .ok (.aload_n 0, 1)) ∧ (decode cX8_readNumber 96 = .ok (.aload_n 0, 1)) ∧ (decode cX8_readNumber 97 = .ok (.getfield 57, 3)) ∧ (decode cX8_readNumber 100 = .ok (.ineg, 1)) ∧ (decode cX8_readNumber 101 = .ok (.putfield 57, 3)) ∧ (decode cX8_readNumber 104 = .ok (.iload_n 3, 1)) ∧ (decode cX8_readNumber 105 = .ok (.ifCond .le 7, 3)) ∧ (decode cX8_readNumber 108 = .ok (.iconst 1, 1)) ∧ (decode cX8_readNumber 109 = .ok (.goto 4, 3)) ∧ True := dkW [(88, .goto (-51), 3), (91, .iload_n 2, 1), (92, .ifCond .eq 12, 3), (95, .aload_n 0, 1), (96, .aload_n 0, 1), (97, .getfield 57, 3), (100, .ineg, 1), (101, .putfield 57, 3), (104, .iload_n 3, 1), (105, .ifCond .le 7, 3), (108, .iconst 1, 1), (109, .goto 4, 3)] 88 (by decide +kernel)
theorem dX8_readNumber_88 : decode cX8_readNumber 88 = .ok (.goto (-51), 3) := dgX8_readNumber_88.1
theorem dX8_readNumber_91 : decode cX8_readNumber 91 = .ok (.iload_n 2, 1) := dgX8_readNumber_88.2.1
theorem dX8_readNumber_92 : decode cX8_readNumber 92 = .ok (.ifCond .eq 12, 3) := dgX8_readNumber_88.2.2.1
theorem dX8_readNumber_95 : decode cX8_readNumber 95 = .ok (.aload_n 0, 1) := dgX8_readNumber_88.2.2.2.1
theorem dX8_readNumber_96 : decode cX8_readNumber 96 = .ok (.aload_n 0, 1) := dgX8_readNumber_88.2.2.2.2.1
theorem dX8_readNumber_97 : decode cX8_readNumber 97 = .ok (.getfield 57, 3) := dgX8_readNumber_88.2.2.2.2.2.1
theorem dX8_readNumber_100 : decode cX8_readNumber 100 = .ok (.ineg, 1) := dgX8_readNumber_88.2.2.2.2.2.2.1
theorem dX8_readNumber_101 : decode cX8_readNumber 101 = .ok (.putfield 57, 3) := dgX8_readNumber_88.2.2.2.2.2.2.2.1
theorem dX8_readNumber_104 : decode cX8_readNumber 104 = .ok (.iload_n 3, 1) := dgX8_readNumber_88.2.2.2.2.2.2.2.2.1
theorem dX8_readNumber_105 : decode cX8_readNumber 105 = .ok (.ifCond .le 7, 3) := dgX8_readNumber_88.2.2.2.2.2.2.2.2.2.1
theorem dX8_readNumber_108 : decode cX8_readNumber 108 = .ok (.iconst 1, 1) := dgX8_readNumber_88.2.2.2.2.2.2.2.2.2.2.1
theorem dX8_readNumber_109 : decode cX8_readNumber 109 = .ok (.goto 4, 3) := dgX8_readNumber_88.2.2.2.2.2.2.2.2.2.2.2.1
theorem dgX8_readNumber_112 : (decode cX8_readNumber 112 = .ok (.iconst 0, 1)) ∧ (decode cX8_readNumber 113 = .ok (.ireturn, 1)) ∧ True := dkW [(112, .iconst 0, 1), (113, .ireturn, 1)] 112 (by decide +kernel)
theorem dX8_readNumber_112 : decode cX8_readNumber 112 = .ok (.iconst 0, 1) := dgX8_readNumber_112.1
theorem dX8_readNumber_113 : decode cX8_readNumber 113 = .ok (.ireturn, 1) := dgX8_readNumber_112.2.1
abbrev rmX8_readNumber : Room := { frames := 2, cells := 0, slots := 0, locals := 41 }
noncomputable def fX8_readNumber_b113 (N : Nat)  (t : Nat) (h : Hs) (u0 : Int32) : Option (Int32 × Hs) :=
  (zc u0).bind fun z1 =>
  some (z1, h)
set_option maxHeartbeats 4000000 in
set_option maxRecDepth 20000 in
theorem wX8_readNumber_b113 {p : Program} {l : Launch} {e : Env} {s : State} {m : MethodId} {args : Array Value} {below : List Frame} {meth : Method} {c : Code} {G : Gl} {N : Nat} {h : Hs} {r : Int32 × Hs}  {t : Nat} {u0 : Int32} (C : Cx p s m args meth c cX8_readNumber RX8 4 G) (hret : meth.sig.returnType = (some .boolean))  (hf : fX8_readNumber_b113 N  t h u0 = some r) : V p l e rmX8_readNumber s m args below meth c G 4 (MQ below (QcG G (some (.inl r.1)) r.2) args s rmX8_readNumber.cells rmX8_readNumber.slots (AG G)) h 0 0 113 [some (.inr (some t)), none, none, none] [.inl u0] := by
  unfold fX8_readNumber_b113 at hf
  obtain ⟨z1, ez1, hf⟩ := bS hf
  exact r_zretF C dX8_readNumber_113 hret ez1 hf (by decide) (by decide)
noncomputable def fX8_readNumber_b104 (N : Nat)  (t : Nat) (h : Hs) (x3 : Int32) : Option (Int32 × Hs) :=
  if x3 ≤ 0 then (
  fX8_readNumber_b113 N t h 0)
  else fX8_readNumber_b113 N t h 1
set_option maxHeartbeats 4000000 in
set_option maxRecDepth 20000 in
theorem wX8_readNumber_b104 {p : Program} {l : Launch} {e : Env} {s : State} {m : MethodId} {args : Array Value} {below : List Frame} {meth : Method} {c : Code} {G : Gl} {N : Nat} {h : Hs} {r : Int32 × Hs}  {t : Nat} {x3 : Int32} (C : Cx p s m args meth c cX8_readNumber RX8 4 G) (hret : meth.sig.returnType = (some .boolean))  (hf : fX8_readNumber_b104 N  t h x3 = some r) : V p l e rmX8_readNumber s m args below meth c G 4 (MQ below (QcG G (some (.inl r.1)) r.2) args s rmX8_readNumber.cells rmX8_readNumber.slots (AG G)) h 0 0 104 [some (.inr (some t)), none, none, some (.inl x3)] [] := by
  unfold fX8_readNumber_b104 at hf
  refine r_iload_n C dX8_readNumber_104 rfl ?_
  refine r_if_le (tgt := 112) C dX8_readNumber_105 (by decide) (fun hc => ?_) (fun hc => ?_)
  · have hf := ifT hf hc
    refine r_iconst (v := 0) C dX8_readNumber_112 (by decide) ?_
    exact V.sub (wX8_readNumber_b113 C hret hf) (LW_s rfl (LW_n (LW_n (LW_n (LW_e)))))
  · have hf := ifF hf hc
    refine r_iconst (v := 1) C dX8_readNumber_108 (by decide) ?_
    refine r_goto (tgt := 113) C dX8_readNumber_109 (by decide) ?_
    exact V.sub (wX8_readNumber_b113 C hret hf) (LW_s rfl (LW_n (LW_n (LW_n (LW_e)))))
noncomputable def fX8_readNumber_b91 (N : Nat)  (t : Nat) (h : Hs) (x2 : Int32) (x3 : Int32) : Option (Int32 × Hs) :=
  if x2 = 0 then (
  fX8_readNumber_b104 N t h x3)
  else (oI 8 7 h (some t)).bind fun v1 =>
  (qI 8 7 h (some t) (-v1)).bind fun h2 =>
  fX8_readNumber_b104 N t h2 x3
set_option maxHeartbeats 4000000 in
set_option maxRecDepth 20000 in
theorem wX8_readNumber_b91 {p : Program} {l : Launch} {e : Env} {s : State} {m : MethodId} {args : Array Value} {below : List Frame} {meth : Method} {c : Code} {G : Gl} {N : Nat} {h : Hs} {r : Int32 × Hs}  {t : Nat} {x2 : Int32} {x3 : Int32} (C : Cx p s m args meth c cX8_readNumber RX8 4 G) (hret : meth.sig.returnType = (some .boolean))  (hf : fX8_readNumber_b91 N  t h x2 x3 = some r) : V p l e rmX8_readNumber s m args below meth c G 4 (MQ below (QcG G (some (.inl r.1)) r.2) args s rmX8_readNumber.cells rmX8_readNumber.slots (AG G)) h 0 0 91 [some (.inr (some t)), none, some (.inl x2), some (.inl x3)] [] := by
  unfold fX8_readNumber_b91 at hf
  refine r_iload_n C dX8_readNumber_91 rfl ?_
  refine r_if_eq (tgt := 104) C dX8_readNumber_92 (by decide) (fun hc => ?_) (fun hc => ?_)
  · have hf := ifT hf hc
    exact V.sub (wX8_readNumber_b104 C hret hf) (LW_s rfl (LW_n (LW_n (LW_s rfl (LW_e)))))
  · have hf := ifF hf hc
    refine r_aload_n C dX8_readNumber_95 rfl ?_
    refine r_aload_n C dX8_readNumber_96 rfl ?_
    obtain ⟨v1, ev1, hf⟩ := bS hf
    refine r_getI C dX8_readNumber_97 fl_X8_57 rfl ev1 ?_
    refine r_ineg C dX8_readNumber_100 ?_
    obtain ⟨h2, eh2, hf⟩ := bS hf
    refine r_putI C dX8_readNumber_101 fl_X8_57 (Or.inl fn_8_7) rfl eh2 ?_
    exact V.sub (wX8_readNumber_b104 C hret hf) (LW_s rfl (LW_n (LW_n (LW_s rfl (LW_e)))))
noncomputable def fX8_readNumber_b37_body (N : Nat)  (g37 : Hs → Int32 → Int32 → Option (Int32 × Hs)) (t : Nat) (h : Hs) (x2 : Int32) (x3 : Int32) : Option (Int32 × Hs) :=
  if 4 ≤ x3 then (
  fX8_readNumber_b91 N t h x2 x3)
  else (rc 8 h (some t)).bind fun a2 =>
  (fX8_peek N h a2 ).bind fun r1 =>
  (fX11_isWithin N r1.2 r1.1 48 57).bind fun r3 =>
  if r3.1 = 0 then (
  fX8_readNumber_b91 N t r3.2 x2 x3)
  else (oI 8 7 r3.2 (some t)).bind fun v4 =>
  (rc 8 r3.2 (some t)).bind fun a6 =>
  (fX8_peek N r3.2 a6 ).bind fun r5 =>
  (qI 8 7 r5.2 (some t) (((10 * v4) + r5.1) - 48)).bind fun h7 =>
  (oI 8 6 h7 (some t)).bind fun v8 =>
  (qI 8 6 h7 (some t) (v8 + 1)).bind fun h9 =>
  (some (x3 + 1)).bind fun y10 =>
  g37 h9 x2 y10
noncomputable def fX8_readNumber_b37 (N : Nat)  (t : Nat) (n : Nat) : Hs → Int32 → Int32 → Option (Int32 × Hs) := lp (fun _ _ _ => none) (fun g h x2 x3 => fX8_readNumber_b37_body N  g t h x2 x3) n
set_option maxHeartbeats 4000000 in
set_option maxRecDepth 20000 in
theorem wX8_readNumber_b37_body {p : Program} {l : Launch} {e : Env} {s : State} {m : MethodId} {args : Array Value} {below : List Frame} {meth : Method} {c : Code} {G : Gl} {N : Nat} {h : Hs} {r : Int32 × Hs}  {g37 : Hs → Int32 → Int32 → Option (Int32 × Hs)} {t : Nat} {x2 : Int32} {x3 : Int32} (C : Cx p s m args meth c cX8_readNumber RX8 4 G) (hret : meth.sig.returnType = (some .boolean))  (hg37 : ∀ (h : Hs) (x2 : Int32) (x3 : Int32), g37 h x2 x3 = some r → V p l e rmX8_readNumber s m args below meth c G 4 (MQ below (QcG G (some (.inl r.1)) r.2) args s rmX8_readNumber.cells rmX8_readNumber.slots (AG G)) h 0 0 37 [some (.inr (some t)), none, some (.inl x2), some (.inl x3)] []) (hf : fX8_readNumber_b37_body N  g37 t h x2 x3 = some r) : V p l e rmX8_readNumber s m args below meth c G 4 (MQ below (QcG G (some (.inl r.1)) r.2) args s rmX8_readNumber.cells rmX8_readNumber.slots (AG G)) h 0 0 37 [some (.inr (some t)), none, some (.inl x2), some (.inl x3)] [] := by
  unfold fX8_readNumber_b37_body at hf
  refine r_iload_n C dX8_readNumber_37 rfl ?_
  refine r_iconst (v := 4) C dX8_readNumber_38 (by decide) ?_
  refine r_icmp_ge (tgt := 91) C dX8_readNumber_39 (by decide) (fun hc => ?_) (fun hc => ?_)
  · have hf := ifT hf hc
    exact V.sub (wX8_readNumber_b91 C hret hf) (LW_s rfl (LW_n (LW_s rfl (LW_s rfl (LW_e)))))
  · have hf := ifF hf hc
    refine r_aload_n C dX8_readNumber_42 rfl ?_
    obtain ⟨a2, ea2, hf⟩ := bS hf
    obtain ⟨r1, er1, hf⟩ := bS hf
    refine r_invV1 (As := []) (ci := 8) C dX8_readNumber_43 mcX8_peek wd_801 wd_803 wp_19 rfl rfl (by decide) ⟨by decide, by decide⟩ ⟨by decide, by decide⟩ rfl (Nat.le_of_ble_eq_true rfl) ea2 (kX8_peek l G er1) ?_
    refine r_bipush (v := 48) C dX8_readNumber_46 (by decide) ?_
    refine r_bipush (v := 57) C dX8_readNumber_48 (by decide) ?_
    obtain ⟨r3, er3, hf⟩ := bS hf
    refine r_invSN1 (As := [.inl r1.1, .inl 48, .inl 57]) (host := "StageMachine") C dX8_readNumber_50 mcX11_isWithin (by decide) wd_291 ⟨by decide, by decide⟩ ⟨by decide, by decide⟩ rfl (Nat.le_of_ble_eq_true rfl) (kX11_isWithin l G er3) ?_
    refine r_if_eq (tgt := 91) C dX8_readNumber_53 (by decide) (fun hc => ?_) (fun hc => ?_)
    · have hf := ifT hf hc
      exact V.sub (wX8_readNumber_b91 C hret hf) (LW_s rfl (LW_n (LW_s rfl (LW_s rfl (LW_e)))))
    · have hf := ifF hf hc
      refine r_aload_n C dX8_readNumber_56 rfl ?_
      refine r_bipush (v := 10) C dX8_readNumber_57 (by decide) ?_
      refine r_aload_n C dX8_readNumber_59 rfl ?_
      obtain ⟨v4, ev4, hf⟩ := bS hf
      refine r_getI C dX8_readNumber_60 fl_X8_57 rfl ev4 ?_
      refine r_imul C dX8_readNumber_63 ?_
      refine r_aload_n C dX8_readNumber_64 rfl ?_
      obtain ⟨a6, ea6, hf⟩ := bS hf
      obtain ⟨r5, er5, hf⟩ := bS hf
      refine r_invV1 (As := []) (ci := 8) C dX8_readNumber_65 mcX8_peek wd_801 wd_803 wp_19 rfl rfl (by decide) ⟨by decide, by decide⟩ ⟨by decide, by decide⟩ rfl (Nat.le_of_ble_eq_true rfl) ea6 (kX8_peek l G er5) ?_
      refine r_iadd C dX8_readNumber_68 ?_
      refine r_bipush (v := 48) C dX8_readNumber_69 (by decide) ?_
      refine r_isub C dX8_readNumber_71 ?_
      obtain ⟨h7, eh7, hf⟩ := bS hf
      refine r_putI C dX8_readNumber_72 fl_X8_57 (Or.inl fn_8_7) rfl eh7 ?_
      refine r_aload_n C dX8_readNumber_75 rfl ?_
      refine r_dup C dX8_readNumber_76 ?_
      obtain ⟨v8, ev8, hf⟩ := bS hf
      refine r_getI C dX8_readNumber_77 fl_X8_32 rfl ev8 ?_
      refine r_iconst (v := 1) C dX8_readNumber_80 (by decide) ?_
      refine r_iadd C dX8_readNumber_81 ?_
      obtain ⟨h9, eh9, hf⟩ := bS hf
      refine r_putI C dX8_readNumber_82 fl_X8_32 (Or.inl fn_8_6) rfl eh9 ?_
      obtain ⟨y10, ey10, hf⟩ := bS hf
      refine r_iincE (v := 1) C dX8_readNumber_85 rfl (by decide) (by decide) ey10 ?_
      refine r_goto (tgt := 37) C dX8_readNumber_88 (by decide) ?_
      exact V.sub (hg37 _ _ _ hf) (LW_s rfl (LW_n (LW_s rfl (LW_s rfl (LW_e)))))
theorem wX8_readNumber_b37 {p : Program} {l : Launch} {e : Env} {s : State} {m : MethodId} {args : Array Value} {below : List Frame} {meth : Method} {c : Code} {G : Gl} {N : Nat} {r : Int32 × Hs}  {t : Nat} (C : Cx p s m args meth c cX8_readNumber RX8 4 G) (hret : meth.sig.returnType = (some .boolean))  : ∀ (n : Nat) (h : Hs) (x2 : Int32) (x3 : Int32), fX8_readNumber_b37 N  t n h x2 x3 = some r → V p l e rmX8_readNumber s m args below meth c G 4 (MQ below (QcG G (some (.inl r.1)) r.2) args s rmX8_readNumber.cells rmX8_readNumber.slots (AG G)) h 0 0 37 [some (.inr (some t)), none, some (.inl x2), some (.inl x3)] [] := by
  intro n
  induction n with
  | zero => intro h x2 x3 hf; exact absurd (show (none : Option (Int32 × Hs)) = some r from hf) (fun q => by cases q)
  | succ n ih => intro h x2 x3 hf; exact wX8_readNumber_b37_body C hret  ih (show fX8_readNumber_b37_body N  (fX8_readNumber_b37 N  t n) t h x2 x3 = some r from hf)
noncomputable def fX8_readNumber_b29 (N : Nat)  (t : Nat) (h : Hs) (u0 : Int32) : Option (Int32 × Hs) :=
  (qI 8 7 h (some t) 0).bind fun h1 =>
  fX8_readNumber_b37 N t N h1 u0 0
set_option maxHeartbeats 4000000 in
set_option maxRecDepth 20000 in
theorem wX8_readNumber_b29 {p : Program} {l : Launch} {e : Env} {s : State} {m : MethodId} {args : Array Value} {below : List Frame} {meth : Method} {c : Code} {G : Gl} {N : Nat} {h : Hs} {r : Int32 × Hs}  {t : Nat} {u0 : Int32} (C : Cx p s m args meth c cX8_readNumber RX8 4 G) (hret : meth.sig.returnType = (some .boolean))  (hf : fX8_readNumber_b29 N  t h u0 = some r) : V p l e rmX8_readNumber s m args below meth c G 4 (MQ below (QcG G (some (.inl r.1)) r.2) args s rmX8_readNumber.cells rmX8_readNumber.slots (AG G)) h 0 0 29 [some (.inr (some t)), none, none, none] [.inl u0] := by
  unfold fX8_readNumber_b29 at hf
  refine r_istore_n C dX8_readNumber_29 (by decide) ?_
  refine r_iconst (v := 0) C dX8_readNumber_30 (by decide) ?_
  refine r_istore_n C dX8_readNumber_31 (by decide) ?_
  refine r_aload_n C dX8_readNumber_32 rfl ?_
  refine r_iconst (v := 0) C dX8_readNumber_33 (by decide) ?_
  obtain ⟨h1, eh1, hf⟩ := bS hf
  refine r_putI C dX8_readNumber_34 fl_X8_57 (Or.inl fn_8_7) rfl eh1 ?_
  exact V.sub (wX8_readNumber_b37 C hret N _ _ _ hf) (LW_s rfl (LW_n (LW_s rfl (LW_s rfl (LW_e)))))
noncomputable def fX8_readNumber_b28 (N : Nat)  (t : Nat) (h : Hs)  : Option (Int32 × Hs) :=
  fX8_readNumber_b29 N t h 0
set_option maxHeartbeats 4000000 in
set_option maxRecDepth 20000 in
theorem wX8_readNumber_b28 {p : Program} {l : Launch} {e : Env} {s : State} {m : MethodId} {args : Array Value} {below : List Frame} {meth : Method} {c : Code} {G : Gl} {N : Nat} {h : Hs} {r : Int32 × Hs}  {t : Nat}  (C : Cx p s m args meth c cX8_readNumber RX8 4 G) (hret : meth.sig.returnType = (some .boolean))  (hf : fX8_readNumber_b28 N  t h  = some r) : V p l e rmX8_readNumber s m args below meth c G 4 (MQ below (QcG G (some (.inl r.1)) r.2) args s rmX8_readNumber.cells rmX8_readNumber.slots (AG G)) h 0 0 28 [some (.inr (some t)), none, none, none] [] := by
  unfold fX8_readNumber_b28 at hf
  refine r_iconst (v := 0) C dX8_readNumber_28 (by decide) ?_
  exact V.sub (wX8_readNumber_b29 C hret hf) (LW_s rfl (LW_n (LW_n (LW_n (LW_e)))))
noncomputable def fX8_readNumber (N : Nat) (h : Hs) (t : Nat) (p1 : Int32) : Option (Int32 × Hs) :=
  (rc 8 h (some t)).bind fun a2 =>
  (fX8_readSign N h a2 32).bind fun r1 =>
  if r1.1 = 0 then (
  some (0, r1.2))
  else if p1 = 0 then (
  fX8_readNumber_b28 N t r1.2)
  else (rc 8 r1.2 (some t)).bind fun a4 =>
  (fX8_readSign N r1.2 a4 45).bind fun r3 =>
  if r3.1 = 0 then (
  fX8_readNumber_b28 N t r3.2)
  else fX8_readNumber_b29 N t r3.2 1
set_option maxHeartbeats 4000000 in
set_option maxRecDepth 20000 in
theorem kX8_readNumber (l : Launch) (G : Gl) {N : Nat} {h : Hs} {t : Nat} {p1 : Int32} {r : Int32 × Hs} (hf : fX8_readNumber N h t p1 = some r) : CT l G yX8_readNumber cX8_readNumber 4 (some .boolean) rmX8_readNumber [.inr (some t), .inl p1] h (some (.inl r.1)) r.2 := by
  refine mk_CT (by decide) (Nat.le_of_ble_eq_true rfl) ?_
  intro p e s m args below meth c C hret hin
  unfold fX8_readNumber at hf
  refine r_aload_n C dX8_readNumber_0 rfl ?_
  refine r_bipush (v := 32) C dX8_readNumber_1 (by decide) ?_
  obtain ⟨a2, ea2, hf⟩ := bS hf
  obtain ⟨r1, er1, hf⟩ := bS hf
  refine r_invV1 (As := [.inl 32]) (ci := 8) C dX8_readNumber_3 mcX8_readSign wd_813 wd_815 wp_22 rfl rfl (by decide) ⟨by decide, by decide⟩ ⟨by decide, by decide⟩ rfl (Nat.le_of_ble_eq_true rfl) ea2 (kX8_readSign l G er1) ?_
  refine r_if_ne (tgt := 11) C dX8_readNumber_6 (by decide) (fun hc => ?_) (fun hc => ?_)
  · have hf := ifF hf hc
    refine r_iload_n C dX8_readNumber_11 rfl ?_
    refine r_if_eq (tgt := 28) C dX8_readNumber_12 (by decide) (fun hc => ?_) (fun hc => ?_)
    · have hf := ifT hf hc
      exact V.sub (wX8_readNumber_b28 C hret hf) (LW_s rfl (LW_n (LW_n (LW_n (LW_e)))))
    · have hf := ifF hf hc
      refine r_aload_n C dX8_readNumber_15 rfl ?_
      refine r_bipush (v := 45) C dX8_readNumber_16 (by decide) ?_
      obtain ⟨a4, ea4, hf⟩ := bS hf
      obtain ⟨r3, er3, hf⟩ := bS hf
      refine r_invV1 (As := [.inl 45]) (ci := 8) C dX8_readNumber_18 mcX8_readSign wd_813 wd_815 wp_22 rfl rfl (by decide) ⟨by decide, by decide⟩ ⟨by decide, by decide⟩ rfl (Nat.le_of_ble_eq_true rfl) ea4 (kX8_readSign l G er3) ?_
      refine r_if_eq (tgt := 28) C dX8_readNumber_21 (by decide) (fun hc => ?_) (fun hc => ?_)
      · have hf := ifT hf hc
        exact V.sub (wX8_readNumber_b28 C hret hf) (LW_s rfl (LW_n (LW_n (LW_n (LW_e)))))
      · have hf := ifF hf hc
        refine r_iconst (v := 1) C dX8_readNumber_24 (by decide) ?_
        refine r_goto (tgt := 29) C dX8_readNumber_25 (by decide) ?_
        exact V.sub (wX8_readNumber_b29 C hret hf) (LW_s rfl (LW_n (LW_n (LW_n (LW_e)))))
  · have hf := ifT hf hc
    refine r_iconst (v := 0) C dX8_readNumber_9 (by decide) ?_
    exact r_zretF C dX8_readNumber_10 hret (z := 0) rfl hf (by decide) (by decide)

theorem dgX8_readTwo_0 : (decode cX8_readTwo 0 = .ok (.aload_n 0, 1)) ∧ (decode cX8_readTwo 1 = .ok (.dup, 1)) ∧ (decode cX8_readTwo 2 = .ok (.getfield 32, 3)) ∧ (decode cX8_readTwo 5 = .ok (.iconst 1, 1)) ∧ (decode cX8_readTwo 6 = .ok (.iadd, 1)) ∧ (decode cX8_readTwo 7 = .ok (.putfield 32, 3)) ∧ (decode cX8_readTwo 10 = .ok (.aload_n 0, 1)) ∧ (decode cX8_readTwo 11 = .ok (.iconst 0, 1)) ∧ (decode cX8_readTwo 12 = .ok (.invokevirtual 53, 3)) ∧ (decode cX8_readTwo 15 = .ok (.ifCond .ne 5, 3)) ∧ (decode cX8_readTwo 18 = .ok (.iconst 0, 1)) ∧ (decode cX8_readTwo 19 = .ok (.ireturn, 1)) ∧ True := dkW [(0, .aload_n 0, 1), (1, .dup, 1), (2, .getfield 32, 3), (5, .iconst 1, 1), (6, .iadd, 1), (7, .putfield 32, 3), (10, .aload_n 0, 1), (11, .iconst 0, 1), (12, .invokevirtual 53, 3), (15, .ifCond .ne 5, 3), (18, .iconst 0, 1), (19, .ireturn, 1)] 0 (by decide +kernel)
theorem dX8_readTwo_0 : decode cX8_readTwo 0 = .ok (.aload_n 0, 1) := dgX8_readTwo_0.1
theorem dX8_readTwo_1 : decode cX8_readTwo 1 = .ok (.dup, 1) := dgX8_readTwo_0.2.1
theorem dX8_readTwo_2 : decode cX8_readTwo 2 = .ok (.getfield 32, 3) := dgX8_readTwo_0.2.2.1
theorem dX8_readTwo_5 : decode cX8_readTwo 5 = .ok (.iconst 1, 1) := dgX8_readTwo_0.2.2.2.1
theorem dX8_readTwo_6 : decode cX8_readTwo 6 = .ok (.iadd, 1) := dgX8_readTwo_0.2.2.2.2.1
theorem dX8_readTwo_7 : decode cX8_readTwo 7 = .ok (.putfield 32, 3) := dgX8_readTwo_0.2.2.2.2.2.1
theorem dX8_readTwo_10 : decode cX8_readTwo 10 = .ok (.aload_n 0, 1) := dgX8_readTwo_0.2.2.2.2.2.2.1
theorem dX8_readTwo_11 : decode cX8_readTwo 11 = .ok (.iconst 0, 1) := dgX8_readTwo_0.2.2.2.2.2.2.2.1
theorem dX8_readTwo_12 : decode cX8_readTwo 12 = .ok (.invokevirtual 53, 3) := dgX8_readTwo_0.2.2.2.2.2.2.2.2.1
theorem dX8_readTwo_15 : decode cX8_readTwo 15 = .ok (.ifCond .ne 5, 3) := dgX8_readTwo_0.2.2.2.2.2.2.2.2.2.1
theorem dX8_readTwo_18 : decode cX8_readTwo 18 = .ok (.iconst 0, 1) := dgX8_readTwo_0.2.2.2.2.2.2.2.2.2.2.1
theorem dX8_readTwo_19 : decode cX8_readTwo 19 = .ok (.ireturn, 1) := dgX8_readTwo_0.2.2.2.2.2.2.2.2.2.2.2.1
theorem dgX8_readTwo_20 : (decode cX8_readTwo 20 = .ok (.aload_n 0, 1)) ∧ (decode cX8_readTwo 21 = .ok (.getfield 18, 3)) ∧ (decode cX8_readTwo 24 = .ok (.iload_n 1, 1)) ∧ (decode cX8_readTwo 25 = .ok (.aload_n 0, 1)) ∧ (decode cX8_readTwo 26 = .ok (.getfield 57, 3)) ∧ (decode cX8_readTwo 29 = .ok (.iastore, 1)) ∧ (decode cX8_readTwo 30 = .ok (.aload_n 0, 1)) ∧ (decode cX8_readTwo 31 = .ok (.iload_n 2, 1)) ∧ (decode cX8_readTwo 32 = .ok (.invokevirtual 53, 3)) ∧ (decode cX8_readTwo 35 = .ok (.ifCond .ne 5, 3)) ∧ (decode cX8_readTwo 38 = .ok (.iconst 0, 1)) ∧ (decode cX8_readTwo 39 = .ok (.ireturn, 1)) ∧ True := dkW [(20, .aload_n 0, 1), (21, .getfield 18, 3), (24, .iload_n 1, 1), (25, .aload_n 0, 1), (26, .getfield 57, 3), (29, .iastore, 1), (30, .aload_n 0, 1), (31, .iload_n 2, 1), (32, .invokevirtual 53, 3), (35, .ifCond .ne 5, 3), (38, .iconst 0, 1), (39, .ireturn, 1)] 20 (by decide +kernel)
theorem dX8_readTwo_20 : decode cX8_readTwo 20 = .ok (.aload_n 0, 1) := dgX8_readTwo_20.1
theorem dX8_readTwo_21 : decode cX8_readTwo 21 = .ok (.getfield 18, 3) := dgX8_readTwo_20.2.1
theorem dX8_readTwo_24 : decode cX8_readTwo 24 = .ok (.iload_n 1, 1) := dgX8_readTwo_20.2.2.1
theorem dX8_readTwo_25 : decode cX8_readTwo 25 = .ok (.aload_n 0, 1) := dgX8_readTwo_20.2.2.2.1
theorem dX8_readTwo_26 : decode cX8_readTwo 26 = .ok (.getfield 57, 3) := dgX8_readTwo_20.2.2.2.2.1
theorem dX8_readTwo_29 : decode cX8_readTwo 29 = .ok (.iastore, 1) := dgX8_readTwo_20.2.2.2.2.2.1
theorem dX8_readTwo_30 : decode cX8_readTwo 30 = .ok (.aload_n 0, 1) := dgX8_readTwo_20.2.2.2.2.2.2.1
theorem dX8_readTwo_31 : decode cX8_readTwo 31 = .ok (.iload_n 2, 1) := dgX8_readTwo_20.2.2.2.2.2.2.2.1
theorem dX8_readTwo_32 : decode cX8_readTwo 32 = .ok (.invokevirtual 53, 3) := dgX8_readTwo_20.2.2.2.2.2.2.2.2.1
theorem dX8_readTwo_35 : decode cX8_readTwo 35 = .ok (.ifCond .ne 5, 3) := dgX8_readTwo_20.2.2.2.2.2.2.2.2.2.1
theorem dX8_readTwo_38 : decode cX8_readTwo 38 = .ok (.iconst 0, 1) := dgX8_readTwo_20.2.2.2.2.2.2.2.2.2.2.1
theorem dX8_readTwo_39 : decode cX8_readTwo 39 = .ok (.ireturn, 1) := dgX8_readTwo_20.2.2.2.2.2.2.2.2.2.2.2.1
theorem dgX8_readTwo_40 : (decode cX8_readTwo 40 = .ok (.aload_n 0, 1)) ∧ (decode cX8_readTwo 41 = .ok (.getfield 21, 3)) ∧ (decode cX8_readTwo 44 = .ok (.iload_n 1, 1)) ∧ (decode cX8_readTwo 45 = .ok (.aload_n 0, 1)) ∧ (decode cX8_readTwo 46 = .ok (.getfield 57, 3)) ∧ (decode cX8_readTwo 49 = .ok (.iastore, 1)) ∧ (decode cX8_readTwo 50 = .ok (.aload_n 0, 1)) ∧ (decode cX8_readTwo 51 = .ok (.bipush 59, 2)) ∧ (decode cX8_readTwo 53 = .ok (.invokevirtual 60, 3)) ∧ (decode cX8_readTwo 56 = .ok (.ireturn, 1)) ∧ True := dkW [(40, .aload_n 0, 1), (41, .getfield 21, 3), (44, .iload_n 1, 1), (45, .aload_n 0, 1), (46, .getfield 57, 3), (49, .iastore, 1), (50, .aload_n 0, 1), (51, .bipush 59, 2), (53, .invokevirtual 60, 3), (56, .ireturn, 1)] 40 (by decide +kernel)
theorem dX8_readTwo_40 : decode cX8_readTwo 40 = .ok (.aload_n 0, 1) := dgX8_readTwo_40.1
theorem dX8_readTwo_41 : decode cX8_readTwo 41 = .ok (.getfield 21, 3) := dgX8_readTwo_40.2.1
theorem dX8_readTwo_44 : decode cX8_readTwo 44 = .ok (.iload_n 1, 1) := dgX8_readTwo_40.2.2.1
theorem dX8_readTwo_45 : decode cX8_readTwo 45 = .ok (.aload_n 0, 1) := dgX8_readTwo_40.2.2.2.1
theorem dX8_readTwo_46 : decode cX8_readTwo 46 = .ok (.getfield 57, 3) := dgX8_readTwo_40.2.2.2.2.1
theorem dX8_readTwo_49 : decode cX8_readTwo 49 = .ok (.iastore, 1) := dgX8_readTwo_40.2.2.2.2.2.1
theorem dX8_readTwo_50 : decode cX8_readTwo 50 = .ok (.aload_n 0, 1) := dgX8_readTwo_40.2.2.2.2.2.2.1
theorem dX8_readTwo_51 : decode cX8_readTwo 51 = .ok (.bipush 59, 2) := dgX8_readTwo_40.2.2.2.2.2.2.2.1
theorem dX8_readTwo_53 : decode cX8_readTwo 53 = .ok (.invokevirtual 60, 3) := dgX8_readTwo_40.2.2.2.2.2.2.2.2.1
theorem dX8_readTwo_56 : decode cX8_readTwo 56 = .ok (.ireturn, 1) := dgX8_readTwo_40.2.2.2.2.2.2.2.2.2.1
abbrev rmX8_readTwo : Room := { frames := 3, cells := 0, slots := 0, locals := 64 }
noncomputable def fX8_readTwo (N : Nat) (h : Hs) (t : Nat) (p1 : Int32) (p2 : Int32) : Option (Int32 × Hs) :=
  (oI 8 6 h (some t)).bind fun v1 =>
  (qI 8 6 h (some t) (v1 + 1)).bind fun h2 =>
  (rc 8 h2 (some t)).bind fun a4 =>
  (fX8_readNumber N h2 a4 0).bind fun r3 =>
  if r3.1 = 0 then (
  some (0, r3.2))
  else (oR 8 2 r3.2 (some t)).bind fun o5 =>
  (oI 8 7 r3.2 (some t)).bind fun v6 =>
  (sA r3.2 o5 p1 v6).bind fun h7 =>
  (rc 8 h7 (some t)).bind fun a9 =>
  (fX8_readNumber N h7 a9 p2).bind fun r8 =>
  if r8.1 = 0 then (
  some (0, r8.2))
  else (oR 8 3 r8.2 (some t)).bind fun o10 =>
  (oI 8 7 r8.2 (some t)).bind fun v11 =>
  (sA r8.2 o10 p1 v11).bind fun h12 =>
  (rc 8 h12 (some t)).bind fun a14 =>
  (fX8_readSign N h12 a14 59).bind fun r13 =>
  (zc r13.1).bind fun z15 =>
  some (z15, r13.2)
set_option maxHeartbeats 4000000 in
set_option maxRecDepth 20000 in
theorem kX8_readTwo (l : Launch) (G : Gl) {N : Nat} {h : Hs} {t : Nat} {p1 : Int32} {p2 : Int32} {r : Int32 × Hs} (hf : fX8_readTwo N h t p1 p2 = some r) : CT l G yX8_readTwo cX8_readTwo 3 (some .boolean) rmX8_readTwo [.inr (some t), .inl p1, .inl p2] h (some (.inl r.1)) r.2 := by
  refine mk_CT (by decide) (Nat.le_of_ble_eq_true rfl) ?_
  intro p e s m args below meth c C hret hin
  unfold fX8_readTwo at hf
  refine r_aload_n C dX8_readTwo_0 rfl ?_
  refine r_dup C dX8_readTwo_1 ?_
  obtain ⟨v1, ev1, hf⟩ := bS hf
  refine r_getI C dX8_readTwo_2 fl_X8_32 rfl ev1 ?_
  refine r_iconst (v := 1) C dX8_readTwo_5 (by decide) ?_
  refine r_iadd C dX8_readTwo_6 ?_
  obtain ⟨h2, eh2, hf⟩ := bS hf
  refine r_putI C dX8_readTwo_7 fl_X8_32 (Or.inl fn_8_6) rfl eh2 ?_
  refine r_aload_n C dX8_readTwo_10 rfl ?_
  refine r_iconst (v := 0) C dX8_readTwo_11 (by decide) ?_
  obtain ⟨a4, ea4, hf⟩ := bS hf
  obtain ⟨r3, er3, hf⟩ := bS hf
  refine r_invV1 (As := [.inl 0]) (ci := 8) C dX8_readTwo_12 mcX8_readNumber wd_809 wd_811 wp_21 rfl rfl (by decide) ⟨by decide, by decide⟩ ⟨by decide, by decide⟩ rfl (Nat.le_of_ble_eq_true rfl) ea4 (kX8_readNumber l G er3) ?_
  refine r_if_ne (tgt := 20) C dX8_readTwo_15 (by decide) (fun hc => ?_) (fun hc => ?_)
  · have hf := ifF hf hc
    refine r_aload_n C dX8_readTwo_20 rfl ?_
    obtain ⟨o5, eo5, hf⟩ := bS hf
    refine r_getR C dX8_readTwo_21 fl_X8_18 rfl eo5 ?_
    refine r_iload_n C dX8_readTwo_24 rfl ?_
    refine r_aload_n C dX8_readTwo_25 rfl ?_
    obtain ⟨v6, ev6, hf⟩ := bS hf
    refine r_getI C dX8_readTwo_26 fl_X8_57 rfl ev6 ?_
    obtain ⟨h7, eh7, hf⟩ := bS hf
    refine r_iast C dX8_readTwo_29 eh7 ?_
    refine r_aload_n C dX8_readTwo_30 rfl ?_
    refine r_iload_n C dX8_readTwo_31 rfl ?_
    obtain ⟨a9, ea9, hf⟩ := bS hf
    obtain ⟨r8, er8, hf⟩ := bS hf
    refine r_invV1 (As := [.inl p2]) (ci := 8) C dX8_readTwo_32 mcX8_readNumber wd_809 wd_811 wp_21 rfl rfl (by decide) ⟨by decide, by decide⟩ ⟨by decide, by decide⟩ rfl (Nat.le_of_ble_eq_true rfl) ea9 (kX8_readNumber l G er8) ?_
    refine r_if_ne (tgt := 40) C dX8_readTwo_35 (by decide) (fun hc => ?_) (fun hc => ?_)
    · have hf := ifF hf hc
      refine r_aload_n C dX8_readTwo_40 rfl ?_
      obtain ⟨o10, eo10, hf⟩ := bS hf
      refine r_getR C dX8_readTwo_41 fl_X8_21 rfl eo10 ?_
      refine r_iload_n C dX8_readTwo_44 rfl ?_
      refine r_aload_n C dX8_readTwo_45 rfl ?_
      obtain ⟨v11, ev11, hf⟩ := bS hf
      refine r_getI C dX8_readTwo_46 fl_X8_57 rfl ev11 ?_
      obtain ⟨h12, eh12, hf⟩ := bS hf
      refine r_iast C dX8_readTwo_49 eh12 ?_
      refine r_aload_n C dX8_readTwo_50 rfl ?_
      refine r_bipush (v := 59) C dX8_readTwo_51 (by decide) ?_
      obtain ⟨a14, ea14, hf⟩ := bS hf
      obtain ⟨r13, er13, hf⟩ := bS hf
      refine r_invV1 (As := [.inl 59]) (ci := 8) C dX8_readTwo_53 mcX8_readSign wd_813 wd_815 wp_22 rfl rfl (by decide) ⟨by decide, by decide⟩ ⟨by decide, by decide⟩ rfl (Nat.le_of_ble_eq_true rfl) ea14 (kX8_readSign l G er13) ?_
      obtain ⟨z15, ez15, hf⟩ := bS hf
      exact r_zretF C dX8_readTwo_56 hret ez15 hf (by decide) (by decide)
    · have hf := ifT hf hc
      refine r_iconst (v := 0) C dX8_readTwo_38 (by decide) ?_
      exact r_zretF C dX8_readTwo_39 hret (z := 0) rfl hf (by decide) (by decide)
  · have hf := ifT hf hc
    refine r_iconst (v := 0) C dX8_readTwo_18 (by decide) ?_
    exact r_zretF C dX8_readTwo_19 hret (z := 0) rfl hf (by decide) (by decide)

theorem dgX8_readOne_0 : (decode cX8_readOne 0 = .ok (.aload_n 0, 1)) ∧ (decode cX8_readOne 1 = .ok (.dup, 1)) ∧ (decode cX8_readOne 2 = .ok (.getfield 32, 3)) ∧ (decode cX8_readOne 5 = .ok (.iconst 1, 1)) ∧ (decode cX8_readOne 6 = .ok (.iadd, 1)) ∧ (decode cX8_readOne 7 = .ok (.putfield 32, 3)) ∧ (decode cX8_readOne 10 = .ok (.aload_n 0, 1)) ∧ (decode cX8_readOne 11 = .ok (.iload_n 2, 1)) ∧ (decode cX8_readOne 12 = .ok (.invokevirtual 53, 3)) ∧ (decode cX8_readOne 15 = .ok (.ifCond .ne 5, 3)) ∧ (decode cX8_readOne 18 = .ok (.iconst 0, 1)) ∧ (decode cX8_readOne 19 = .ok (.ireturn, 1)) ∧ True := dkW [(0, .aload_n 0, 1), (1, .dup, 1), (2, .getfield 32, 3), (5, .iconst 1, 1), (6, .iadd, 1), (7, .putfield 32, 3), (10, .aload_n 0, 1), (11, .iload_n 2, 1), (12, .invokevirtual 53, 3), (15, .ifCond .ne 5, 3), (18, .iconst 0, 1), (19, .ireturn, 1)] 0 (by decide +kernel)
theorem dX8_readOne_0 : decode cX8_readOne 0 = .ok (.aload_n 0, 1) := dgX8_readOne_0.1
theorem dX8_readOne_1 : decode cX8_readOne 1 = .ok (.dup, 1) := dgX8_readOne_0.2.1
theorem dX8_readOne_2 : decode cX8_readOne 2 = .ok (.getfield 32, 3) := dgX8_readOne_0.2.2.1
theorem dX8_readOne_5 : decode cX8_readOne 5 = .ok (.iconst 1, 1) := dgX8_readOne_0.2.2.2.1
theorem dX8_readOne_6 : decode cX8_readOne 6 = .ok (.iadd, 1) := dgX8_readOne_0.2.2.2.2.1
theorem dX8_readOne_7 : decode cX8_readOne 7 = .ok (.putfield 32, 3) := dgX8_readOne_0.2.2.2.2.2.1
theorem dX8_readOne_10 : decode cX8_readOne 10 = .ok (.aload_n 0, 1) := dgX8_readOne_0.2.2.2.2.2.2.1
theorem dX8_readOne_11 : decode cX8_readOne 11 = .ok (.iload_n 2, 1) := dgX8_readOne_0.2.2.2.2.2.2.2.1
theorem dX8_readOne_12 : decode cX8_readOne 12 = .ok (.invokevirtual 53, 3) := dgX8_readOne_0.2.2.2.2.2.2.2.2.1
theorem dX8_readOne_15 : decode cX8_readOne 15 = .ok (.ifCond .ne 5, 3) := dgX8_readOne_0.2.2.2.2.2.2.2.2.2.1
theorem dX8_readOne_18 : decode cX8_readOne 18 = .ok (.iconst 0, 1) := dgX8_readOne_0.2.2.2.2.2.2.2.2.2.2.1
theorem dX8_readOne_19 : decode cX8_readOne 19 = .ok (.ireturn, 1) := dgX8_readOne_0.2.2.2.2.2.2.2.2.2.2.2.1
theorem dgX8_readOne_20 : (decode cX8_readOne 20 = .ok (.aload_n 0, 1)) ∧ (decode cX8_readOne 21 = .ok (.getfield 18, 3)) ∧ (decode cX8_readOne 24 = .ok (.iload_n 1, 1)) ∧ (decode cX8_readOne 25 = .ok (.aload_n 0, 1)) ∧ (decode cX8_readOne 26 = .ok (.getfield 57, 3)) ∧ (decode cX8_readOne 29 = .ok (.iastore, 1)) ∧ (decode cX8_readOne 30 = .ok (.aload_n 0, 1)) ∧ (decode cX8_readOne 31 = .ok (.bipush 59, 2)) ∧ (decode cX8_readOne 33 = .ok (.invokevirtual 60, 3)) ∧ (decode cX8_readOne 36 = .ok (.ireturn, 1)) ∧ True := dkW [(20, .aload_n 0, 1), (21, .getfield 18, 3), (24, .iload_n 1, 1), (25, .aload_n 0, 1), (26, .getfield 57, 3), (29, .iastore, 1), (30, .aload_n 0, 1), (31, .bipush 59, 2), (33, .invokevirtual 60, 3), (36, .ireturn, 1)] 20 (by decide +kernel)
theorem dX8_readOne_20 : decode cX8_readOne 20 = .ok (.aload_n 0, 1) := dgX8_readOne_20.1
theorem dX8_readOne_21 : decode cX8_readOne 21 = .ok (.getfield 18, 3) := dgX8_readOne_20.2.1
theorem dX8_readOne_24 : decode cX8_readOne 24 = .ok (.iload_n 1, 1) := dgX8_readOne_20.2.2.1
theorem dX8_readOne_25 : decode cX8_readOne 25 = .ok (.aload_n 0, 1) := dgX8_readOne_20.2.2.2.1
theorem dX8_readOne_26 : decode cX8_readOne 26 = .ok (.getfield 57, 3) := dgX8_readOne_20.2.2.2.2.1
theorem dX8_readOne_29 : decode cX8_readOne 29 = .ok (.iastore, 1) := dgX8_readOne_20.2.2.2.2.2.1
theorem dX8_readOne_30 : decode cX8_readOne 30 = .ok (.aload_n 0, 1) := dgX8_readOne_20.2.2.2.2.2.2.1
theorem dX8_readOne_31 : decode cX8_readOne 31 = .ok (.bipush 59, 2) := dgX8_readOne_20.2.2.2.2.2.2.2.1
theorem dX8_readOne_33 : decode cX8_readOne 33 = .ok (.invokevirtual 60, 3) := dgX8_readOne_20.2.2.2.2.2.2.2.2.1
theorem dX8_readOne_36 : decode cX8_readOne 36 = .ok (.ireturn, 1) := dgX8_readOne_20.2.2.2.2.2.2.2.2.2.1
abbrev rmX8_readOne : Room := { frames := 3, cells := 0, slots := 0, locals := 64 }
noncomputable def fX8_readOne (N : Nat) (h : Hs) (t : Nat) (p1 : Int32) (p2 : Int32) : Option (Int32 × Hs) :=
  (oI 8 6 h (some t)).bind fun v1 =>
  (qI 8 6 h (some t) (v1 + 1)).bind fun h2 =>
  (rc 8 h2 (some t)).bind fun a4 =>
  (fX8_readNumber N h2 a4 p2).bind fun r3 =>
  if r3.1 = 0 then (
  some (0, r3.2))
  else (oR 8 2 r3.2 (some t)).bind fun o5 =>
  (oI 8 7 r3.2 (some t)).bind fun v6 =>
  (sA r3.2 o5 p1 v6).bind fun h7 =>
  (rc 8 h7 (some t)).bind fun a9 =>
  (fX8_readSign N h7 a9 59).bind fun r8 =>
  (zc r8.1).bind fun z10 =>
  some (z10, r8.2)
set_option maxHeartbeats 4000000 in
set_option maxRecDepth 20000 in
theorem kX8_readOne (l : Launch) (G : Gl) {N : Nat} {h : Hs} {t : Nat} {p1 : Int32} {p2 : Int32} {r : Int32 × Hs} (hf : fX8_readOne N h t p1 p2 = some r) : CT l G yX8_readOne cX8_readOne 3 (some .boolean) rmX8_readOne [.inr (some t), .inl p1, .inl p2] h (some (.inl r.1)) r.2 := by
  refine mk_CT (by decide) (Nat.le_of_ble_eq_true rfl) ?_
  intro p e s m args below meth c C hret hin
  unfold fX8_readOne at hf
  refine r_aload_n C dX8_readOne_0 rfl ?_
  refine r_dup C dX8_readOne_1 ?_
  obtain ⟨v1, ev1, hf⟩ := bS hf
  refine r_getI C dX8_readOne_2 fl_X8_32 rfl ev1 ?_
  refine r_iconst (v := 1) C dX8_readOne_5 (by decide) ?_
  refine r_iadd C dX8_readOne_6 ?_
  obtain ⟨h2, eh2, hf⟩ := bS hf
  refine r_putI C dX8_readOne_7 fl_X8_32 (Or.inl fn_8_6) rfl eh2 ?_
  refine r_aload_n C dX8_readOne_10 rfl ?_
  refine r_iload_n C dX8_readOne_11 rfl ?_
  obtain ⟨a4, ea4, hf⟩ := bS hf
  obtain ⟨r3, er3, hf⟩ := bS hf
  refine r_invV1 (As := [.inl p2]) (ci := 8) C dX8_readOne_12 mcX8_readNumber wd_809 wd_811 wp_21 rfl rfl (by decide) ⟨by decide, by decide⟩ ⟨by decide, by decide⟩ rfl (Nat.le_of_ble_eq_true rfl) ea4 (kX8_readNumber l G er3) ?_
  refine r_if_ne (tgt := 20) C dX8_readOne_15 (by decide) (fun hc => ?_) (fun hc => ?_)
  · have hf := ifF hf hc
    refine r_aload_n C dX8_readOne_20 rfl ?_
    obtain ⟨o5, eo5, hf⟩ := bS hf
    refine r_getR C dX8_readOne_21 fl_X8_18 rfl eo5 ?_
    refine r_iload_n C dX8_readOne_24 rfl ?_
    refine r_aload_n C dX8_readOne_25 rfl ?_
    obtain ⟨v6, ev6, hf⟩ := bS hf
    refine r_getI C dX8_readOne_26 fl_X8_57 rfl ev6 ?_
    obtain ⟨h7, eh7, hf⟩ := bS hf
    refine r_iast C dX8_readOne_29 eh7 ?_
    refine r_aload_n C dX8_readOne_30 rfl ?_
    refine r_bipush (v := 59) C dX8_readOne_31 (by decide) ?_
    obtain ⟨a9, ea9, hf⟩ := bS hf
    obtain ⟨r8, er8, hf⟩ := bS hf
    refine r_invV1 (As := [.inl 59]) (ci := 8) C dX8_readOne_33 mcX8_readSign wd_813 wd_815 wp_22 rfl rfl (by decide) ⟨by decide, by decide⟩ ⟨by decide, by decide⟩ rfl (Nat.le_of_ble_eq_true rfl) ea9 (kX8_readSign l G er8) ?_
    obtain ⟨z10, ez10, hf⟩ := bS hf
    exact r_zretF C dX8_readOne_36 hret ez10 hf (by decide) (by decide)
  · have hf := ifT hf hc
    refine r_iconst (v := 0) C dX8_readOne_18 (by decide) ?_
    exact r_zretF C dX8_readOne_19 hret (z := 0) rfl hf (by decide) (by decide)

theorem dgX8_readLine_0 : (decode cX8_readLine 0 = .ok (.aload_n 0, 1)) ∧ (decode cX8_readLine 1 = .ok (.invokevirtual 42, 3)) ∧ (decode cX8_readLine 4 = .ok (.istore_n 2, 1)) ∧ (decode cX8_readLine 5 = .ok (.aload_n 0, 1)) ∧ (decode cX8_readLine 6 = .ok (.getfield 15, 3)) ∧ (decode cX8_readLine 9 = .ok (.iload_n 1, 1)) ∧ (decode cX8_readLine 10 = .ok (.iload_n 2, 1)) ∧ (decode cX8_readLine 11 = .ok (.iastore, 1)) ∧ (decode cX8_readLine 12 = .ok (.aload_n 0, 1)) ∧ (decode cX8_readLine 13 = .ok (.getfield 21, 3)) ∧ (decode cX8_readLine 16 = .ok (.iload_n 1, 1)) ∧ (decode cX8_readLine 17 = .ok (.iconst 0, 1)) ∧ True := dkW [(0, .aload_n 0, 1), (1, .invokevirtual 42, 3), (4, .istore_n 2, 1), (5, .aload_n 0, 1), (6, .getfield 15, 3), (9, .iload_n 1, 1), (10, .iload_n 2, 1), (11, .iastore, 1), (12, .aload_n 0, 1), (13, .getfield 21, 3), (16, .iload_n 1, 1), (17, .iconst 0, 1)] 0 (by decide +kernel)
theorem dX8_readLine_0 : decode cX8_readLine 0 = .ok (.aload_n 0, 1) := dgX8_readLine_0.1
theorem dX8_readLine_1 : decode cX8_readLine 1 = .ok (.invokevirtual 42, 3) := dgX8_readLine_0.2.1
theorem dX8_readLine_4 : decode cX8_readLine 4 = .ok (.istore_n 2, 1) := dgX8_readLine_0.2.2.1
theorem dX8_readLine_5 : decode cX8_readLine 5 = .ok (.aload_n 0, 1) := dgX8_readLine_0.2.2.2.1
theorem dX8_readLine_6 : decode cX8_readLine 6 = .ok (.getfield 15, 3) := dgX8_readLine_0.2.2.2.2.1
theorem dX8_readLine_9 : decode cX8_readLine 9 = .ok (.iload_n 1, 1) := dgX8_readLine_0.2.2.2.2.2.1
theorem dX8_readLine_10 : decode cX8_readLine 10 = .ok (.iload_n 2, 1) := dgX8_readLine_0.2.2.2.2.2.2.1
theorem dX8_readLine_11 : decode cX8_readLine 11 = .ok (.iastore, 1) := dgX8_readLine_0.2.2.2.2.2.2.2.1
theorem dX8_readLine_12 : decode cX8_readLine 12 = .ok (.aload_n 0, 1) := dgX8_readLine_0.2.2.2.2.2.2.2.2.1
theorem dX8_readLine_13 : decode cX8_readLine 13 = .ok (.getfield 21, 3) := dgX8_readLine_0.2.2.2.2.2.2.2.2.2.1
theorem dX8_readLine_16 : decode cX8_readLine 16 = .ok (.iload_n 1, 1) := dgX8_readLine_0.2.2.2.2.2.2.2.2.2.2.1
theorem dX8_readLine_17 : decode cX8_readLine 17 = .ok (.iconst 0, 1) := dgX8_readLine_0.2.2.2.2.2.2.2.2.2.2.2.1
theorem dgX8_readLine_18 : (decode cX8_readLine 18 = .ok (.iastore, 1)) ∧ (decode cX8_readLine 19 = .ok (.iload_n 2, 1)) ∧ True := dkW [(18, .iastore, 1), (19, .iload_n 2, 1)] 18 (by decide +kernel)
theorem dX8_readLine_18 : decode cX8_readLine 18 = .ok (.iastore, 1) := dgX8_readLine_18.1
theorem dX8_readLine_19 : decode cX8_readLine 19 = .ok (.iload_n 2, 1) := dgX8_readLine_18.2.1
theorem dX8_readLine_20 : decode cX8_readLine 20 = .ok (.tableswitch 64 115 119 #[57, 36, 50, 64, 43], 36) := by decide +kernel
theorem dgX8_readLine_56 : (decode cX8_readLine 56 = .ok (.aload_n 0, 1)) ∧ (decode cX8_readLine 57 = .ok (.iload_n 1, 1)) ∧ (decode cX8_readLine 58 = .ok (.iconst 0, 1)) ∧ (decode cX8_readLine 59 = .ok (.invokevirtual 46, 3)) ∧ (decode cX8_readLine 62 = .ok (.ireturn, 1)) ∧ (decode cX8_readLine 63 = .ok (.aload_n 0, 1)) ∧ (decode cX8_readLine 64 = .ok (.iload_n 1, 1)) ∧ (decode cX8_readLine 65 = .ok (.iconst 1, 1)) ∧ (decode cX8_readLine 66 = .ok (.invokevirtual 46, 3)) ∧ (decode cX8_readLine 69 = .ok (.ireturn, 1)) ∧ (decode cX8_readLine 70 = .ok (.aload_n 0, 1)) ∧ (decode cX8_readLine 71 = .ok (.iload_n 1, 1)) ∧ True := dkW [(56, .aload_n 0, 1), (57, .iload_n 1, 1), (58, .iconst 0, 1), (59, .invokevirtual 46, 3), (62, .ireturn, 1), (63, .aload_n 0, 1), (64, .iload_n 1, 1), (65, .iconst 1, 1), (66, .invokevirtual 46, 3), (69, .ireturn, 1), (70, .aload_n 0, 1), (71, .iload_n 1, 1)] 56 (by decide +kernel)
theorem dX8_readLine_56 : decode cX8_readLine 56 = .ok (.aload_n 0, 1) := dgX8_readLine_56.1
theorem dX8_readLine_57 : decode cX8_readLine 57 = .ok (.iload_n 1, 1) := dgX8_readLine_56.2.1
theorem dX8_readLine_58 : decode cX8_readLine 58 = .ok (.iconst 0, 1) := dgX8_readLine_56.2.2.1
theorem dX8_readLine_59 : decode cX8_readLine 59 = .ok (.invokevirtual 46, 3) := dgX8_readLine_56.2.2.2.1
theorem dX8_readLine_62 : decode cX8_readLine 62 = .ok (.ireturn, 1) := dgX8_readLine_56.2.2.2.2.1
theorem dX8_readLine_63 : decode cX8_readLine 63 = .ok (.aload_n 0, 1) := dgX8_readLine_56.2.2.2.2.2.1
theorem dX8_readLine_64 : decode cX8_readLine 64 = .ok (.iload_n 1, 1) := dgX8_readLine_56.2.2.2.2.2.2.1
theorem dX8_readLine_65 : decode cX8_readLine 65 = .ok (.iconst 1, 1) := dgX8_readLine_56.2.2.2.2.2.2.2.1
theorem dX8_readLine_66 : decode cX8_readLine 66 = .ok (.invokevirtual 46, 3) := dgX8_readLine_56.2.2.2.2.2.2.2.2.1
theorem dX8_readLine_69 : decode cX8_readLine 69 = .ok (.ireturn, 1) := dgX8_readLine_56.2.2.2.2.2.2.2.2.2.1
theorem dX8_readLine_70 : decode cX8_readLine 70 = .ok (.aload_n 0, 1) := dgX8_readLine_56.2.2.2.2.2.2.2.2.2.2.1
theorem dX8_readLine_71 : decode cX8_readLine 71 = .ok (.iload_n 1, 1) := dgX8_readLine_56.2.2.2.2.2.2.2.2.2.2.2.1
theorem dgX8_readLine_72 : (decode cX8_readLine 72 = .ok (.iconst 0, 1)) ∧ (decode cX8_readLine 73 = .ok (.invokevirtual 50, 3)) ∧ (decode cX8_readLine 76 = .ok (.ireturn, 1)) ∧ (decode cX8_readLine 77 = .ok (.aload_n 0, 1)) ∧ (decode cX8_readLine 78 = .ok (.iload_n 1, 1)) ∧ (decode cX8_readLine 79 = .ok (.iconst 1, 1)) ∧ (decode cX8_readLine 80 = .ok (.invokevirtual 50, 3)) ∧ (decode cX8_readLine 83 = .ok (.ireturn, 1)) ∧ (decode cX8_readLine 84 = .ok (.iconst 0, 1)) ∧ (decode cX8_readLine 85 = .ok (.ireturn, 1)) ∧ True := dkW [(72, .iconst 0, 1), (73, .invokevirtual 50, 3), (76, .ireturn, 1), (77, .aload_n 0, 1), (78, .iload_n 1, 1), (79, .iconst 1, 1), (80, .invokevirtual 50, 3), (83, .ireturn, 1), (84, .iconst 0, 1), (85, .ireturn, 1)] 72 (by decide +kernel)
theorem dX8_readLine_72 : decode cX8_readLine 72 = .ok (.iconst 0, 1) := dgX8_readLine_72.1
theorem dX8_readLine_73 : decode cX8_readLine 73 = .ok (.invokevirtual 50, 3) := dgX8_readLine_72.2.1
theorem dX8_readLine_76 : decode cX8_readLine 76 = .ok (.ireturn, 1) := dgX8_readLine_72.2.2.1
theorem dX8_readLine_77 : decode cX8_readLine 77 = .ok (.aload_n 0, 1) := dgX8_readLine_72.2.2.2.1
theorem dX8_readLine_78 : decode cX8_readLine 78 = .ok (.iload_n 1, 1) := dgX8_readLine_72.2.2.2.2.1
theorem dX8_readLine_79 : decode cX8_readLine 79 = .ok (.iconst 1, 1) := dgX8_readLine_72.2.2.2.2.2.1
theorem dX8_readLine_80 : decode cX8_readLine 80 = .ok (.invokevirtual 50, 3) := dgX8_readLine_72.2.2.2.2.2.2.1
theorem dX8_readLine_83 : decode cX8_readLine 83 = .ok (.ireturn, 1) := dgX8_readLine_72.2.2.2.2.2.2.2.1
theorem dX8_readLine_84 : decode cX8_readLine 84 = .ok (.iconst 0, 1) := dgX8_readLine_72.2.2.2.2.2.2.2.2.1
theorem dX8_readLine_85 : decode cX8_readLine 85 = .ok (.ireturn, 1) := dgX8_readLine_72.2.2.2.2.2.2.2.2.2.1
abbrev rmX8_readLine : Room := { frames := 4, cells := 0, slots := 0, locals := 86 }
noncomputable def fX8_readLine (N : Nat) (h : Hs) (t : Nat) (p1 : Int32) : Option (Int32 × Hs) :=
  (rc 8 h (some t)).bind fun a2 =>
  (fX8_peek N h a2 ).bind fun r1 =>
  (oR 8 1 r1.2 (some t)).bind fun o3 =>
  (sA r1.2 o3 p1 r1.1).bind fun h4 =>
  (oR 8 3 h4 (some t)).bind fun o5 =>
  (sA h4 o5 p1 0).bind fun h6 =>
  if r1.1 = 115 then (
  (rc 8 h6 (some t)).bind fun a8 =>
  (fX8_readOne N h6 a8 p1 1).bind fun r7 =>
  (zc r7.1).bind fun z9 =>
  some (z9, r7.2))
  else if r1.1 = 116 then (
  (rc 8 h6 (some t)).bind fun a11 =>
  (fX8_readTwo N h6 a11 p1 0).bind fun r10 =>
  (zc r10.1).bind fun z12 =>
  some (z12, r10.2))
  else if r1.1 = 117 then (
  (rc 8 h6 (some t)).bind fun a14 =>
  (fX8_readOne N h6 a14 p1 0).bind fun r13 =>
  (zc r13.1).bind fun z15 =>
  some (z15, r13.2))
  else if r1.1 = 119 then (
  (rc 8 h6 (some t)).bind fun a17 =>
  (fX8_readTwo N h6 a17 p1 1).bind fun r16 =>
  (zc r16.1).bind fun z18 =>
  some (z18, r16.2))
  else some (0, h6)
set_option maxHeartbeats 4000000 in
set_option maxRecDepth 20000 in
theorem kX8_readLine (l : Launch) (G : Gl) {N : Nat} {h : Hs} {t : Nat} {p1 : Int32} {r : Int32 × Hs} (hf : fX8_readLine N h t p1 = some r) : CT l G yX8_readLine cX8_readLine 3 (some .boolean) rmX8_readLine [.inr (some t), .inl p1] h (some (.inl r.1)) r.2 := by
  refine mk_CT (by decide) (Nat.le_of_ble_eq_true rfl) ?_
  intro p e s m args below meth c C hret hin
  unfold fX8_readLine at hf
  refine r_aload_n C dX8_readLine_0 rfl ?_
  obtain ⟨a2, ea2, hf⟩ := bS hf
  obtain ⟨r1, er1, hf⟩ := bS hf
  refine r_invV1 (As := []) (ci := 8) C dX8_readLine_1 mcX8_peek wd_801 wd_803 wp_19 rfl rfl (by decide) ⟨by decide, by decide⟩ ⟨by decide, by decide⟩ rfl (Nat.le_of_ble_eq_true rfl) ea2 (kX8_peek l G er1) ?_
  refine r_istore_n C dX8_readLine_4 (by decide) ?_
  refine r_aload_n C dX8_readLine_5 rfl ?_
  obtain ⟨o3, eo3, hf⟩ := bS hf
  refine r_getR C dX8_readLine_6 fl_X8_15 rfl eo3 ?_
  refine r_iload_n C dX8_readLine_9 rfl ?_
  refine r_iload_n C dX8_readLine_10 rfl ?_
  obtain ⟨h4, eh4, hf⟩ := bS hf
  refine r_iast C dX8_readLine_11 eh4 ?_
  refine r_aload_n C dX8_readLine_12 rfl ?_
  obtain ⟨o5, eo5, hf⟩ := bS hf
  refine r_getR C dX8_readLine_13 fl_X8_21 rfl eo5 ?_
  refine r_iload_n C dX8_readLine_16 rfl ?_
  refine r_iconst (v := 0) C dX8_readLine_17 (by decide) ?_
  obtain ⟨h6, eh6, hf⟩ := bS hf
  refine r_iast C dX8_readLine_18 eh6 ?_
  refine r_iload_n C dX8_readLine_19 rfl ?_
  by_cases k115 : r1.1 = 115
  · have hf := ifT hf k115
    refine r_tabIn (tgt := 77) (off := 57) C dX8_readLine_20 (by rw [k115]; decide) (by rw [k115]; decide) (by rw [k115]; rfl) (by decide) ?_
    refine r_aload_n C dX8_readLine_77 rfl ?_
    refine r_iload_n C dX8_readLine_78 rfl ?_
    refine r_iconst (v := 1) C dX8_readLine_79 (by decide) ?_
    obtain ⟨a8, ea8, hf⟩ := bS hf
    obtain ⟨r7, er7, hf⟩ := bS hf
    refine r_invV1 (As := [.inl p1, .inl 1]) (ci := 8) C dX8_readLine_80 mcX8_readOne wd_817 wd_819 wp_23 rfl rfl (by decide) ⟨by decide, by decide⟩ ⟨by decide, by decide⟩ rfl (Nat.le_of_ble_eq_true rfl) ea8 (kX8_readOne l G er7) ?_
    obtain ⟨z9, ez9, hf⟩ := bS hf
    exact r_zretF C dX8_readLine_83 hret ez9 hf (by decide) (by decide)
  · have hf := ifF hf k115
    by_cases k116 : r1.1 = 116
    · have hf := ifT hf k116
      refine r_tabIn (tgt := 56) (off := 36) C dX8_readLine_20 (by rw [k116]; decide) (by rw [k116]; decide) (by rw [k116]; rfl) (by decide) ?_
      refine r_aload_n C dX8_readLine_56 rfl ?_
      refine r_iload_n C dX8_readLine_57 rfl ?_
      refine r_iconst (v := 0) C dX8_readLine_58 (by decide) ?_
      obtain ⟨a11, ea11, hf⟩ := bS hf
      obtain ⟨r10, er10, hf⟩ := bS hf
      refine r_invV1 (As := [.inl p1, .inl 0]) (ci := 8) C dX8_readLine_59 mcX8_readTwo wd_805 wd_807 wp_20 rfl rfl (by decide) ⟨by decide, by decide⟩ ⟨by decide, by decide⟩ rfl (Nat.le_of_ble_eq_true rfl) ea11 (kX8_readTwo l G er10) ?_
      obtain ⟨z12, ez12, hf⟩ := bS hf
      exact r_zretF C dX8_readLine_62 hret ez12 hf (by decide) (by decide)
    · have hf := ifF hf k116
      by_cases k117 : r1.1 = 117
      · have hf := ifT hf k117
        refine r_tabIn (tgt := 70) (off := 50) C dX8_readLine_20 (by rw [k117]; decide) (by rw [k117]; decide) (by rw [k117]; rfl) (by decide) ?_
        refine r_aload_n C dX8_readLine_70 rfl ?_
        refine r_iload_n C dX8_readLine_71 rfl ?_
        refine r_iconst (v := 0) C dX8_readLine_72 (by decide) ?_
        obtain ⟨a14, ea14, hf⟩ := bS hf
        obtain ⟨r13, er13, hf⟩ := bS hf
        refine r_invV1 (As := [.inl p1, .inl 0]) (ci := 8) C dX8_readLine_73 mcX8_readOne wd_817 wd_819 wp_23 rfl rfl (by decide) ⟨by decide, by decide⟩ ⟨by decide, by decide⟩ rfl (Nat.le_of_ble_eq_true rfl) ea14 (kX8_readOne l G er13) ?_
        obtain ⟨z15, ez15, hf⟩ := bS hf
        exact r_zretF C dX8_readLine_76 hret ez15 hf (by decide) (by decide)
      · have hf := ifF hf k117
        by_cases k119 : r1.1 = 119
        · have hf := ifT hf k119
          refine r_tabIn (tgt := 63) (off := 43) C dX8_readLine_20 (by rw [k119]; decide) (by rw [k119]; decide) (by rw [k119]; rfl) (by decide) ?_
          refine r_aload_n C dX8_readLine_63 rfl ?_
          refine r_iload_n C dX8_readLine_64 rfl ?_
          refine r_iconst (v := 1) C dX8_readLine_65 (by decide) ?_
          obtain ⟨a17, ea17, hf⟩ := bS hf
          obtain ⟨r16, er16, hf⟩ := bS hf
          refine r_invV1 (As := [.inl p1, .inl 1]) (ci := 8) C dX8_readLine_66 mcX8_readTwo wd_805 wd_807 wp_20 rfl rfl (by decide) ⟨by decide, by decide⟩ ⟨by decide, by decide⟩ rfl (Nat.le_of_ble_eq_true rfl) ea17 (kX8_readTwo l G er16) ?_
          obtain ⟨z18, ez18, hf⟩ := bS hf
          exact r_zretF C dX8_readLine_69 hret ez18 hf (by decide) (by decide)
        · have hf := ifF hf k119
          by_cases k118 : r1.1 = 118
          · refine r_tabIn (tgt := 84) (off := 64) C dX8_readLine_20 (by rw [k118]; decide) (by rw [k118]; decide) (by rw [k118]; rfl) (by decide) ?_
            refine r_iconst (v := 0) C dX8_readLine_84 (by decide) ?_
            exact r_zretF C dX8_readLine_85 hret (z := 0) rfl hf (by decide) (by decide)
          · skip
            refine r_tabOut (tgt := 84) C dX8_readLine_20 (sw_out (lo := 115) (hi := 119) [115, 116, 117, 118, 119] (by decide) (List.forall_mem_cons.mpr ⟨k115, List.forall_mem_cons.mpr ⟨k116, List.forall_mem_cons.mpr ⟨k117, List.forall_mem_cons.mpr ⟨k118, List.forall_mem_cons.mpr ⟨k119, fun _ q => absurd q List.not_mem_nil⟩⟩⟩⟩⟩)) (by decide) ?_
            refine r_iconst (v := 0) C dX8_readLine_84 (by decide) ?_
            exact r_zretF C dX8_readLine_85 hret (z := 0) rfl hf (by decide) (by decide)
