/-! ===== turning, the class: what stops the step that is looked at ===== -/
def putH (h : Hs) (a : Nat) (k t o : Int) : Hs := uI (uI (uI h 700 a (iI k)) 701 a (iI t)) 702 a (iI o)
theorem v_putS {N : Nat} {h : Hs} {a : Nat} {k t o : Int} (hs : (sh h a).1 = 7) : fX7_put N h a (iI k) (iI t) (iI o) = some (putH h a k t o) := by
  simp only [fX7_put]
  refine bst (qIv hs) ?_
  refine bst (qIv (by rw [sh_uI]; exact hs)) ?_
  refine bst (qIv (by rw [sh_uI, sh_uI]; exact hs)) ?_
  rfl
theorem Ke_put {h : Hs} {a : Nat} {k t o : Int} : Ke [700, 701, 702] [] [] [] h (putH h a k t o) := ((Ke_rf.u 700 a _ (by decide)).u 701 a _ (by decide)).u 702 a _ (by decide)
theorem put_0 {h : Hs} {a : Nat} {k t o : Int} : gI (putH h a k t o) 700 a = iI k ∧ gI (putH h a k t o) 701 a = iI t ∧ gI (putH h a k t o) 702 a = iI o := by
  simp [putH, HR]
theorem put_n {h : Hs} {a : Nat} {k t o : Int} {b : Nat} (hb : b ≠ a) (f : Nat) : gI (putH h a k t o) f b = gI h f b := by
  simp [putH, HR, hb]
theorem L_bey {N : Nat} {h : Hs} (hS : Sk h) {nt : Nat} {tA : Nat → Nat} {tl tw tg ls ms pa : Nat → Int} (hT : RTo h nt tA tl tw tg ls ms pa) {P : Nat → Int} (hP : ∀ i, i < nt → gI h 908 (tA i) = iI (P i)) (hb : ∀ i, i < nt → -2000000000 ≤ P i ∧ P i ≤ 2000000000) : ∀ (d i fu : Nat), i + d = nt → d < fu → (∀ j, j < i → ¬ Bey ls ms P j) → (∃ j : Nat, j < nt ∧ Bey ls ms P j ∧ (∀ j', j' < j → ¬ Bey ls ms P j') ∧ fX10_isBeyond_b2 N 22 fu h (iI i) = some (iI 1, putH h 24 1 j (-1))) ∨ ((∀ j, j < nt → ¬ Bey ls ms P j) ∧ fX10_isBeyond_b2 N 22 fu h (iI i) = some (iI 0, h)) := by
  have c3 := hT.1.2.2
  have o7 : oI 5 7 h (some 14) = some (iI nt) := oIv (by rw [ss_14 hS]) hT.1.1
  intro d
  induction d with
  | zero =>
    intro i fu hi hf hp
    obtain ⟨fu, rfl⟩ : ∃ m, fu = m + 1 := ⟨fu - 1, by omega⟩
    refine Or.inr ⟨fun j hj => hp j (by omega), ?_⟩
    show fX10_isBeyond_b2_body N (fX10_isBeyond_b2 N 22 fu) 22 h (iI i) = _
    have a1 : iI (nt : Int) ≤ iI (i : Int) := (iI_le (by omega) (by omega) (by omega) (by omega)).mpr (by omega)
    simp only [fX10_isBeyond_b2_body, lit]
    refine bst (sR_1000_22 hS) ?_
    refine bst (o7) ?_
    refine ifp (a1) ?_
    rfl
  | succ d ih =>
    intro i fu hi hf hp
    obtain ⟨fu, rfl⟩ : ∃ m, fu = m + 1 := ⟨fu - 1, by omega⟩
    have a1 : ¬ iI (nt : Int) ≤ iI (i : Int) := fun q => by have := (iI_le (by omega) (by omega) (by omega) (by omega)).mp q; omega
    obtain ⟨⟨d1, d2, d3, d4⟩, ⟨g0, g1, g2, g3, g4, g5, g7⟩, -, bb⟩ := hT.2.1 i (by omega)
    have pb := hb i (by omega)
    have lq : lQ 23 h (some 15) (iI i) = some (some (tA i)) := lQv (ss_15 hS) (by omega) (by omega) d1
    have w := v_isW (N := N) (h := h) (x := P i) (a := ls i) (b := ms i) (by omega) (by omega) (by omega) (by omega) (by omega) (by omega)
    have o8 : oI 9 8 h (some (tA i)) = some (iI (P i)) := oIv (by rw [d4]) (hP i (by omega))
    have o4 : oI 9 4 h (some (tA i)) = some (iI (ls i)) := oIv (by rw [d4]) g4
    have o5 : oI 9 5 h (some (tA i)) = some (iI (ms i)) := oIv (by rw [d4]) g5
    have rc7 : rc 7 h (some 24) = some 24 := rcv (by rw [ss_24 hS])
    by_cases q : ls i ≤ P i ∧ P i ≤ ms i
    · have e := ih (i + 1) fu (by omega) (by omega) (fun j hj => by
        by_cases ej : j = i
        · rw [ej]; exact fun z => z q
        · exact hp j (by omega))
      rw [if_pos q] at w
      simp only [Int.natCast_add, Int.natCast_one] at e
      have st : fX10_isBeyond_b2 N 22 (fu + 1) h (iI i) = fX10_isBeyond_b2 N 22 fu h (iI ((i : Int) + 1)) := by
        show fX10_isBeyond_b2_body N (fX10_isBeyond_b2 N 22 fu) 22 h (iI i) = _
        simp only [fX10_isBeyond_b2_body, lit, iI_add, Option.bind_some]
        refine bst (sR_1000_22 hS) ?_
        refine bst (o7) ?_
        refine ifn (a1) ?_
        refine bst (sR_1000_22 hS) ?_
        refine bst (sR_500_14 hS) ?_
        refine bst (lq) ?_
        refine bst (o8) ?_
        refine bst (o4) ?_
        refine bst (o5) ?_
        refine bst (w) ?_
        refine ifn (n10) ?_
        rfl
      rw [st]
      exact e
    · rw [if_neg q] at w
      refine Or.inl ⟨i, by omega, q, hp, ?_⟩
      show fX10_isBeyond_b2_body N (fX10_isBeyond_b2 N 22 fu) 22 h (iI i) = _
      have vp := v_putS (N := N) (h := h) (a := 24) (k := 1) (t := i) (o := -1) (by rw [ss_24 hS])
      simp only [fX10_isBeyond_b2_body, lit, iI_neg]
      refine bst (sR_1000_22 hS) ?_
      refine bst (o7) ?_
      refine ifn (a1) ?_
      refine bst (sR_1000_22 hS) ?_
      refine bst (sR_500_14 hS) ?_
      refine bst (lq) ?_
      refine bst (o8) ?_
      refine bst (o4) ?_
      refine bst (o5) ?_
      refine bst (w) ?_
      refine ifp (rfl) ?_
      refine bst (sR_1002_22 hS) ?_
      refine bst (rc7) ?_
      refine bst (vp) ?_
      rfl
theorem v_would {N : Nat} {h : Hs} {nt : Nat} {tA : Nat → Nat} {tl tw tg ls ms pa : Nat → Int} (hT : RTo h nt tA tl tw tg ls ms pa) {P : Nat → Int} (hP : ∀ i, i < nt → gI h 908 (tA i) = iI (P i)) (hb : ∀ i, i < nt → 0 ≤ P i ∧ P i ≤ 100) {i j : Nat} (hi : i < nt) (hj : j < nt) : (Hit tl tw P i j → fX9_wouldMeet N h (tA i) (some (tA j)) = some (iI 1, h)) ∧ (¬ Hit tl tw P i j → fX9_wouldMeet N h (tA i) (some (tA j)) = some (iI 0, h)) := by
  obtain ⟨⟨d1, d2, d3, d4⟩, ⟨g0, g1, g2, g3, g4, g5, g7⟩, -, bb⟩ := hT.2.1 i hi
  obtain ⟨⟨-, -, -, e4⟩, ⟨k0, k1, k2, k3, k4, k5, k7⟩, -, cc⟩ := hT.2.1 j hj
  have pi := hb i hi
  have pj := hb j hj
  have ov := v_overlap (N := N) (h := h) (a := P i) (b := tw i) (c := P j) (d := tw j) (by omega) (by omega) (by omega) (by omega) (by omega) (by omega) (by omega) (by omega)
  have le : iI (tl i) = iI (tl j) ↔ tl i = tl j := iI_eq (by omega) (by omega) (by omega) (by omega)
  have o1 : oI 9 1 h (some (tA i)) = some (iI (tl i)) := oIv (by rw [d4]) g1
  have o1' : oI 9 1 h (some (tA j)) = some (iI (tl j)) := oIv (by rw [e4]) k1
  have o8 : oI 9 8 h (some (tA i)) = some (iI (P i)) := oIv (by rw [d4]) (hP i hi)
  have o8' : oI 9 8 h (some (tA j)) = some (iI (P j)) := oIv (by rw [e4]) (hP j hj)
  have o2 : oI 9 2 h (some (tA i)) = some (iI (tw i)) := oIv (by rw [d4]) g2
  have o2' : oI 9 2 h (some (tA j)) = some (iI (tw j)) := oIv (by rw [e4]) k2
  simp only [fX9_wouldMeet, fX9_wouldMeet_b37, fX9_wouldMeet_b38, lit]
  constructor
  · rintro ⟨q1, q2⟩
    rw [if_pos q2] at ov
    refine bst (o1) ?_
    refine bst (o1') ?_
    refine ifp (le.mpr q1) ?_
    refine bst (o8) ?_
    refine bst (o2) ?_
    refine bst (o8') ?_
    refine bst (o2') ?_
    refine bst (ov) ?_
    refine ifn (n10) ?_
    refine bst (zc_i1) ?_
    rfl
  · intro q
    by_cases q1 : tl i = tl j
    · rw [if_neg (fun z => q ⟨q1, z⟩)] at ov
      refine bst (o1) ?_
      refine bst (o1') ?_
      refine ifp (le.mpr q1) ?_
      refine bst (o8) ?_
      refine bst (o2) ?_
      refine bst (o8') ?_
      refine bst (o2') ?_
      refine bst (ov) ?_
      refine ifp (rfl) ?_
      refine bst (zc_i0) ?_
      rfl
    · skip
      refine bst (o1) ?_
      refine bst (o1') ?_
      refine ifn (fun z => q1 (le.mp z)) ?_
      refine bst (zc_i0) ?_
      rfl
theorem L_hitJ {N : Nat} {h : Hs} (hS : Sk h) {nt : Nat} {tA : Nat → Nat} {tl tw tg ls ms pa : Nat → Int} (hT : RTo h nt tA tl tw tg ls ms pa) {P : Nat → Int} (hP : ∀ i, i < nt → gI h 908 (tA i) = iI (P i)) (hb : ∀ i, i < nt → 0 ≤ P i ∧ P i ≤ 100) {i : Nat} (hi : i < nt) (g2 : Hs → Int32 → Option (Int32 × Hs)) : ∀ (d j fu : Nat), j + d = nt → d < fu → i < j → (∀ j', i < j' → j' < j → ¬ Hit tl tw P i j') → (∃ j0 : Nat, i < j0 ∧ j0 < nt ∧ Hit tl tw P i j0 ∧ (∀ j', i < j' → j' < j0 → ¬ Hit tl tw P i j') ∧ fX10_isMeeting_b17 N g2 22 fu h (iI i) (iI j) = some (iI 1, putH h 24 2 i j0)) ∨ ((∀ j', i < j' → j' < nt → ¬ Hit tl tw P i j') ∧ fX10_isMeeting_b17 N g2 22 fu h (iI i) (iI j) = g2 h (iI ((i : Int) + 1))) := by
  have c3 := hT.1.2.2
  have o7 : oI 5 7 h (some 14) = some (iI nt) := oIv (by rw [ss_14 hS]) hT.1.1
  obtain ⟨⟨d1, d2, d3, d4⟩, -⟩ := hT.2.1 i hi
  intro d
  induction d with
  | zero =>
    intro j fu hj hf hij hp
    obtain ⟨fu, rfl⟩ : ∃ m, fu = m + 1 := ⟨fu - 1, by omega⟩
    refine Or.inr ⟨fun j' h1 h2 => hp j' h1 (by omega), ?_⟩
    show fX10_isMeeting_b17_body N g2 (fX10_isMeeting_b17 N g2 22 fu) 22 h (iI i) (iI j) = _
    have a1 : iI (nt : Int) ≤ iI (j : Int) := (iI_le (by omega) (by omega) (by omega) (by omega)).mpr (by omega)
    simp only [fX10_isMeeting_b17_body, lit, iI_add, Option.bind_some]
    refine bst (sR_1000_22 hS) ?_
    refine bst (o7) ?_
    refine ifp (a1) ?_
    rfl
  | succ d ih =>
    intro j fu hj hf hij hp
    obtain ⟨fu, rfl⟩ : ∃ m, fu = m + 1 := ⟨fu - 1, by omega⟩
    have a1 : ¬ iI (nt : Int) ≤ iI (j : Int) := fun q => by have := (iI_le (by omega) (by omega) (by omega) (by omega)).mp q; omega
    obtain ⟨⟨e1, e2, e3, e4⟩, -⟩ := hT.2.1 j (by omega)
    have lqi : lQ 23 h (some 15) (iI i) = some (some (tA i)) := lQv (ss_15 hS) (by omega) (by omega) d1
    have lqj : lQ 23 h (some 15) (iI j) = some (some (tA j)) := lQv (ss_15 hS) (by omega) (by omega) e1
    have rc9 : rc 9 h (some (tA i)) = some (tA i) := rcv (by rw [d4])
    have rc7 : rc 7 h (some 24) = some 24 := rcv (by rw [ss_24 hS])
    obtain ⟨w1, w0⟩ := v_would (N := N) hT hP hb hi (show j < nt by omega)
    by_cases q : Hit tl tw P i j
    · refine Or.inl ⟨j, hij, by omega, q, hp, ?_⟩
      show fX10_isMeeting_b17_body N g2 (fX10_isMeeting_b17 N g2 22 fu) 22 h (iI i) (iI j) = _
      have vp := v_putS (N := N) (h := h) (a := 24) (k := 2) (t := i) (o := j) (by rw [ss_24 hS])
      simp only [fX10_isMeeting_b17_body, lit]
      refine bst (sR_1000_22 hS) ?_
      refine bst (o7) ?_
      refine ifn (a1) ?_
      refine bst (sR_1000_22 hS) ?_
      refine bst (sR_500_14 hS) ?_
      refine bst (lqi) ?_
      refine bst (sR_1000_22 hS) ?_
      refine bst (sR_500_14 hS) ?_
      refine bst (lqj) ?_
      refine bst (rc9) ?_
      refine bst (w1 q) ?_
      refine ifn (n10) ?_
      refine bst (sR_1002_22 hS) ?_
      refine bst (rc7) ?_
      refine bst (vp) ?_
      rfl
    · have e := ih (j + 1) fu (by omega) (by omega) (by omega) (fun j' h1 h2 => by
        by_cases ej : j' = j
        · rw [ej]; exact q
        · exact hp j' h1 (by omega))
      simp only [Int.natCast_add, Int.natCast_one] at e
      have st : fX10_isMeeting_b17 N g2 22 (fu + 1) h (iI i) (iI j) = fX10_isMeeting_b17 N g2 22 fu h (iI i) (iI ((j : Int) + 1)) := by
        show fX10_isMeeting_b17_body N g2 (fX10_isMeeting_b17 N g2 22 fu) 22 h (iI i) (iI j) = _
        simp only [fX10_isMeeting_b17_body, lit, iI_add, Option.bind_some]
        refine bst (sR_1000_22 hS) ?_
        refine bst (o7) ?_
        refine ifn (a1) ?_
        refine bst (sR_1000_22 hS) ?_
        refine bst (sR_500_14 hS) ?_
        refine bst (lqi) ?_
        refine bst (sR_1000_22 hS) ?_
        refine bst (sR_500_14 hS) ?_
        refine bst (lqj) ?_
        refine bst (rc9) ?_
        refine bst (w0 q) ?_
        refine ifp (rfl) ?_
        rfl
      rw [st]
      exact e
theorem L_hit {N : Nat} (hN : 100000000 ≤ N) {h : Hs} (hS : Sk h) {nt : Nat} {tA : Nat → Nat} {tl tw tg ls ms pa : Nat → Int} (hT : RTo h nt tA tl tw tg ls ms pa) {P : Nat → Int} (hP : ∀ i, i < nt → gI h 908 (tA i) = iI (P i)) (hb : ∀ i, i < nt → 0 ≤ P i ∧ P i ≤ 100) : ∀ (d i fu : Nat), i + d = nt → d < fu → (∀ i' j', i' < i → i' < j' → j' < nt → ¬ Hit tl tw P i' j') → (∃ i0 j0 : Nat, i0 < j0 ∧ j0 < nt ∧ Hit tl tw P i0 j0 ∧ (∀ i' j', i' < i0 → i' < j' → j' < nt → ¬ Hit tl tw P i' j') ∧ (∀ j', i0 < j' → j' < j0 → ¬ Hit tl tw P i0 j') ∧ fX10_isMeeting_b2 N 22 fu h (iI i) = some (iI 1, putH h 24 2 i0 j0)) ∨ ((∀ i' j', i' < j' → j' < nt → ¬ Hit tl tw P i' j') ∧ fX10_isMeeting_b2 N 22 fu h (iI i) = some (iI 0, h)) := by
  have c3 := hT.1.2.2
  have o7 : oI 5 7 h (some 14) = some (iI nt) := oIv (by rw [ss_14 hS]) hT.1.1
  intro d
  induction d with
  | zero =>
    intro i fu hi hf hp
    obtain ⟨fu, rfl⟩ : ∃ m, fu = m + 1 := ⟨fu - 1, by omega⟩
    refine Or.inr ⟨fun i' j' h1 h2 => hp i' j' (by omega) h1 h2, ?_⟩
    show fX10_isMeeting_b2_body N (fX10_isMeeting_b2 N 22 fu) 22 h (iI i) = _
    have a1 : iI (nt : Int) ≤ iI (i : Int) := (iI_le (by omega) (by omega) (by omega) (by omega)).mpr (by omega)
    simp only [fX10_isMeeting_b2_body, lit]
    refine bst (sR_1000_22 hS) ?_
    refine bst (o7) ?_
    refine ifp (a1) ?_
    rfl
  | succ d ih =>
    intro i fu hi hf hp
    obtain ⟨fu, rfl⟩ : ∃ m, fu = m + 1 := ⟨fu - 1, by omega⟩
    have a1 : ¬ iI (nt : Int) ≤ iI (i : Int) := fun q => by have := (iI_le (by omega) (by omega) (by omega) (by omega)).mp q; omega
    have st : fX10_isMeeting_b2 N 22 (fu + 1) h (iI i) = fX10_isMeeting_b17 N (fX10_isMeeting_b2 N 22 fu) 22 N h (iI i) (iI ((i : Int) + 1)) := by
      show fX10_isMeeting_b2_body N (fX10_isMeeting_b2 N 22 fu) 22 h (iI i) = _
      simp only [fX10_isMeeting_b2_body, lit, iI_add, Option.bind_some]
      refine bst (sR_1000_22 hS) ?_
      refine bst (o7) ?_
      refine ifn (a1) ?_
      rfl
    have lj := L_hitJ (N := N) hS hT hP hb (i := i) (by omega) (fX10_isMeeting_b2 N 22 fu) d (i + 1) N (by omega) (by omega) (by omega) (fun j' h1 h2 => by omega)
    simp only [Int.natCast_add, Int.natCast_one] at lj
    rcases lj with ⟨j0, k1, k2, k3, k4, k5⟩ | ⟨k1, k2⟩
    · exact Or.inl ⟨i, j0, k1, k2, k3, hp, k4, st.trans k5⟩
    · have e := ih (i + 1) fu (by omega) (by omega) (fun i' j' h1 h2 h3 => by
        by_cases ei : i' = i
        · rw [ei]; exact k1 j' (by omega) h3
        · exact hp i' j' (by omega) h2 h3)
      simp only [Int.natCast_add, Int.natCast_one] at e
      rw [st, k2]
      exact e
theorem v_uneven {N : Nat} {h : Hs} (hS : Sk h) {p bd : Int} (p1 : -5000000 ≤ p) (p2 : p ≤ 5000000) (b1 : 0 ≤ bd) (b2 : bd ≤ 99999) (hb : gI h 510 14 = iI bd) : ((bd < p ∨ p < -bd) → fX10_isUneven N h 22 (iI p) = some (iI 1, putH h 24 3 (-1) (-1))) ∧ ((-bd ≤ p ∧ p ≤ bd) → fX10_isUneven N h 22 (iI p) = some (iI 0, h)) := by
  have o10 : oI 5 10 h (some 14) = some (iI bd) := oIv (by rw [ss_14 hS]) hb
  have rc7 : rc 7 h (some 24) = some 24 := rcv (by rw [ss_24 hS])
  have vp := v_putS (N := N) (h := h) (a := 24) (k := 3) (t := -1) (o := -1) (by rw [ss_24 hS])
  have ab : ∃ y : Int, (if iI 0 ≤ iI p then iI p else iI 0 - iI p) = iI y ∧ 0 ≤ y ∧ y ≤ 5000000 ∧ (y = p ∨ y = -p) := by
    by_cases q : 0 ≤ p
    · exact ⟨p, if_pos ((iI_le (by omega) (by omega) (by omega) (by omega)).mpr q), q, p2, Or.inl rfl⟩
    · refine ⟨-p, ?_, by omega, by omega, Or.inr rfl⟩
      rw [if_neg (fun z => q ((iI_le (by omega) (by omega) (by omega) (by omega)).mp z)), iI_sub, Int.zero_sub]
  obtain ⟨y, y1, y2, y3, y4⟩ := ab
  have le : iI bd < iI y ↔ bd < y := iI_lt (by omega) (by omega) (by omega) (by omega)
  simp only [fX10_isUneven, lit, iI_neg, y1]
  constructor
  · intro q
    refine bst (sR_1000_22 hS) ?_
    refine bst (o10) ?_
    refine ifp (le.mpr (by omega)) ?_
    refine bst (sR_1002_22 hS) ?_
    refine bst (rc7) ?_
    refine bst (vp) ?_
    rfl
  · intro q
    refine bst (sR_1000_22 hS) ?_
    refine bst (o10) ?_
    refine ifn (fun z => by have := le.mp z; omega) ?_
    rfl
/-! how far to the next place -/
theorem dv_ok {a b : Int} (a1 : -2147483648 ≤ a) (a2 : a < 2147483648) (b1 : 1 ≤ b) (b2 : b < 2147483648) : dv (iI a) (iI b) = some (iI (a.tdiv b)) := by
  have e0 : ¬ iI b = 0 := fun q => by have := (iI_eq (a := b) (b := 0) (by omega) (by omega) (by omega) (by omega)).mp q; omega
  rw [dv, if_neg e0]
  by_cases w : b = 1
  · subst w
    rw [Int.tdiv_one]
    have : iI a / iI 1 = iI a := Int32.div_one
    rw [this]
  · rw [iI_dv a1 a2 (by omega) b2]
def qsr (gr ds dn : Nat → Int) (dr : Nat → Option Nat) (d s : Int) (r : Nat) : Int := match dr r with
  | none => 9999
  | some e => qst (dn r) (gr r) (ds e) d s
theorem v_stp {N : Nat} {h : Hs} {nr nt nd : Nat} {rA tA dA rT : Nat → Nat} {wy gr hd ds : Nat → Int} {gn : Nat → Bool} {dr td : Nat → Option Nat} {sr dn : Nat → Int} (hD : RDr h nd dA ds) (hR : RRo h nr nt rA tA rT wy gr hd gn) (hC : RTc h nt nr tA dA rA dr td sr dn) (hL : RTl nt nd nr rT dr td) (hdn : ∀ r, r < nr → dr r ≠ none → -1000000000 ≤ dn r ∧ dn r ≤ 1000000000) {d s : Int} (hd1 : d = 1 ∨ d = -1) (s1 : 0 ≤ s) (s2 : s ≤ 10000) {r : Nat} (hr : r < nr) : fX4_stepsToNextPlace N h (rA r) (iI d) (iI s) = some (iI (qsr gr ds dn dr d s r), h) ∧ 1 ≤ qsr gr ds dn dr d s r ∧ qsr gr ds dn dr d s r ≤ 9999 := by
  obtain ⟨⟨-, -, -, d4⟩, ⟨f0, f1, f2, f3, f4, f8⟩, -, q1, q2, q3, q4, q5⟩ := hR.2.1 r hr
  obtain ⟨c1, c2⟩ := hC.1 r hr
  simp only [fX4_stepsToNextPlace, fX4_stepsToNextPlace_b65, lit, iI_mul, Option.bind_some]
  cases hdr : dr r with
  | none =>
    rw [hdr] at c1
    have eq : qsr gr ds dn dr d s r = 9999 := by simp [qsr, hdr]
    rw [eq]
    refine ⟨?_, by omega, by omega⟩
    refine bst (oRv (by rw [d4]) c1) ?_
    refine ifp (rfl) ?_
    rfl
  | some e =>
    have hel := (hL.1 r e hr hdr).1
    obtain ⟨⟨-, -, -, e4⟩, ⟨-, e1⟩, -, e5, e6⟩ := hD.2.1 e hel
    have hne : dr r ≠ none := by rw [hdr]; exact fun q => by cases q
    have c3 := (c2 hne).2
    have nb := hdn r hr hne
    rw [hdr] at c1
    have eq : qsr gr ds dn dr d s r = qst (dn r) (gr r) (ds e) d s := by simp [qsr, hdr]
    rw [eq]
    obtain ⟨k1, k2, -⟩ := qst_ok (dn := dn r) (g := gr r) (sd := ds e) (d := d) (s := s) q3 q4 e5 hd1
    refine ⟨?_, k1, by omega⟩
    have o5 : oR 4 5 h (some (rA r)) = some (some (dA e)) := oRv (by rw [d4]) c1
    have b1 : 0 ≤ ds e * s := Int.mul_nonneg (by omega) s1
    have b2 : ds e * s ≤ 20 * 10000 := Int.mul_le_mul e6 s2 s1 (by omega)
    have b3 : -1000000000 ≤ d * dn r ∧ d * dn r ≤ 1000000000 := by
      rcases hd1 with rfl | rfl <;> omega
    obtain ⟨G, hG⟩ : ∃ G, G = d * dn r + ds e * s := ⟨_, rfl⟩
    have eG : iI (d * dn r) + iI (ds e * s) = iI G := by rw [iI_add, hG]
    have vq := v_quot (N := N) (h := h) (a := G) (b := 100 * gr r) (by omega) (by omega) (by omega) (by omega)
    obtain ⟨y1, y2, -⟩ := goal_ok (g := G) (u := 100 * gr r) (by omega)
    have fin : ∀ u0 : Int32, u0 = iI (goal G (100 * gr r)) → ((oR 4 5 h (some (rA r))).bind fun o1 => (oI 2 1 h o1).bind fun v2 => (fX11_quotientUp N h (u0 - iI G) v2).bind fun r3 => some (r3.1, r3.2)) = some (iI (qst (dn r) (gr r) (ds e) d s), h) := by
      intro u0 hu0
      have qu : fX11_quotientUp N h (u0 - iI G) (iI (ds e)) = some (iI (qst (dn r) (gr r) (ds e) d s), h) := by
        have ne : ¬ iI (ds e) = iI 0 := fun q => by have := (iI_eq (by omega) (by omega) (by omega) (by omega)).mp q; omega
        have dk := dv_ok (a := goal G (100 * gr r) - G + ds e - 1) (b := ds e) (by omega) (by omega) e5 (by omega)
        have ek : u0 - iI G + iI (ds e) - iI 1 = iI (goal G (100 * gr r) - G + ds e - 1) := by rw [hu0, iI_sub, iI_add, iI_sub]
        simp only [fX11_quotientUp, fX11_quotientUp_b15, lit]
        refine ifn (ne) ?_
        rw [ek]
        refine bst (dk) ?_
        rw [hG]
        rfl
      refine bst (o5) ?_
      refine bst (oIv (by rw [e4]) e1) ?_
      refine bst (qu) ?_
      rfl
    by_cases w : G.tdiv (100 * gr r) < 0
    · have wn : iI (G.tdiv (100 * gr r)) < iI 0 := by
        have z := td_abs G (100 * gr r)
        exact (iI_lt (by omega) (by omega) (by omega) (by omega)).mpr w
      have eg : iI (G.tdiv (100 * gr r)) * iI (100 * gr r) + iI 1 = iI (goal G (100 * gr r)) := by
        unfold goal
        rw [if_pos w, iI_mul, iI_add]
      refine bst (o5) ?_
      refine ifn (fun q => by cases q) ?_
      refine bst (oIv (by rw [d4]) f3) ?_
      refine bst (oIv (by rw [d4]) c3) ?_
      refine bst (o5) ?_
      refine bst (oIv (by rw [e4]) e1) ?_
      simp only [iI_mul]
      rw [eG]
      refine bst (vq) ?_
      refine ifp (wn) ?_
      exact fin _ eg
    · have wn : ¬ iI (G.tdiv (100 * gr r)) < iI 0 := fun q => by
        have z := td_abs G (100 * gr r)
        exact w ((iI_lt (by omega) (by omega) (by omega) (by omega)).mp q)
      have eg : (iI (G.tdiv (100 * gr r)) + iI 1) * iI (100 * gr r) = iI (goal G (100 * gr r)) := by
        unfold goal
        rw [if_neg w, iI_add, iI_mul]
      refine bst (o5) ?_
      refine ifn (fun q => by cases q) ?_
      refine bst (oIv (by rw [d4]) f3) ?_
      refine bst (oIv (by rw [d4]) c3) ?_
      refine bst (o5) ?_
      refine bst (oIv (by rw [e4]) e1) ?_
      simp only [iI_mul]
      rw [eG]
      refine bst (vq) ?_
      refine ifn (wn) ?_
      exact fin _ eg
theorem L_stm {N : Nat} {h : Hs} (hS : Sk h) {nr nt nd : Nat} {rA tA dA rT : Nat → Nat} {wy gr hd ds : Nat → Int} {gn : Nat → Bool} {dr td : Nat → Option Nat} {sr dn : Nat → Int} (hD : RDr h nd dA ds) (hR : RRo h nr nt rA tA rT wy gr hd gn) (hC : RTc h nt nr tA dA rA dr td sr dn) (hL : RTl nt nd nr rT dr td) (hdn : ∀ r, r < nr → dr r ≠ none → -1000000000 ≤ dn r ∧ dn r ≤ 1000000000) {d s : Int} (hd1 : d = 1 ∨ d = -1) (s1 : 0 ≤ s) (s2 : s ≤ 10000) : ∀ (e i : Nat) (c : Int) (fu : Nat), i + e = nr → e < fu → 1 ≤ c → c ≤ 9999 → ∃ M, 1 ≤ M ∧ M ≤ c ∧ (∀ r, i ≤ r → r < nr → M ≤ qsr gr ds dn dr d s r) ∧ fX10_stepsToNextMove_b7 N 22 fu h (iI d) (iI s) (iI c) (iI i) = some (iI M, h) := by
  have c3 := hR.1.2.2
  have o9 : oI 5 9 h (some 14) = some (iI nr) := oIv (by rw [ss_14 hS]) hR.1.1
  intro e
  induction e with
  | zero =>
    intro i c fu hi hf c1 c2
    obtain ⟨fu, rfl⟩ : ∃ m, fu = m + 1 := ⟨fu - 1, by omega⟩
    refine ⟨c, c1, Int.le_refl c, fun r r1 r2 => by omega, ?_⟩
    show fX10_stepsToNextMove_b7_body N (fX10_stepsToNextMove_b7 N 22 fu) 22 h (iI d) (iI s) (iI c) (iI i) = _
    have a1 : iI (nr : Int) ≤ iI (i : Int) := (iI_le (by omega) (by omega) (by omega) (by omega)).mpr (by omega)
    simp only [fX10_stepsToNextMove_b7_body]
    refine bst (sR_1000_22 hS) ?_
    refine bst (o9) ?_
    refine ifp (a1) ?_
    rfl
  | succ e ih =>
    intro i c fu hi hf c1 c2
    obtain ⟨fu, rfl⟩ : ∃ m, fu = m + 1 := ⟨fu - 1, by omega⟩
    have a1 : ¬ iI (nr : Int) ≤ iI (i : Int) := fun q => by have := (iI_le (by omega) (by omega) (by omega) (by omega)).mp q; omega
    obtain ⟨⟨d1, d2, d3, d4⟩, -⟩ := hR.2.1 i (by omega)
    have lq : lQ 25 h (some 17) (iI i) = some (some (rA i)) := lQv (ss_17 hS) (by omega) (by omega) d1
    have rc4 : rc 4 h (some (rA i)) = some (rA i) := rcv (by rw [d4])
    obtain ⟨v1, v2, v3⟩ := v_stp (N := N) hD hR hC hL hdn hd1 s1 s2 (r := i) (by omega)
    obtain ⟨y, y1, y2, y3, y4⟩ : ∃ y, (if iI (qsr gr ds dn dr d s i) < iI c then iI (qsr gr ds dn dr d s i) else iI c) = iI y ∧ 1 ≤ y ∧ y ≤ c ∧ y ≤ qsr gr ds dn dr d s i := by
      by_cases q : qsr gr ds dn dr d s i < c
      · exact ⟨_, if_pos ((iI_lt (by omega) (by omega) (by omega) (by omega)).mpr q), v2, by omega, Int.le_refl _⟩
      · exact ⟨_, if_neg (fun z => q ((iI_lt (by omega) (by omega) (by omega) (by omega)).mp z)), c1, Int.le_refl _, by omega⟩
    obtain ⟨M, m1, m2, m3, m4⟩ := ih (i + 1) y fu (by omega) (by omega) y2 (by omega)
    simp only [Int.natCast_add, Int.natCast_one] at m4
    refine ⟨M, m1, by omega, fun r r1 r2 => ?_, ?_⟩
    · by_cases er : r = i
      · rw [er]; omega
      · exact m3 r (by omega) r2
    · show fX10_stepsToNextMove_b7_body N (fX10_stepsToNextMove_b7 N 22 fu) 22 h (iI d) (iI s) (iI c) (iI i) = _
      simp only [fX10_stepsToNextMove_b7_body, lit, iI_add, Option.bind_some]
      refine bst (sR_1000_22 hS) ?_
      refine bst (o9) ?_
      refine ifn (a1) ?_
      refine bst (sR_1000_22 hS) ?_
      refine bst (sR_502_14 hS) ?_
      refine bst (lq) ?_
      refine bst (rc4) ?_
      refine bst (v1) ?_
      rw [y1]
      exact m4
theorem tpl_quiet {nr nt nd : Nat} {rT : Nat → Nat} {pa wy gr ds sr dn : Nat → Int} {dr td : Nat → Option Nat} (hL : RTl nt nd nr rT dr td) {d s M : Int} (hd1 : d = 1 ∨ d = -1) (hg : ∀ r, r < nr → 1 ≤ gr r ∧ gr r ≤ 5) (hs : ∀ e, e < nd → 1 ≤ ds e) (hM : ∀ r, r < nr → M ≤ qsr gr ds dn dr d s r) {j : Int} (j0 : 0 ≤ j) (j1 : j < M) {i : Nat} (hi : i < nt) : tpl pa wy gr sr dn ds dr td (d * (s + j)) i = tpl pa wy gr sr dn ds dr td (d * s) i := by
  unfold tpl
  cases htd : td i with
  | none => rfl
  | some r =>
    obtain ⟨hr, hrt, hne⟩ := hL.2 i r hi htd
    obtain ⟨e, hde⟩ := Option.ne_none_iff_exists'.mp hne
    have hel := (hL.1 r e hr hde).1
    have hq := hM r hr
    simp only [qsr, hde] at hq
    obtain ⟨-, -, k3⟩ := qst_ok (dn := dn r) (g := gr r) (sd := ds e) (d := d) (s := s) (hg r hr).1 (hg r hr).2 (hs e hel) hd1
    have k4 := k3 j j0 (by omega)
    simp only [hde, rpl]
    rw [k4]
