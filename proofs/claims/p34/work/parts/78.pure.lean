/-! ===== turning, the class: what stops the step that is looked at ===== -/
def putH (h : Hs) (a : Nat) (k t o : Int) : Hs := uI (uI (uI h 700 a (iI k)) 701 a (iI t)) 702 a (iI o)
theorem v_putS {N : Nat} {h : Hs} {a : Nat} {k t o : Int} (hs : (sh h a).1 = 7) : fX7_put N h a (iI k) (iI t) (iI o) = some (putH h a k t o) := by
  simp only [fX7_put]
  refine bst (qIv hs) ?_
  refine bst (qIv (by rw [sh_uI]; exact hs)) ?_
  refine bst (qIv (by rw [sh_uI, sh_uI]; exact hs)) ?_
  rfl
theorem Ke_put {h : Hs} {a : Nat} {k t o : Int} : Ke [700, 701, 702] [] [] [] h (putH h a k t o) := ((Ke_rf.u 700 a _ (by decide)).u 701 a _ (by decide)).u 702 a _ (by decide)
theorem put_0 {h : Hs} {a : Nat} {k t o : Int} : gI (putH h a k t o) 700 a = iI k ∧ gI (putH h a k t o) 701 a = iI t ∧ gI (putH h a k t o) 702 a = iI o := by
  simp [putH, HR]
theorem put_n {h : Hs} {a : Nat} {k t o : Int} {b : Nat} (hb : b ≠ a) (f : Nat) : gI (putH h a k t o) f b = gI h f b := by
  simp [putH, HR, hb]
theorem L_bey {N : Nat} {h : Hs} (hS : Sk h) {nt : Nat} {tA : Nat → Nat} {tl tw tg ls ms pa : Nat → Int} (hT : RTo h nt tA tl tw tg ls ms pa) {P : Nat → Int} (hP : ∀ i, i < nt → gI h 908 (tA i) = iI (P i)) (hb : ∀ i, i < nt → -2000000000 ≤ P i ∧ P i ≤ 2000000000) : ∀ (d i fu : Nat), i + d = nt → d < fu → (∀ j, j < i → ¬ Bey ls ms P j) → (∃ j : Nat, j < nt ∧ Bey ls ms P j ∧ (∀ j', j' < j → ¬ Bey ls ms P j') ∧ fX10_isBeyond_b2 N 22 fu h (iI i) = some (iI 1, putH h 24 1 j (-1))) ∨ ((∀ j, j < nt → ¬ Bey ls ms P j) ∧ fX10_isBeyond_b2 N 22 fu h (iI i) = some (iI 0, h)) := by
  have c3 := hT.1.2.2
  have o7 : oI 5 7 h (some 14) = some (iI nt) := oIv (by rw [ss_14 hS]) hT.1.1
  intro d
  induction d with
  | zero =>
    intro i fu hi hf hp
    obtain ⟨fu, rfl⟩ : ∃ m, fu = m + 1 := ⟨fu - 1, by omega⟩
    refine Or.inr ⟨fun j hj => hp j (by omega), ?_⟩
    show fX10_isBeyond_b2_body N (fX10_isBeyond_b2 N 22 fu) 22 h (iI i) = _
    have a1 : iI (nt : Int) ≤ iI (i : Int) := (iI_le (by omega) (by omega) (by omega) (by omega)).mpr (by omega)
    simp only [fX10_isBeyond_b2_body, lit]
    refine bst (sR_1000_22 hS) ?_
    refine bst (o7) ?_
    refine ifp (a1) ?_
    rfl
  | succ d ih =>
    intro i fu hi hf hp
    obtain ⟨fu, rfl⟩ : ∃ m, fu = m + 1 := ⟨fu - 1, by omega⟩
    have a1 : ¬ iI (nt : Int) ≤ iI (i : Int) := fun q => by have := (iI_le (by omega) (by omega) (by omega) (by omega)).mp q; omega
    obtain ⟨⟨d1, d2, d3, d4⟩, ⟨g0, g1, g2, g3, g4, g5, g7⟩, -, bb⟩ := hT.2.1 i (by omega)
    have pb := hb i (by omega)
    have lq : lQ 23 h (some 15) (iI i) = some (some (tA i)) := lQv (ss_15 hS) (by omega) (by omega) d1
    have w := v_isW (N := N) (h := h) (x := P i) (a := ls i) (b := ms i) (by omega) (by omega) (by omega) (by omega) (by omega) (by omega)
    have o8 : oI 9 8 h (some (tA i)) = some (iI (P i)) := oIv (by rw [d4]) (hP i (by omega))
    have o4 : oI 9 4 h (some (tA i)) = some (iI (ls i)) := oIv (by rw [d4]) g4
    have o5 : oI 9 5 h (some (tA i)) = some (iI (ms i)) := oIv (by rw [d4]) g5
    have rc7 : rc 7 h (some 24) = some 24 := rcv (by rw [ss_24 hS])
    by_cases q : ls i ≤ P i ∧ P i ≤ ms i
    · have e := ih (i + 1) fu (by omega) (by omega) (fun j hj => by
        by_cases ej : j = i
        · rw [ej]; exact fun z => z q
        · exact hp j (by omega))
      rw [if_pos q] at w
      simp only [Int.natCast_add, Int.natCast_one] at e
      have st : fX10_isBeyond_b2 N 22 (fu + 1) h (iI i) = fX10_isBeyond_b2 N 22 fu h (iI ((i : Int) + 1)) := by
        show fX10_isBeyond_b2_body N (fX10_isBeyond_b2 N 22 fu) 22 h (iI i) = _
        simp only [fX10_isBeyond_b2_body, lit, iI_add, Option.bind_some]
        refine bst (sR_1000_22 hS) ?_
        refine bst (o7) ?_
        refine ifn (a1) ?_
        refine bst (sR_1000_22 hS) ?_
        refine bst (sR_500_14 hS) ?_
        refine bst (lq) ?_
        refine bst (o8) ?_
        refine bst (o4) ?_
        refine bst (o5) ?_
        refine bst (w) ?_
        refine ifn (n10) ?_
        rfl
      rw [st]
      exact e
    · rw [if_neg q] at w
      refine Or.inl ⟨i, by omega, q, hp, ?_⟩
      show fX10_isBeyond_b2_body N (fX10_isBeyond_b2 N 22 fu) 22 h (iI i) = _
      have vp := v_putS (N := N) (h := h) (a := 24) (k := 1) (t := i) (o := -1) (by rw [ss_24 hS])
      simp only [fX10_isBeyond_b2_body, lit, iI_neg]
      refine bst (sR_1000_22 hS) ?_
      refine bst (o7) ?_
      refine ifn (a1) ?_
      refine bst (sR_1000_22 hS) ?_
      refine bst (sR_500_14 hS) ?_
      refine bst (lq) ?_
      refine bst (o8) ?_
      refine bst (o4) ?_
      refine bst (o5) ?_
      refine bst (w) ?_
      refine ifp (rfl) ?_
      refine bst (sR_1002_22 hS) ?_
      refine bst (rc7) ?_
      refine bst (vp) ?_
      rfl
theorem v_would {N : Nat} {h : Hs} {nt : Nat} {tA : Nat → Nat} {tl tw tg ls ms pa : Nat → Int} (hT : RTo h nt tA tl tw tg ls ms pa) {P : Nat → Int} (hP : ∀ i, i < nt → gI h 908 (tA i) = iI (P i)) (hb : ∀ i, i < nt → 0 ≤ P i ∧ P i ≤ 100) {i j : Nat} (hi : i < nt) (hj : j < nt) : (Hit tl tw P i j → fX9_wouldMeet N h (tA i) (some (tA j)) = some (iI 1, h)) ∧ (¬ Hit tl tw P i j → fX9_wouldMeet N h (tA i) (some (tA j)) = some (iI 0, h)) := by
  obtain ⟨⟨d1, d2, d3, d4⟩, ⟨g0, g1, g2, g3, g4, g5, g7⟩, -, bb⟩ := hT.2.1 i hi
  obtain ⟨⟨-, -, -, e4⟩, ⟨k0, k1, k2, k3, k4, k5, k7⟩, -, cc⟩ := hT.2.1 j hj
  have pi := hb i hi
  have pj := hb j hj
  have ov := v_overlap (N := N) (h := h) (a := P i) (b := tw i) (c := P j) (d := tw j) (by omega) (by omega) (by omega) (by omega) (by omega) (by omega) (by omega) (by omega)
  have le : iI (tl i) = iI (tl j) ↔ tl i = tl j := iI_eq (by omega) (by omega) (by omega) (by omega)
  have o1 : oI 9 1 h (some (tA i)) = some (iI (tl i)) := oIv (by rw [d4]) g1
  have o1' : oI 9 1 h (some (tA j)) = some (iI (tl j)) := oIv (by rw [e4]) k1
  have o8 : oI 9 8 h (some (tA i)) = some (iI (P i)) := oIv (by rw [d4]) (hP i hi)
  have o8' : oI 9 8 h (some (tA j)) = some (iI (P j)) := oIv (by rw [e4]) (hP j hj)
  have o2 : oI 9 2 h (some (tA i)) = some (iI (tw i)) := oIv (by rw [d4]) g2
  have o2' : oI 9 2 h (some (tA j)) = some (iI (tw j)) := oIv (by rw [e4]) k2
  simp only [fX9_wouldMeet, fX9_wouldMeet_b37, fX9_wouldMeet_b38, lit]
  constructor
  · rintro ⟨q1, q2⟩
    rw [if_pos q2] at ov
    refine bst (o1) ?_
    refine bst (o1') ?_
    refine ifp (le.mpr q1) ?_
    refine bst (o8) ?_
    refine bst (o2) ?_
    refine bst (o8') ?_
    refine bst (o2') ?_
    refine bst (ov) ?_
    refine ifn (n10) ?_
    refine bst (zc_i1) ?_
    rfl
  · intro q
    by_cases q1 : tl i = tl j
    · rw [if_neg (fun z => q ⟨q1, z⟩)] at ov
      refine bst (o1) ?_
      refine bst (o1') ?_
      refine ifp (le.mpr q1) ?_
      refine bst (o8) ?_
      refine bst (o2) ?_
      refine bst (o8') ?_
      refine bst (o2') ?_
      refine bst (ov) ?_
      refine ifp (rfl) ?_
      refine bst (zc_i0) ?_
      rfl
    · skip
      refine bst (o1) ?_
      refine bst (o1') ?_
      refine ifn (fun z => q1 (le.mp z)) ?_
      refine bst (zc_i0) ?_
      rfl
theorem L_hitJ {N : Nat} {h : Hs} (hS : Sk h) {nt : Nat} {tA : Nat → Nat} {tl tw tg ls ms pa : Nat → Int} (hT : RTo h nt tA tl tw tg ls ms pa) {P : Nat → Int} (hP : ∀ i, i < nt → gI h 908 (tA i) = iI (P i)) (hb : ∀ i, i < nt → 0 ≤ P i ∧ P i ≤ 100) {i : Nat} (hi : i < nt) (g2 : Hs → Int32 → Option (Int32 × Hs)) : ∀ (d j fu : Nat), j + d = nt → d < fu → i < j → (∀ j', i < j' → j' < j → ¬ Hit tl tw P i j') → (∃ j0 : Nat, i < j0 ∧ j0 < nt ∧ Hit tl tw P i j0 ∧ (∀ j', i < j' → j' < j0 → ¬ Hit tl tw P i j') ∧ fX10_isMeeting_b17 N g2 22 fu h (iI i) (iI j) = some (iI 1, putH h 24 2 i j0)) ∨ ((∀ j', i < j' → j' < nt → ¬ Hit tl tw P i j') ∧ fX10_isMeeting_b17 N g2 22 fu h (iI i) (iI j) = g2 h (iI ((i : Int) + 1))) := by
  have c3 := hT.1.2.2
  have o7 : oI 5 7 h (some 14) = some (iI nt) := oIv (by rw [ss_14 hS]) hT.1.1
  obtain ⟨⟨d1, d2, d3, d4⟩, -⟩ := hT.2.1 i hi
  intro d
  induction d with
  | zero =>
    intro j fu hj hf hij hp
    obtain ⟨fu, rfl⟩ : ∃ m, fu = m + 1 := ⟨fu - 1, by omega⟩
    refine Or.inr ⟨fun j' h1 h2 => hp j' h1 (by omega), ?_⟩
    show fX10_isMeeting_b17_body N g2 (fX10_isMeeting_b17 N g2 22 fu) 22 h (iI i) (iI j) = _
    have a1 : iI (nt : Int) ≤ iI (j : Int) := (iI_le (by omega) (by omega) (by omega) (by omega)).mpr (by omega)
    simp only [fX10_isMeeting_b17_body, lit, iI_add, Option.bind_some]
    refine bst (sR_1000_22 hS) ?_
    refine bst (o7) ?_
    refine ifp (a1) ?_
    rfl
  | succ d ih =>
    intro j fu hj hf hij hp
    obtain ⟨fu, rfl⟩ : ∃ m, fu = m + 1 := ⟨fu - 1, by omega⟩
    have a1 : ¬ iI (nt : Int) ≤ iI (j : Int) := fun q => by have := (iI_le (by omega) (by omega) (by omega) (by omega)).mp q; omega
    obtain ⟨⟨e1, e2, e3, e4⟩, -⟩ := hT.2.1 j (by omega)
    have lqi : lQ 23 h (some 15) (iI i) = some (some (tA i)) := lQv (ss_15 hS) (by omega) (by omega) d1
    have lqj : lQ 23 h (some 15) (iI j) = some (some (tA j)) := lQv (ss_15 hS) (by omega) (by omega) e1
    have rc9 : rc 9 h (some (tA i)) = some (tA i) := rcv (by rw [d4])
    have rc7 : rc 7 h (some 24) = some 24 := rcv (by rw [ss_24 hS])
    obtain ⟨w1, w0⟩ := v_would (N := N) hT hP hb hi (show j < nt by omega)
    by_cases q : Hit tl tw P i j
    · refine Or.inl ⟨j, hij, by omega, q, hp, ?_⟩
      show fX10_isMeeting_b17_body N g2 (fX10_isMeeting_b17 N g2 22 fu) 22 h (iI i) (iI j) = _
      have vp := v_putS (N := N) (h := h) (a := 24) (k := 2) (t := i) (o := j) (by rw [ss_24 hS])
      simp only [fX10_isMeeting_b17_body, lit]
      refine bst (sR_1000_22 hS) ?_
      refine bst (o7) ?_
      refine ifn (a1) ?_
      refine bst (sR_1000_22 hS) ?_
      refine bst (sR_500_14 hS) ?_
      refine bst (lqi) ?_
      refine bst (sR_1000_22 hS) ?_
      refine bst (sR_500_14 hS) ?_
      refine bst (lqj) ?_
      refine bst (rc9) ?_
      refine bst (w1 q) ?_
      refine ifn (n10) ?_
      refine bst (sR_1002_22 hS) ?_
      refine bst (rc7) ?_
      refine bst (vp) ?_
      rfl
    · have e := ih (j + 1) fu (by omega) (by omega) (by omega) (fun j' h1 h2 => by
        by_cases ej : j' = j
        · rw [ej]; exact q
        · exact hp j' h1 (by omega))
      simp only [Int.natCast_add, Int.natCast_one] at e
      have st : fX10_isMeeting_b17 N g2 22 (fu + 1) h (iI i) (iI j) = fX10_isMeeting_b17 N g2 22 fu h (iI i) (iI ((j : Int) + 1)) := by
        show fX10_isMeeting_b17_body N g2 (fX10_isMeeting_b17 N g2 22 fu) 22 h (iI i) (iI j) = _
        simp only [fX10_isMeeting_b17_body, lit, iI_add, Option.bind_some]
        refine bst (sR_1000_22 hS) ?_
        refine bst (o7) ?_
        refine ifn (a1) ?_
        refine bst (sR_1000_22 hS) ?_
        refine bst (sR_500_14 hS) ?_
        refine bst (lqi) ?_
        refine bst (sR_1000_22 hS) ?_
        refine bst (sR_500_14 hS) ?_
        refine bst (lqj) ?_
        refine bst (rc9) ?_
        refine bst (w0 q) ?_
        refine ifp (rfl) ?_
        rfl
      rw [st]
      exact e
theorem L_hit {N : Nat} (hN : 100000000 ≤ N) {h : Hs} (hS : Sk h) {nt : Nat} {tA : Nat → Nat} {tl tw tg ls ms pa : Nat → Int} (hT : RTo h nt tA tl tw tg ls ms pa) {P : Nat → Int} (hP : ∀ i, i < nt → gI h 908 (tA i) = iI (P i)) (hb : ∀ i, i < nt → 0 ≤ P i ∧ P i ≤ 100) : ∀ (d i fu : Nat), i + d = nt → d < fu → (∀ i' j', i' < i → i' < j' → j' < nt → ¬ Hit tl tw P i' j') → (∃ i0 j0 : Nat, i0 < j0 ∧ j0 < nt ∧ Hit tl tw P i0 j0 ∧ (∀ i' j', i' < i0 → i' < j' → j' < nt → ¬ Hit tl tw P i' j') ∧ (∀ j', i0 < j' → j' < j0 → ¬ Hit tl tw P i0 j') ∧ fX10_isMeeting_b2 N 22 fu h (iI i) = some (iI 1, putH h 24 2 i0 j0)) ∨ ((∀ i' j', i' < j' → j' < nt → ¬ Hit tl tw P i' j') ∧ fX10_isMeeting_b2 N 22 fu h (iI i) = some (iI 0, h)) := by
  have c3 := hT.1.2.2
  have o7 : oI 5 7 h (some 14) = some (iI nt) := oIv (by rw [ss_14 hS]) hT.1.1
  intro d
  induction d with
  | zero =>
    intro i fu hi hf hp
    obtain ⟨fu, rfl⟩ : ∃ m, fu = m + 1 := ⟨fu - 1, by omega⟩
    refine Or.inr ⟨fun i' j' h1 h2 => hp i' j' (by omega) h1 h2, ?_⟩
    show fX10_isMeeting_b2_body N (fX10_isMeeting_b2 N 22 fu) 22 h (iI i) = _
    have a1 : iI (nt : Int) ≤ iI (i : Int) := (iI_le (by omega) (by omega) (by omega) (by omega)).mpr (by omega)
    simp only [fX10_isMeeting_b2_body, lit]
    refine bst (sR_1000_22 hS) ?_
    refine bst (o7) ?_
    refine ifp (a1) ?_
    rfl
  | succ d ih =>
    intro i fu hi hf hp
    obtain ⟨fu, rfl⟩ : ∃ m, fu = m + 1 := ⟨fu - 1, by omega⟩
    have a1 : ¬ iI (nt : Int) ≤ iI (i : Int) := fun q => by have := (iI_le (by omega) (by omega) (by omega) (by omega)).mp q; omega
    have st : fX10_isMeeting_b2 N 22 (fu + 1) h (iI i) = fX10_isMeeting_b17 N (fX10_isMeeting_b2 N 22 fu) 22 N h (iI i) (iI ((i : Int) + 1)) := by
      show fX10_isMeeting_b2_body N (fX10_isMeeting_b2 N 22 fu) 22 h (iI i) = _
      simp only [fX10_isMeeting_b2_body, lit, iI_add, Option.bind_some]
      refine bst (sR_1000_22 hS) ?_
      refine bst (o7) ?_
      refine ifn (a1) ?_
      rfl
    have lj := L_hitJ (N := N) hS hT hP hb (i := i) (by omega) (fX10_isMeeting_b2 N 22 fu) d (i + 1) N (by omega) (by omega) (by omega) (fun j' h1 h2 => by omega)
    simp only [Int.natCast_add, Int.natCast_one] at lj
    rcases lj with ⟨j0, k1, k2, k3, k4, k5⟩ | ⟨k1, k2⟩
    · exact Or.inl ⟨i, j0, k1, k2, k3, hp, k4, st.trans k5⟩
    · have e := ih (i + 1) fu (by omega) (by omega) (fun i' j' h1 h2 h3 => by
        by_cases ei : i' = i
        · rw [ei]; exact k1 j' (by omega) h3
        · exact hp i' j' (by omega) h2 h3)
      simp only [Int.natCast_add, Int.natCast_one] at e
      rw [st, k2]
      exact e
theorem v_uneven {N : Nat} {h : Hs} (hS : Sk h) {p bd : Int} (p1 : -5000000 ≤ p) (p2 : p ≤ 5000000) (b1 : 0 ≤ bd) (b2 : bd ≤ 99999) (hb : gI h 510 14 = iI bd) : ((bd < p ∨ p < -bd) → fX10_isUneven N h 22 (iI p) = some (iI 1, putH h 24 3 (-1) (-1))) ∧ ((-bd ≤ p ∧ p ≤ bd) → fX10_isUneven N h 22 (iI p) = some (iI 0, h)) := by
  have o10 : oI 5 10 h (some 14) = some (iI bd) := oIv (by rw [ss_14 hS]) hb
  have rc7 : rc 7 h (some 24) = some 24 := rcv (by rw [ss_24 hS])
  have vp := v_putS (N := N) (h := h) (a := 24) (k := 3) (t := -1) (o := -1) (by rw [ss_24 hS])
  have ab : ∃ y : Int, (if iI 0 ≤ iI p then iI p else iI 0 - iI p) = iI y ∧ 0 ≤ y ∧ y ≤ 5000000 ∧ (y = p ∨ y = -p) := by
    by_cases q : 0 ≤ p
    · exact ⟨p, if_pos ((iI_le (by omega) (by omega) (by omega) (by omega)).mpr q), q, p2, Or.inl rfl⟩
    · refine ⟨-p, ?_, by omega, by omega, Or.inr rfl⟩
      rw [if_neg (fun z => q ((iI_le (by omega) (by omega) (by omega) (by omega)).mp z)), iI_sub, Int.zero_sub]
  obtain ⟨y, y1, y2, y3, y4⟩ := ab
  have le : iI bd < iI y ↔ bd < y := iI_lt (by omega) (by omega) (by omega) (by omega)
  simp only [fX10_isUneven, lit, iI_neg, y1]
  constructor
  · intro q
    refine bst (sR_1000_22 hS) ?_
    refine bst (o10) ?_
    refine ifp (le.mpr (by omega)) ?_
    refine bst (sR_1002_22 hS) ?_
    refine bst (rc7) ?_
    refine bst (vp) ?_
    rfl
  · intro q
    refine bst (sR_1000_22 hS) ?_
    refine bst (o10) ?_
    refine ifn (fun z => by have := le.mp z; omega) ?_
    rfl
/-! how far to the next place -/
theorem dv_ok {a b : Int} (a1 : -2147483648 ≤ a) (a2 : a < 2147483648) (b1 : 1 ≤ b) (b2 : b < 2147483648) : dv (iI a) (iI b) = some (iI (a.tdiv b)) := by
  have e0 : ¬ iI b = 0 := fun q => by have := (iI_eq (a := b) (b := 0) (by omega) (by omega) (by omega) (by omega)).mp q; omega
  rw [dv, if_neg e0]
  by_cases w : b = 1
  · subst w
    rw [Int.tdiv_one]
    have : iI a / iI 1 = iI a := Int32.div_one
    rw [this]
  · rw [iI_dv a1 a2 (by omega) b2]
def qsr (gr ds dn : Nat → Int) (dr : Nat → Option Nat) (d s : Int) (r : Nat) : Int := match dr r with
  | none => 9999
  | some e => qst (dn r) (gr r) (ds e) d s
theorem v_stp {N : Nat} {h : Hs} {nr nt nd : Nat} {rA tA dA rT : Nat → Nat} {wy gr hd ds : Nat → Int} {gn : Nat → Bool} {dr td : Nat → Option Nat} {sr dn : Nat → Int} (hD : RDr h nd dA ds) (hR : RRo h nr nt rA tA rT wy gr hd gn) (hC : RTc h nt nr tA dA rA dr td sr dn) (hL : RTl nt nd nr rT dr td) (hdn : ∀ r, r < nr → dr r ≠ none → -1000000000 ≤ dn r ∧ dn r ≤ 1000000000) {d s : Int} (hd1 : d = 1 ∨ d = -1) (s1 : 0 ≤ s) (s2 : s ≤ 10000) {r : Nat} (hr : r < nr) : fX4_stepsToNextPlace N h (rA r) (iI d) (iI s) = some (iI (qsr gr ds dn dr d s r), h) ∧ 1 ≤ qsr gr ds dn dr d s r ∧ qsr gr ds dn dr d s r ≤ 9999 := by
  obtain ⟨⟨-, -, -, d4⟩, ⟨f0, f1, f2, f3, f4, f8⟩, -, q1, q2, q3, q4, q5⟩ := hR.2.1 r hr
  obtain ⟨c1, c2⟩ := hC.1 r hr
  simp only [fX4_stepsToNextPlace, fX4_stepsToNextPlace_b65, lit, iI_mul, Option.bind_some]
  cases hdr : dr r with
  | none =>
    rw [hdr] at c1
    have eq : qsr gr ds dn dr d s r = 9999 := by simp [qsr, hdr]
    rw [eq]
    refine ⟨?_, by omega, by omega⟩
    refine bst (oRv (by rw [d4]) c1) ?_
    refine ifp (rfl) ?_
    rfl
  | some e =>
    have hel := (hL.1 r e hr hdr).1
    obtain ⟨⟨-, -, -, e4⟩, ⟨-, e1⟩, -, e5, e6⟩ := hD.2.1 e hel
    have hne : dr r ≠ none := by rw [hdr]; exact fun q => by cases q
    have c3 := (c2 hne).2
    have nb := hdn r hr hne
    rw [hdr] at c1
    have eq : qsr gr ds dn dr d s r = qst (dn r) (gr r) (ds e) d s := by simp [qsr, hdr]
    rw [eq]
    obtain ⟨k1, k2, -⟩ := qst_ok (dn := dn r) (g := gr r) (sd := ds e) (d := d) (s := s) q3 q4 e5 hd1
    refine ⟨?_, k1, by omega⟩
    have o5 : oR 4 5 h (some (rA r)) = some (some (dA e)) := oRv (by rw [d4]) c1
    have b1 : 0 ≤ ds e * s := Int.mul_nonneg (by omega) s1
    have b2 : ds e * s ≤ 20 * 10000 := Int.mul_le_mul e6 s2 s1 (by omega)
    have b3 : -1000000000 ≤ d * dn r ∧ d * dn r ≤ 1000000000 := by
      rcases hd1 with rfl | rfl <;> omega
    obtain ⟨G, hG⟩ : ∃ G, G = d * dn r + ds e * s := ⟨_, rfl⟩
    have eG : iI (d * dn r) + iI (ds e * s) = iI G := by rw [iI_add, hG]
    have vq := v_quot (N := N) (h := h) (a := G) (b := 100 * gr r) (by omega) (by omega) (by omega) (by omega)
    obtain ⟨y1, y2, -⟩ := goal_ok (g := G) (u := 100 * gr r) (by omega)
    have fin : ∀ u0 : Int32, u0 = iI (goal G (100 * gr r)) → ((oR 4 5 h (some (rA r))).bind fun o1 => (oI 2 1 h o1).bind fun v2 => (fX11_quotientUp N h (u0 - iI G) v2).bind fun r3 => some (r3.1, r3.2)) = some (iI (qst (dn r) (gr r) (ds e) d s), h) := by
      intro u0 hu0
      have qu : fX11_quotientUp N h (u0 - iI G) (iI (ds e)) = some (iI (qst (dn r) (gr r) (ds e) d s), h) := by
        have ne : ¬ iI (ds e) = iI 0 := fun q => by have := (iI_eq (by omega) (by omega) (by omega) (by omega)).mp q; omega
        have dk := dv_ok (a := goal G (100 * gr r) - G + ds e - 1) (b := ds e) (by omega) (by omega) e5 (by omega)
        have ek : u0 - iI G + iI (ds e) - iI 1 = iI (goal G (100 * gr r) - G + ds e - 1) := by rw [hu0, iI_sub, iI_add, iI_sub]
        simp only [fX11_quotientUp, fX11_quotientUp_b15, lit]
        refine ifn (ne) ?_
        rw [ek]
        refine bst (dk) ?_
        rw [hG]
        rfl
      refine bst (o5) ?_
      refine bst (oIv (by rw [e4]) e1) ?_
      refine bst (qu) ?_
      rfl
    by_cases w : G.tdiv (100 * gr r) < 0
    · have wn : iI (G.tdiv (100 * gr r)) < iI 0 := by
        have z := td_abs G (100 * gr r)
        exact (iI_lt (by omega) (by omega) (by omega) (by omega)).mpr w
      have eg : iI (G.tdiv (100 * gr r)) * iI (100 * gr r) + iI 1 = iI (goal G (100 * gr r)) := by
        unfold goal
        rw [if_pos w, iI_mul, iI_add]
      refine bst (o5) ?_
      refine ifn (fun q => by cases q) ?_
      refine bst (oIv (by rw [d4]) f3) ?_
      refine bst (oIv (by rw [d4]) c3) ?_
      refine bst (o5) ?_
      refine bst (oIv (by rw [e4]) e1) ?_
      simp only [iI_mul]
      rw [eG]
      refine bst (vq) ?_
      refine ifp (wn) ?_
      exact fin _ eg
    · have wn : ¬ iI (G.tdiv (100 * gr r)) < iI 0 := fun q => by
        have z := td_abs G (100 * gr r)
        exact w ((iI_lt (by omega) (by omega) (by omega) (by omega)).mp q)
      have eg : (iI (G.tdiv (100 * gr r)) + iI 1) * iI (100 * gr r) = iI (goal G (100 * gr r)) := by
        unfold goal
        rw [if_neg w, iI_add, iI_mul]
      refine bst (o5) ?_
      refine ifn (fun q => by cases q) ?_
      refine bst (oIv (by rw [d4]) f3) ?_
      refine bst (oIv (by rw [d4]) c3) ?_
      refine bst (o5) ?_
      refine bst (oIv (by rw [e4]) e1) ?_
      simp only [iI_mul]
      rw [eG]
      refine bst (vq) ?_
      refine ifn (wn) ?_
      exact fin _ eg
theorem L_stm {N : Nat} {h : Hs} (hS : Sk h) {nr nt nd : Nat} {rA tA dA rT : Nat → Nat} {wy gr hd ds : Nat → Int} {gn : Nat → Bool} {dr td : Nat → Option Nat} {sr dn : Nat → Int} (hD : RDr h nd dA ds) (hR : RRo h nr nt rA tA rT wy gr hd gn) (hC : RTc h nt nr tA dA rA dr td sr dn) (hL : RTl nt nd nr rT dr td) (hdn : ∀ r, r < nr → dr r ≠ none → -1000000000 ≤ dn r ∧ dn r ≤ 1000000000) {d s : Int} (hd1 : d = 1 ∨ d = -1) (s1 : 0 ≤ s) (s2 : s ≤ 10000) : ∀ (e i : Nat) (c : Int) (fu : Nat), i + e = nr → e < fu → 1 ≤ c → c ≤ 9999 → ∃ M, 1 ≤ M ∧ M ≤ c ∧ (∀ r, i ≤ r → r < nr → M ≤ qsr gr ds dn dr d s r) ∧ fX10_stepsToNextMove_b7 N 22 fu h (iI d) (iI s) (iI c) (iI i) = some (iI M, h) := by
  have c3 := hR.1.2.2
  have o9 : oI 5 9 h (some 14) = some (iI nr) := oIv (by rw [ss_14 hS]) hR.1.1
  intro e
  induction e with
  | zero =>
    intro i c fu hi hf c1 c2
    obtain ⟨fu, rfl⟩ : ∃ m, fu = m + 1 := ⟨fu - 1, by omega⟩
    refine ⟨c, c1, Int.le_refl c, fun r r1 r2 => by omega, ?_⟩
    show fX10_stepsToNextMove_b7_body N (fX10_stepsToNextMove_b7 N 22 fu) 22 h (iI d) (iI s) (iI c) (iI i) = _
    have a1 : iI (nr : Int) ≤ iI (i : Int) := (iI_le (by omega) (by omega) (by omega) (by omega)).mpr (by omega)
    simp only [fX10_stepsToNextMove_b7_body]
    refine bst (sR_1000_22 hS) ?_
    refine bst (o9) ?_
    refine ifp (a1) ?_
    rfl
  | succ e ih =>
    intro i c fu hi hf c1 c2
    obtain ⟨fu, rfl⟩ : ∃ m, fu = m + 1 := ⟨fu - 1, by omega⟩
    have a1 : ¬ iI (nr : Int) ≤ iI (i : Int) := fun q => by have := (iI_le (by omega) (by omega) (by omega) (by omega)).mp q; omega
    obtain ⟨⟨d1, d2, d3, d4⟩, -⟩ := hR.2.1 i (by omega)
    have lq : lQ 25 h (some 17) (iI i) = some (some (rA i)) := lQv (ss_17 hS) (by omega) (by omega) d1
    have rc4 : rc 4 h (some (rA i)) = some (rA i) := rcv (by rw [d4])
    obtain ⟨v1, v2, v3⟩ := v_stp (N := N) hD hR hC hL hdn hd1 s1 s2 (r := i) (by omega)
    obtain ⟨y, y1, y2, y3, y4⟩ : ∃ y, (if iI (qsr gr ds dn dr d s i) < iI c then iI (qsr gr ds dn dr d s i) else iI c) = iI y ∧ 1 ≤ y ∧ y ≤ c ∧ y ≤ qsr gr ds dn dr d s i := by
      by_cases q : qsr gr ds dn dr d s i < c
      · exact ⟨_, if_pos ((iI_lt (by omega) (by omega) (by omega) (by omega)).mpr q), v2, by omega, Int.le_refl _⟩
      · exact ⟨_, if_neg (fun z => q ((iI_lt (by omega) (by omega) (by omega) (by omega)).mp z)), c1, Int.le_refl _, by omega⟩
    obtain ⟨M, m1, m2, m3, m4⟩ := ih (i + 1) y fu (by omega) (by omega) y2 (by omega)
    simp only [Int.natCast_add, Int.natCast_one] at m4
    refine ⟨M, m1, by omega, fun r r1 r2 => ?_, ?_⟩
    · by_cases er : r = i
      · rw [er]; omega
      · exact m3 r (by omega) r2
    · show fX10_stepsToNextMove_b7_body N (fX10_stepsToNextMove_b7 N 22 fu) 22 h (iI d) (iI s) (iI c) (iI i) = _
      simp only [fX10_stepsToNextMove_b7_body, lit, iI_add, Option.bind_some]
      refine bst (sR_1000_22 hS) ?_
      refine bst (o9) ?_
      refine ifn (a1) ?_
      refine bst (sR_1000_22 hS) ?_
      refine bst (sR_502_14 hS) ?_
      refine bst (lq) ?_
      refine bst (rc4) ?_
      refine bst (v1) ?_
      rw [y1]
      exact m4
theorem tpl_quiet {nr nt nd : Nat} {rT : Nat → Nat} {pa wy gr ds sr dn : Nat → Int} {dr td : Nat → Option Nat} (hL : RTl nt nd nr rT dr td) {d s M : Int} (hd1 : d = 1 ∨ d = -1) (hg : ∀ r, r < nr → 1 ≤ gr r ∧ gr r ≤ 5) (hs : ∀ e, e < nd → 1 ≤ ds e) (hM : ∀ r, r < nr → M ≤ qsr gr ds dn dr d s r) {j : Int} (j0 : 0 ≤ j) (j1 : j < M) {i : Nat} (hi : i < nt) : tpl pa wy gr sr dn ds dr td (d * (s + j)) i = tpl pa wy gr sr dn ds dr td (d * s) i := by
  unfold tpl
  cases htd : td i with
  | none => rfl
  | some r =>
    obtain ⟨hr, hrt, hne⟩ := hL.2 i r hi htd
    obtain ⟨e, hde⟩ := Option.ne_none_iff_exists'.mp hne
    have hel := (hL.1 r e hr hde).1
    have hq := hM r hr
    simp only [qsr, hde] at hq
    obtain ⟨-, -, k3⟩ := qst_ok (dn := dn r) (g := gr r) (sd := ds e) (d := d) (s := s) (hg r hr).1 (hg r hr).2 (hs e hel) hd1
    have k4 := k3 j j0 (by omega)
    simp only [hde, rpl]
    rw [k4]
/-! ===== turning, the class: look ahead ===== -/
theorem sumF_bd {f : Nat → Int} {B : Int} : ∀ (d i : Nat), (∀ j, i ≤ j → j < i + d → -B ≤ f j ∧ f j ≤ B) → -(B * d) ≤ sumF f i d ∧ sumF f i d ≤ B * d
  | 0, _, _ => by simp [sumF]
  | d + 1, i, q => by
    have h1 := sumF_bd d (i + 1) (fun j a b => q j (by omega) (by omega))
    have h2 := q i (by omega) (by omega)
    have h3 : B * ((d + 1 : Nat) : Int) = B * d + B := by rw [Int.natCast_add, Int.natCast_one, Int.mul_add, Int.mul_one]
    rw [sumF, h3]
    omega
def tpu (wy gr sr tg ds : Nat → Int) (rT : Nat → Nat) (dr : Nat → Option Nat) (nr : Nat) (cw P : Nat → Int) : Int := sumF (fun r => tq wy gr sr tg ds rT dr r (P (rT r))) 0 nr + sumF cw 0 20
theorem tq_bd {wy gr sr tg ds : Nat → Int} {rT : Nat → Nat} {dr : Nat → Option Nat} {r : Nat} {p : Int} (hw : wy r = 1 ∨ wy r = -1) (hg : 1 ≤ gr r) (ht1 : 0 ≤ tg (rT r)) (ht2 : tg (rT r) ≤ 999) (hs : ∀ e, dr r = some e → 1 ≤ ds e ∧ ds e ≤ 20) (hsr : dr r ≠ none → 0 ≤ sr r ∧ sr r ≤ 100) (p1 : 0 ≤ p) (p2 : p ≤ 100) : -120000 ≤ tq wy gr sr tg ds rT dr r p ∧ tq wy gr sr tg ds rT dr r p ≤ 120000 := by
  unfold tq
  cases hdr : dr r with
  | none => simp
  | some e =>
    have h1 := hsr (by rw [hdr]; exact fun q => by cases q)
    have h2 := hs e hdr
    have h3 := tgds ht1 ht2 h2.1 h2.2
    simp only
    rw [Int.tdiv_eq_ediv_of_nonneg h3.1]
    have h4 := Int.ediv_nonneg h3.1 (show 0 ≤ gr r by omega)
    have h5 := Int.ediv_le_self (gr r) h3.1
    generalize tg (rT r) * ds e / gr r = y at *
    have h6 : tg (rT r) * (p - sr r) ≤ tg (rT r) * 100 := Int.mul_le_mul_of_nonneg_left (by omega) ht1
    have h7 : tg (rT r) * (-100) ≤ tg (rT r) * (p - sr r) := Int.mul_le_mul_of_nonneg_left (by omega) ht1
    generalize tg (rT r) * (p - sr r) = x at *
    rcases hw with hw | hw <;> rw [hw] <;> omega
theorem tpu_bd {nr nt nd : Nat} {h : Hs} {rA tA dA rT : Nat → Nat} {wy gr hd ds : Nat → Int} {gn : Nat → Bool} {tl tw tg ls ms pa : Nat → Int} {dr td : Nat → Option Nat} {sr : Nat → Int} (hT : RTo h nt tA tl tw tg ls ms pa) (hD : RDr h nd dA ds) (hR : RRo h nr nt rA tA rT wy gr hd gn) (hL : RTl nt nd nr rT dr td) (hsr : ∀ r, r < nr → dr r ≠ none → 0 ≤ sr r ∧ sr r ≤ 100) {cw P : Nat → Int} (hcw : ∀ i, i < 20 → -9999 ≤ cw i ∧ cw i ≤ 9999) (hb : ∀ i, i < nt → 0 ≤ P i ∧ P i ≤ 100) : -5000000 ≤ tpu wy gr sr tg ds rT dr nr cw P ∧ tpu wy gr sr tg ds rT dr nr cw P ≤ 5000000 := by
  have c3 := hR.1.2.2
  have h1 := sumF_bd (f := fun r => tq wy gr sr tg ds rT dr r (P (rT r))) (B := 120000) nr 0 (fun r _ hr => by
    obtain ⟨-, -, -, q1, q2, q3, q4, q5⟩ := hR.2.1 r (by omega)
    obtain ⟨-, -, -, bb⟩ := hT.2.1 (rT r) q1
    exact tq_bd q2 q3 (by omega) (by omega) (fun e he => (hD.2.1 e (hL.1 r e (by omega) he).1).2.2.2) (hsr r (by omega)) (hb _ q1).1 (hb _ q1).2)
  have h2 := sumF_bd (f := cw) (B := 9999) 20 0 (fun j _ hj => hcw j (by omega))
  unfold tpu
  omega
theorem tpu_congr {nr nt : Nat} {rT : Nat → Nat} {wy gr ds tg : Nat → Int} {dr : Nat → Option Nat} {sr cw P P' : Nat → Int} (hr : ∀ r, r < nr → rT r < nt) (he : ∀ i, i < nt → P i = P' i) : tpu wy gr sr tg ds rT dr nr cw P = tpu wy gr sr tg ds rT dr nr cw P' := by
  unfold tpu
  rw [sumF_congr nr 0 (fun r _ h => by rw [he _ (hr r (by omega))])]
theorem Wh0 {nt : Nat} {ls ms tl tw P : Nat → Int} {pu bd : Int} : Wh nt ls ms tl tw P pu bd 0 (-1) (-1) ↔ (∀ j, j < nt → ¬ Bey ls ms P j) ∧ (∀ i j, i < j → j < nt → ¬ Hit tl tw P i j) ∧ -bd ≤ pu ∧ pu ≤ bd := by
  constructor
  · rintro (⟨i, -, -, -, q, -⟩ | ⟨a0, ⟨i, j, -, -, -, -, -, q, -⟩ | ⟨a1, -, -, ⟨q, -⟩ | ⟨-, q⟩⟩⟩)
    · omega
    · omega
    · omega
    · exact ⟨a0, a1, q⟩
  · rintro ⟨a0, a1, q⟩
    exact Or.inr ⟨a0, Or.inr ⟨a1, rfl, rfl, Or.inr ⟨rfl, q⟩⟩⟩
theorem Wh0_congr {nt : Nat} {ls ms tl tw P P' : Nat → Int} {pu bd : Int} (he : ∀ i, i < nt → P i = P' i) (a : Wh nt ls ms tl tw P pu bd 0 (-1) (-1)) : Wh nt ls ms tl tw P' pu bd 0 (-1) (-1) := by
  obtain ⟨a0, a1, a2⟩ := Wh0.mp a
  refine Wh0.mpr ⟨fun j hj q => a0 j hj ?_, fun i j h1 h2 q => a1 i j h1 h2 ?_, a2⟩
  · unfold Bey at q ⊢
    rw [he j hj]
    exact q
  · unfold Hit at q ⊢
    rw [he i (by omega), he j h2]
    exact q
def tWh (nt : Nat) (ls ms tl tw tg pa wy gr sr dn ds : Nat → Int) (rT : Nat → Nat) (dr td : Nat → Option Nat) (nr : Nat) (cw : Nat → Int) (bd d s k t o : Int) : Prop := Wh nt ls ms tl tw (tpl pa wy gr sr dn ds dr td (d * s)) (tpu wy gr sr tg ds rT dr nr cw (tpl pa wy gr sr dn ds dr td (d * s))) bd k t o
theorem tpl_bd {nr nt nd : Nat} {rT : Nat → Nat} {pa wy gr ds sr dn : Nat → Int} {dr td : Nat → Option Nat} (hL : RTl nt nd nr rT dr td) (hw : ∀ r, r < nr → wy r = 1 ∨ wy r = -1) (hg : ∀ r, r < nr → 1 ≤ gr r) (hs : ∀ e, e < nd → 1 ≤ ds e ∧ ds e ≤ 20) (hdn : ∀ r, r < nr → dr r ≠ none → -1000000000 ≤ dn r ∧ dn r ≤ 1000000000) (hsr : ∀ r, r < nr → dr r ≠ none → 0 ≤ sr r ∧ sr r ≤ 100) (hp : ∀ i, i < nt → 0 ≤ pa i ∧ pa i ≤ 100) {z : Int} (z1 : -100000 ≤ z) (z2 : z ≤ 100000) {i : Nat} (hi : i < nt) : -2000000000 ≤ tpl pa wy gr sr dn ds dr td z i ∧ tpl pa wy gr sr dn ds dr td z i ≤ 2000000000 := by
  unfold tpl
  cases htd : td i with
  | none => have := hp i hi; simp only; omega
  | some r =>
    obtain ⟨hr, hrt, hne⟩ := hL.2 i r hi htd
    obtain ⟨e, hde⟩ := Option.ne_none_iff_exists'.mp hne
    have hel := (hL.1 r e hr hde).1
    have h1 := hs e hel
    have h2 := hdn r hr hne
    have h3 := hsr r hr hne
    simp only [hde, rpl]
    have h4 : ds e * z ≤ ds e * 100000 := Int.mul_le_mul_of_nonneg_left z2 (by omega)
    have h5 : ds e * (-100000) ≤ ds e * z := Int.mul_le_mul_of_nonneg_left z1 (by omega)
    generalize ds e * z = x at *
    have q1 := td_abs (dn r + x) (100 * gr r)
    generalize (dn r + x).tdiv (100 * gr r) = y at *
    rcases hw r hr with w | w <;> rw [w] <;> omega
theorem Ke.w {F F' A A' FR FR' AQ AQ' : List Nat} {h h2 : Hs} (k : Ke F A FR AQ h h2) (h1 : ∀ f ∈ F, f ∈ F') (h3 : ∀ f ∈ A, f ∈ A') (h4 : ∀ f ∈ FR, f ∈ FR') (h5 : ∀ f ∈ AQ, f ∈ AQ') : Ke F' A' FR' AQ' h h2 := ⟨fun f a q => k.1 f a (fun z => q (h1 f z)), fun a q => k.2.1 a (fun z => q (h3 a z)), fun f a q => k.2.2.1 f a (fun z => q (h4 f z)), fun a q => k.2.2.2.1 a (fun z => q (h5 a z)), k.2.2.2.2⟩
theorem L_look {N : Nat} (hN : 100000000 ≤ N) {nr nt nd : Nat} {rA tA dA rT : Nat → Nat} {wy gr hd ds : Nat → Int} {gn : Nat → Bool} {tl tw tg ls ms pa : Nat → Int} {dr td : Nat → Option Nat} {sr dn : Nat → Int} {cw : Nat → Int} {bd : Int} (b1 : 0 ≤ bd) (b2 : bd ≤ 99999) (hL : RTl nt nd nr rT dr td) (hdn : ∀ r, r < nr → dr r ≠ none → -1000000000 ≤ dn r ∧ dn r ≤ 1000000000) (hsr : ∀ r, r < nr → dr r ≠ none → 0 ≤ sr r ∧ sr r ≤ 100) (hcw : ∀ i, i < 20 → -9999 ≤ cw i ∧ cw i ≤ 9999) {d : Int} (hd1 : d = 1 ∨ d = -1) {m : Int} (m0 : 0 ≤ m) (hm : m ≤ 9999) : ∀ (q : Nat) (s : Int) (fu : Nat) (h : Hs), Sk h → 70 ≤ sz h → RTo h nt tA tl tw tg ls ms pa → RDr h nd dA ds → RRo h nr nt rA tA rT wy gr hd gn → RTc h nt nr tA dA rA dr td sr dn → (∀ i, i < 20 → aI h 18 i = iI (cw i)) → gI h 510 14 = iI bd → (gI h 700 24 = iI 0 ∧ gI h 701 24 = iI (-1) ∧ gI h 702 24 = iI (-1)) → 1 ≤ s → s ≤ 30000 → m + 1 - s ≤ q → q < fu → (∀ s', 1 ≤ s' → s' < s → s' ≤ m → tWh nt ls ms tl tw tg pa wy gr sr dn ds rT dr td nr cw bd d s' 0 (-1) (-1)) → ∃ (n k t o : Int) (h' : Hs), fX10_lookAhead_b28 N 22 fu h (iI d) (iI m) (iI s) = some (iI n, h') ∧ Stq m (tWh nt ls ms tl tw tg pa wy gr sr dn ds rT dr td nr cw bd d) n k t o ∧ (gI h' 700 24 = iI k ∧ gI h' 701 24 = iI t ∧ gI h' 702 24 = iI o) ∧ Ke [908, 700, 701, 702] [] [] [] h h' ∧ sz h' = sz h ∧ ∀ f, f ≠ 908 → gI h' f 23 = gI h f 23 := by
  have stop : ∀ (s : Int) (fu : Nat) (h : Hs), m < s → s ≤ 30000 → fX10_lookAhead_b28 N 22 (fu + 1) h (iI d) (iI m) (iI s) = some (iI m, h) := by
    intro s fu h hs hs2
    show fX10_lookAhead_b28_body N (fX10_lookAhead_b28 N 22 fu) 22 h (iI d) (iI m) (iI s) = _
    simp only [fX10_lookAhead_b28_body]
    refine ifp ((iI_lt (by omega) (by omega) (by omega) (by omega)).mpr hs) ?_
    rfl
  intro q
  induction q with
  | zero =>
    intro s fu h hS hz hT hD hR hC hW hB hA s1 s3 hq hf hp
    obtain ⟨fu, rfl⟩ : ∃ m, fu = m + 1 := ⟨fu - 1, by omega⟩
    exact ⟨m, 0, -1, -1, h, stop s fu h (by omega) s3, ⟨m0, Int.le_refl m, fun s' h1 h2 => hp s' h1 (by omega) h2, Or.inl ⟨rfl, rfl, rfl, rfl⟩⟩, hA, Ke_rf, rfl, fun _ _ => rfl⟩
  | succ q ih =>
    intro s fu h hS hz hT hD hR hC hW hB hA s1 s3 hq hf hp
    obtain ⟨fu, rfl⟩ : ∃ m, fu = m + 1 := ⟨fu - 1, by omega⟩
    by_cases hsm : m < s
    · exact ⟨m, 0, -1, -1, h, stop s fu h hsm s3, ⟨m0, Int.le_refl m, fun s' h1 h2 => hp s' h1 (by omega) h2, Or.inl ⟨rfl, rfl, rfl, rfl⟩⟩, hA, Ke_rf, rfl, fun _ _ => rfl⟩
    have c3 := hR.1.2.2
    have ct := hT.1.2.2
    have zb : -100000 ≤ d * s ∧ d * s ≤ 100000 := by rcases hd1 with rfl | rfl <;> omega
    have lp := L_placeo (N := N) hL (k := d * s) zb.1 zb.2 hdn nt 0 N h hS hz hT hD hR hC (by omega) (by omega)
    have ke := Ke_plH tA (tpl pa wy gr sr dn ds dr td (d * s)) nt 0 h
    have sp := sz_plH tA (tpl pa wy gr sr dn ds dr td (d * s)) nt 0 h
    have at' : ∀ i, i < nt → gI (plH tA (tpl pa wy gr sr dn ds dr td (d * s)) 0 nt h) 908 (tA i) = iI (tpl pa wy gr sr dn ds dr td (d * s) i) := fun i hi => plH_at tA _ hT.2.2 nt 0 h i (by omega) (by omega) hi
    generalize plH tA (tpl pa wy gr sr dn ds dr td (d * s)) 0 nt h = h1 at lp ke sp at'
    have hS1 := hS.e hz ke (by decide)
    have hT1 := hT.e hz ke (by decide) (by decide)
    have hD1 := hD.e hz ke (by decide) (by decide) (by decide)
    have hR1 := hR.e hz ke (by decide) (by decide) (by decide) (by decide)
    have hC1 := hC.e hT.lt hR.lt ke (by decide) (by decide)
    have w18 : ∀ i, i < 20 → aI h1 18 i = iI (cw i) := fun i hi => by rw [ke.2.1 18 (by decide) (by omega)]; exact hW i hi
    have hB1 : gI h1 510 14 = iI bd := by rw [ke.1 510 14 (by decide) (by omega)]; exact hB
    have kf : ∀ f, f ≠ 908 → ∀ a, a < 70 → gI h1 f a = gI h f a := fun f hf a ha => ke.1 f a (by simpa using hf) (by omega)
    have hz1 : 70 ≤ sz h1 := by omega
    have kew : Ke [908, 700, 701, 702] [] [] [] h h1 := ke.w (by decide) (by decide) (by decide) (by decide)
    have rc5 : rc 5 h (some 14) = some 14 := rcv (by rw [ss_14 hS])
    have rc51 : rc 5 h1 (some 14) = some 14 := rcv (by rw [ss_14 hS1])
    have rc10 : rc 10 h1 (some 22) = some 22 := rcv (by rw [ss_22 hS1])
    have nsm : ¬ iI m < iI s := fun z => hsm ((iI_lt (by omega) (by omega) (by omega) (by omega)).mp z)
    have pr : fX5_place N h 14 (iI d * iI s) = some h1 := by
      simp only [fX5_place, lit, iI_mul]
      exact lp
    have hbd := fun i hi => tpl_bd (i := i) hL (fun r hr => (hR.2.1 r hr).2.2.2.2.1) (fun r hr => (hR.2.1 r hr).2.2.2.2.2.1) (fun e he => (hD.2.1 e he).2.2.2) hdn hsr (fun i hi => (show 0 ≤ pa i ∧ pa i ≤ 100 by have := (hT.2.1 i hi).2.2.2; omega)) zb.1 zb.2 hi
    have en : s - 1 + 1 = s := by omega
    rcases L_bey (N := N) hS1 hT1 at' hbd nt 0 N (by omega) (by omega) (fun j hj => absurd hj (by omega)) with ⟨j, j1, j2, j3, e1⟩ | ⟨nb, e1⟩
    · have e1' : fX10_isBeyond N h1 22 = some (iI 1, putH h1 24 1 j (-1)) := e1
      refine ⟨s - 1, 1, j, -1, putH h1 24 1 j (-1), ?_, ⟨by omega, by omega, fun s' h1 h2 => hp s' h1 (by omega) (by omega), Or.inr ⟨by omega, ?_, by omega⟩⟩, put_0, kew.tr (Ke_put.w (by decide) (by decide) (by decide) (by decide)), sp, fun f hf => by rw [put_n (by decide), kf f hf 23 (by omega)]⟩
      · show fX10_lookAhead_b28_body N (fX10_lookAhead_b28 N 22 fu) 22 h (iI d) (iI m) (iI s) = _
        simp only [fX10_lookAhead_b28_body, fX10_lookAhead_b73, lit]
        refine ifn (nsm) ?_
        refine bst (sR_1000_22 hS) ?_
        refine bst (rc5) ?_
        refine bst (pr) ?_
        refine bst (rc10) ?_
        refine bst (e1') ?_
        refine ifn (n10) ?_
        rw [iI_sub]
      · rw [en]
        exact Or.inl ⟨j, j1, j2, j3, rfl, rfl, rfl⟩
    have e1' : fX10_isBeyond N h1 22 = some (iI 0, h1) := e1
    have hin : ∀ i, i < nt → 0 ≤ tpl pa wy gr sr dn ds dr td (d * s) i ∧ tpl pa wy gr sr dn ds dr td (d * s) i ≤ 100 := fun i hi => by
      have z1 := Decidable.not_not.mp (nb i hi)
      have z2 := (hT.2.1 i hi).2.2.2
      omega
    rcases L_hit (N := N) hN hS1 hT1 at' hin nt 0 N (by omega) (by omega) (fun i' j' hj => absurd hj (by omega)) with ⟨i0, j0, x1, x2, x3, x4, x5, e2⟩ | ⟨nh, e2⟩
    · have e2' : fX10_isMeeting N h1 22 = some (iI 1, putH h1 24 2 i0 j0) := e2
      refine ⟨s - 1, 2, i0, j0, putH h1 24 2 i0 j0, ?_, ⟨by omega, by omega, fun s' h1 h2 => hp s' h1 (by omega) (by omega), Or.inr ⟨by omega, ?_, by omega⟩⟩, put_0, kew.tr (Ke_put.w (by decide) (by decide) (by decide) (by decide)), sp, fun f hf => by rw [put_n (by decide), kf f hf 23 (by omega)]⟩
      · show fX10_lookAhead_b28_body N (fX10_lookAhead_b28 N 22 fu) 22 h (iI d) (iI m) (iI s) = _
        simp only [fX10_lookAhead_b28_body, fX10_lookAhead_b73, lit]
        refine ifn (nsm) ?_
        refine bst (sR_1000_22 hS) ?_
        refine bst (rc5) ?_
        refine bst (pr) ?_
        refine bst (rc10) ?_
        refine bst (e1') ?_
        refine ifp (rfl) ?_
        refine bst (rc10) ?_
        refine bst (e2') ?_
        refine ifn (n10) ?_
        rw [iI_sub]
      · rw [en]
        exact Or.inr ⟨nb, Or.inl ⟨i0, j0, x1, x2, x3, x4, x5, rfl, rfl, rfl⟩⟩
    have e2' : fX10_isMeeting N h1 22 = some (iI 0, h1) := e2
    have lt := L_trialo hN hS1 hT1 hD1 hR1 hC1 hL w18 at' nr 0 0 N (by omega) (by omega)
    have e3 : fX5_trialPull N h1 14 = some (iI (tpu wy gr sr tg ds rT dr nr cw (tpl pa wy gr sr dn ds dr td (d * s))), h1) := by
      simp only [fX5_trialPull, lit, tpu]
      rw [Int.zero_add] at lt
      exact lt
    obtain ⟨p1, p2⟩ := tpu_bd hT1 hD1 hR1 hL hsr hcw hin
    obtain ⟨u1, u0⟩ := v_uneven (N := N) hS1 p1 p2 b1 b2 hB1
    by_cases pq : bd < tpu wy gr sr tg ds rT dr nr cw (tpl pa wy gr sr dn ds dr td (d * s)) ∨ tpu wy gr sr tg ds rT dr nr cw (tpl pa wy gr sr dn ds dr td (d * s)) < -bd
    · have eu := u1 pq
      refine ⟨s - 1, 3, -1, -1, putH h1 24 3 (-1) (-1), ?_, ⟨by omega, by omega, fun s' h1 h2 => hp s' h1 (by omega) (by omega), Or.inr ⟨by omega, ?_, by omega⟩⟩, put_0, kew.tr (Ke_put.w (by decide) (by decide) (by decide) (by decide)), sp, fun f hf => by rw [put_n (by decide), kf f hf 23 (by omega)]⟩
      · show fX10_lookAhead_b28_body N (fX10_lookAhead_b28 N 22 fu) 22 h (iI d) (iI m) (iI s) = _
        simp only [fX10_lookAhead_b28_body, fX10_lookAhead_b73, lit]
        refine ifn (nsm) ?_
        refine bst (sR_1000_22 hS) ?_
        refine bst (rc5) ?_
        refine bst (pr) ?_
        refine bst (rc10) ?_
        refine bst (e1') ?_
        refine ifp (rfl) ?_
        refine bst (rc10) ?_
        refine bst (e2') ?_
        refine ifp (rfl) ?_
        refine bst (sR_1000_22 hS1) ?_
        refine bst (rc51) ?_
        refine bst (e3) ?_
        refine bst (rc10) ?_
        refine bst (eu) ?_
        refine ifn (n10) ?_
        rw [iI_sub]
      · rw [en]
        exact Or.inr ⟨nb, Or.inr ⟨nh, rfl, rfl, Or.inl ⟨rfl, pq⟩⟩⟩
    have eu := u0 (by omega)
    have ok : tWh nt ls ms tl tw tg pa wy gr sr dn ds rT dr td nr cw bd d s 0 (-1) (-1) := Wh0.mpr ⟨nb, nh, by omega⟩
    obtain ⟨M, M1, M2, M3, M4⟩ := L_stm (N := N) hS1 hD1 hR1 hC1 hL hdn hd1 (s := s) (by omega) (by omega) nr 0 9999 N (by omega) (by omega) (by omega) (by omega)
    have em : fX10_stepsToNextMove N h1 22 (iI d) (iI s) = some (iI M, h1) := M4
    have ey : iI s + (if iI 1 < iI M then iI M else iI 1) = iI (s + M) := by
      by_cases q1 : 1 < M
      · rw [if_pos ((iI_lt (by omega) (by omega) (by omega) (by omega)).mpr q1), iI_add]
      · rw [if_neg (fun z => q1 ((iI_lt (by omega) (by omega) (by omega) (by omega)).mp z)), iI_add]
        have : M = 1 := by omega
        rw [this]
    obtain ⟨n, k, t, o, h2, r1, r2, r3, r4, r5, r6⟩ := ih (s + M) fu h1 hS1 hz1 hT1 hD1 hR1 hC1 w18 hB1 ⟨by rw [kf 700 (by decide) 24 (by omega)]; exact hA.1, by rw [kf 701 (by decide) 24 (by omega)]; exact hA.2.1, by rw [kf 702 (by decide) 24 (by omega)]; exact hA.2.2⟩ (by omega) (by omega) (by omega) (by omega) (fun s' h1 h2 h3 => by
      by_cases q1 : s' < s
      · exact hp s' h1 q1 h3
      · have eq : ∀ i, i < nt → tpl pa wy gr sr dn ds dr td (d * s') i = tpl pa wy gr sr dn ds dr td (d * s) i := fun i hi => by
          have := tpl_quiet hL hd1 (fun r hr => ⟨(hR.2.1 r hr).2.2.2.2.2.1, (hR.2.1 r hr).2.2.2.2.2.2.1⟩) (fun e he => (hD.2.1 e he).2.2.2.1) (fun r hr => M3 r (by omega) hr) (j := s' - s) (by omega) (by omega) hi (pa := pa) (wy := wy) (sr := sr)
          rw [show s + (s' - s) = s' by omega] at this
          exact this
        have epu := tpu_congr (wy := wy) (gr := gr) (ds := ds) (tg := tg) (dr := dr) (sr := sr) (cw := cw) (fun r hr => (hR.2.1 r hr).2.2.2.1) eq
        unfold tWh
        rw [epu]
        exact Wh0_congr (fun i hi => (eq i hi).symm) ok)
    refine ⟨n, k, t, o, h2, ?_, r2, r3, kew.tr r4, r5.trans sp, fun f hf => (r6 f hf).trans (kf f hf 23 (by omega))⟩
    show fX10_lookAhead_b28_body N (fX10_lookAhead_b28 N 22 fu) 22 h (iI d) (iI m) (iI s) = _
    simp only [fX10_lookAhead_b28_body, lit, Option.bind_some]
    refine ifn (nsm) ?_
    refine bst (sR_1000_22 hS) ?_
    refine bst (rc5) ?_
    refine bst (pr) ?_
    refine bst (rc10) ?_
    refine bst (e1') ?_
    refine ifp (rfl) ?_
    refine bst (rc10) ?_
    refine bst (e2') ?_
    refine ifp (rfl) ?_
    refine bst (sR_1000_22 hS1) ?_
    refine bst (rc51) ?_
    refine bst (e3) ?_
    refine bst (rc10) ?_
    refine bst (eu) ?_
    refine ifp (rfl) ?_
    refine bst (rc10) ?_
    refine bst (em) ?_
    rw [ey]
    exact r1
theorem v_look {N : Nat} (hN : 100000000 ≤ N) {h : Hs} (hS : Sk h) (hz : 70 ≤ sz h) {nr nt nd : Nat} {rA tA dA rT : Nat → Nat} {wy gr hd ds : Nat → Int} {gn : Nat → Bool} {tl tw tg ls ms pa : Nat → Int} {dr td : Nat → Option Nat} {sr dn : Nat → Int} (hT : RTo h nt tA tl tw tg ls ms pa) (hD : RDr h nd dA ds) (hR : RRo h nr nt rA tA rT wy gr hd gn) (hC : RTc h nt nr tA dA rA dr td sr dn) {cw : Nat → Int} {bd : Int} (b1 : 0 ≤ bd) (b2 : bd ≤ 99999) (hL : RTl nt nd nr rT dr td) (hdn : ∀ r, r < nr → dr r ≠ none → -1000000000 ≤ dn r ∧ dn r ≤ 1000000000) (hsr : ∀ r, r < nr → dr r ≠ none → 0 ≤ sr r ∧ sr r ≤ 100) (hcw : ∀ i, i < 20 → -9999 ≤ cw i ∧ cw i ≤ 9999) (hW : ∀ i, i < 20 → aI h 18 i = iI (cw i)) (hB : gI h 510 14 = iI bd) {z d m : Int} (z1 : -9999 ≤ z) (z2 : z ≤ 9999) (hdm : (0 ≤ z ∧ d = 1 ∧ m = z) ∨ (z < 0 ∧ d = -1 ∧ m = -z)) : ∃ (n k t o : Int) (h' : Hs), fX10_lookAhead N h 22 (iI z) = some (iI n, h') ∧ Stq m (tWh nt ls ms tl tw tg pa wy gr sr dn ds rT dr td nr cw bd d) n k t o ∧ (gI h' 700 24 = iI k ∧ gI h' 701 24 = iI t ∧ gI h' 702 24 = iI o) ∧ Ke [908, 700, 701, 702] [] [] [] h h' ∧ sz h' = sz h ∧ ∀ f, f ≠ 908 → gI h' f 23 = gI h f 23 := by
  have vp := v_putS (N := N) (h := h) (a := 24) (k := 0) (t := -1) (o := -1) (by rw [ss_24 hS])
  have ke : Ke [700, 701, 702] [] [] [] h (putH h 24 0 (-1) (-1)) := Ke_put
  have p0 : gI (putH h 24 0 (-1) (-1)) 700 24 = iI 0 ∧ gI (putH h 24 0 (-1) (-1)) 701 24 = iI (-1) ∧ gI (putH h 24 0 (-1) (-1)) 702 24 = iI (-1) := put_0
  have pn : ∀ f, gI (putH h 24 0 (-1) (-1)) f 23 = gI h f 23 := fun f => put_n (by decide) f
  have sp : sz (putH h 24 0 (-1) (-1)) = sz h := rfl
  generalize putH h 24 0 (-1) (-1) = h0 at vp ke p0 pn sp
  have hS0 := hS.e hz ke (by decide)
  obtain ⟨n, k, t, o, h2, r1, r2, r3, r4, r5, r6⟩ := L_look (N := N) hN b1 b2 hL hdn hsr hcw (d := d) (by omega) (m := m) (by omega) (by omega) 9999 1 N h0 hS0 (by omega) (hT.e hz ke (by decide) (by decide)) (hD.e hz ke (by decide) (by decide) (by decide)) (hR.e hz ke (by decide) (by decide) (by decide) (by decide)) (hC.e hT.lt hR.lt ke (by decide) (by decide)) (fun i hi => by rw [ke.2.1 18 (by decide) (by omega)]; exact hW i hi) (by rw [ke.1 510 14 (by decide) (by omega)]; exact hB) p0 (by omega) (by omega) (by omega) (by omega) (fun s' h1 h2 => by omega)
  refine ⟨n, k, t, o, h2, ?_, r2, r3, (ke.w (by decide) (by decide) (by decide) (by decide)).tr r4, r5.trans sp, fun f hf => (r6 f hf).trans (pn f)⟩
  have rc7 : rc 7 h (some 24) = some 24 := rcv (by rw [ss_24 hS])
  have b9 : ∀ y : Int32, y = iI m → ((oR 10 2 h (some 22)).bind fun o2 => (rc 7 h o2).bind fun a4 => (fX7_put N h a4 (iI 0) (iI (-1)) (iI (-1))).bind fun r3 => fX10_lookAhead_b28 N 22 N r3 (iI d) y (iI 1)) = some (iI n, h2) := by
    intro y hy
    rw [hy]
    refine bst (sR_1002_22 hS) ?_
    refine bst (rc7) ?_
    refine bst (vp) ?_
    exact r1
  simp only [fX10_lookAhead, fX10_lookAhead_b9, lit, iI_neg, Option.bind_some]
  rcases hdm with ⟨q, rfl, rfl⟩ | ⟨q, rfl, rfl⟩
  · have q1 : iI 0 ≤ iI m := (iI_le (by omega) (by omega) (by omega) (by omega)).mpr q
    rw [if_pos q1, if_pos q1]
    exact b9 _ rfl
  · have q1 : ¬ iI 0 ≤ iI z := fun w => by have := (iI_le (by omega) (by omega) (by omega) (by omega)).mp w; omega
    rw [if_neg q1, if_neg q1]
    exact b9 _ (by rw [iI_sub, Int.zero_sub])
/-! ===== turning, the class: the steps are done ===== -/
/-- what rope r has done after z steps more -/
def dnz (ds dn : Nat → Int) (dr : Nat → Option Nat) (z : Int) (r : Nat) : Int := match dr r with
  | none => dn r
  | some e => dn r + ds e * z
def dnj (ds dn : Nat → Int) (dr : Nat → Option Nat) (z : Int) (j : Nat) (r : Nat) : Int := if r < j then dnz ds dn dr z r else dn r
def paj (pa wy gr sr dn ds : Nat → Int) (dr td : Nat → Option Nat) (z : Int) (j : Nat) (i : Nat) : Int := match td i with
  | none => pa i
  | some r => if r < j then tpl pa wy gr sr dn ds dr td z i else pa i
theorem L_adv {N : Nat} {nr nt nd : Nat} {rT : Nat → Nat} {pa wy gr ds sr dn : Nat → Int} {dr td : Nat → Option Nat} {rA tA dA : Nat → Nat} {hd : Nat → Int} {gn : Nat → Bool} (hL : RTl nt nd nr rT dr td) (ti : ∀ i j, i < nt → j < nt → tA i = tA j → i = j) {z : Int} (z1 : -100000 ≤ z) (z2 : z ≤ 100000) (hdn : ∀ r, r < nr → dr r ≠ none → -1000000000 ≤ dn r ∧ dn r ≤ 1000000000) : ∀ (e j fu : Nat) (h : Hs), Sk h → 70 ≤ sz h → (∀ i, i < nt → tA i < sz h ∧ sh h (tA i) = (9, 0)) → RDr h nd dA ds → RRo h nr nt rA tA rT wy gr hd gn → RTc h nt nr tA dA rA dr td sr (dnj ds dn dr z j) → (∀ i, i < nt → gI h 907 (tA i) = iI (paj pa wy gr sr dn ds dr td z j i)) → j + e = nr → e < fu → ∃ h', fX5_advance_b2 N 14 fu h (iI z) (iI j) = some h' ∧ Ke [407, 907, 511, 512] [] [] [] h h' ∧ sz h' = sz h ∧ RTc h' nt nr tA dA rA dr td sr (dnj ds dn dr z nr) ∧ (∀ i, i < nt → gI h' 907 (tA i) = iI (paj pa wy gr sr dn ds dr td z nr i)) ∧ gI h' 511 14 = gI h 511 14 + iI z ∧ gI h' 512 14 = gI h 512 14 + iI (if 0 ≤ z then z else -z) := by
  intro e
  induction e with
  | zero =>
    intro j fu h hS hz hTA hD hR hC hP hj hf
    obtain ⟨fu, rfl⟩ : ∃ m, fu = m + 1 := ⟨fu - 1, by omega⟩
    have ej : j = nr := by omega
    subst ej
    have c3 := hR.1.2.2
    have o9 : oI 5 9 h (some 14) = some (iI j) := oIv (by rw [ss_14 hS]) hR.1.1
    have a1 : iI (j : Int) ≤ iI (j : Int) := Int32.le_refl _
    have ab : (if iI 0 ≤ iI z then iI z else iI 0 - iI z) = iI (if 0 ≤ z then z else -z) := by
      by_cases q : 0 ≤ z
      · rw [if_pos q, if_pos ((iI_le (by omega) (by omega) (by omega) (by omega)).mpr q)]
      · rw [if_neg q, if_neg (fun w => q ((iI_le (by omega) (by omega) (by omega) (by omega)).mp w)), iI_sub, Int.zero_sub]
    obtain ⟨h1, eh1⟩ : ∃ h1, h1 = uI h 511 14 (gI h 511 14 + iI z) := ⟨_, rfl⟩
    obtain ⟨h2, eh2⟩ : ∃ h2, h2 = uI h1 512 14 (gI h 512 14 + iI (if 0 ≤ z then z else -z)) := ⟨_, rfl⟩
    have ke : Ke [511, 512] [] [] [] h h2 := by rw [eh2, eh1]; exact (Ke_rf.u 511 14 _ (by decide)).u 512 14 _ (by decide)
    have g12 : gI h1 512 14 = gI h 512 14 := by rw [eh1]; simp [HR]
    refine ⟨h2, ?_, ke.w (by decide) (by decide) (by decide) (by decide), by rw [eh2, eh1]; rfl, hC.e (fun i hi => (hTA i hi).1) hR.lt ke (by decide) (by decide), fun i hi => by rw [ke.1 907 _ (by decide) (hTA i hi).1]; exact hP i hi, by rw [eh2, eh1]; simp [HR], by rw [eh2]; simp [HR]⟩
    show fX5_advance_b2_body N (fX5_advance_b2 N 14 fu) 14 h (iI z) (iI j) = _
    simp only [fX5_advance_b2_body, lit]
    refine bst (o9) ?_
    refine ifp (a1) ?_
    refine bst (oIv (by rw [ss_14 hS]) rfl) ?_
    refine bst (qIv (by rw [ss_14 hS])) ?_
    rw [ab]
    rw [← eh1]
    refine bst (oIv (by rw [eh1, sh_uI, ss_14 hS]) g12) ?_
    refine bst (qIv (by rw [eh1, sh_uI, ss_14 hS])) ?_
    rw [eh2]
  | succ e ih =>
    intro j fu h hS hz hTA hD hR hC hP hj hf
    obtain ⟨fu, rfl⟩ : ∃ m, fu = m + 1 := ⟨fu - 1, by omega⟩
    have c3 := hR.1.2.2
    have o9 : oI 5 9 h (some 14) = some (iI nr) := oIv (by rw [ss_14 hS]) hR.1.1
    have a1 : ¬ iI (nr : Int) ≤ iI (j : Int) := fun q => by have := (iI_le (by omega) (by omega) (by omega) (by omega)).mp q; omega
    obtain ⟨⟨d1, d2, d3, d4⟩, ⟨f0, f1, f2, f3, f4, f8⟩, -, q1, q2, q3, q4, q5⟩ := hR.2.1 j (by omega)
    have lq : lQ 25 h (some 17) (iI j) = some (some (rA j)) := lQv (ss_17 hS) (by omega) (by omega) d1
    have rc4 : rc 4 h (some (rA j)) = some (rA j) := rcv (by rw [d4])
    obtain ⟨c1, c2⟩ := hC.1 j (by omega)
    have st : ∀ h1, fX4_advance N h (rA j) (iI z) = some h1 → fX5_advance_b2 N 14 (fu + 1) h (iI z) (iI j) = fX5_advance_b2 N 14 fu h1 (iI z) (iI ((j : Int) + 1)) := by
      intro h1 ea
      show fX5_advance_b2_body N (fX5_advance_b2 N 14 fu) 14 h (iI z) (iI j) = _
      simp only [fX5_advance_b2_body, lit, iI_add, Option.bind_some]
      refine bst (o9) ?_
      refine ifn (a1) ?_
      refine bst (sR_502_14 hS) ?_
      refine bst (lq) ?_
      refine bst (rc4) ?_
      refine bst (ea) ?_
      rfl
    cases hdr : dr j with
    | none =>
      rw [hdr] at c1
      have ea : fX4_advance N h (rA j) (iI z) = some h := by
        simp only [fX4_advance, fX4_advance_b35]
        refine bst (oRv (by rw [d4]) c1) ?_
        refine ifp (rfl) ?_
        rfl
      obtain ⟨h', k1, k2, k3, k4, k5, k6, k7⟩ := ih (j + 1) fu h hS hz hTA hD hR (by
        refine ⟨fun r hr => ⟨(hC.1 r hr).1, fun hne => ?_⟩, hC.2⟩
        have er : r ≠ j := fun q => hne (by rw [q]; exact hdr)
        have e9 : dnj ds dn dr z (j + 1) r = dnj ds dn dr z j r := by
          unfold dnj
          by_cases q : r < j
          · rw [if_pos q, if_pos (by omega)]
          · rw [if_neg q, if_neg (by omega)]
        rw [e9]
        exact (hC.1 r hr).2 hne) (fun i hi => by
        rw [hP i hi]
        unfold paj
        cases htd : td i with
        | none => rfl
        | some r =>
          have er : r ≠ j := fun q => (hL.2 i r hi htd).2.2 (by rw [q]; exact hdr)
          by_cases q : r < j
          · simp only [if_pos q, if_pos (show r < j + 1 by omega)]
          · simp only [if_neg q, if_neg (show ¬ r < j + 1 by omega)]) (by omega) (by omega)
      simp only [Int.natCast_add, Int.natCast_one] at k1
      exact ⟨h', (st h ea).trans k1, k2, k3, k4, k5, k6, k7⟩
    | some e0 =>
      have hne : dr j ≠ none := by rw [hdr]; exact fun q => by cases q
      have hel := (hL.1 j e0 (by omega) hdr).1
      have htj := (hL.1 j e0 (by omega) hdr).2
      obtain ⟨-, -, -, e5, e6⟩ := hD.2.1 e0 hel
      obtain ⟨s6, s7⟩ := c2 hne
      have hjj : dnj ds dn dr z j j = dn j := if_neg (Nat.lt_irrefl j)
      have da := v_doneAfter (N := N) hR hD hC (show j < nr by omega) hdr hel (k := z)
      rw [hjj] at da
      have nb := hdn j (by omega) hne
      have b4 : ds e0 * z ≤ ds e0 * 100000 := Int.mul_le_mul_of_nonneg_left z2 (by omega)
      have b5 : ds e0 * (-100000) ≤ ds e0 * z := Int.mul_le_mul_of_nonneg_left z1 (by omega)
      have enz : dnz ds dn dr z j = dn j + ds e0 * z := by simp [dnz, hdr]
      obtain ⟨h4, eh4⟩ : ∃ h4, h4 = uI h 407 (rA j) (iI (dn j + ds e0 * z)) := ⟨_, rfl⟩
      have ke4 : Ke [407] [] [] [] h h4 := by rw [eh4]; exact Ke_rf.u 407 _ _ (by decide)
      have sz4 : sz h4 = sz h := by rw [eh4]; rfl
      have sh4 : ∀ a, sh h4 a = sh h a := by intro a; rw [eh4]; rfl
      have hS4 := hS.e hz ke4 (by decide)
      have hR4 := hR.e hz ke4 (by decide) (by decide) (by decide) (by decide)
      obtain ⟨-, ⟨x0, x1, x2, x3, x4, x8⟩, -⟩ := hR4.2.1 j (by omega)
      have d44 : sh h4 (rA j) = (4, 0) := by rw [sh4]; exact d4
      have pf := v_placeFrom (N := N) hR4 (show j < nr by omega) (p := sr j) (q := dn j + ds e0 * z) (by omega) (by omega)
      have g46 : gI h4 406 (rA j) = iI (sr j) := by rw [ke4.1 406 _ (by decide) d3]; exact s6
      have g47 : gI h4 407 (rA j) = iI (dn j + ds e0 * z) := by rw [eh4]; simp [HR]
      obtain ⟨h5, eh5⟩ : ∃ h5, h5 = uI h4 907 (tA (rT j)) (iI (sr j + wy j * (dn j + ds e0 * z).tdiv (100 * gr j))) := ⟨_, rfl⟩
      have ke5 : Ke [907] [] [] [] h4 h5 := by rw [eh5]; exact Ke_rf.u 907 _ _ (by decide)
      have sz5 : sz h5 = sz h := by rw [eh5]; exact sz4
      have ke : Ke [407, 907, 511, 512] [] [] [] h h5 := (ke4.w (by decide) (by decide) (by decide) (by decide)).tr (ke5.w (by decide) (by decide) (by decide) (by decide))
      have ea : fX4_advance N h (rA j) (iI z) = some h5 := by
        have o5 : oR 4 5 h (some (rA j)) = some (some (dA e0)) := oRv (by rw [d4]) (by rw [c1, hdr]; rfl)
        simp only [fX4_advance, fX4_advance_b35]
        refine bst (o5) ?_
        refine ifn (fun q => by cases q) ?_
        refine bst (rc4) ?_
        refine bst (da) ?_
        refine bst (qIv (by rw [d4])) ?_
        rw [← eh4]
        refine bst (oRv (by rw [d44]) x1) ?_
        refine bst (oIv (by rw [d44]) g46) ?_
        refine bst (oIv (by rw [d44]) g47) ?_
        refine bst (rcv (by rw [d44])) ?_
        refine bst (pf) ?_
        refine bst (qIv (by rw [sh4, (hTA _ q1).2])) ?_
        rw [eh5]
      have hS5 := hS.e hz ke (by decide)
      have sh5 : ∀ a, sh h5 a = sh h a := by intro a; rw [eh5]; exact sh4 a
      obtain ⟨h', k1, k2, k3, k4, k5, k6, k7⟩ := ih (j + 1) fu h5 hS5 (by omega) (fun i hi => by rw [sz5, sh5]; exact hTA i hi) (hD.e hz ke (by decide) (by decide) (by decide)) (hR.e hz ke (by decide) (by decide) (by decide) (by decide)) (by
        refine ⟨fun r hr => ?_, fun i hi => ?_⟩
        · have hr3 := (hR.2.1 r hr).1.2.2.1
          rw [ke.2.2.1 405 _ (by decide) hr3, ke.1 406 _ (by decide) hr3]
          refine ⟨(hC.1 r hr).1, fun hn => ⟨((hC.1 r hr).2 hn).1, ?_⟩⟩
          rw [ke5.1 407 _ (by decide) (by omega)]
          by_cases er : r = j
          · rw [er, g47]
            unfold dnj
            rw [if_pos (by omega), enz]
          · have na : ¬ rA r = rA j := fun q => er (hR.2.2 r j hr (by omega) q)
            have e9 : dnj ds dn dr z (j + 1) r = dnj ds dn dr z j r := by
              unfold dnj
              by_cases q : r < j
              · rw [if_pos q, if_pos (by omega)]
              · rw [if_neg q, if_neg (by omega)]
            rw [e9, ← ((hC.1 r hr).2 hn).2, eh4]
            simp [HR, na]
        · rw [ke.2.2.1 909 _ (by decide) (hTA i hi).1]
          exact hC.2 i hi) (fun i hi => by
        by_cases er : i = rT j
        · rw [er, eh5]
          have ep : paj pa wy gr sr dn ds dr td z (j + 1) (rT j) = sr j + wy j * (dn j + ds e0 * z).tdiv (100 * gr j) := by
            simp only [paj, htj, if_pos (Nat.lt_succ_self j), tpl, hdr, rpl]
          rw [ep]
          simp [HR]
        · have na : ¬ tA i = tA (rT j) := fun q => er (ti i (rT j) hi q1 q)
          have g5 : gI h5 907 (tA i) = gI h 907 (tA i) := by
            rw [eh5, eh4]
            simp [HR, na]
          rw [g5, hP i hi]
          unfold paj
          cases htd : td i with
          | none => rfl
          | some r =>
            have er2 : r ≠ j := fun q => er (by rw [← (hL.2 i r hi htd).2.1, q])
            by_cases q : r < j
            · simp only [if_pos q, if_pos (show r < j + 1 by omega)]
            · simp only [if_neg q, if_neg (show ¬ r < j + 1 by omega)]) (by omega) (by omega)
      simp only [Int.natCast_add, Int.natCast_one] at k1
      have g51 : gI h5 511 14 = gI h 511 14 := by rw [eh5, eh4]; simp [HR]
      have g52 : gI h5 512 14 = gI h 512 14 := by rw [eh5, eh4]; simp [HR]
      exact ⟨h', (st h5 ea).trans k1, ke.tr k2, k3.trans sz5, k4, k5, by rw [k6, g51], by rw [k7, g52]⟩
theorem v_adv {N : Nat} (hN : 100000000 ≤ N) {h : Hs} (hS : Sk h) (hz : 70 ≤ sz h) {nr nt nd : Nat} {rA tA dA rT : Nat → Nat} {wy gr hd ds : Nat → Int} {gn : Nat → Bool} {tl tw tg ls ms pa : Nat → Int} {dr td : Nat → Option Nat} {sr dn : Nat → Int} (hT : RTo h nt tA tl tw tg ls ms pa) (hD : RDr h nd dA ds) (hR : RRo h nr nt rA tA rT wy gr hd gn) (hC : RTc h nt nr tA dA rA dr td sr dn) (hL : RTl nt nd nr rT dr td) (hdn : ∀ r, r < nr → dr r ≠ none → -1000000000 ≤ dn r ∧ dn r ≤ 1000000000) {z : Int} (z1 : -100000 ≤ z) (z2 : z ≤ 100000) : ∃ h', fX5_advance N h 14 (iI z) = some h' ∧ Ke [407, 907, 511, 512] [] [] [] h h' ∧ sz h' = sz h ∧ RTc h' nt nr tA dA rA dr td sr (dnz ds dn dr z) ∧ (∀ i, i < nt → gI h' 907 (tA i) = iI (tpl pa wy gr sr dn ds dr td z i)) ∧ gI h' 511 14 = gI h 511 14 + iI z ∧ gI h' 512 14 = gI h 512 14 + iI (if 0 ≤ z then z else -z) := by
  have c3 := hR.1.2.2
  have e0 : dnj ds dn dr z 0 = dn := by
    funext r
    unfold dnj
    rw [if_neg (Nat.not_lt_zero r)]
  obtain ⟨h', k1, k2, k3, k4, k5, k6, k7⟩ := L_adv (N := N) (pa := pa) (wy := wy) (gr := gr) (hd := hd) (gn := gn) hL hT.2.2 z1 z2 hdn nr 0 N h hS hz (fun i hi => ⟨hT.lt i hi, (hT.2.1 i hi).1.2.2.2⟩) hD hR (by rw [e0]; exact hC) (fun i hi => by
    have ep : paj pa wy gr sr dn ds dr td z 0 i = pa i := by
      unfold paj
      cases td i with
      | none => rfl
      | some r => simp
    rw [ep]
    exact (hT.2.1 i hi).2.1.2.2.2.2.2.2) (by omega) (by omega)
  refine ⟨h', k1, k2, k3, ⟨fun r hr => ⟨(k4.1 r hr).1, fun hn => ?_⟩, k4.2⟩, fun i hi => ?_, k6, k7⟩
  · have := (k4.1 r hr).2 hn
    unfold dnj at this
    rw [if_pos hr] at this
    exact this
  · rw [k5 i hi]
    unfold paj tpl
    cases htd : td i with
    | none => rfl
    | some r => simp only [if_pos (hL.2 i r hi htd).1]
/-- the class turns -/
theorem v_turnBy {N : Nat} (hN : 100000000 ≤ N) {h : Hs} (hS : Sk h) (hz : 70 ≤ sz h) {nr nt nd : Nat} {rA tA dA rT : Nat → Nat} {wy gr hd ds : Nat → Int} {gn : Nat → Bool} {tl tw tg ls ms pa : Nat → Int} {dr td : Nat → Option Nat} {sr dn : Nat → Int} (hT : RTo h nt tA tl tw tg ls ms pa) (hD : RDr h nd dA ds) (hR : RRo h nr nt rA tA rT wy gr hd gn) (hC : RTc h nt nr tA dA rA dr td sr dn) {cw : Nat → Int} {bd : Int} (b1 : 0 ≤ bd) (b2 : bd ≤ 99999) (hL : RTl nt nd nr rT dr td) (hdn : ∀ r, r < nr → dr r ≠ none → -1000000000 ≤ dn r ∧ dn r ≤ 1000000000) (hsr : ∀ r, r < nr → dr r ≠ none → 0 ≤ sr r ∧ sr r ≤ 100) (hcw : ∀ i, i < 20 → -9999 ≤ cw i ∧ cw i ≤ 9999) (hW : ∀ i, i < 20 → aI h 18 i = iI (cw i)) (hB : gI h 510 14 = iI bd) {z d m : Int} (z1 : -9999 ≤ z) (z2 : z ≤ 9999) (hdm : (0 ≤ z ∧ d = 1 ∧ m = z) ∨ (z < 0 ∧ d = -1 ∧ m = -z)) : ∃ (n k t o : Int) (h' : Hs), fX10_turnBy N h 22 (iI z) = some (iI n, h') ∧ Stq m (tWh nt ls ms tl tw tg pa wy gr sr dn ds rT dr td nr cw bd d) n k t o ∧ (gI h' 700 23 = iI k ∧ gI h' 701 23 = iI t ∧ gI h' 702 23 = iI o) ∧ Ke [908, 700, 701, 702, 407, 907, 511, 512] [] [] [] h h' ∧ sz h' = sz h ∧ RTc h' nt nr tA dA rA dr td sr (dnz ds dn dr (d * n)) ∧ (∀ i, i < nt → gI h' 907 (tA i) = iI (tpl pa wy gr sr dn ds dr td (d * n) i)) ∧ gI h' 511 14 = gI h 511 14 + iI (d * n) ∧ gI h' 512 14 = gI h 512 14 + iI n := by
  obtain ⟨n, k, t, o, h1, r1, r2, ⟨r3, r3b, r3c⟩, r4, r5, r6⟩ := v_look hN hS hz hT hD hR hC b1 b2 hL hdn hsr hcw hW hB z1 z2 hdm
  have hS1 := hS.e hz r4 (by decide)
  have hz1 : 70 ≤ sz h1 := by omega
  have vp := v_putS (N := N) (h := h1) (a := 23) (k := k) (t := t) (o := o) (by rw [ss_23 hS1])
  have ke : Ke [700, 701, 702] [] [] [] h1 (putH h1 23 k t o) := Ke_put
  have p0 : gI (putH h1 23 k t o) 700 23 = iI k ∧ gI (putH h1 23 k t o) 701 23 = iI t ∧ gI (putH h1 23 k t o) 702 23 = iI o := put_0
  have sp : sz (putH h1 23 k t o) = sz h1 := rfl
  generalize putH h1 23 k t o = h2 at vp ke p0 sp
  have ke2 : Ke [908, 700, 701, 702] [] [] [] h h2 := r4.tr (ke.w (by decide) (by decide) (by decide) (by decide))
  have hS2 := hS.e hz ke2 (by decide)
  have n1 := r2.1
  have n2 := r2.2.1
  have zb : -100000 ≤ d * n ∧ d * n ≤ 100000 := by rcases hdm with ⟨_, rfl, _⟩ | ⟨_, rfl, _⟩ <;> omega
  obtain ⟨h3, k1, k2, k3, k4, k5, k6, k7⟩ := v_adv hN hS2 (by omega) (hT.e hz ke2 (by decide) (by decide)) (hD.e hz ke2 (by decide) (by decide) (by decide)) (hR.e hz ke2 (by decide) (by decide) (by decide) (by decide)) (hC.e hT.lt hR.lt ke2 (by decide) (by decide)) hL hdn zb.1 zb.2
  refine ⟨n, k, t, o, h3, ?_, r2, ⟨by rw [k2.1 700 23 (by decide) (by omega)]; exact p0.1, by rw [k2.1 701 23 (by decide) (by omega)]; exact p0.2.1, by rw [k2.1 702 23 (by decide) (by omega)]; exact p0.2.2⟩, (ke2.w (by decide) (by decide) (by decide) (by decide)).tr (k2.w (by decide) (by decide) (by decide) (by decide)), by rw [k3, sp, r5], k4, k5, by rw [k6, ke2.1 511 14 (by decide) (by omega)], ?_⟩
  · have rc10 : rc 10 h (some 22) = some 22 := rcv (by rw [ss_22 hS])
    have rc7 : rc 7 h1 (some 23) = some 23 := rcv (by rw [ss_23 hS1])
    have rc5 : rc 5 h2 (some 14) = some 14 := rcv (by rw [ss_14 hS2])
    have r1002 := sR_1002_22 hS1
    simp only [fX10_turnBy, fX10_turnBy_b48, lit]
    rcases hdm with ⟨q, rfl, rfl⟩ | ⟨q, rfl, rfl⟩
    · have q1 : iI 0 ≤ iI m := (iI_le (by omega) (by omega) (by omega) (by omega)).mpr q
      rw [Int.one_mul] at k1
      refine bst (rc10) ?_
      refine bst (r1) ?_
      refine bst (sR_1001_22 hS1) ?_
      refine bst (r1002) ?_
      refine bst (oIv (by rw [ss_24 hS1]) r3) ?_
      refine bst (r1002) ?_
      refine bst (oIv (by rw [ss_24 hS1]) r3b) ?_
      refine bst (r1002) ?_
      refine bst (oIv (by rw [ss_24 hS1]) r3c) ?_
      refine bst (rc7) ?_
      refine bst (vp) ?_
      refine bst (sR_1000_22 hS2) ?_
      refine ifp (q1) ?_
      refine bst (rc5) ?_
      refine bst (k1) ?_
      rfl
    · have q1 : ¬ iI 0 ≤ iI z := fun w => by have := (iI_le (by omega) (by omega) (by omega) (by omega)).mp w; omega
      rw [Int.neg_one_mul, ← iI_neg] at k1
      refine bst (rc10) ?_
      refine bst (r1) ?_
      refine bst (sR_1001_22 hS1) ?_
      refine bst (r1002) ?_
      refine bst (oIv (by rw [ss_24 hS1]) r3) ?_
      refine bst (r1002) ?_
      refine bst (oIv (by rw [ss_24 hS1]) r3b) ?_
      refine bst (r1002) ?_
      refine bst (oIv (by rw [ss_24 hS1]) r3c) ?_
      refine bst (rc7) ?_
      refine bst (vp) ?_
      refine bst (sR_1000_22 hS2) ?_
      refine ifn (q1) ?_
      refine bst (rc5) ?_
      refine bst (k1) ?_
      rfl
  · rw [k7, ke2.1 512 14 (by decide) (by omega)]
    have : (if 0 ≤ d * n then d * n else -(d * n)) = n := by
      rcases hdm with ⟨_, rfl, _⟩ | ⟨_, rfl, _⟩
      · rw [Int.one_mul, if_pos n1]
      · rw [Int.neg_one_mul]
        by_cases w : 0 ≤ -n
        · rw [if_pos w]; omega
        · rw [if_neg w]; omega
    rw [this]
/-! ===== turning, the reference: a step is done ===== -/
def RTq (h : Hs) (nt : Nat) (tl tw tg ls ms : Nat → Int) : Prop := (gI h 1201 29 = iI nt ∧ nt ≤ 40) ∧ ∀ i, i < nt → (aI h 30 i = iI (tl i) ∧ aI h 31 i = iI (tw i) ∧ aI h 32 i = iI (tg i) ∧ aI h 34 i = iI (ls i) ∧ aI h 35 i = iI (ms i)) ∧ (0 ≤ tl i ∧ tl i ≤ 15 ∧ 1 ≤ tw i ∧ tw i ≤ 60 ∧ 0 ≤ tg i ∧ tg i ≤ 999 ∧ 0 ≤ ls i ∧ ls i ≤ ms i ∧ ms i + tw i ≤ 100)
theorem RTh.q {h : Hs} {nt : Nat} {tA : Nat → Nat} {tl tw tg ls ms pa : Nat → Int} (hT : RTh h nt tA tl tw tg ls ms pa) : RTq h nt tl tw tg ls ms := ⟨⟨hT.1.2.1, hT.1.2.2⟩, fun i hi => by
  obtain ⟨-, -, ⟨g0, g1, g2, g3, g4, g5⟩, bb⟩ := hT.2.1 i hi
  exact ⟨⟨g0, g1, g2, g4, g5⟩, by omega⟩⟩
theorem RTq.e {F A FR AQ : List Nat} {h h2 : Hs} {nt : Nat} {tl tw tg ls ms : Nat → Int} (hC : RTq h nt tl tw tg ls ms) (hz : 70 ≤ sz h) (k : Ke F A FR AQ h h2) (hF : 1201 ∉ F) (hA : ∀ a ∈ [30, 31, 32, 34, 35], a ∉ A) : RTq h2 nt tl tw tg ls ms := by
  refine ⟨⟨by rw [k.1 _ _ hF (by omega)]; exact hC.1.1, hC.1.2⟩, fun i hi => ⟨?_, (hC.2 i hi).2⟩⟩
  rw [k.2.1 _ (hA 30 (by decide)) (by omega), k.2.1 _ (hA 31 (by decide)) (by omega), k.2.1 _ (hA 32 (by decide)) (by omega), k.2.1 _ (hA 34 (by decide)) (by omega), k.2.1 _ (hA 35 (by decide)) (by omega)]
  exact (hC.2 i hi).1
def dnk (ds dn : Nat → Int) (dr : Nat → Option Nat) (z y : Int) (j : Nat) (r : Nat) : Int := if r < j then dnz ds dn dr y r else dnz ds dn dr z r
def pak (pa wy gr sr dn ds : Nat → Int) (dr td : Nat → Option Nat) (z y : Int) (j : Nat) (i : Nat) : Int := match td i with
  | none => pa i
  | some r => if r < j then tpl pa wy gr sr dn ds dr td y i else tpl pa wy gr sr dn ds dr td z i
theorem L_plM {N : Nat} {nr nt nd : Nat} {rT : Nat → Nat} {pa wy gr ds sr dn : Nat → Int} {dr td : Nat → Option Nat} {rA tA dA : Nat → Nat} {hd : Nat → Int} {gn : Nat → Bool} (hL : RTl nt nd nr rT dr td) (hnt : nt ≤ 40) {z y : Int} (z1 : -100000 ≤ y) (z2 : y ≤ 100000) (hdn : ∀ r, r < nr → dr r ≠ none → -1000000000 ≤ dn r ∧ dn r ≤ 1000000000) : ∀ (e j fu : Nat) (h : Hs), Sk h → 70 ≤ sz h → RDr h nd dA ds → RRo h nr nt rA tA rT wy gr hd gn → RTm h nr rT dr sr (dnk ds dn dr z y j) → (∀ i, i < nt → aI h 33 i = iI (pak pa wy gr sr dn ds dr td z y j i)) → j + e = nr → e < fu → ∃ h', fX12_place_b2 N 29 fu h (iI (y - z)) (iI j) = some h' ∧ Ke [] [33, 43] [] [] h h' ∧ sz h' = sz h ∧ RTm h' nr rT dr sr (dnk ds dn dr z y nr) ∧ (∀ i, i < nt → aI h' 33 i = iI (pak pa wy gr sr dn ds dr td z y nr i)) := by
  intro e
  induction e with
  | zero =>
    intro j fu h hS hz hD hR hM hP hj hf
    obtain ⟨fu, rfl⟩ : ∃ m, fu = m + 1 := ⟨fu - 1, by omega⟩
    have ej : j = nr := by omega
    subst ej
    have o9 : oI 12 11 h (some 29) = some (iI j) := oIv (by rw [ss_29 hS]) hR.1.2.1
    have a1 : iI (j : Int) ≤ iI (j : Int) := Int32.le_refl _
    refine ⟨h, ?_, Ke_rf, rfl, hM, hP⟩
    show fX12_place_b2_body N (fX12_place_b2 N 29 fu) 29 h (iI (y - z)) (iI j) = _
    simp only [fX12_place_b2_body]
    refine bst (o9) ?_
    refine ifp (a1) ?_
    rfl
  | succ e ih =>
    intro j fu h hS hz hD hR hM hP hj hf
    obtain ⟨fu, rfl⟩ : ∃ m, fu = m + 1 := ⟨fu - 1, by omega⟩
    have c3 := hR.1.2.2
    have cd := hD.1.2.2
    have o9 : oI 12 11 h (some 29) = some (iI nr) := oIv (by rw [ss_29 hS]) hR.1.2.1
    have a1 : ¬ iI (nr : Int) ≤ iI (j : Int) := fun q => by have := (iI_le (by omega) (by omega) (by omega) (by omega)).mp q; omega
    obtain ⟨-, -, ⟨f0, f1, f2, f3, f4⟩, q1, q2, q3, q4, q5⟩ := hR.2.1 j (by omega)
    obtain ⟨m1, m2⟩ := hM j (by omega)
    cases hdr : dr j with
    | none =>
      rw [hdr] at m1
      simp only [od] at m1
      have w2 : ¬ iI 0 ≤ iI (-1) := by decide
      have st : fX12_place_b2 N 29 (fu + 1) h (iI (y - z)) (iI j) = fX12_place_b2 N 29 fu h (iI (y - z)) (iI ((j : Int) + 1)) := by
        show fX12_place_b2_body N (fX12_place_b2 N 29 fu) 29 h (iI (y - z)) (iI j) = _
        simp only [fX12_place_b2_body, fX12_place_b87, lit, iI_add, Option.bind_some]
        refine bst (o9) ?_
        refine ifn (a1) ?_
        refine bst (sR_1216_29 hS) ?_
        refine bst (lAv (ss_42 hS) (by omega) (by omega) m1) ?_
        refine ifn (w2) ?_
        rfl
      obtain ⟨h', k1, k2, k3, k4, k5⟩ := ih (j + 1) fu h hS hz hD hR (fun r hr => ⟨(hM r hr).1, fun hne => by
        have er : r ≠ j := fun q => hne (by rw [q]; exact hdr)
        have e9 : dnk ds dn dr z y (j + 1) r = dnk ds dn dr z y j r := by
          unfold dnk
          by_cases q : r < j
          · rw [if_pos q, if_pos (by omega)]
          · rw [if_neg q, if_neg (by omega)]
        rw [e9]
        exact (hM r hr).2 hne⟩) (fun i hi => by
        rw [hP i hi]
        unfold pak
        cases htd : td i with
        | none => rfl
        | some r =>
          have er : r ≠ j := fun q => (hL.2 i r hi htd).2.2 (by rw [q]; exact hdr)
          by_cases q : r < j
          · simp only [if_pos q, if_pos (show r < j + 1 by omega)]
          · simp only [if_neg q, if_neg (show ¬ r < j + 1 by omega)]) (by omega) (by omega)
      simp only [Int.natCast_add, Int.natCast_one] at k1
      exact ⟨h', st.trans k1, k2, k3, k4, k5⟩
    | some e0 =>
      have hne : dr j ≠ none := by rw [hdr]; exact fun q => by cases q
      obtain ⟨hel, htj⟩ := hL.1 j e0 (by omega) hdr
      obtain ⟨-, -, e3, e5, e6⟩ := hD.2.1 e0 hel
      obtain ⟨m3, m4⟩ := m2 hne
      rw [hdr] at m1
      simp only [od] at m1
      have w2 : iI 0 ≤ iI (e0 : Int) := (iI_le (by omega) (by omega) (by omega) (by omega)).mpr (by omega)
      have nb := hdn j (by omega) hne
      have b4 : ds e0 * y ≤ ds e0 * 100000 := Int.mul_le_mul_of_nonneg_left z2 (by omega)
      have b5 : ds e0 * (-100000) ≤ ds e0 * y := Int.mul_le_mul_of_nonneg_left z1 (by omega)
      have ekz : dnk ds dn dr z y j j = dn j + ds e0 * z := by
        unfold dnk
        rw [if_neg (Nat.lt_irrefl j)]
        simp [dnz, hdr]
      have eky : dnk ds dn dr z y (j + 1) j = dn j + ds e0 * y := by
        unfold dnk
        rw [if_pos (Nat.lt_succ_self j)]
        simp [dnz, hdr]
      rw [ekz] at m3
      have ev : iI (dn j + ds e0 * z) + iI (y - z) * iI (ds e0) = iI (dn j + ds e0 * y) := by
        rw [iI_mul, iI_add]
        congr 1
        rw [Int.sub_mul, Int.mul_comm y, Int.mul_comm z]
        omega
      obtain ⟨h1, eh1⟩ : ∃ h1, h1 = uA h 43 j (iI (dn j + ds e0 * y)) := ⟨_, rfl⟩
      have ke1 : Ke [] [43] [] [] h h1 := by rw [eh1]; exact Ke_rf.b 43 _ _ (by decide)
      have hS1 := hS.e hz ke1 (by decide)
      have sz1 : sz h1 = sz h := by rw [eh1]; rfl
      have g0 : aI h1 38 j = iI (rT j) := by rw [ke1.2.1 38 (by decide) (by omega)]; exact f0
      have g1 : aI h1 36 (rT j) = iI (sr j) := by rw [ke1.2.1 36 (by decide) (by omega)]; exact m4
      have g2 : aI h1 40 j = iI (wy j) := by rw [ke1.2.1 40 (by decide) (by omega)]; exact f2
      have g3 : aI h1 39 j = iI (gr j) := by rw [ke1.2.1 39 (by decide) (by omega)]; exact f1
      have g4 : aI h1 43 j = iI (dn j + ds e0 * y) := by rw [eh1]; simp [HR]
      have dk := dv_ok (a := dn j + ds e0 * y) (b := 100 * gr j) (by omega) (by omega) (by omega) (by omega)
      have e1g : iI 100 * iI (gr j) = iI (100 * gr j) := by rw [iI_mul]
      have ep0 : iI (sr j) + iI (wy j) * iI ((dn j + ds e0 * y).tdiv (100 * gr j)) = iI (sr j + wy j * (dn j + ds e0 * y).tdiv (100 * gr j)) := by rw [iI_mul, iI_add]
      obtain ⟨h2, eh2⟩ : ∃ h2, h2 = uA h1 33 (rT j) (iI (sr j + wy j * (dn j + ds e0 * y).tdiv (100 * gr j))) := ⟨_, rfl⟩
      have ke2 : Ke [] [33] [] [] h1 h2 := by rw [eh2]; exact Ke_rf.b 33 _ _ (by decide)
      have ke : Ke [] [33, 43] [] [] h h2 := (ke1.w (by decide) (by decide) (by decide) (by decide)).tr (ke2.w (by decide) (by decide) (by decide) (by decide))
      have sz2 : sz h2 = sz h := by rw [eh2]; exact sz1
      have hS2 := hS.e hz ke (by decide)
      have lt := lAv (ss_42 hS) (show j < 40 by omega) (by omega) m1
      have st : fX12_place_b2 N 29 (fu + 1) h (iI (y - z)) (iI j) = fX12_place_b2 N 29 fu h2 (iI (y - z)) (iI ((j : Int) + 1)) := by
        show fX12_place_b2_body N (fX12_place_b2 N 29 fu) 29 h (iI (y - z)) (iI j) = _
        simp only [fX12_place_b2_body, fX12_place_b87, lit, Option.bind_some]
        refine bst (o9) ?_
        refine ifn (a1) ?_
        refine bst (sR_1216_29 hS) ?_
        refine bst (lt) ?_
        refine ifp (w2) ?_
        refine bst (sR_1217_29 hS) ?_
        refine bst (lAv (ss_43 hS) (by omega) (by omega) m3) ?_
        refine bst (sR_1210_29 hS) ?_
        refine bst (sR_1216_29 hS) ?_
        refine bst (lt) ?_
        refine bst (lAv (ss_37 hS) (by omega) (by omega) e3) ?_
        refine bst (sAv (ss_43 hS) (by omega) (by omega)) ?_
        rw [ev, ← eh1]
        refine bst (sR_1212_29 hS1) ?_
        refine bst (lAv (ss_38 hS1) (by omega) (by omega) g0) ?_
        refine bst (sR_1205_29 hS1) ?_
        refine bst (sR_1208_29 hS1) ?_
        refine bst (lAv (ss_36 hS1) (by omega) (by omega) g1) ?_
        refine bst (sR_1214_29 hS1) ?_
        refine bst (lAv (ss_40 hS1) (by omega) (by omega) g2) ?_
        refine bst (sR_1217_29 hS1) ?_
        refine bst (lAv (ss_43 hS1) (by omega) (by omega) g4) ?_
        refine bst (sR_1213_29 hS1) ?_
        refine bst (lAv (ss_39 hS1) (by omega) (by omega) g3) ?_
        rw [e1g]
        refine bst (dk) ?_
        refine bst (sAv (ss_33 hS1) (by omega) (by omega)) ?_
        rw [ep0, ← eh2, iI_add]
      obtain ⟨h', k1, k2, k3, k4, k5⟩ := ih (j + 1) fu h2 hS2 (by omega) (hD.e hz ke (by decide) (by decide) (by decide)) (hR.e hz ke (by decide) (by decide) (by decide) (by decide)) (fun r hr => by
        rw [ke.2.1 42 (by decide) (by omega), ke.2.1 36 (by decide) (by omega)]
        refine ⟨(hM r hr).1, fun hn => ⟨?_, ((hM r hr).2 hn).2⟩⟩
        rw [ke2.2.1 43 (by decide) (by omega)]
        by_cases er : r = j
        · rw [er, g4, eky]
        · have e9 : dnk ds dn dr z y (j + 1) r = dnk ds dn dr z y j r := by
            unfold dnk
            by_cases q : r < j
            · rw [if_pos q, if_pos (by omega)]
            · rw [if_neg q, if_neg (by omega)]
          rw [e9, ← ((hM r hr).2 hn).1, eh1]
          simp [HR, er]) (fun i hi => by
        by_cases er : i = rT j
        · rw [er, eh2]
          have ep : pak pa wy gr sr dn ds dr td z y (j + 1) (rT j) = sr j + wy j * (dn j + ds e0 * y).tdiv (100 * gr j) := by
            simp only [pak, htj, if_pos (Nat.lt_succ_self j), tpl, hdr, rpl]
          rw [ep]
          simp [HR]
        · have g5 : aI h2 33 i = aI h 33 i := by
            rw [eh2, eh1]
            simp [HR, er]
          rw [g5, hP i hi]
          unfold pak
          cases htd : td i with
          | none => rfl
          | some r =>
            have er2 : r ≠ j := fun q => er (by rw [← (hL.2 i r hi htd).2.1, q])
            by_cases q : r < j
            · simp only [if_pos q, if_pos (show r < j + 1 by omega)]
            · simp only [if_neg q, if_neg (show ¬ r < j + 1 by omega)]) (by omega) (by omega)
      simp only [Int.natCast_add, Int.natCast_one] at k1
      exact ⟨h', st.trans k1, ke.tr k2, k3.trans sz2, k4, k5⟩
theorem v_plM {N : Nat} (hN : 100000000 ≤ N) {nr nt nd : Nat} {rT : Nat → Nat} {pa wy gr ds sr dn : Nat → Int} {dr td : Nat → Option Nat} {rA tA dA : Nat → Nat} {hd : Nat → Int} {gn : Nat → Bool} {h : Hs} (hS : Sk h) (hz : 70 ≤ sz h) (hD : RDr h nd dA ds) (hR : RRo h nr nt rA tA rT wy gr hd gn) (hL : RTl nt nd nr rT dr td) (hnt : nt ≤ 40) {z y st : Int} (z1 : -100000 ≤ y) (z2 : y ≤ 100000) (hst : st = y - z) (hdn : ∀ r, r < nr → dr r ≠ none → -1000000000 ≤ dn r ∧ dn r ≤ 1000000000) (hM : RTm h nr rT dr sr (dnz ds dn dr z)) (hP : ∀ i, i < nt → aI h 33 i = iI (tpl pa wy gr sr dn ds dr td z i)) : ∃ h', fX12_place N h 29 (iI st) = some h' ∧ Ke [] [33, 43] [] [] h h' ∧ sz h' = sz h ∧ RTm h' nr rT dr sr (dnz ds dn dr y) ∧ (∀ i, i < nt → aI h' 33 i = iI (tpl pa wy gr sr dn ds dr td y i)) := by
  have c3 := hR.1.2.2
  have e0 : dnk ds dn dr z y 0 = dnz ds dn dr z := by
    funext r
    unfold dnk
    rw [if_neg (Nat.not_lt_zero r)]
  obtain ⟨h', k1, k2, k3, k4, k5⟩ := L_plM (N := N) (pa := pa) (wy := wy) (gr := gr) (hd := hd) (gn := gn) (rA := rA) (tA := tA) (dA := dA) (td := td) (nt := nt) (z := z) hL hnt z1 z2 hdn nr 0 N h hS hz hD hR (by rw [e0]; exact hM) (fun i hi => by
    rw [hP i hi]
    unfold pak tpl
    cases td i with
    | none => rfl
    | some r => simp) (by omega) (by omega)
  rw [hst]
  refine ⟨h', k1, k2, k3, fun r hr => ⟨(k4 r hr).1, fun hn => ?_⟩, fun i hi => ?_⟩
  · have := (k4 r hr).2 hn
    unfold dnk at this
    rw [if_pos hr] at this
    exact this
  · rw [k5 i hi]
    unfold pak tpl
    cases htd : td i with
    | none => rfl
    | some r => simp only [if_pos (hL.2 i r hi htd).1]
