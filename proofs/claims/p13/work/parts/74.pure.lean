/-! ===== turning an empty stage ===== -/
theorem z_place {N : Nat} {h : Hs} (hC : FZ h) (x : Int32) {fu : Nat} (hf : 0 < fu) : fX5_place_b2 N 14 fu h x (iI 0) = some h := by
  have hS := hC.1
  obtain ⟨fu, rfl⟩ : ∃ m, fu = m + 1 := ⟨fu - 1, by omega⟩
  show fX5_place_b2_body N (fX5_place_b2 N 14 fu) 14 h x (iI 0) = _
  have le : iI 0 ≤ iI 0 := by decide
  simp only [fX5_place_b2_body]
  refine bst (oIv (by rw [ss_14 hS]) hC.2.2.1.1) ?_
  refine ifp (le) ?_
  rfl
theorem z_beyond {N : Nat} {h : Hs} (hC : FZ h) {fu : Nat} (hf : 0 < fu) : fX10_isBeyond_b2 N 22 fu h (iI 0) = some (iI 0, h) := by
  have hS := hC.1
  obtain ⟨fu, rfl⟩ : ∃ m, fu = m + 1 := ⟨fu - 1, by omega⟩
  show fX10_isBeyond_b2_body N (fX10_isBeyond_b2 N 22 fu) 22 h (iI 0) = _
  have le : iI 0 ≤ iI 0 := by decide
  simp only [fX10_isBeyond_b2_body, lit]
  refine bst (sR_1000_22 hS) ?_
  refine bst (oIv (by rw [ss_14 hS]) hC.2.2.1.1) ?_
  refine ifp (le) ?_
  rfl
theorem z_meet {N : Nat} {h : Hs} (hC : FZ h) {fu : Nat} (hf : 0 < fu) : fX10_isMeeting_b2 N 22 fu h (iI 0) = some (iI 0, h) := by
  have hS := hC.1
  obtain ⟨fu, rfl⟩ : ∃ m, fu = m + 1 := ⟨fu - 1, by omega⟩
  show fX10_isMeeting_b2_body N (fX10_isMeeting_b2 N 22 fu) 22 h (iI 0) = _
  have le : iI 0 ≤ iI 0 := by decide
  simp only [fX10_isMeeting_b2_body, lit]
  refine bst (sR_1000_22 hS) ?_
  refine bst (oIv (by rw [ss_14 hS]) hC.2.2.1.1) ?_
  refine ifp (le) ?_
  rfl
theorem z_trial {N : Nat} (hN : 100000000 ≤ N) {h : Hs} (hC : FZ h) {fu : Nat} (hf : 0 < fu) : fX5_trialPull_b4 N 14 fu h (iI 0) (iI 0) = some (iI 0, h) := by
  have hS := hC.1
  have lw := L_trialW (N := N) hS (cw := zI) (fun i hi => (hC.2.2.2.1 i hi).1) 20 0 0 N (by omega) (by omega)
  simp only [Int.natCast_zero] at lw
  obtain ⟨fu, rfl⟩ : ∃ m, fu = m + 1 := ⟨fu - 1, by omega⟩
  show fX5_trialPull_b4_body N (fX5_trialPull_b4 N 14 fu) 14 h (iI 0) (iI 0) = _
  have le : iI 0 ≤ iI 0 := by decide
  simp only [fX5_trialPull_b4_body, lit]
  refine bst (oIv (by rw [ss_14 hS]) hC.2.2.1.2.2.1) ?_
  refine ifp (le) ?_
  rw [lw]
  rfl
theorem z_uneven {N : Nat} {h : Hs} (hC : FZ h) : fX10_isUneven N h 22 (iI 0) = some (iI 0, h) := by
  have hS := hC.1
  have le : ¬ iI 99999 < (if iI 0 ≤ iI 0 then iI 0 else iI 0 - iI 0) := by decide
  simp only [fX10_isUneven, lit]
  refine bst (sR_1000_22 hS) ?_
  refine bst (oIv (by rw [ss_14 hS]) hC.2.2.2.2.1) ?_
  refine ifn (le) ?_
  rfl
theorem z_steps {N : Nat} {h : Hs} (hC : FZ h) (x y : Int32) {fu : Nat} (hf : 0 < fu) : fX10_stepsToNextMove_b7 N 22 fu h x y (iI 9999) (iI 0) = some (iI 9999, h) := by
  have hS := hC.1
  obtain ⟨fu, rfl⟩ : ∃ m, fu = m + 1 := ⟨fu - 1, by omega⟩
  show fX10_stepsToNextMove_b7_body N (fX10_stepsToNextMove_b7 N 22 fu) 22 h x y (iI 9999) (iI 0) = _
  have le : iI 0 ≤ iI 0 := by decide
  simp only [fX10_stepsToNextMove_b7_body]
  refine bst (sR_1000_22 hS) ?_
  refine bst (oIv (by rw [ss_14 hS]) hC.2.2.1.2.2.1) ?_
  refine ifp (le) ?_
  rfl
theorem z_look28 {N : Nat} (hN : 100000000 ≤ N) {h : Hs} (hC : FZ h) (x : Int32) {M : Int} (m1 : 0 ≤ M) (m2 : M ≤ 9999) : fX10_lookAhead_b28 N 22 N h x (iI M) (iI 1) = some (iI M, h) := by
  have hS := hC.1
  obtain ⟨K, eK⟩ : ∃ m, N = m + 2 := ⟨N - 2, by omega⟩
  have last : ∀ (s : Int), s < 100000 → M < s → fX10_lookAhead_b28 N 22 (K + 1) h x (iI M) (iI s) = some (iI M, h) := by
    intro s s1 s2
    show fX10_lookAhead_b28_body N (fX10_lookAhead_b28 N 22 K) 22 h x (iI M) (iI s) = _
    have le : iI M < iI s := (iI_lt (by omega) (by omega) (by omega) (by omega)).mpr s2
    simp only [fX10_lookAhead_b28_body]
    refine ifp (le) ?_
    rfl
  by_cases hM : M < 1
  · have e0 : fX10_lookAhead_b28 N 22 (K + 2) h x (iI M) (iI 1) = some (iI M, h) := by
      show fX10_lookAhead_b28_body N (fX10_lookAhead_b28 N 22 (K + 1)) 22 h x (iI M) (iI 1) = _
      have le : iI M < iI 1 := (iI_lt (by omega) (by omega) (by omega) (by omega)).mpr hM
      simp only [fX10_lookAhead_b28_body]
      refine ifp (le) ?_
      rfl
    rw [← eK] at e0
    exact e0
  · have e0 : fX10_lookAhead_b28 N 22 (K + 2) h x (iI M) (iI 1) = some (iI M, h) := by
      show fX10_lookAhead_b28_body N (fX10_lookAhead_b28 N 22 (K + 1)) 22 h x (iI M) (iI 1) = _
      have le : ¬ iI M < iI 1 := fun q => by have := (iI_lt (by omega) (by omega) (by omega) (by omega)).mp q; omega
      have rc5 : rc 5 h (some 14) = some 14 := rcv (by rw [ss_14 hS])
      have rc10 : rc 10 h (some 22) = some 22 := rcv (by rw [ss_22 hS])
      have p1 := z_place (N := N) hC (x * iI 1) (fu := N) (by omega)
      have p2 := z_beyond (N := N) hC (fu := N) (by omega)
      have p3 := z_meet (N := N) hC (fu := N) (by omega)
      have p4 := z_trial hN hC (fu := N) (by omega)
      have p5 := z_uneven (N := N) hC
      have p6 := z_steps (N := N) hC x (iI 1) (fu := N) (by omega)
      have tt : iI 0 = iI 0 := rfl
      have ee : iI 1 + (if iI 1 < iI 9999 then iI 9999 else iI 1) = iI 10000 := by decide
      have e9 := last 10000 (by omega) (by omega)
      simp only [fX10_lookAhead_b28_body, fX5_place, fX10_isBeyond, fX10_isMeeting, fX5_trialPull, fX10_stepsToNextMove, lit]
      refine ifn (le) ?_
      refine bst (sR_1000_22 hS) ?_
      refine bst (rc5) ?_
      refine bst (p1) ?_
      refine bst (rc10) ?_
      refine bst (p2) ?_
      refine ifp (tt) ?_
      refine bst (rc10) ?_
      refine bst (p3) ?_
      refine ifp (tt) ?_
      refine bst (sR_1000_22 hS) ?_
      refine bst (rc5) ?_
      refine bst (p4) ?_
      refine bst (rc10) ?_
      refine bst (p5) ?_
      refine ifp (tt) ?_
      refine bst (rc10) ?_
      refine bst (p6) ?_
      rw [ee]
      exact e9
    rw [← eK] at e0
    exact e0
def stH (h : Hs) (a : Nat) (x y z : Int) : Hs := uI (uI (uI h 700 a (iI x)) 701 a (iI y)) 702 a (iI z)
theorem v_put {N : Nat} {h : Hs} {a : Nat} (hs : (sh h a).1 = 7) (x y z : Int) : fX7_put N h a (iI x) (iI y) (iI z) = some (stH h a x y z) := by
  simp only [fX7_put]
  refine bst (qIv hs) ?_
  refine bst (qIv hs) ?_
  refine bst (qIv hs) ?_
  rfl
theorem FZ.st {h : Hs} (hC : FZ h) (a : Nat) (x y z : Int) : FZ (stH h a x y z) := ((hC.u 700 a _ (by decide)).u 701 a _ (by decide)).u 702 a _ (by decide)
theorem abs_i {z : Int} (h1 : -100000 ≤ z) (h2 : z ≤ 100000) : (if iI 0 ≤ iI z then iI z else iI 0 - iI z) = iI (if 0 ≤ z then z else -z) := by
  by_cases q : 0 ≤ z
  · rw [if_pos q, if_pos ((iI_le (by omega) (by omega) (by omega) (by omega)).mpr q)]
  · rw [if_neg q, if_neg (fun w => q ((iI_le (by omega) (by omega) (by omega) (by omega)).mp w)), iI_sub]
    congr 1
    omega
theorem z_look {N : Nat} (hN : 100000000 ≤ N) {h : Hs} (hC : FZ h) {z : Int} (z1 : -9999 ≤ z) (z2 : z ≤ 9999) : fX10_lookAhead N h 22 (iI z) = some (iI (if 0 ≤ z then z else -z), stH h 24 0 (-1) (-1)) := by
  have hS := hC.1
  have rc7 : rc 7 h (some 24) = some 24 := rcv (by rw [ss_24 hS])
  have b9 : ∀ x : Int32, fX10_lookAhead_b9 N 22 h (iI z) x = some (iI (if 0 ≤ z then z else -z), stH h 24 0 (-1) (-1)) := by
    intro x
    have hp := v_put (N := N) (h := h) (a := 24) (by rw [ss_24 hS]) 0 (-1) (-1)
    have e9 := z_look28 hN (hC.st 24 0 (-1) (-1)) x (M := if 0 ≤ z then z else -z) (by split <;> omega) (by split <;> omega)
    have ea := abs_i (z := z) (by omega) (by omega)
    simp only [fX10_lookAhead_b9, lit, iI_neg]
    refine bst (congrArg some ea) ?_
    refine bst (sR_1002_22 hS) ?_
    refine bst (rc7) ?_
    refine bst (hp) ?_
    exact e9
  simp only [fX10_lookAhead]
  split
  · exact b9 _
  · exact b9 _
theorem isTurn_c {N : Nat} {h : Hs} {z : Int} (h1 : -2147483648 ≤ z) (h2 : z < 2147483648) : fX11_isTurn N h (iI z) = some (if -9999 ≤ z ∧ z ≤ 9999 then iI 1 else iI 0, h) := by
  have e := v_isW (N := N) (h := h) (x := z) (a := -9999) (b := 9999) h1 h2 (by omega) (by omega) (by omega) (by omega)
  simp only [fX11_isTurn, lit, iI_neg]
  refine bst e ?_
  split <;> rfl
theorem isTurn_m {N : Nat} {h : Hs} {z : Int} (h1 : -2147483648 ≤ z) (h2 : z < 2147483648) : fX12_isTurn N h (iI z) = some (if -9999 ≤ z ∧ z ≤ 9999 then iI 1 else iI 0, h) := by
  have e := v_inW (N := N) (h := h) (x := z) (a := -9999) (b := 9999) h1 h2 (by omega) (by omega) (by omega) (by omega)
  simp only [fX12_isTurn, lit, iI_neg]
  refine bst e ?_
  split <;> rfl
theorem z_adv {N : Nat} {h : Hs} (hC : FZ h) (x : Int32) {fu : Nat} (hf : 0 < fu) : ∃ h2, fX5_advance_b2 N 14 fu h x (iI 0) = some h2 ∧ FZ h2 := by
  have hS := hC.1
  obtain ⟨fu, rfl⟩ : ∃ m, fu = m + 1 := ⟨fu - 1, by omega⟩
  have le : iI 0 ≤ iI 0 := by decide
  refine ⟨_, ?_, (hC.u 511 14 (gI h 511 14 + x) (by decide)).u 512 14 (gI h 512 14 + (if iI 0 ≤ x then x else iI 0 - x)) (by decide)⟩
  show fX5_advance_b2_body N (fX5_advance_b2 N 14 fu) 14 h x (iI 0) = _
  simp only [fX5_advance_b2_body, lit]
  refine bst (oIv (by rw [ss_14 hS]) hC.2.2.1.2.2.1) ?_
  refine ifp (le) ?_
  refine bst (oIv (by rw [ss_14 hS]) rfl) ?_
  refine bst (qIv (by rw [ss_14 hS])) ?_
  refine bst (oIv (by rw [sh_uI, ss_14 hS]) (v := gI h 512 14) (by simp [HR])) ?_
  refine bst (qIv (by rw [sh_uI, ss_14 hS])) ?_
  rfl
theorem z_turn {N : Nat} (hN : 100000000 ≤ N) {h : Hs} (hC : FZ h) {z : Int} (z1 : -9999 ≤ z) (z2 : z ≤ 9999) : ∃ h2, fX11_turn N h 0 (iI z) = some (iI (if 0 ≤ z then z else -z), h2) ∧ FZ h2 := by
  have hS := hC.1
  obtain ⟨M, hM⟩ : ∃ M : Int, M = if 0 ≤ z then z else -z := ⟨_, rfl⟩
  have m1 : 0 ≤ M := by rw [hM]; split <;> omega
  have m2 : M ≤ 9999 := by rw [hM]; split <;> omega
  have l := z_look hN hC z1 z2
  rw [← hM] at l ⊢
  have hC1 := hC.st 24 0 (-1) (-1)
  generalize hg : stH h 24 0 (-1) (-1) = h1 at l hC1
  have g0 : gI h1 700 24 = iI 0 := by rw [← hg]; simp [stH, HR]
  have g1 : gI h1 701 24 = iI (-1) := by rw [← hg]; simp [stH, HR]
  have g2 : gI h1 702 24 = iI (-1) := by rw [← hg]; simp [stH, HR]
  have hS1 := hC1.1
  have hp := v_put (N := N) (h := h1) (a := 23) (by rw [ss_23 hS1]) 0 (-1) (-1)
  have hC2 := hC1.st 23 0 (-1) (-1)
  generalize stH h1 23 0 (-1) (-1) = h2 at hp hC2
  have hS2 := hC2.1
  have rc10 : rc 10 h (some 22) = some 22 := rcv (by rw [ss_22 hS])
  have rc7 : rc 7 h1 (some 23) = some 23 := rcv (by rw [ss_23 hS1])
  have rc5 : rc 5 h2 (some 14) = some 14 := rcv (by rw [ss_14 hS2])
  have tb : ∃ h3, fX10_turnBy N h 22 (iI z) = some (iI M, h3) ∧ FZ h3 := by
    by_cases zp : iI 0 ≤ iI z
    · obtain ⟨h3, a1, a2⟩ := z_adv (N := N) hC2 (iI M) (fu := N) (by omega)
      refine ⟨h3, ?_, a2⟩
      simp only [fX10_turnBy, fX10_turnBy_b48, fX5_advance, lit]
      refine bst (rc10) ?_
      refine bst (l) ?_
      refine bst (sR_1001_22 hS1) ?_
      refine bst (sR_1002_22 hS1) ?_
      refine bst (oIv (by rw [ss_24 hS1]) g0) ?_
      refine bst (sR_1002_22 hS1) ?_
      refine bst (oIv (by rw [ss_24 hS1]) g1) ?_
      refine bst (sR_1002_22 hS1) ?_
      refine bst (oIv (by rw [ss_24 hS1]) g2) ?_
      refine bst (rc7) ?_
      refine bst (hp) ?_
      refine bst (sR_1000_22 hS2) ?_
      refine ifp (zp) ?_
      refine bst (rc5) ?_
      refine bst (a1) ?_
      rfl
    · obtain ⟨h3, a1, a2⟩ := z_adv (N := N) hC2 (-iI M) (fu := N) (by omega)
      refine ⟨h3, ?_, a2⟩
      simp only [fX10_turnBy, fX10_turnBy_b48, fX5_advance, lit]
      refine bst (rc10) ?_
      refine bst (l) ?_
      refine bst (sR_1001_22 hS1) ?_
      refine bst (sR_1002_22 hS1) ?_
      refine bst (oIv (by rw [ss_24 hS1]) g0) ?_
      refine bst (sR_1002_22 hS1) ?_
      refine bst (oIv (by rw [ss_24 hS1]) g1) ?_
      refine bst (sR_1002_22 hS1) ?_
      refine bst (oIv (by rw [ss_24 hS1]) g2) ?_
      refine bst (rc7) ?_
      refine bst (hp) ?_
      refine bst (sR_1000_22 hS2) ?_
      refine ifn (zp) ?_
      refine bst (rc5) ?_
      refine bst (a1) ?_
      rfl
  obtain ⟨h3, a1, hC3⟩ := tb
  have hS3 := hC3.1
  have rc11 : rc 11 h3 (some 0) = some 0 := rcv (by rw [ss_0 hS3])
  have e1 := isTurn_c (N := N) (h := h) (z := z) (by omega) (by omega)
  rw [if_pos ⟨z1, z2⟩] at e1
  have n0 : ¬ iI 1 = iI 0 := by decide
  by_cases mz : iI M ≤ iI 0
  · have d := v_deed (N := N) hS3 (r := iI M) (z := 0) (by omega)
    refine ⟨h3, ?_, hC3⟩
    simp only [fX11_turn, fX11_turn_b29, lit]
    refine bst (e1) ?_
    refine ifn (n0) ?_
    refine bst (sR_1101_0 hS) ?_
    refine bst (rc10) ?_
    refine bst (a1) ?_
    refine ifp (mz) ?_
    refine bst (rc11) ?_
    refine bst (d) ?_
    rfl
  · have d := v_deed (N := N) hS3 (r := iI M) (z := 1) (by omega)
    refine ⟨uI h3 1106 0 (iI 0), ?_, hC3.u 1106 0 _ (by decide)⟩
    simp only [fX11_turn, fX11_turn_b29, lit]
    refine bst (e1) ?_
    refine ifn (n0) ?_
    refine bst (sR_1101_0 hS) ?_
    refine bst (rc10) ?_
    refine bst (a1) ?_
    refine ifn (mz) ?_
    refine bst (rc11) ?_
    refine bst (d) ?_
    rfl
/-! the other side -/
theorem z_rplace {N : Nat} {h : Hs} (hC : FZ h) (x : Int32) {fu : Nat} (hf : 0 < fu) : fX12_place_b2 N 29 fu h x (iI 0) = some h := by
  have hS := hC.1
  obtain ⟨fu, rfl⟩ : ∃ m, fu = m + 1 := ⟨fu - 1, by omega⟩
  show fX12_place_b2_body N (fX12_place_b2 N 29 fu) 29 h x (iI 0) = _
  have le : iI 0 ≤ iI 0 := by decide
  simp only [fX12_place_b2_body]
  refine bst (oIv (by rw [ss_29 hS]) hC.2.2.1.2.2.2.2.2) ?_
  refine ifp (le) ?_
  rfl
def whH (h : Hs) (x y z : Int) : Hs := uI (uI (uI h 1223 29 (iI x)) 1224 29 (iI y)) 1225 29 (iI z)
theorem FZ.wh {h : Hs} (hC : FZ h) (x y z : Int) : FZ (whH h x y z) := ((hC.u 1223 29 _ (by decide)).u 1224 29 _ (by decide)).u 1225 29 _ (by decide)
theorem z_find {N : Nat} (hN : 100000000 ≤ N) {h : Hs} (hC : FZ h) : fX12_find N h 29 = some (uI (whH h 0 (-1) (-1)) 1223 29 (iI 0)) := by
  have hS := hC.1
  have hC1 := hC.wh 0 (-1) (-1)
  obtain ⟨K, eK⟩ : ∃ m, N = m + 1 := ⟨N - 1, by omega⟩
  have le : iI 0 ≤ iI 0 := by decide
  have n1 : ¬ iI 99999 < iI 0 := by decide
  have n2 : iI (-99999) ≤ iI 0 := by decide
  have b71 : ∀ {h1 : Hs}, FZ h1 → fX12_find_b71 N 29 N h1 (iI 0) = some (uI h1 1223 29 (iI 0)) := by
    intro h1 hC1
    have hS1 := hC1.1
    have pl := FZ.pullM hN hC1
    have rc12 : rc 12 h1 (some 29) = some 29 := rcv (by rw [ss_29 hS1])
    have e0 : fX12_find_b71 N 29 (K + 1) h1 (iI 0) = some (uI h1 1223 29 (iI 0)) := by
      show fX12_find_b71_body N (fX12_find_b71 N 29 K) 29 h1 (iI 0) = _
      simp only [fX12_find_b71_body, fX12_find_b156, lit]
      refine bst (oIv (by rw [ss_29 hS1]) hC1.2.2.1.2.2.2.1) ?_
      refine ifp (le) ?_
      refine bst (rc12) ?_
      refine bst (pl) ?_
      refine bst (oIv (by rw [ss_29 hS1]) hC1.2.2.2.2.2) ?_
      refine ifn (n1) ?_
      refine bst (oIv (by rw [ss_29 hS1]) hC1.2.2.2.2.2) ?_
      simp only [iI_neg]
      refine ifp (n2) ?_
      refine bst (qIv (by rw [ss_29 hS1])) ?_
      rfl
    rw [← eK] at e0
    exact e0
  have b17 : ∀ {h1 : Hs}, FZ h1 → fX12_find_b17 N 29 N h1 (iI 0) = some (uI h1 1223 29 (iI 0)) := by
    intro h1 hC1
    have hS1 := hC1.1
    have e71 := b71 hC1
    have e0 : fX12_find_b17 N 29 (K + 1) h1 (iI 0) = some (uI h1 1223 29 (iI 0)) := by
      show fX12_find_b17_body N (fX12_find_b17 N 29 K) 29 h1 (iI 0) = _
      simp only [fX12_find_b17_body, lit]
      refine bst (oIv (by rw [ss_29 hS1]) hC1.2.2.1.2.2.2.1) ?_
      refine ifp (le) ?_
      exact e71
    rw [← eK] at e0
    exact e0
  have e17 := b17 hC1
  simp only [fX12_find, lit, iI_neg]
  refine bst (qIv (by rw [ss_29 hS])) ?_
  refine bst (qIv (by rw [sh_uI, ss_29 hS])) ?_
  refine bst (qIv (by rw [sh_uI, sh_uI, ss_29 hS])) ?_
  exact e17
theorem z_tn39 {N : Nat} (hN : 100000000 ≤ N) {M : Nat} (m2 : M ≤ 9999) (sd : Int32) : ∀ (d k fu : Nat) (h : Hs), FZ h → k + d = M → d < fu → ∃ h2, fX12_turnNow_b39 N 29 fu h sd (iI M) (iI k) = some (iI M, h2) ∧ FZ h2 := by
  intro d
  induction d with
  | zero =>
    intro k fu h hC hk hf
    obtain ⟨fu, rfl⟩ : ∃ m, fu = m + 1 := ⟨fu - 1, by omega⟩
    refine ⟨h, ?_, hC⟩
    show fX12_turnNow_b39_body N (fX12_turnNow_b39 N 29 fu) 29 h sd (iI M) (iI k) = _
    have le : iI (M : Int) ≤ iI (k : Int) := (iI_le (by omega) (by omega) (by omega) (by omega)).mpr (by omega)
    simp only [fX12_turnNow_b39_body]
    refine ifp (le) ?_
    rfl
  | succ d ih =>
    intro k fu h hC hk hf
    obtain ⟨fu, rfl⟩ : ∃ m, fu = m + 1 := ⟨fu - 1, by omega⟩
    have hS := hC.1
    have le : ¬ iI (M : Int) ≤ iI (k : Int) := fun q => by have := (iI_le (by omega) (by omega) (by omega) (by omega)).mp q; omega
    have p1 := z_rplace (N := N) hC sd (fu := N) (by omega)
    have p2 := z_find hN hC
    have hC3 := (hC.wh 0 (-1) (-1)).u 1223 29 (iI 0) (by decide)
    have g3 : gI (uI (whH h 0 (-1) (-1)) 1223 29 (iI 0)) 1223 29 = iI 0 := by simp [HR]
    generalize uI (whH h 0 (-1) (-1)) 1223 29 (iI 0) = h3 at p2 hC3 g3
    have hS3 := hC3.1
    have hC4 := (hC3.u 1221 29 (gI h3 1221 29 + sd) (by decide)).u 1222 29 (gI h3 1222 29 + iI 1) (by decide)
    obtain ⟨h2, e1, e2⟩ := ih (k + 1) fu _ hC4 (by omega) (by omega)
    refine ⟨h2, ?_, e2⟩
    show fX12_turnNow_b39_body N (fX12_turnNow_b39 N 29 fu) 29 h sd (iI M) (iI k) = _
    have rc12 : rc 12 h (some 29) = some 29 := rcv (by rw [ss_29 hS])
    have tt : iI 0 ≤ iI 0 := by decide
    have ek : iI (k : Int) + iI 1 = iI ((k + 1 : Nat) : Int) := by rw [iI_add]; congr 1
    simp only [fX12_turnNow_b39_body, fX12_place, lit]
    refine ifn (le) ?_
    refine bst (rc12) ?_
    refine bst (p1) ?_
    refine bst (rc12) ?_
    refine bst (p2) ?_
    refine bst (oIv (by rw [ss_29 hS3]) g3) ?_
    refine ifp (tt) ?_
    refine bst (oIv (by rw [ss_29 hS3]) rfl) ?_
    refine bst (qIv (by rw [ss_29 hS3])) ?_
    refine bst (oIv (by rw [sh_uI, ss_29 hS3]) (v := gI h3 1222 29) (by simp [HR])) ?_
    refine bst (qIv (by rw [sh_uI, ss_29 hS3])) ?_
    rw [ek]
    exact e1
theorem z_tn {N : Nat} (hN : 100000000 ≤ N) {h : Hs} (hC : FZ h) {z : Int} (z1 : -9999 ≤ z) (z2 : z ≤ 9999) : ∃ h2, fX12_turnNow N h 29 (iI z) = some (iI (if 0 ≤ z then z else -z), h2) ∧ FZ h2 := by
  have hS := hC.1
  have hC1 := hC.wh 0 (-1) (-1)
  by_cases q : 0 ≤ z
  · obtain ⟨h2, e1, e2⟩ := z_tn39 hN (M := z.toNat) (by omega) (iI 1) z.toNat 0 N _ hC1 (by omega) (by omega)
    have ez : ((z.toNat : Nat) : Int) = z := by omega
    rw [ez] at e1
    have p : iI 0 ≤ iI z := (iI_le (by omega) (by omega) (by omega) (by omega)).mpr q
    refine ⟨h2, ?_, e2⟩
    rw [if_pos q]
    simp only [fX12_turnNow, fX12_turnNow_b24, fX12_turnNow_b35, lit, iI_neg]
    refine bst (qIv (by rw [ss_29 hS])) ?_
    refine bst (qIv (by rw [sh_uI, ss_29 hS])) ?_
    refine bst (qIv (by rw [sh_uI, sh_uI, ss_29 hS])) ?_
    refine ifp (p) ?_
    refine ifp (p) ?_
    exact e1
  · obtain ⟨h2, e1, e2⟩ := z_tn39 hN (M := (-z).toNat) (by omega) (iI (-1)) (-z).toNat 0 N _ hC1 (by omega) (by omega)
    have ez : (((-z).toNat : Nat) : Int) = -z := by omega
    rw [ez] at e1
    have p : ¬ iI 0 ≤ iI z := fun w => q ((iI_le (by omega) (by omega) (by omega) (by omega)).mp w)
    refine ⟨h2, ?_, e2⟩
    rw [if_neg q]
    simp only [fX12_turnNow, fX12_turnNow_b24, fX12_turnNow_b35, lit, iI_neg]
    refine bst (qIv (by rw [ss_29 hS])) ?_
    refine bst (qIv (by rw [sh_uI, ss_29 hS])) ?_
    refine bst (qIv (by rw [sh_uI, sh_uI, ss_29 hS])) ?_
    refine ifn (p) ?_
    refine ifn (p) ?_
    exact e1
theorem z_mturn {N : Nat} (hN : 100000000 ≤ N) {h : Hs} (hC : FZ h) {z : Int} (z1 : -9999 ≤ z) (z2 : z ≤ 9999) : ∃ h2, fX12_turn N h 29 (iI z) = some (iI (if 0 ≤ z then z else -z), h2) := by
  have hS := hC.1
  obtain ⟨M, hM⟩ : ∃ M : Int, M = if 0 ≤ z then z else -z := ⟨_, rfl⟩
  obtain ⟨h2, e1, hC2⟩ := z_tn hN hC z1 z2
  rw [← hM] at e1 ⊢
  have hS2 := hC2.1
  have e0 := isTurn_m (N := N) (h := h) (z := z) (by omega) (by omega)
  rw [if_pos ⟨z1, z2⟩] at e0
  have n0 : ¬ iI 1 = iI 0 := by decide
  have rc12 : rc 12 h (some 29) = some 29 := rcv (by rw [ss_29 hS])
  have c29 : (sh h2 29).1 = 12 := by rw [ss_29 hS2]
  by_cases w1 : gI h2 1243 29 = iI 0
  · refine ⟨uI h2 1243 29 (iI 0), ?_⟩
    · simp only [fX12_turn, fX12_turn_b31, fX12_turn_b32, lit]
      refine bst (e0) ?_
      refine ifn (n0) ?_
      refine bst (rc12) ?_
      refine bst (e1) ?_
      refine bst (oIv c29 rfl) ?_
      refine ifp (w1) ?_
      refine bst (qZv c29 (by omega)) ?_
      rfl
  · by_cases w2 : iI M = iI 0
    · refine ⟨uI h2 1243 29 (iI 1), ?_⟩
      · simp only [fX12_turn, fX12_turn_b31, fX12_turn_b32, lit]
        refine bst (e0) ?_
        refine ifn (n0) ?_
        refine bst (rc12) ?_
        refine bst (e1) ?_
        refine bst (oIv c29 rfl) ?_
        refine ifn (w1) ?_
        refine ifp (w2) ?_
        refine bst (qZv c29 (by omega)) ?_
        rfl
    · refine ⟨uI h2 1243 29 (iI 0), ?_⟩
      · simp only [fX12_turn, fX12_turn_b31, fX12_turn_b32, lit]
        refine bst (e0) ?_
        refine ifn (n0) ?_
        refine bst (rc12) ?_
        refine bst (e1) ?_
        refine bst (oIv c29 rfl) ?_
        refine ifn (w1) ?_
        refine ifn (w2) ?_
        refine bst (qZv c29 (by omega)) ?_
        rfl
theorem z_f52 {N : Nat} {M : Nat} (m2 : M ≤ 9999) (a b c w sd : Int32) : ∀ (d k fu : Nat) (h : Hs), FZ h → k + d = M → d < fu → 0 < N → ∃ h2, fX12_free_b52 N 29 fu h a b c w (iI M) sd (iI k) = some (iI M, h2) := by
  intro d
  induction d with
  | zero =>
    intro k fu h hC hk hf hN
    have hS := hC.1
    obtain ⟨fu, rfl⟩ : ∃ m, fu = m + 1 := ⟨fu - 1, by omega⟩
    have le : iI (M : Int) ≤ iI (k : Int) := (iI_le (by omega) (by omega) (by omega) (by omega)).mpr (by omega)
    refine ⟨uI (uI (uI (uI (uI h 1221 29 (gI h 1221 29 - sd * iI M)) 1222 29 w) 1223 29 a) 1224 29 b) 1225 29 c, ?_⟩
    · show fX12_free_b52_body N (fX12_free_b52 N 29 fu) 29 h a b c w (iI M) sd (iI k) = _
      simp only [fX12_free_b52_body]
      refine ifp (le) ?_
      refine bst (oIv (by rw [ss_29 hS]) rfl) ?_
      refine bst (qIv (by rw [ss_29 hS])) ?_
      refine bst (qIv (by rw [sh_uI, ss_29 hS])) ?_
      refine bst (qIv (by rw [sh_uI, sh_uI, ss_29 hS])) ?_
      refine bst (qIv (by rw [sh_uI, sh_uI, sh_uI, ss_29 hS])) ?_
      refine bst (qIv (by rw [sh_uI, sh_uI, sh_uI, sh_uI, ss_29 hS])) ?_
      rfl
  | succ d ih =>
    intro k fu h hC hk hf hN
    have hS := hC.1
    obtain ⟨fu, rfl⟩ : ∃ m, fu = m + 1 := ⟨fu - 1, by omega⟩
    obtain ⟨h2, e1⟩ := ih (k + 1) fu h hC (by omega) (by omega) hN
    have le : ¬ iI (M : Int) ≤ iI (k : Int) := fun q => by have := (iI_le (by omega) (by omega) (by omega) (by omega)).mp q; omega
    have p1 := z_rplace (N := N) hC (-sd) (fu := N) hN
    have rc12 : rc 12 h (some 29) = some 29 := rcv (by rw [ss_29 hS])
    have ek : iI (k : Int) + iI 1 = iI ((k + 1 : Nat) : Int) := by rw [iI_add]; congr 1
    refine ⟨h2, ?_⟩
    show fX12_free_b52_body N (fX12_free_b52 N 29 fu) 29 h a b c w (iI M) sd (iI k) = _
    simp only [fX12_free_b52_body, fX12_place, lit]
    refine ifn (le) ?_
    refine bst (rc12) ?_
    refine bst (p1) ?_
    rw [ek]
    exact e1
theorem z_mfree {N : Nat} (hN : 100000000 ≤ N) {h : Hs} (hC : FZ h) {z : Int} (z1 : -9999 ≤ z) (z2 : z ≤ 9999) : ∃ h2, fX12_free N h 29 (iI z) = some (iI (if 0 ≤ z then z else -z), h2) := by
  have hS := hC.1
  obtain ⟨M, hM⟩ : ∃ M : Int, M = if 0 ≤ z then z else -z := ⟨_, rfl⟩
  have m1 : 0 ≤ M := by rw [hM]; split <;> omega
  have m2 : M ≤ 9999 := by rw [hM]; split <;> omega
  obtain ⟨h2, e1, hC2⟩ := z_tn hN hC z1 z2
  rw [← hM] at e1 ⊢
  have e0 := isTurn_m (N := N) (h := h) (z := z) (by omega) (by omega)
  rw [if_pos ⟨z1, z2⟩] at e0
  have n0 : ¬ iI 1 = iI 0 := by decide
  have rc12 : rc 12 h (some 29) = some 29 := rcv (by rw [ss_29 hS])
  have c29 : (sh h 29).1 = 12 := by rw [ss_29 hS]
  have eM : ((M.toNat : Nat) : Int) = M := by omega
  by_cases zp : iI 0 ≤ iI z
  · obtain ⟨h3, e3⟩ := z_f52 (N := N) (M := M.toNat) (by omega) (gI h 1223 29) (gI h 1224 29) (gI h 1225 29) (gI h 1222 29) (iI 1) M.toNat 0 N h2 hC2 (by omega) (by omega) (by omega)
    rw [eM] at e3
    refine ⟨h3, ?_⟩
    simp only [fX12_free, fX12_free_b47, lit]
    refine bst (e0) ?_
    refine ifn (n0) ?_
    refine bst (oIv c29 rfl) ?_
    refine bst (oIv c29 rfl) ?_
    refine bst (oIv c29 rfl) ?_
    refine bst (oIv c29 rfl) ?_
    refine bst (rc12) ?_
    refine bst (e1) ?_
    refine ifp (zp) ?_
    exact e3
  · obtain ⟨h3, e3⟩ := z_f52 (N := N) (M := M.toNat) (by omega) (gI h 1223 29) (gI h 1224 29) (gI h 1225 29) (gI h 1222 29) (iI (-1)) M.toNat 0 N h2 hC2 (by omega) (by omega) (by omega)
    rw [eM] at e3
    refine ⟨h3, ?_⟩
    simp only [fX12_free, fX12_free_b47, lit, iI_neg]
    refine bst (e0) ?_
    refine ifn (n0) ?_
    refine bst (oIv c29 rfl) ?_
    refine bst (oIv c29 rfl) ?_
    refine bst (oIv c29 rfl) ?_
    refine bst (oIv c29 rfl) ?_
    refine bst (rc12) ?_
    refine bst (e1) ?_
    refine ifn (zp) ?_
    exact e3
theorem z_turns {N : Nat} (hN : 100000000 ≤ N) {h : Hs} (hC : FZ h) (p : Int32) : ∃ r h1 h2, fX11_turn N h 0 p = some (r, h1) ∧ fX12_turn N h1 29 p = some (r, h2) := by
  obtain ⟨z, z1, z2, rfl⟩ := iI_ex p
  by_cases q : -9999 ≤ z ∧ z ≤ 9999
  · obtain ⟨h1, e1, c1⟩ := z_turn hN hC q.1 q.2
    obtain ⟨h2, e2⟩ := z_mturn hN c1 q.1 q.2
    exact ⟨_, h1, h2, e1, e2⟩
  · have e1 := isTurn_c (N := N) (h := h) z1 z2
    have e2 := isTurn_m (N := N) (h := h) z1 z2
    rw [if_neg q] at e1 e2
    have tt : iI 0 = iI 0 := rfl
    refine ⟨iI (-1), h, h, ?_, ?_⟩
    · simp only [fX11_turn, lit, iI_neg]
      refine bst (e1) ?_
      refine ifp (tt) ?_
      rfl
    · simp only [fX12_turn, lit, iI_neg]
      refine bst (e2) ?_
      refine ifp (tt) ?_
      rfl
theorem z_frees {N : Nat} (hN : 100000000 ≤ N) {h : Hs} (hC : FZ h) (p : Int32) : ∃ r h1 h2, fX11_free N h 0 p = some (r, h1) ∧ fX12_free N h1 29 p = some (r, h2) := by
  obtain ⟨z, z1, z2, rfl⟩ := iI_ex p
  have hS := hC.1
  by_cases q : -9999 ≤ z ∧ z ≤ 9999
  · have l := z_look hN hC q.1 q.2
    have c1 := hC.st 24 0 (-1) (-1)
    obtain ⟨h2, e2⟩ := z_mfree hN c1 q.1 q.2
    refine ⟨_, _, h2, ?_, e2⟩
    have e1 := isTurn_c (N := N) (h := h) z1 z2
    rw [if_pos q] at e1
    have n0 : ¬ iI 1 = iI 0 := by decide
    have rc10 : rc 10 h (some 22) = some 22 := rcv (by rw [ss_22 hS])
    simp only [fX11_free, fX11_free_b19, lit]
    refine bst (e1) ?_
    refine ifn (n0) ?_
    refine bst (sR_1101_0 hS) ?_
    refine bst (rc10) ?_
    refine bst (l) ?_
    rfl
  · have e1 := isTurn_c (N := N) (h := h) z1 z2
    have e2 := isTurn_m (N := N) (h := h) z1 z2
    rw [if_neg q] at e1 e2
    have tt : iI 0 = iI 0 := rfl
    refine ⟨iI (-1), h, h, ?_, ?_⟩
    · simp only [fX11_free, fX11_free_b19, lit, iI_neg]
      refine bst (e1) ?_
      refine ifp (tt) ?_
      rfl
    · simp only [fX12_free, lit, iI_neg]
      refine bst (e2) ?_
      refine ifp (tt) ?_
      rfl
