/-! ===== snap, change, men, play, back, paint of a fresh object ===== -/
theorem z_snaps {N : Nat} {h : Hs} (hC : FZ h) (p : Int32) : ∃ r h1 h2, fX11_snap N h 0 p = some (r, h1) ∧ fX12_snap N h1 29 p = some (r, h2) := by
  obtain ⟨z, z1, z2, rfl⟩ := iI_ex p
  have hS := hC.1
  have e1 := v_isW (N := N) (h := h) (x := z) (a := 0) (b := -1) z1 z2 (by omega) (by omega) (by omega) (by omega)
  have e2 := v_inW (N := N) (h := h) (x := z) (a := 0) (b := -1) z1 z2 (by omega) (by omega) (by omega) (by omega)
  rw [if_neg (by omega)] at e1 e2
  have em : iI 0 - iI 1 = iI (-1) := by decide
  have tt : iI 0 = iI 0 := rfl
  have nn : (none : Option Nat) = none := rfl
  have ng : iI (-1) < iI 0 := by decide
  have rc5 : rc 5 h (some 14) = some 14 := rcv (by rw [ss_14 hS])
  have rc11 : rc 11 h (some 0) = some 0 := rcv (by rw [ss_0 hS])
  have rc12 : rc 12 h (some 29) = some 29 := rcv (by rw [ss_29 hS])
  have d := v_deed (N := N) hS (r := iI (-1)) (z := 0) (by omega)
  refine ⟨iI (-1), h, h, ?_, ?_⟩
  · have rn : fX5_ropeNumbered N h 14 (iI z) = some (none, h) := by
      simp only [fX5_ropeNumbered, fX5_ropeNumbered_b24, lit]
      refine bst (oIv (by rw [ss_14 hS]) hC.2.2.1.2.2.1) ?_
      rw [em]
      refine bst (e1) ?_
      refine ifp (tt) ?_
      rfl
    have br : fX5_breakRope N h 14 (iI z) = some (iI (-1), h) := by
      simp only [fX5_breakRope, lit, iI_neg]
      refine bst (rc5) ?_
      refine bst (rn) ?_
      refine ifp (nn) ?_
      rfl
    simp only [fX11_snap, fX11_snap_b20, lit]
    refine bst (sR_1100_0 hS) ?_
    refine bst (rc5) ?_
    refine bst (br) ?_
    refine ifp (ng) ?_
    refine bst (rc11) ?_
    refine bst (d) ?_
    rfl
  · have ir : fX12_isRope N h 29 (iI z) = some (iI 0, h) := by
      simp only [fX12_isRope, lit]
      refine bst (oIv (by rw [ss_29 hS]) hC.2.2.1.2.2.2.2.2) ?_
      rw [em]
      refine bst (e2) ?_
      rfl
    simp only [fX12_snap, lit, iI_neg]
    refine bst (rc12) ?_
    refine bst (ir) ?_
    refine ifp (tt) ?_
    rfl
theorem z_mens {N : Nat} {h : Hs} (hC : FZ h) (g1 : gI h 104 25 = iI 0) (g2 : gI h 1229 29 = iI 0) (p : Int32) : ∃ r h1 h2, fX11_men N h 0 p = some (r, h1) ∧ fX12_men N h1 29 p = some (r, h2) := by
  have hS := hC.1
  have tt : iI 0 = iI 0 := rfl
  have rc1 : rc 1 h (some 25) = some 25 := rcv (by rw [ss_25 hS])
  refine ⟨iI (-1), h, h, ?_, ?_⟩
  · have lm : fX1_leastMen N h 25 p = some (iI (-1), h) := by
      simp only [fX1_leastMen, fX1_leastMen_b17, lit, iI_neg]
      refine bst (oIv (by rw [ss_25 hS]) g1) ?_
      refine ifp (tt) ?_
      rfl
    simp only [fX11_men]
    refine bst (sR_1102_0 hS) ?_
    refine bst (rc1) ?_
    refine bst (lm) ?_
    rfl
  · simp only [fX12_men, fX12_men_b17, lit, iI_neg]
    refine bst (oIv (by rw [ss_29 hS]) g2) ?_
    refine ifp (tt) ?_
    rfl
theorem z_cw17 {N : Nat} {h : Hs} (hC : FZ h) {fu : Nat} (hf : 0 < fu) : fX1_countWorks_b17 N 25 fu h (iI 0) = some h := by
  have hS := hC.1
  obtain ⟨fu, rfl⟩ : ∃ m, fu = m + 1 := ⟨fu - 1, by omega⟩
  show fX1_countWorks_b17_body N (fX1_countWorks_b17 N 25 fu) 25 h (iI 0) = _
  have le : iI 0 ≤ iI 0 := by decide
  simp only [fX1_countWorks_b17_body]
  refine bst (sR_100_25 hS) ?_
  refine bst (oIv (by rw [ss_14 hS]) hC.2.2.1.1) ?_
  refine ifp (le) ?_
  rfl
theorem z_b54 {N : Nat} (hN : 0 < N) {h : Hs} (hC : FZ h) (g5 : gI h 105 25 = iI 1) (x y : Int32) {fu : Nat} (hf : 0 < fu) : ∃ h2, fX1_plan_b54 N 25 fu h x y (iI 0) (iI 0) = some (iI 0, h2) ∧ FZ h2 := by
  have hS := hC.1
  have hC3 := ((hC.u 106 25 (iI 0) (by decide)).u 107 25 (iI 0) (by decide)).u 108 25 (iI 0) (by decide)
  have cw := z_cw17 (N := N) hC3 (fu := N) hN
  refine ⟨_, ?_, hC3⟩
  obtain ⟨fu, rfl⟩ : ∃ m, fu = m + 1 := ⟨fu - 1, by omega⟩
  show fX1_plan_b54_body N (fX1_plan_b54 N 25 fu) 25 h x y (iI 0) (iI 0) = _
  have le : iI 0 ≤ iI 0 := by decide
  have n0 : ¬ iI 1 = iI 0 := by decide
  have rc1 : rc 1 h (some 25) = some 25 := rcv (by rw [ss_25 hS])
  have cc : fX1_countWorks N h 25 = some (uI (uI (uI h 106 25 (iI 0)) 107 25 (iI 0)) 108 25 (iI 0)) := by
    simp only [fX1_countWorks, lit]
    refine bst (qIv (by rw [ss_25 hS])) ?_
    refine bst (qIv (by rw [sh_uI, ss_25 hS])) ?_
    refine bst (qIv (by rw [sh_uI, sh_uI, ss_25 hS])) ?_
    exact cw
  have hS3 := hC3.1
  have g53 : gI (uI (uI (uI h 106 25 (iI 0)) 107 25 (iI 0)) 108 25 (iI 0)) 105 25 = iI 1 := by simp [HR, g5]
  simp only [fX1_plan_b54_body, fX1_plan_b132, fX1_plan_b149, lit, iI_neg]
  refine bst (sR_100_25 hS) ?_
  refine bst (oIv (by rw [ss_14 hS]) hC.2.2.1.1) ?_
  refine ifp (le) ?_
  refine bst (rc1) ?_
  refine bst (cc) ?_
  refine bst (oIv (by rw [ss_25 hS3]) g53) ?_
  refine ifn (n0) ?_
  rfl
theorem z_mb {N : Nat} (hN : 0 < N) {h : Hs} (hC : FZ h) (g3 : gI h 1230 29 = iI 0) (x y : Int32) : fX12_change_b46 N 29 N h x y (iI 0) (iI 0) = some (iI 0, h) := by
  have hS := hC.1
  have le : iI 0 ≤ iI 0 := by decide
  have tt : iI 0 = iI 0 := rfl
  obtain ⟨K, eK⟩ : ∃ m, N = m + 1 := ⟨N - 1, by omega⟩
  have e3 : fX12_change_b180 N 29 (K + 1) h (iI 0) (iI 0) = some (iI 0, h) := by
    show fX12_change_b180_body N (fX12_change_b180 N 29 K) 29 h (iI 0) (iI 0) = _
    simp only [fX12_change_b180_body, fX12_change_b215, fX12_change_b228, lit]
    refine bst (oIv (by rw [ss_29 hS]) hC.2.2.1.2.2.2.1) ?_
    refine ifp (le) ?_
    refine bst (oIv (by rw [ss_29 hS]) g3) ?_
    refine ifp (tt) ?_
    rfl
  rw [← eK] at e3
  have e2 : fX12_change_b80 N 29 (K + 1) h x y (iI 0) (iI 0) = some (iI 0, h) := by
    show fX12_change_b80_body N (fX12_change_b80 N 29 K) 29 h x y (iI 0) (iI 0) = _
    simp only [fX12_change_b80_body, fX12_change_b177, lit]
    refine bst (oIv (by rw [ss_29 hS]) hC.2.2.1.2.2.2.1) ?_
    refine ifp (le) ?_
    exact e3
  rw [← eK] at e2
  have e1 : fX12_change_b46 N 29 (K + 1) h x y (iI 0) (iI 0) = some (iI 0, h) := by
    show fX12_change_b46_body N (fX12_change_b46 N 29 K) 29 h x y (iI 0) (iI 0) = _
    simp only [fX12_change_b46_body, lit]
    refine bst (oIv (by rw [ss_29 hS]) hC.2.2.1.2.2.2.1) ?_
    refine ifp (le) ?_
    exact e2
  rw [← eK] at e1
  exact e1
theorem z_changes {N : Nat} (hN : 100000000 ≤ N) {h : Hs} (hC : FZ h) (p1 p2 : Int32) : ∃ r h1 h2, fX11_change N h 0 p1 p2 = some (r, h1) ∧ fX12_change N h1 29 p1 p2 = some (r, h2) := by
  obtain ⟨a, a1, a2, rfl⟩ := iI_ex p1
  obtain ⟨z, z1, z2, rfl⟩ := iI_ex p2
  have hS := hC.1
  have rc1 : rc 1 h (some 25) = some 25 := rcv (by rw [ss_25 hS])
  have up : ∀ {r : Int32} {h1 : Hs}, fX1_plan N h 25 (iI a) (iI z) = some (r, h1) → fX11_change N h 0 (iI a) (iI z) = some (r, h1) := by
    intro r h1 e
    simp only [fX11_change]
    refine bst (sR_1102_0 hS) ?_
    refine bst (rc1) ?_
    refine bst (e) ?_
    rfl
  have tt : iI 0 = iI 0 := rfl
  have n0 : ¬ iI 1 = iI 0 := by decide
  have e1 := v_isW (N := N) (h := h) (x := a) (a := 0) (b := 9) a1 a2 (by omega) (by omega) (by omega) (by omega)
  have t1 := isTurn_c (N := N) (h := h) z1 z2
  by_cases qa : 0 ≤ a ∧ a ≤ 9
  · rw [if_pos qa] at e1
    by_cases qt : -9999 ≤ z ∧ z ≤ 9999
    · rw [if_pos qt] at t1
      by_cases q0 : z = 0
      · have q1 : iI z = iI 0 := by rw [q0]
        have e2 := v_inW (N := N) (h := h) (x := a) (a := 0) (b := 9) a1 a2 (by omega) (by omega) (by omega) (by omega)
        have t2 := isTurn_m (N := N) (h := h) z1 z2
        rw [if_pos qa] at e2
        rw [if_pos qt] at t2
        refine ⟨iI (-1), h, h, up ?_, ?_⟩
        · simp only [fX1_plan, fX1_plan_b21, lit, iI_neg]
          refine bst (e1) ?_
          refine ifn (n0) ?_
          refine bst (t1) ?_
          refine ifn (n0) ?_
          refine ifp (q1) ?_
          rfl
        · simp only [fX12_change, fX12_change_b21, lit, iI_neg]
          refine bst (e2) ?_
          refine ifn (n0) ?_
          refine bst (t2) ?_
          refine ifn (n0) ?_
          refine ifp (q1) ?_
          rfl
      · have q1 : ¬ iI z = iI 0 := fun w => q0 ((iI_eq (by omega) (by omega) (by omega) (by omega)).mp w)
        have ke4 : Ke [104, 105] [26, 27] [] [] h (uI (uI h 104 25 (iI 1)) 105 25 (iI 1)) := (Ke_rf.u 104 25 _ (by decide)).u 105 25 _ (by decide)
        have hC4 := hC.e ke4 (by decide) (by decide)
        have g4 : gI (uI (uI h 104 25 (iI 1)) 105 25 (iI 1)) 105 25 = iI 1 := by simp [HR]
        have z4 : qZ 1 5 (uI h 104 25 (iI 1)) (some 25) (iI 1) = some (uI (uI h 104 25 (iI 1)) 105 25 (iI 1)) := qZv (by rw [sh_uI, ss_25 hS]) (by omega)
        generalize uI (uI h 104 25 (iI 1)) 105 25 (iI 1) = h4 at ke4 hC4 g4 z4
        have f6 := v_fill hN (h := h4) (a := 26) (n := 40) (v := -1) (by omega) (ss_26 hC4.1)
        have hC6 := hC4.e (F := []) (A := [26]) (Ke_rf.a 26 (fun j => if j < 40 then iI (-1) else aI h4 26 j) (by decide)) (by decide) (by decide)
        have g6 : gI (wA h4 26 (fun j => if j < 40 then iI (-1) else aI h4 26 j)) 105 25 = iI 1 := by rw [← g4]; rfl
        generalize wA h4 26 (fun j => if j < 40 then iI (-1) else aI h4 26 j) = h6 at f6 hC6 g6
        have f8 := v_fill hN (h := h6) (a := 27) (n := 40) (v := -1) (by omega) (ss_27 hC6.1)
        have hC8 := hC6.e (F := []) (A := [27]) (Ke_rf.a 27 (fun j => if j < 40 then iI (-1) else aI h6 27 j) (by decide)) (by decide) (by decide)
        have g8 : gI (wA h6 27 (fun j => if j < 40 then iI (-1) else aI h6 27 j)) 105 25 = iI 1 := by rw [← g6]; rfl
        generalize wA h6 27 (fun j => if j < 40 then iI (-1) else aI h6 27 j) = h8 at f8 hC8 g8
        obtain ⟨h9, e9, hC9⟩ := z_b54 (N := N) (by omega) hC8 g8 (iI a) (iI z) (fu := N) (by omega)
        have hS9 := hC9.1
        have e2 := v_inW (N := N) (h := h9) (x := a) (a := 0) (b := 9) a1 a2 (by omega) (by omega) (by omega) (by omega)
        have t2 := isTurn_m (N := N) (h := h9) z1 z2
        rw [if_pos qa] at e2
        rw [if_pos qt] at t2
        have hCa := ((hC9.u 1229 29 (iI 1) (by decide)).u 1230 29 (iI 0) (by decide)).u 1234 29 (iI 0) (by decide)
        have ga : gI (uI (uI (uI h9 1229 29 (iI 1)) 1230 29 (iI 0)) 1234 29 (iI 0)) 1230 29 = iI 0 := by simp [HR]
        have mb := z_mb (N := N) (by omega) hCa ga (iI a) (iI z)
        have c29 : (sh h9 29).1 = 12 := by rw [ss_29 hS9]
        have gt : gI (uI (uI h9 1229 29 (iI 1)) 1230 29 (iI 0)) 1201 29 = iI 0 := by simp [HR, hC9.2.2.1.2.2.2.1]
        refine ⟨iI 0, h9, uI (uI (uI h9 1229 29 (iI 1)) 1230 29 (iI 0)) 1234 29 (iI 0), up ?_, ?_⟩
        · simp only [fX1_plan, lit, iI_neg]
          refine bst (e1) ?_
          refine ifn (n0) ?_
          refine bst (t1) ?_
          refine ifn (n0) ?_
          refine ifn (q1) ?_
          refine bst (qZv (by rw [ss_25 hS]) (by omega)) ?_
          refine bst (z4) ?_
          refine bst (sR_101_25 hC4.1) ?_
          refine bst (f6) ?_
          refine bst (sR_102_25 hC6.1) ?_
          refine bst (f8) ?_
          exact e9
        · simp only [fX12_change, lit, iI_neg]
          refine bst (e2) ?_
          refine ifn (n0) ?_
          refine bst (t2) ?_
          refine ifn (n0) ?_
          refine ifn (q1) ?_
          refine bst (qZv c29 (by omega)) ?_
          refine bst (qZv (by rw [sh_uI]; exact c29) (by omega)) ?_
          refine bst (oIv (by rw [sh_uI, sh_uI]; exact c29) gt) ?_
          refine bst (qIv (by rw [sh_uI, sh_uI]; exact c29)) ?_
          exact mb
    · rw [if_neg qt] at t1
      have e2 := v_inW (N := N) (h := h) (x := a) (a := 0) (b := 9) a1 a2 (by omega) (by omega) (by omega) (by omega)
      have t2 := isTurn_m (N := N) (h := h) z1 z2
      rw [if_pos qa] at e2
      rw [if_neg qt] at t2
      refine ⟨iI (-1), h, h, up ?_, ?_⟩
      · simp only [fX1_plan, fX1_plan_b21, lit, iI_neg]
        refine bst (e1) ?_
        refine ifn (n0) ?_
        refine bst (t1) ?_
        refine ifp (tt) ?_
        rfl
      · simp only [fX12_change, fX12_change_b21, lit, iI_neg]
        refine bst (e2) ?_
        refine ifn (n0) ?_
        refine bst (t2) ?_
        refine ifp (tt) ?_
        rfl
  · rw [if_neg qa] at e1
    have e2 := v_inW (N := N) (h := h) (x := a) (a := 0) (b := 9) a1 a2 (by omega) (by omega) (by omega) (by omega)
    rw [if_neg qa] at e2
    refine ⟨iI (-1), h, h, up ?_, ?_⟩
    · simp only [fX1_plan, fX1_plan_b21, lit, iI_neg]
      refine bst (e1) ?_
      refine ifp (tt) ?_
      rfl
    · simp only [fX12_change, fX12_change_b21, lit, iI_neg]
      refine bst (e2) ?_
      refine ifp (tt) ?_
      rfl
theorem o_fst {x : Option (Int32 × Hs)} {r : Int32} (h : x.map Prod.fst = some r) : ∃ q, x = some (r, q) := by
  cases x with
  | none => cases h
  | some a => cases h; exact ⟨a.2, rfl⟩
theorem o_snd {x : Option (Int32 × Hs)} {r : Int32} (d : Int32 × Hs) (h : x.map Prod.fst = some r) : x = some (r, (x.getD d).2) := by
  cases x with
  | none => cases h
  | some a => cases h; rfl
theorem z_play : ∃ r h1 h2, fX11_play nN hF1 0 = some (r, h1) ∧ fX12_play nN h1 29 = some (r, h2) := by
  have e1 := o_snd (x := fX11_play nN hF1 0) (r := -100) (0, h00) (by decide +kernel)
  obtain ⟨h2, e2⟩ := o_fst (x := fX12_play nN ((fX11_play nN hF1 0).getD (0, h00)).2 29) (r := -100) (by decide +kernel)
  exact ⟨_, _, h2, e1, e2⟩
theorem z_back : ∃ r h1 h2, fX11_back nN hF1 0 = some (r, h1) ∧ fX12_back nN h1 29 = some (r, h2) := by
  have e1 := o_snd (x := fX11_back nN hF1 0) (r := -2) (0, h00) (by decide +kernel)
  obtain ⟨h2, e2⟩ := o_fst (x := fX12_back nN ((fX11_back nN hF1 0).getD (0, h00)).2 29) (r := -2) (by decide +kernel)
  exact ⟨_, _, h2, e1, e2⟩
theorem z_paint : ∃ r h1 h2, fX11_paint nN hF1 0 = some (r, h1) ∧ fX12_paint nN h1 29 = some (r, h2) := by
  have e1 := o_snd (x := fX11_paint nN hF1 0) (r := -2) (0, h00) (by decide +kernel)
  obtain ⟨h2, e2⟩ := o_fst (x := fX12_paint nN ((fX11_paint nN hF1 0).getD (0, h00)).2 29) (r := -2) (by decide +kernel)
  exact ⟨_, _, h2, e1, e2⟩
