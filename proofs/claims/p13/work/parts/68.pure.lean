def wS (z : Int) (wk : Nat → Int) (i d : Nat) : Int := if z = 0 then 2 * (cntB (fun i => decide (wk i = 2)) i d : Int) + 3 * (cntB (fun i => decide (wk i = 3)) i d : Int) + 5 * (cntB (fun i => decide (wk i = 5)) i d : Int) else (cntB (fun i => decide (wk i = 2)) i d : Int) + (cntB (fun i => decide (wk i = 3)) i d : Int) + (cntB (fun i => decide (wk i = 5)) i d : Int)
theorem L_work {N : Nat} {h : Hs} (hS : Sk h) {na : Nat} (hn : na ≤ 40) {wk : Nat → Int} (k3 : gI h 1234 29 = iI na) (k5 : ∀ i, i < na → aI h 51 i = iI (wk i) ∧ (wk i = 0 ∨ wk i = 2 ∨ wk i = 3 ∨ wk i = 5)) {z : Int} (hz : z = 0 ∨ z = 1) : ∀ (d i : Nat) (acc : Int) (fu : Nat), i + d = na → d < fu → fX12_work_b32 N 29 fu h (iI z) (iI acc) (iI i) = some (iI (acc + wS z wk i d), h) := by
  have o34 : oI 12 34 h (some 29) = some (iI na) := oIv (by rw [ss_29 hS]) k3
  intro d
  induction d with
  | zero =>
    intro i acc fu hi hf
    obtain ⟨fu, rfl⟩ : ∃ k, fu = k + 1 := ⟨fu - 1, by omega⟩
    show fX12_work_b32_body N (fX12_work_b32 N 29 fu) 29 h (iI z) (iI acc) (iI i) = _
    have a1 : iI (na : Int) ≤ iI (i : Int) := (iI_le (by omega) (by omega) (by omega) (by omega)).mpr (by omega)
    simp only [fX12_work_b32_body, lit]
    refine bst (o34) ?_
    refine ifp (a1) ?_
    simp [wS, cntB]
  | succ d ih =>
    intro i acc fu hi hf
    obtain ⟨fu, rfl⟩ : ∃ k, fu = k + 1 := ⟨fu - 1, by omega⟩
    show fX12_work_b32_body N (fX12_work_b32 N 29 fu) 29 h (iI z) (iI acc) (iI i) = _
    have a1 : ¬ iI (na : Int) ≤ iI (i : Int) := fun q => by have := (iI_le (by omega) (by omega) (by omega) (by omega)).mp q; omega
    obtain ⟨k6, k7⟩ := k5 i (by omega)
    have q := fun a => ih (i + 1) a fu (by omega) (by omega)
    simp only [Int.natCast_add, Int.natCast_one] at q
    have la := lAv (ss_51 hS) (show i < 40 by omega) (by omega) k6
    simp only [fX12_work_b32_body, fX12_work_b68, lit, iI_add, Option.bind_some]
    rcases hz with rfl | rfl
    · have e := q (acc + wk i)
      have e2 : iI acc + iI (wk i) = iI (acc + wk i) := by rw [iI_add]
      refine bst (o34) ?_
      refine ifn (a1) ?_
      refine ifp (rfl) ?_
      refine bst (sR_1233_29 hS) ?_
      refine bst (la) ?_
      rw [e2, e]
      congr 3
      simp only [wS, cntB, if_true]
      rcases k7 with k | k | k | k <;> simp [k] <;> omega
    · by_cases w0 : wk i = 0
      · have e := q (acc + 0)
        have w1 : iI (wk i) ≤ iI 0 := by rw [w0]; decide
        refine bst (o34) ?_
        refine ifn (a1) ?_
        refine ifn (n10) ?_
        refine bst (sR_1233_29 hS) ?_
        refine bst (la) ?_
        refine ifp (w1) ?_
        rw [e]
        congr 3
        simp only [wS, cntB]
        simp [w0]
      · have e := q (acc + 1)
        have w1 : ¬ iI (wk i) ≤ iI 0 := fun q => by have := (iI_le (by omega) (by omega) (by omega) (by omega)).mp q; omega
        refine bst (o34) ?_
        refine ifn (a1) ?_
        refine ifn (n10) ?_
        refine bst (sR_1233_29 hS) ?_
        refine bst (la) ?_
        refine ifn (w1) ?_
        rw [e]
        congr 3
        simp only [wS, cntB]
        rcases k7 with k | k | k | k
        · exact absurd k w0
        · simp [k]
          omega
        · simp [k]
          omega
        · simp [k]
          omega
theorem t_work {N : Nat} (hN : 100000000 ≤ N) {h : Hs} (hS : Sk h) {nt na : Nat} (hnt : nt ≤ 40) {as no : Bool} {cr cd wk : Nat → Int} (hC : RChg h nt na as no cr cd wk) (p1 : Int32) : ∃ a, fX11_work N h 0 p1 = some (a, h) ∧ fX12_work N h 29 p1 = some (a, h) := by
  obtain ⟨z, z1, z2, rfl⟩ := iI_ex p1
  obtain ⟨⟨c1, c2⟩, c3⟩ := hC
  have rc1 : rc 1 h (some 25) = some 25 := rcv (by rw [ss_25 hS])
  have tl : ∀ a, fX1_workFor N h 25 (iI z) = some (a, h) → fX11_work N h 0 (iI z) = some (a, h) := by
    intro a e
    simp only [fX11_work]
    refine bst (sR_1102_0 hS) ?_
    refine bst (rc1) ?_
    refine bst (e) ?_
    rfl
  have wz := v_isW (N := N) (h := h) (x := z) (a := 0) (b := 1) z1 z2 (by omega) (by omega) (by omega) (by omega)
  have mz := v_inW (N := N) (h := h) (x := z) (a := 0) (b := 1) z1 z2 (by omega) (by omega) (by omega) (by omega)
  cases has : as with
  | false =>
    rw [has] at c1 c2
    refine ⟨iI (-1), tl _ ?_, ?_⟩
    · simp only [fX1_workFor, fX1_workFor_b16, lit, iI_neg]
      refine bst (oIv (by rw [ss_25 hS]) c1) ?_
      refine ifp (rfl) ?_
      rfl
    · simp only [fX12_work, fX12_work_b16, lit, iI_neg]
      refine bst (oIv (by rw [ss_29 hS]) c2) ?_
      refine ifp (rfl) ?_
      rfl
  | true =>
    obtain ⟨⟨k1, k2, k3, k4⟩, -, -, k7⟩ := c3 has
    rw [has] at c1 c2
    have o4 : oI 1 4 h (some 25) = some (iI 1) := oIv (by rw [ss_25 hS]) c1
    have o29 : oI 12 29 h (some 29) = some (iI 1) := oIv (by rw [ss_29 hS]) c2
    by_cases w : 0 ≤ z ∧ z ≤ 1
    · rw [if_pos w] at wz mz
      cases hno : no with
      | true =>
        rw [hno] at k1 k2
        have o5 : oI 1 5 h (some 25) = some (iI 0) := oIv (by rw [ss_25 hS]) k1
        have o30 : oI 12 30 h (some 29) = some (iI 1) := oIv (by rw [ss_29 hS]) k2
        refine ⟨iI (-2), tl _ ?_, ?_⟩
        · simp only [fX1_workFor, fX1_workFor_b16, lit, iI_neg]
          refine bst (o4) ?_
          refine ifn (n10) ?_
          refine bst (wz) ?_
          refine ifn (n10) ?_
          refine bst (o5) ?_
          refine ifp (rfl) ?_
          rfl
        · simp only [fX12_work, fX12_work_b16, lit, iI_neg]
          refine bst (o29) ?_
          refine ifn (n10) ?_
          refine bst (mz) ?_
          refine ifn (n10) ?_
          refine bst (o30) ?_
          refine ifn (n10) ?_
          rfl
      | false =>
        obtain ⟨j1, j2, j3, j4⟩ := k7 hno
        rw [hno] at k1 k2
        have o5 : oI 1 5 h (some 25) = some (iI 1) := oIv (by rw [ss_25 hS]) k1
        have o30 : oI 12 30 h (some 29) = some (iI 0) := oIv (by rw [ss_29 hS]) k2
        have o6 : oI 1 6 h (some 25) = some (iI (cntB (fun i => decide (wk i = 2)) 0 na)) := oIv (by rw [ss_25 hS]) j2
        have o7 : oI 1 7 h (some 25) = some (iI (cntB (fun i => decide (wk i = 3)) 0 na)) := oIv (by rw [ss_25 hS]) j3
        have o8 : oI 1 8 h (some 25) = some (iI (cntB (fun i => decide (wk i = 5)) 0 na)) := oIv (by rw [ss_25 hS]) j4
        have lw := L_work (N := N) hS (by omega) k3 j1 (z := z) (by omega) na 0 0 N (by omega) (by omega)
        simp only [Int.natCast_zero, Int.zero_add] at lw
        refine ⟨iI (wS z wk 0 na), tl _ ?_, ?_⟩
        · simp only [fX1_workFor, fX1_workFor_b16, fX1_workFor_b59, fX1_works, lit, iI_neg]
          by_cases z0 : z = 0
          · subst z0
            refine bst (o4) ?_
            refine ifn (n10) ?_
            refine bst (wz) ?_
            refine ifn (n10) ?_
            refine bst (o5) ?_
            refine ifn (n10) ?_
            refine ifp (rfl) ?_
            refine bst (o6) ?_
            refine bst (o7) ?_
            refine bst (o8) ?_
            simp only [iI_mul, iI_add, wS, if_true]
          · have z9 : z = 1 := by omega
            subst z9
            have wf : ((oI 1 6 h (some 25)).bind fun v1 => (oI 1 7 h (some 25)).bind fun v2 => (oI 1 8 h (some 25)).bind fun v3 => some ((v1 + v2) + v3, h)) = some (iI (wS 1 wk 0 na), h) := by
              refine bst (o6) ?_
              refine bst (o7) ?_
              refine bst (o8) ?_
              simp only [iI_add, wS]
              simp
            refine bst (o4) ?_
            refine ifn (n10) ?_
            refine bst (wz) ?_
            refine ifn (n10) ?_
            refine bst (o5) ?_
            refine ifn (n10) ?_
            refine ifn (n10) ?_
            refine bst (rc1) ?_
            refine bst (wf) ?_
            rfl
        · simp only [fX12_work, fX12_work_b16, lit, iI_neg]
          refine bst (o29) ?_
          refine ifn (n10) ?_
          refine bst (mz) ?_
          refine ifn (n10) ?_
          refine bst (o30) ?_
          refine ifp (rfl) ?_
          exact lw
    · rw [if_neg w] at wz mz
      refine ⟨iI (-1), tl _ ?_, ?_⟩
      · simp only [fX1_workFor, fX1_workFor_b16, lit, iI_neg]
        refine bst (o4) ?_
        refine ifn (n10) ?_
        refine bst (wz) ?_
        refine ifp (rfl) ?_
        rfl
      · simp only [fX12_work, fX12_work_b16, lit, iI_neg]
        refine bst (o29) ?_
        refine ifn (n10) ?_
        refine bst (mz) ?_
        refine ifp (rfl) ?_
        rfl
