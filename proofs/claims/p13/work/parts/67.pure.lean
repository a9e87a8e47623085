/-! ===== what a change has told: told, work ===== -/
def RChg (h : Hs) (nt na : Nat) (as no : Bool) (cr cd wk : Nat → Int) : Prop :=
  (gI h 104 25 = iI (b2 as) ∧ gI h 1229 29 = iI (b2 as)) ∧ (as = true → (gI h 105 25 = iI (b2 (!no)) ∧ gI h 1230 29 = iI (b2 no) ∧ gI h 1234 29 = iI na ∧ na ≤ nt) ∧ (∀ i, i < na → aI h 26 i = iI (cr i) ∧ aI h 49 i = iI (cr i) ∧ aI h 27 i = iI (cd i) ∧ aI h 50 i = iI (cd i)) ∧ (∀ i, na ≤ i → i < 40 → aI h 26 i = iI (-1) ∧ aI h 27 i = iI (-1)) ∧ (no = false → (∀ i, i < na → aI h 51 i = iI (wk i) ∧ (wk i = 0 ∨ wk i = 2 ∨ wk i = 3 ∨ wk i = 5)) ∧ gI h 106 25 = iI (cntB (fun i => decide (wk i = 2)) 0 na) ∧ gI h 107 25 = iI (cntB (fun i => decide (wk i = 3)) 0 na) ∧ gI h 108 25 = iI (cntB (fun i => decide (wk i = 5)) 0 na)))
theorem t_told {N : Nat} {h : Hs} (hS : Sk h) {nt na : Nat} {tA : Nat → Nat} {tl tw tg ls ms pa : Nat → Int} {as no : Bool} {cr cd wk : Nat → Int} (hT : RTh h nt tA tl tw tg ls ms pa) (hC : RChg h nt na as no cr cd wk) (p1 p2 : Int32) : ∃ a, fX11_told N h 0 p1 p2 = some (a, h) ∧ fX12_told N h 29 p1 p2 = some (a, h) := by
  obtain ⟨z, z1, z2, rfl⟩ := iI_ex p1
  obtain ⟨y, y1, y2, rfl⟩ := iI_ex p2
  obtain ⟨⟨c1, c2⟩, c3⟩ := hC
  have t3 := hT.1.2.2
  have rc1 : rc 1 h (some 25) = some 25 := rcv (by rw [ss_25 hS])
  have rc5 : rc 5 h (some 14) = some 14 := rcv (by rw [ss_14 hS])
  have tl : ∀ a, fX1_tieOf N h 25 (iI z) (iI y) = some (a, h) → fX11_told N h 0 (iI z) (iI y) = some (a, h) := by
    intro a e
    simp only [fX11_told]
    refine bst (sR_1102_0 hS) ?_
    refine bst (rc1) ?_
    refine bst (e) ?_
    rfl
  have wy := v_isW (N := N) (h := h) (x := y) (a := 0) (b := 1) y1 y2 (by omega) (by omega) (by omega) (by omega)
  have my := v_inW (N := N) (h := h) (x := y) (a := 0) (b := 1) y1 y2 (by omega) (by omega) (by omega) (by omega)
  have o4 : oI 1 4 h (some 25) = some (iI (b2 as)) := oIv (by rw [ss_25 hS]) c1
  have o29 : oI 12 29 h (some 29) = some (iI (b2 as)) := oIv (by rw [ss_29 hS]) c2
  have B0 : fX1_tieOf_b25 N 25 h (iI z) (iI y) (iI 0) = some (iI (-1), h) := by
    simp only [fX1_tieOf_b25, fX1_tieOf_b37, lit, iI_neg]
    by_cases q : iI (b2 as) = iI 0
    · skip
      refine bst (o4) ?_
      refine ifp (q) ?_
      rfl
    · skip
      refine bst (o4) ?_
      refine ifn (q) ?_
      refine ifp (trivial) ?_
      rfl
  have nt1 : ¬ (0 ≤ z ∧ z ≤ (nt : Int) - 1) ∨ ¬ (0 ≤ y ∧ y ≤ 1) → fX1_tieOf N h 25 (iI z) (iI y) = some (iI (-1), h) := by
    intro q
    simp only [fX1_tieOf, fX1_tieOf_b24, lit]
    by_cases q1 : 0 ≤ z ∧ z ≤ (nt : Int) - 1
    · obtain ⟨i, rfl⟩ : ∃ i : Nat, z = i := ⟨z.toNat, by omega⟩
      have et := v_thingY (N := N) hS hT (i := i) (by omega)
      rcases q with q | q
      · exact absurd q1 q
      · rw [if_neg q] at wy
        refine bst (sR_100_25 hS) ?_
        refine bst (rc5) ?_
        refine bst (et) ?_
        refine ifn (fun q => by cases q) ?_
        refine bst (wy) ?_
        refine ifp (rfl) ?_
        exact B0
    · have et := v_thingN (N := N) hS hT z1 z2 q1
      refine bst (sR_100_25 hS) ?_
      refine bst (rc5) ?_
      refine bst (et) ?_
      refine ifp (rfl) ?_
      exact B0
  cases has : as with
  | false =>
    rw [has] at o4 o29
    refine ⟨iI (-1), tl _ ?_, ?_⟩
    · by_cases q1 : 0 ≤ z ∧ z ≤ (nt : Int) - 1
      · by_cases q2 : 0 ≤ y ∧ y ≤ 1
        · obtain ⟨i, rfl⟩ : ∃ i : Nat, z = i := ⟨z.toNat, by omega⟩
          have et := v_thingY (N := N) hS hT (i := i) (by omega)
          rw [if_pos q2] at wy
          simp only [fX1_tieOf, fX1_tieOf_b25, fX1_tieOf_b37, lit, iI_neg]
          refine bst (sR_100_25 hS) ?_
          refine bst (rc5) ?_
          refine bst (et) ?_
          refine ifn (fun q => by cases q) ?_
          refine bst (wy) ?_
          refine ifn (n10) ?_
          refine bst (o4) ?_
          refine ifp (rfl) ?_
          rfl
        · exact nt1 (Or.inr q2)
      · exact nt1 (Or.inl q1)
    · simp only [fX12_told, fX12_told_b30, fX12_told_b53, lit, iI_neg]
      refine bst (o29) ?_
      refine ifp (rfl) ?_
      rfl
  | true =>
    obtain ⟨⟨k1, k2, k3, k4⟩, k5, k6, -⟩ := c3 has
    rw [has] at o4 o29
    have o4' : oI 1 4 h (some 25) = some (iI 1) := o4
    have o29' : oI 12 29 h (some 29) = some (iI 1) := o29
    have o34 : oI 12 34 h (some 29) = some (iI na) := oIv (by rw [ss_29 hS]) k3
    have mz := v_inW (N := N) (h := h) (x := z) (a := 0) (b := (na : Int) - 1) z1 z2 (by omega) (by omega) (by omega) (by omega)
    have sb : iI (na : Int) - iI 1 = iI ((na : Int) - 1) := by rw [iI_sub]
    by_cases q2 : 0 ≤ y ∧ y ≤ 1
    · rw [if_pos q2] at wy my
      by_cases q1 : 0 ≤ z ∧ z ≤ (nt : Int) - 1
      · obtain ⟨i, rfl⟩ : ∃ i : Nat, z = i := ⟨z.toNat, by omega⟩
        have et := v_thingY (N := N) hS hT (i := i) (by omega)
        have ye : iI y = iI 0 ↔ y = 0 := iI_eq y1 y2 (by omega) (by omega)
        have cl : ∀ v1 v2 : Int, aI h 26 i = iI v1 → aI h 27 i = iI v2 → fX1_tieOf N h 25 (iI i) (iI y) = some (iI (if y = 0 then v1 else v2), h) := by
          intro v1 v2 e1 e2
          simp only [fX1_tieOf, fX1_tieOf_b25, fX1_tieOf_b58, lit, iI_neg]
          by_cases y0 : y = 0
          · rw [if_pos y0]
            refine bst (sR_100_25 hS) ?_
            refine bst (rc5) ?_
            refine bst (et) ?_
            refine ifn (fun q => by cases q) ?_
            refine bst (wy) ?_
            refine ifn (n10) ?_
            refine bst (o4') ?_
            refine ifn (n10) ?_
            refine ifn (n10) ?_
            refine ifp (ye.mpr y0) ?_
            refine bst (sR_101_25 hS) ?_
            refine bst (lAv (ss_26 hS) (by omega) (by omega) e1) ?_
            rfl
          · rw [if_neg y0]
            refine bst (sR_100_25 hS) ?_
            refine bst (rc5) ?_
            refine bst (et) ?_
            refine ifn (fun q => by cases q) ?_
            refine bst (wy) ?_
            refine ifn (n10) ?_
            refine bst (o4') ?_
            refine ifn (n10) ?_
            refine ifn (n10) ?_
            refine ifn (fun q => y0 (ye.mp q)) ?_
            refine bst (sR_102_25 hS) ?_
            refine bst (lAv (ss_27 hS) (by omega) (by omega) e2) ?_
            rfl
        by_cases q3 : i < na
        · obtain ⟨r1, r2, r3, r4⟩ := k5 i q3
          rw [if_pos (by omega)] at mz
          refine ⟨_, tl _ (cl _ _ r1 r3), ?_⟩
          simp only [fX12_told, fX12_told_b30, fX12_told_b53, lit, iI_neg]
          by_cases y0 : y = 0
          · rw [if_pos y0]
            refine bst (o29') ?_
            refine ifn (n10) ?_
            refine bst (o34) ?_
            rw [sb]
            refine bst (mz) ?_
            refine ifn (n10) ?_
            refine bst (my) ?_
            refine ifn (n10) ?_
            refine ifp (ye.mpr y0) ?_
            refine bst (sR_1231_29 hS) ?_
            refine bst (lAv (ss_49 hS) (by omega) (by omega) r2) ?_
            rfl
          · rw [if_neg y0]
            refine bst (o29') ?_
            refine ifn (n10) ?_
            refine bst (o34) ?_
            rw [sb]
            refine bst (mz) ?_
            refine ifn (n10) ?_
            refine bst (my) ?_
            refine ifn (n10) ?_
            refine ifn (fun q => y0 (ye.mp q)) ?_
            refine bst (sR_1232_29 hS) ?_
            refine bst (lAv (ss_50 hS) (by omega) (by omega) r4) ?_
            rfl
        · obtain ⟨r1, r2⟩ := k6 i (by omega) (by omega)
          rw [if_neg (by omega)] at mz
          refine ⟨_, tl _ (cl _ _ r1 r2), ?_⟩
          have ez : (if y = 0 then (-1 : Int) else -1) = -1 := by by_cases y0 : y = 0 <;> simp [y0]
          rw [ez]
          simp only [fX12_told, fX12_told_b30, fX12_told_b53, lit, iI_neg]
          refine bst (o29') ?_
          refine ifn (n10) ?_
          refine bst (o34) ?_
          rw [sb]
          refine bst (mz) ?_
          refine ifp (rfl) ?_
          rfl
      · rw [if_neg (by omega)] at mz
        refine ⟨iI (-1), tl _ (nt1 (Or.inl q1)), ?_⟩
        simp only [fX12_told, fX12_told_b30, fX12_told_b53, lit, iI_neg]
        refine bst (o29') ?_
        refine ifn (n10) ?_
        refine bst (o34) ?_
        rw [sb]
        refine bst (mz) ?_
        refine ifp (rfl) ?_
        rfl
    · rw [if_neg q2] at wy my
      refine ⟨iI (-1), tl _ (nt1 (Or.inr q2)), ?_⟩
      simp only [fX12_told, fX12_told_b30, fX12_told_b53, lit, iI_neg]
      by_cases q3 : 0 ≤ z ∧ z ≤ (na : Int) - 1
      · rw [if_pos q3] at mz
        refine bst (o29') ?_
        refine ifn (n10) ?_
        refine bst (o34) ?_
        rw [sb]
        refine bst (mz) ?_
        refine ifn (n10) ?_
        refine bst (my) ?_
        refine ifp (rfl) ?_
        rfl
      · rw [if_neg q3] at mz
        refine bst (o29') ?_
        refine ifn (n10) ?_
        refine bst (o34) ?_
        rw [sb]
        refine bst (mz) ?_
        refine ifp (rfl) ?_
        rfl
