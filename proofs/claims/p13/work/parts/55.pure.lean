theorem m_rope {N : Nat} {h : Hs} (hS : Sk h) {nr nt : Nat} (c2 : gI h 1211 29 = iI nr) (c3 : nr ≤ 40) (t2 : gI h 1201 29 = iI nt) (t3 : nt ≤ 40) (z y x g m : Int) (z1 : -2147483648 ≤ z) (z2 : z < 2147483648) (y1 : -2147483648 ≤ y) (y2 : y < 2147483648) (x1 : -2147483648 ≤ x) (x2 : x < 2147483648) (g1 : -1000000000 ≤ g) (g2 : g < 1000000000) (m1 : -10 < m) (m2 : m < 10) (dv : iI y / iI 10 = iI g) (mm : iI y - iI g * iI 10 = iI m) (gy : 1 ≤ g → 0 ≤ y) :
    (¬ ((0 ≤ z ∧ z ≤ (nt : Int) - 1) ∧ (1 ≤ g ∧ g ≤ 5) ∧ (1 ≤ m ∧ m ≤ 2) ∧ (1 ≤ x ∧ x ≤ 9999)) → fX12_rope N h 29 (iI z) (iI y) (iI x) = some (iI (-1), h)) ∧ (∀ i : Nat, z = i → i < nt → 1 ≤ g ∧ g ≤ 5 → 1 ≤ m ∧ m ≤ 2 → 1 ≤ x ∧ x ≤ 9999 → (¬ nr < 40 → fX12_rope N h 29 (iI z) (iI y) (iI x) = some (iI (-3), h)) ∧ (nr < 40 → fX12_rope N h 29 (iI z) (iI y) (iI x) = some (iI nr, ropeM h nr i (if m = 1 then 1 else -1) g x))) := by
  have wg := v_inW (N := N) (h := h) (x := g) (a := 1) (b := 5) (by omega) (by omega) (by omega) (by omega) (by omega) (by omega)
  have wm := v_inW (N := N) (h := h) (x := m) (a := 1) (b := 2) (by omega) (by omega) (by omega) (by omega) (by omega) (by omega)
  have wx := v_inW (N := N) (h := h) (x := x) (a := 1) (b := 9999) (by omega) (by omega) (by omega) (by omega) (by omega) (by omega)
  have o9 : oI 12 11 h (some 29) = some (iI nr) := oIv (by rw [ss_29 hS]) c2
  have it := v_isThing (N := N) hS t2 t3 z1 z2
  have ly : iI y < iI 0 ↔ y < 0 := iI_lt y1 y2 (by omega) (by omega)
  simp only [fX12_rope, fX12_rope_b47, fX12_rope_b105, lit, iI_neg, dv, mm]
  refine ⟨fun hn => ?_, fun i hzi hi gg mg xg => ⟨fun hf => ?_, fun hf => ?_⟩⟩
  · by_cases a0 : 0 ≤ z ∧ z ≤ (nt : Int) - 1
    · rw [if_pos a0] at it
      by_cases a1 : 1 ≤ g ∧ g ≤ 5
      · rw [if_pos a1] at wg
        have ny : ¬ iI y < iI 0 := fun q => by have := ly.mp q; have := gy a1.1; omega
        by_cases a2 : 1 ≤ m ∧ m ≤ 2
        · rw [if_pos a2] at wm
          rw [if_neg (fun q => hn ⟨a0, a1, a2, q⟩)] at wx
          refine bst (rcv (by rw [ss_29 hS])) ?_
          refine bst (it) ?_
          refine ifn (n10) ?_
          refine bst (wg) ?_
          refine ifn (n10) ?_
          refine ifn (ny) ?_
          refine bst (wm) ?_
          refine ifn (n10) ?_
          refine bst (wx) ?_
          refine ifp (rfl) ?_
          rfl
        · rw [if_neg a2] at wm
          refine bst (rcv (by rw [ss_29 hS])) ?_
          refine bst (it) ?_
          refine ifn (n10) ?_
          refine bst (wg) ?_
          refine ifn (n10) ?_
          refine ifn (ny) ?_
          refine bst (wm) ?_
          refine ifp (rfl) ?_
          rfl
      · rw [if_neg a1] at wg
        refine bst (rcv (by rw [ss_29 hS])) ?_
        refine bst (it) ?_
        refine ifn (n10) ?_
        refine bst (wg) ?_
        refine ifp (rfl) ?_
        rfl
    · rw [if_neg a0] at it
      refine bst (rcv (by rw [ss_29 hS])) ?_
      refine bst (it) ?_
      refine ifp (rfl) ?_
      rfl
  · subst hzi
    rw [if_pos (by omega)] at it
    rw [if_pos gg] at wg
    rw [if_pos mg] at wm
    rw [if_pos xg] at wx
    have ny : ¬ iI y < iI 0 := fun q => by have := ly.mp q; have := gy gg.1; omega
    have w4 : iI (nr : Int) = iI 40 := by rw [show (nr : Int) = 40 by omega]
    refine bst (rcv (by rw [ss_29 hS])) ?_
    refine bst (it) ?_
    refine ifn (n10) ?_
    refine bst (wg) ?_
    refine ifn (n10) ?_
    refine ifn (ny) ?_
    refine bst (wm) ?_
    refine ifn (n10) ?_
    refine bst (wx) ?_
    refine ifn (n10) ?_
    refine bst (o9) ?_
    refine ifp (w4) ?_
    rfl
  · subst hzi
    rw [if_pos (by omega)] at it
    rw [if_pos gg] at wg
    rw [if_pos mg] at wm
    rw [if_pos xg] at wx
    have ny : ¬ iI y < iI 0 := fun q => by have := ly.mp q; have := gy gg.1; omega
    have w4 : ¬ iI (nr : Int) = iI 40 := fun q => by have := (iI_eq (by omega) (by omega) (by omega) (by omega)).mp q; omega
    have hA : Sk (uA h 38 nr (iI i)) := hS.k (Kq_uA 38 _ _)
    have hB : Sk (uA (uA h 38 nr (iI i)) 39 nr (iI g)) := hA.k (Kq_uA 39 _ _)
    have oA : ∀ h' : Hs, Sk h' → gI h' 1211 29 = iI nr → oI 12 11 h' (some 29) = some (iI nr) := fun h' s e => oIv (by rw [ss_29 s]) e
    have fin : ∀ w : Int, (sA (uA (uA h 38 nr (iI i)) 39 nr (iI g)) (some 40) (iI nr) (iI w)).bind (fun h1 => (oR 12 15 h1 (some 29)).bind fun o2 => (oI 12 11 h1 (some 29)).bind fun v3 => (sA h1 o2 v3 (iI x)).bind fun h4 => (oR 12 16 h4 (some 29)).bind fun o5 => (oI 12 11 h4 (some 29)).bind fun v6 => (sA h4 o5 v6 (iI (-1))).bind fun h7 => (oI 12 11 h7 (some 29)).bind fun v8 => (qI 12 11 h7 (some 29) (v8 + iI 1)).bind fun h9 => (qZ 12 43 h9 (some 29) (iI 0)).bind fun h10 => (oI 12 11 h10 (some 29)).bind fun v11 => some (v11 - iI 1, h10)) = some (iI nr, ropeM h nr i w g x) := by
      intro w
      have hC : Sk (uA (uA (uA h 38 nr (iI i)) 39 nr (iI g)) 40 nr (iI w)) := hB.k (Kq_uA 40 _ _)
      have hD : Sk (uA (uA (uA (uA h 38 nr (iI i)) 39 nr (iI g)) 40 nr (iI w)) 41 nr (iI x)) := hC.k (Kq_uA 41 _ _)
      have hE : Sk (uA (uA (uA (uA (uA h 38 nr (iI i)) 39 nr (iI g)) 40 nr (iI w)) 41 nr (iI x)) 42 nr (iI (-1))) := hD.k (Kq_uA 42 _ _)
      obtain ⟨hc, ec⟩ : ∃ hc, hc = uA (uA (uA h 38 nr (iI i)) 39 nr (iI g)) 40 nr (iI w) := ⟨_, rfl⟩
      have rq : ropeM h nr i w g x = uI (uI (uA (uA (uA (uA (uA h 38 nr (iI i)) 39 nr (iI g)) 40 nr (iI w)) 41 nr (iI x)) 42 nr (iI (-1))) 1211 29 (iI (nr + 1))) 1243 29 (iI 0) := rfl
      refine bst (sAv (ss_40 hB) (by omega) (by omega)) ?_
      rw [rq]
      refine bst (sR_1215_29 hC) ?_
      refine bst (oA _ hC c2) ?_
      refine bst (sAv (ss_41 hC) (by omega) (by omega)) ?_
      refine bst (sR_1216_29 hD) ?_
      refine bst (oA _ hD c2) ?_
      refine bst (sAv (ss_42 hD) (by omega) (by omega)) ?_
      refine bst (oA _ hE c2) ?_
      refine bst (qIv (by rw [ss_29 hE])) ?_
      rw [iI_add]
      generalize uA (uA (uA (uA (uA h 38 nr (iI i)) 39 nr (iI g)) 40 nr (iI w)) 41 nr (iI x)) 42 nr (iI (-1)) = he at hE ⊢
      have hF : Sk (uI he 1211 29 (iI ((nr : Int) + 1))) := hE.k (Kq_uI 1211 _ _)
      refine bst (qZv (v := 0) (by rw [ss_29 hF]) (Or.inl rfl)) ?_
      refine bst (oIv (v := iI ((nr : Int) + 1)) (by rw [ss_29 (hF.k (Kq_uI 1243 _ _))]) (by simp [HR])) ?_
      rw [iI_sub]
      simp
    by_cases m9 : m = 1
    · have w5 : iI m = iI 1 := by rw [m9]
      rw [if_pos m9]
      refine bst (rcv (by rw [ss_29 hS])) ?_
      refine bst (it) ?_
      refine ifn (n10) ?_
      refine bst (wg) ?_
      refine ifn (n10) ?_
      refine ifn (ny) ?_
      refine bst (wm) ?_
      refine ifn (n10) ?_
      refine bst (wx) ?_
      refine ifn (n10) ?_
      refine bst (o9) ?_
      refine ifn (w4) ?_
      refine bst (sR_1212_29 hS) ?_
      refine bst (o9) ?_
      refine bst (sAv (ss_38 hS) (by omega) (by omega)) ?_
      refine bst (sR_1213_29 hA) ?_
      refine bst (oA _ hA c2) ?_
      refine bst (sAv (ss_39 hA) (by omega) (by omega)) ?_
      refine bst (sR_1214_29 hB) ?_
      refine bst (oA _ hB c2) ?_
      refine ifp (w5) ?_
      exact fin 1
    · have w5 : ¬ iI m = iI 1 := fun q => m9 ((iI_eq (by omega) (by omega) (by omega) (by omega)).mp q)
      rw [if_neg m9]
      refine bst (rcv (by rw [ss_29 hS])) ?_
      refine bst (it) ?_
      refine ifn (n10) ?_
      refine bst (wg) ?_
      refine ifn (n10) ?_
      refine ifn (ny) ?_
      refine bst (wm) ?_
      refine ifn (n10) ?_
      refine bst (wx) ?_
      refine ifn (n10) ?_
      refine bst (o9) ?_
      refine ifn (w4) ?_
      refine bst (sR_1212_29 hS) ?_
      refine bst (o9) ?_
      refine bst (sAv (ss_38 hS) (by omega) (by omega)) ?_
      refine bst (sR_1213_29 hA) ?_
      refine bst (oA _ hA c2) ?_
      refine bst (sAv (ss_39 hA) (by omega) (by omega)) ?_
      refine bst (sR_1214_29 hB) ?_
      refine bst (oA _ hB c2) ?_
      refine ifn (w5) ?_
      exact fin (-1)
