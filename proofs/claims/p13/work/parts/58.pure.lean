/-- scene: both note where thing i stands in scene s -/
theorem t_scene {N : Nat} {h : Hs} (hS : Sk h) (hz : 70 ≤ sz h) {nt : Nat} {tA sA : Nat → Nat} {tl tw tg ls ms pa : Nat → Int} {sc : Nat → Nat → Int} (hT : RTh h nt tA tl tw tg ls ms pa) (hC : RSc h nt tA sA ls ms sc) (p1 p2 p3 : Int32) :
    ∃ (a : Int32) (h1 h2 : Hs) (A : List Nat) (sc' : Nat → Nat → Int), fX11_scene N h 0 p1 p2 p3 = some (a, h1) ∧ fX12_scene N h1 29 p1 p2 p3 = some (a, h2) ∧ RSc h2 nt tA sA ls ms sc' ∧ Kq [] A h h2 ∧ (∀ q ∈ A, q = 48 ∨ 70 ≤ q) := by
  obtain ⟨z, z1, z2, rfl⟩ := iI_ex p1
  obtain ⟨y, y1, y2, rfl⟩ := iI_ex p2
  obtain ⟨x, x1, x2, rfl⟩ := iI_ex p3
  have t3 := hT.1.2.2
  have ws := v_isW (N := N) (h := h) (x := z) (a := 0) (b := 9) z1 z2 (by omega) (by omega) (by omega) (by omega)
  have ms' := fun h' : Hs => v_inW (N := N) (h := h') (x := z) (a := 0) (b := 9) z1 z2 (by omega) (by omega) (by omega) (by omega)
  have xe : iI x = iI (-1) ↔ x = -1 := iI_eq x1 x2 (by omega) (by omega)
  have rc5 : rc 5 h (some 14) = some 14 := rcv (by rw [ss_14 hS])
  simp only [fX11_scene, fX11_scene_b27, fX12_scene, fX12_scene_b42, fX12_scene_b45, lit, iI_neg]
  by_cases w0 : 0 ≤ y ∧ y ≤ (nt : Int) - 1
  · obtain ⟨i, rfl⟩ : ∃ i : Nat, y = i := ⟨y.toNat, by omega⟩
    have hi : i < nt := by omega
    have et := v_thingY (N := N) hS hT hi
    have it := v_isThing (N := N) hS hT.1.2.1 t3 y1 y2
    rw [if_pos w0] at it
    obtain ⟨⟨d1, d2, d3, d4⟩, ⟨g0, g1, g2, g3, g4, g5, g7⟩, ⟨m0, m1, m2, m3, m4, m5⟩, bb⟩ := hT.2.1 i hi
    obtain ⟨⟨s1, s2, s3, s4⟩, s5⟩ := hC.1 i hi
    have rc9 : rc 9 h (some (tA i)) = some (tA i) := rcv (by rw [d4])
    have wx := v_isW (N := N) (h := h) (x := x) (a := ls i) (b := ms i) x1 x2 (by omega) (by omega) (by omega) (by omega)
    have mx := v_inW (N := N) (h := h) (x := x) (a := ls i) (b := ms i) x1 x2 (by omega) (by omega) (by omega) (by omega)
    have o4 : oI 9 4 h (some (tA i)) = some (iI (ls i)) := oIv (by rw [d4]) g4
    have o5 : oI 9 5 h (some (tA i)) = some (iI (ms i)) := oIv (by rw [d4]) g5
    have o6 : oR 9 6 h (some (tA i)) = some (some (sA i)) := oRv (by rw [d4]) s1
    by_cases wz : 0 ≤ z ∧ z ≤ 9
    · rw [if_pos wz] at ws
      obtain ⟨s, rfl⟩ : ∃ s : Nat, z = s := ⟨z.toNat, by omega⟩
      have hs : s < 10 := by omega
      obtain ⟨v1, v2, v3⟩ := s5 s hs
      by_cases ok : x = -1 ∨ (ls i ≤ x ∧ x ≤ ms i)
      · have hS1 : Sk (uA h (sA i) s (iI x)) := hS.k (Kq_uA _ _ _)
        have ce : fX9_tellScene N h (tA i) (iI s) (iI x) = some (iI (sc i s), uA h (sA i) s (iI x)) := by
          simp only [fX9_tellScene, fX9_tellScene_b20, fX9_tellScene_b25, fX9_tellScene_b40, lit, iI_neg]
          by_cases x9 : x = -1
          · skip
            refine ifp (xe.mpr x9) ?_
            refine bst (ws) ?_
            refine ifn (n10) ?_
            refine ifn (n10) ?_
            refine bst (o6) ?_
            refine bst (lAv s4 (by omega) (by omega) v1) ?_
            refine bst (o6) ?_
            refine bst (sAv s4 (by omega) (by omega)) ?_
            rfl
          · rw [if_pos (by omega)] at wx
            refine ifn (fun q => x9 (xe.mp q)) ?_
            refine bst (o4) ?_
            refine bst (o5) ?_
            refine bst (wx) ?_
            refine ifn (n10) ?_
            refine bst (ws) ?_
            refine ifn (n10) ?_
            refine ifn (n10) ?_
            refine bst (o6) ?_
            refine bst (lAv s4 (by omega) (by omega) v1) ?_
            refine bst (o6) ?_
            refine bst (sAv s4 (by omega) (by omega)) ?_
            rfl
        have ne : sA i ≠ 48 := by omega
        have k1 : Kq [] [sA i, 48] h (uA h (sA i) s (iI x)) := Kq_rf.b _ _ _ (by simp)
        have it1 := v_isThing (N := N) (h := uA h (sA i) s (iI x)) hS1 hT.1.2.1 t3 y1 y2
        rw [if_pos w0] at it1
        have ix : iI 40 * iI (s : Int) + iI (i : Int) = iI ((40 * s + i : Nat) : Int) := by rw [iI_mul, iI_add]; congr 1
        have v2' : aI (uA h (sA i) s (iI x)) 48 (40 * s + i) = iI (sc i s) := by
          have n2 : ¬ 48 = sA i := fun q => ne q.symm
          simp [HR, n2, v2]
        have m4' : aI (uA h (sA i) s (iI x)) 34 i = iI (ls i) := by
          have n2 : ¬ 34 = sA i := by omega
          simp [HR, n2, m4]
        have m5' : aI (uA h (sA i) s (iI x)) 35 i = iI (ms i) := by
          have n2 : ¬ 35 = sA i := by omega
          simp [HR, n2, m5]
        refine ⟨iI (sc i s), uA h (sA i) s (iI x), uA (uA h (sA i) s (iI x)) 48 (40 * s + i) (iI x), [sA i, 48], fun j q => if j = i ∧ q = s then x else sc j q, ?_, ?_, ⟨fun j hj => ⟨(hC.1 j hj).1, fun q hq => ?_⟩, hC.2⟩, k1.b _ _ _ (by simp), fun q hq => ?_⟩
        · skip
          refine bst (sR_1100_0 hS) ?_
          refine bst (rc5) ?_
          refine bst (et) ?_
          refine ifn (fun q => by cases q) ?_
          refine bst (rc9) ?_
          refine bst (ce) ?_
          rfl
        · have mz := ms' (uA h (sA i) s (iI x))
          rw [if_pos wz] at mz
          have mx1 := v_inW (N := N) (h := uA h (sA i) s (iI x)) (x := x) (a := ls i) (b := ms i) x1 x2 (by omega) (by omega) (by omega) (by omega)
          have rcm : rc 12 (uA h (sA i) s (iI x)) (some 29) = some 29 := rcv (by rw [ss_29 hS1])
          simp only [ix]
          by_cases x9 : x = -1
          · skip
            refine bst (mz) ?_
            refine ifn (n10) ?_
            refine bst (rcm) ?_
            refine bst (it1) ?_
            refine ifn (n10) ?_
            refine ifp (xe.mpr x9) ?_
            refine bst (sR_1228_29 hS1) ?_
            refine bst (lAv (ss_48 hS1) (by omega) (by omega) v2') ?_
            refine bst (sR_1228_29 hS1) ?_
            refine bst (sAv (ss_48 hS1) (by omega) (by omega)) ?_
            rfl
          · rw [if_pos (by omega)] at mx1
            refine bst (mz) ?_
            refine ifn (n10) ?_
            refine bst (rcm) ?_
            refine bst (it1) ?_
            refine ifn (n10) ?_
            refine ifn (fun q => x9 (xe.mp q)) ?_
            refine bst (sR_1206_29 hS1) ?_
            refine bst (lAv (ss_34 hS1) (by omega) (by omega) m4') ?_
            refine bst (sR_1207_29 hS1) ?_
            refine bst (lAv (ss_35 hS1) (by omega) (by omega) m5') ?_
            refine bst (mx1) ?_
            refine ifn (n10) ?_
            refine bst (sR_1228_29 hS1) ?_
            refine bst (lAv (ss_48 hS1) (by omega) (by omega) v2') ?_
            refine bst (sR_1228_29 hS1) ?_
            refine bst (sAv (ss_48 hS1) (by omega) (by omega)) ?_
            rfl
        · obtain ⟨⟨-, n2, -, -⟩, n5⟩ := hC.1 j hj
          obtain ⟨u1, u2, u3⟩ := n5 q hq
          have n48 : ¬ sA j = 48 := by omega
          have n84 : ¬ 48 = sA i := fun q => ne q.symm
          by_cases e : j = i ∧ q = s
          · obtain ⟨e1, e2⟩ := e
            subst e1 e2
            simp only [and_self, if_true]
            refine ⟨?_, ?_, ok⟩
            · simp [HR, n48]
            · simp [HR]
          · have e3 : ¬ 40 * q + j = 40 * s + i := by omega
            simp only [e, if_false]
            refine ⟨?_, ?_, u3⟩
            · by_cases e1 : j = i
              · subst e1
                have e2 : ¬ q = s := fun z => e ⟨rfl, z⟩
                simp [HR, n48, e2, u1]
              · have e2 : ¬ sA j = sA i := fun z => e1 (hC.2 j i hj hi z)
                simp [HR, n48, e2, u1]
            · simp [HR, e3, n84, u2]
        · rcases List.mem_cons.mp hq with e | e
          · exact Or.inr (by omega)
          · exact Or.inl (List.mem_singleton.mp e)
      · have x9 : ¬ x = -1 := fun q => ok (Or.inl q)
        have xn : ¬ (ls i ≤ x ∧ x ≤ ms i) := fun q => ok (Or.inr q)
        rw [if_neg xn] at wx mx
        have ce : fX9_tellScene N h (tA i) (iI s) (iI x) = some (iI (-2), h) := by
          simp only [fX9_tellScene, fX9_tellScene_b20, fX9_tellScene_b25, fX9_tellScene_b40, lit, iI_neg]
          refine ifn (fun q => x9 (xe.mp q)) ?_
          refine bst (o4) ?_
          refine bst (o5) ?_
          refine bst (wx) ?_
          refine ifp (rfl) ?_
          refine bst (ws) ?_
          refine ifn (n10) ?_
          refine ifp (trivial) ?_
          rfl
        refine ⟨iI (-2), h, h, [], sc, ?_, ?_, hC, Kq_rf, fun q hq => absurd hq List.not_mem_nil⟩
        · skip
          refine bst (sR_1100_0 hS) ?_
          refine bst (rc5) ?_
          refine bst (et) ?_
          refine ifn (fun q => by cases q) ?_
          refine bst (rc9) ?_
          refine bst (ce) ?_
          rfl
        · have mz := ms' h
          rw [if_pos wz] at mz
          refine bst (mz) ?_
          refine ifn (n10) ?_
          refine bst (rcv (by rw [ss_29 hS])) ?_
          refine bst (it) ?_
          refine ifn (n10) ?_
          refine ifn (fun q => x9 (xe.mp q)) ?_
          refine bst (sR_1206_29 hS) ?_
          refine bst (lAv (ss_34 hS) (by omega) (by omega) m4) ?_
          refine bst (sR_1207_29 hS) ?_
          refine bst (lAv (ss_35 hS) (by omega) (by omega) m5) ?_
          refine bst (mx) ?_
          refine ifp (rfl) ?_
          rfl
    · rw [if_neg wz] at ws
      have ce : fX9_tellScene N h (tA i) (iI z) (iI x) = some (iI (-2), h) := by
        simp only [fX9_tellScene, fX9_tellScene_b20, fX9_tellScene_b25, fX9_tellScene_b40, lit, iI_neg]
        by_cases x9 : x = -1
        · skip
          refine ifp (xe.mpr x9) ?_
          refine bst (ws) ?_
          refine ifp (rfl) ?_
          rfl
        · by_cases xn : ls i ≤ x ∧ x ≤ ms i
          · rw [if_pos xn] at wx
            refine ifn (fun q => x9 (xe.mp q)) ?_
            refine bst (o4) ?_
            refine bst (o5) ?_
            refine bst (wx) ?_
            refine ifn (n10) ?_
            refine bst (ws) ?_
            refine ifp (rfl) ?_
            rfl
          · rw [if_neg xn] at wx
            refine ifn (fun q => x9 (xe.mp q)) ?_
            refine bst (o4) ?_
            refine bst (o5) ?_
            refine bst (wx) ?_
            refine ifp (rfl) ?_
            refine bst (ws) ?_
            refine ifp (rfl) ?_
            rfl
      refine ⟨iI (-2), h, h, [], sc, ?_, ?_, hC, Kq_rf, fun q hq => absurd hq List.not_mem_nil⟩
      · skip
        refine bst (sR_1100_0 hS) ?_
        refine bst (rc5) ?_
        refine bst (et) ?_
        refine ifn (fun q => by cases q) ?_
        refine bst (rc9) ?_
        refine bst (ce) ?_
        rfl
      · have mz := ms' h
        rw [if_neg wz] at mz
        refine bst (mz) ?_
        refine ifp (rfl) ?_
        rfl
  · have et := v_thingN (N := N) hS hT y1 y2 w0
    have it := v_isThing (N := N) hS hT.1.2.1 t3 y1 y2
    rw [if_neg w0] at it
    refine ⟨iI (-2), h, h, [], sc, ?_, ?_, hC, Kq_rf, fun q hq => absurd hq List.not_mem_nil⟩
    · skip
      refine bst (sR_1100_0 hS) ?_
      refine bst (rc5) ?_
      refine bst (et) ?_
      refine ifp (rfl) ?_
      rfl
    · have mz := ms' h
      by_cases wz : 0 ≤ z ∧ z ≤ 9
      · rw [if_pos wz] at mz
        refine bst (mz) ?_
        refine ifn (n10) ?_
        refine bst (rcv (by rw [ss_29 hS])) ?_
        refine bst (it) ?_
        refine ifp (rfl) ?_
        rfl
      · rw [if_neg wz] at mz
        refine bst (mz) ?_
        refine ifp (rfl) ?_
        rfl
