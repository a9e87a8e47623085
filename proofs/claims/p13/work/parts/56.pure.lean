theorem v_ropeC {N : Nat} {h h1 : Hs} (hS : Sk h) (hS1 : Sk h1) {p1 p2 p3 : Int32} {v : Int} (b1 : -2147483648 ≤ v) (b2 : v < 2147483648) (e : fX5_addRope N h 14 p1 p2 p3 = some (iI v, h1)) : fX11_rope N h 0 p1 p2 p3 = some (iI v, if v < 0 then h1 else uI h1 1106 0 (iI 0)) := by
  have d0 := v_deed (N := N) hS1 (r := iI v) (z := 0) (Or.inl rfl)
  have d1 := v_deed (N := N) hS1 (r := iI v) (z := 1) (Or.inr rfl)
  rw [if_neg (by decide)] at d0
  rw [if_pos rfl] at d1
  have lt : iI v < iI 0 ↔ v < 0 := iI_lt (by omega) (by omega) (by omega) (by omega)
  have rc1 : rc 11 h1 (some 0) = some 0 := rcv (by rw [ss_0 hS1])
  have rc5 : rc 5 h (some 14) = some 14 := rcv (by rw [ss_14 hS])
  simp only [fX11_rope, fX11_rope_b25, lit]
  by_cases w : v < 0
  · rw [if_pos w]
    refine bst (sR_1100_0 hS) ?_
    refine bst (rc5) ?_
    refine bst (e) ?_
    refine ifp (lt.mpr w) ?_
    refine bst (rc1) ?_
    refine bst (d0) ?_
    rfl
  · rw [if_neg w]
    refine bst (sR_1100_0 hS) ?_
    refine bst (rc5) ?_
    refine bst (e) ?_
    refine ifn (fun q => w (lt.mp q)) ?_
    refine bst (rc1) ?_
    refine bst (d1) ?_
    rfl
/-- both have made rope nr -/
def ropeB (h : Hs) (nr i ta : Nat) (w g x : Int) : Hs := ropeM (uI (ropeH h nr ta w g x) 1106 0 (iI 0)) nr i w g x
theorem Ke_ropeB {h : Hs} {nr i ta : Nat} {w g x : Int} : Ke [400, 402, 403, 404, 509, 1106, 1211, 1243] [38, 39, 40, 41, 42] [401] [17] h (ropeB h nr i ta w g x) := (((((((((((((((Ke_rf.n _).u _ _ _ (by decide)).r _ _ _ (by decide)).u _ _ _ (by decide)).u _ _ _ (by decide)).u _ _ _ (by decide)).q _ _ _ (by decide)).u _ _ _ (by decide)).u _ _ _ (by decide)).b _ _ _ (by decide)).b _ _ _ (by decide)).b _ _ _ (by decide)).b _ _ _ (by decide)).b _ _ _ (by decide)).u _ _ _ (by decide)).u _ _ _ (by decide)
theorem RRo.add {h : Hs} {nr nt : Nat} {rA tA rT : Nat → Nat} {wy gr hd : Nat → Int} {gn : Nat → Bool} (hz : 70 ≤ sz h) (hR : RRo h nr nt rA tA rT wy gr hd gn) (hG : ∀ r, nr ≤ r → r < 40 → aI h 44 r = iI 0) {i : Nat} {w g x : Int} (hn : nr < 40) (hi : i < nt) (hw : w = 1 ∨ w = -1) (hg : 1 ≤ g ∧ g ≤ 5) (hx : 1 ≤ x ∧ x ≤ 9999) : RRo (ropeB h nr i (tA i) w g x) (nr + 1) nt (updO rA nr (sz h)) tA (updO rT nr i) (updO wy nr w) (updO gr nr g) (updO hd nr x) (updO gn nr false) := by
  obtain ⟨⟨c1, c2, c3⟩, c4, c5⟩ := hR
  have ke := Ke_ropeB (h := h) (nr := nr) (i := i) (ta := tA i) (w := w) (g := g) (x := x)
  have k6 := ke.2.2.2.2.2
  have g44 : aI (ropeB h nr i (tA i) w g x) 44 = aI h 44 := ke.2.1 44 (by decide) (by omega)
  refine ⟨⟨?_, ?_, by omega⟩, fun r hr => ?_, fun q r hq hr => ?_⟩
  · simp [ropeB, ropeM, ropeH, HR]
  · simp [ropeB, ropeM, ropeH, HR]
  · by_cases e : r = nr
    · subst e
      simp only [updO_s]
      refine ⟨⟨?_, hz, ?_, ?_⟩, ⟨?_, ?_, ?_, ?_, ?_, ?_⟩, ⟨?_, ?_, ?_, ?_, ?_⟩, hi, hw, hg.1, hg.2, hx.1, hx.2⟩
      · simp [ropeB, ropeM, ropeH, HR]
      · show sz h < sz h + 1
        omega
      · simp [ropeB, ropeM, ropeH, ropeO, HR, sh_nwS]
      · simp [ropeB, ropeM, ropeH, ropeO, HR]
      · simp [ropeB, ropeM, ropeH, ropeO, HR]
      · simp [ropeB, ropeM, ropeH, ropeO, HR]
      · simp [ropeB, ropeM, ropeH, ropeO, HR]
      · simp [ropeB, ropeM, ropeH, ropeO, HR]
      · simp [ropeB, ropeM, ropeH, ropeO, HR, gI_nwS, b2, lit]
      · simp [ropeB, ropeM, HR]
      · simp [ropeB, ropeM, HR]
      · simp [ropeB, ropeM, HR]
      · simp [ropeB, ropeM, HR]
      · rw [g44]
        exact hG _ (Nat.le_refl _) hn
    · obtain ⟨⟨d1, d2, d3, d4⟩, ⟨f0, f1, f2, f3, f4, f8⟩, ⟨m0, m1, m2, m3, m4⟩, q0⟩ := c4 r (by omega)
      have ne : ¬ rA r = sz h := by omega
      simp only [updO_n _ _ e]
      refine ⟨⟨?_, d2, by omega, ?_⟩, ⟨?_, ?_, ?_, ?_, ?_, ?_⟩, ⟨?_, ?_, ?_, ?_, ?_⟩, q0⟩
      · simp [ropeB, ropeM, ropeH, ropeO, HR, e]
        rw [aR_nw (by omega)]
        exact d1
      · rw [ke.2.2.2.2.1 _ d3]
        exact d4
      · simp [ropeB, ropeM, ropeH, ropeO, HR, ne]
        rw [gI_nw d3]
        exact f0
      · simp [ropeB, ropeM, ropeH, ropeO, HR, ne]
        rw [gR_nw d3]
        exact f1
      · simp [ropeB, ropeM, ropeH, ropeO, HR, ne]
        rw [gI_nw d3]
        exact f2
      · simp [ropeB, ropeM, ropeH, ropeO, HR, ne]
        rw [gI_nw d3]
        exact f3
      · simp [ropeB, ropeM, ropeH, ropeO, HR, ne]
        rw [gI_nw d3]
        exact f4
      · rw [ke.1 408 _ (by decide) d3]
        exact f8
      · simp [ropeB, ropeM, ropeH, ropeO, HR, e]
        rw [aI_nw (by omega)]
        exact m0
      · simp [ropeB, ropeM, ropeH, ropeO, HR, e]
        rw [aI_nw (by omega)]
        exact m1
      · simp [ropeB, ropeM, ropeH, ropeO, HR, e]
        rw [aI_nw (by omega)]
        exact m2
      · simp [ropeB, ropeM, ropeH, ropeO, HR, e]
        rw [aI_nw (by omega)]
        exact m3
      · rw [g44]
        exact m4
  · by_cases e1 : q = nr
    · by_cases e2 : r = nr
      · intro _
        omega
      · subst e1
        rw [updO_s, updO_n _ _ e2]
        have := (c4 r (by omega)).1.2.2.1
        intro q9
        omega
    · by_cases e2 : r = nr
      · subst e2
        rw [updO_s, updO_n _ _ e1]
        have := (c4 q (by omega)).1.2.2.1
        intro q9
        omega
      · rw [updO_n _ _ e1, updO_n _ _ e2]
        exact c5 q r (by omega) (by omega)
theorem RTi.add {h : Hs} {nt nd nr : Nat} {tA dA rA rT : Nat → Nat} {dr td : Nat → Option Nat} {sr dn : Nat → Int} (hz : 70 ≤ sz h) (ht : ∀ i, i < nt → tA i < sz h) (hr : ∀ r, r < nr → rA r < sz h) (hI : RTi h nt nd nr tA dA rA rT dr td sr dn) {i : Nat} {w g x : Int} : RTi (ropeB h nr i (tA i) w g x) nt nd (nr + 1) tA dA (updO rA nr (sz h)) (updO rT nr i) (updO dr nr none) td sr dn := by
  obtain ⟨c1, c2⟩ := hI
  have ke := Ke_ropeB (h := h) (nr := nr) (i := i) (ta := tA i) (w := w) (g := g) (x := x)
  refine ⟨fun r hr' => ?_, fun j hj => ?_⟩
  · by_cases e : r = nr
    · subst e
      simp only [updO_s]
      refine ⟨?_, ?_, fun d hd => by cases hd⟩
      · simp [ropeB, ropeM, ropeH, ropeO, HR, gR_nwS]
      · simp [ropeB, ropeM, HR, od]
    · obtain ⟨g1, g2, g3⟩ := c1 r (by omega)
      have lr := hr r (by omega)
      simp only [updO_n _ _ e]
      refine ⟨?_, ?_, fun d hd => ?_⟩
      · rw [ke.2.2.1 405 _ (by decide) lr]
        exact g1
      · simp [ropeB, ropeM, ropeH, ropeO, HR, e]
        rw [aI_nw (by omega)]
        exact g2
      · obtain ⟨e1, e2, e3, e4, e5, e6⟩ := g3 d hd
        refine ⟨e1, ?_, ?_, ?_, ?_, e6⟩
        · rw [ke.1 406 _ (by decide) lr]
          exact e2
        · rw [ke.1 407 _ (by decide) lr]
          exact e3
        · rw [ke.2.1 43 (by decide) (by omega)]
          exact e4
        · rw [ke.2.1 36 (by decide) (by omega)]
          exact e5
  · obtain ⟨g1, g2⟩ := c2 j hj
    refine ⟨?_, fun r hr' => ?_⟩
    · rw [ke.2.2.1 909 _ (by decide) (ht j hj), g1]
      cases htd : td j with
      | none => rfl
      | some q =>
        have := (g2 q htd).1
        simp only [Option.map_some]
        rw [updO_n _ _ (by omega)]
    · obtain ⟨e1, e2, e3⟩ := g2 r hr'
      rw [updO_n _ _ (by omega), updO_n _ _ (by omega)]
      exact ⟨by omega, e2, e3⟩
theorem t_rope {N : Nat} {h : Hs} (hS : Sk h) (hz : 70 ≤ sz h) {nr nt nd : Nat} {rA tA dA rT : Nat → Nat} {wy gr hd : Nat → Int} {gn : Nat → Bool} {tl tw tg ls ms pa : Nat → Int} {dr td : Nat → Option Nat} {sr dn : Nat → Int} (hT : RTh h nt tA tl tw tg ls ms pa) (hR : RRo h nr nt rA tA rT wy gr hd gn) (hI : RTi h nt nd nr tA dA rA rT dr td sr dn) (hB : ICan h) (hG : ∀ r, nr ≤ r → r < 40 → aI h 44 r = iI 0) (p1 p2 p3 : Int32) :
    ∃ (a : Int32) (h1 h2 : Hs), fX11_rope N h 0 p1 p2 p3 = some (a, h1) ∧ fX12_rope N h1 29 p1 p2 p3 = some (a, h2) ∧ ICan h2 ∧ Ke [400, 402, 403, 404, 509, 1106, 1211, 1243] [38, 39, 40, 41, 42] [401] [17] h h2 ∧ sz h2 ≤ sz h + 1 ∧ (h2 = h ∨ ∃ (i : Nat) (w g x : Int), nr < 40 ∧ gI h2 1106 0 = iI 0 ∧ i < nt ∧ RRo h2 (nr + 1) nt (updO rA nr (sz h)) tA (updO rT nr i) (updO wy nr w) (updO gr nr g) (updO hd nr x) (updO gn nr false) ∧ RTi h2 nt nd (nr + 1) tA dA (updO rA nr (sz h)) (updO rT nr i) (updO dr nr none) td sr dn ∧ (∀ r, nr + 1 ≤ r → r < 40 → aI h2 44 r = iI 0)) := by
  obtain ⟨z, z1, z2, rfl⟩ := iI_ex p1
  obtain ⟨y, y1, y2, rfl⟩ := iI_ex p2
  obtain ⟨x, x1, x2, rfl⟩ := iI_ex p3
  have dv := iI_dv (a := y) (b := 10) y1 y2 (by omega) (by omega)
  have tc := td_cases y 10
  obtain ⟨g, hg⟩ : ∃ g, g = y.tdiv 10 := ⟨_, rfl⟩
  rw [← hg] at dv tc
  obtain ⟨m, hm⟩ : ∃ m, m = y - g * 10 := ⟨_, rfl⟩
  have mm : iI y - iI g * iI 10 = iI m := by rw [iI_mul, iI_sub, hm]
  have gb1 : -1000000000 ≤ g := by omega
  have gb2 : g < 1000000000 := by omega
  have mb1 : -10 < m := by omega
  have mb2 : m < 10 := by omega
  have gy : 1 ≤ g → 0 ≤ y := by omega
  obtain ⟨cN, cY⟩ := c_rope (N := N) hS hz hR hT z y x g m z1 z2 x1 x2 gb1 gb2 mb1 mb2 dv mm
  obtain ⟨mN, mY⟩ := m_rope (N := N) hS hR.1.2.1 hR.1.2.2 hT.1.2.1 hT.1.2.2 z y x g m z1 z2 y1 y2 x1 x2 gb1 gb2 mb1 mb2 dv mm gy
  have c3 := hR.1.2.2
  by_cases w : (0 ≤ z ∧ z ≤ (nt : Int) - 1) ∧ (1 ≤ g ∧ g ≤ 5) ∧ (1 ≤ m ∧ m ≤ 2) ∧ (1 ≤ x ∧ x ≤ 9999)
  · obtain ⟨w0, wg, wm, wx⟩ := w
    obtain ⟨i, hzi⟩ : ∃ i : Nat, z = i := ⟨z.toNat, by omega⟩
    have hi : i < nt := by omega
    by_cases hn : nr < 40
    · have e1 := (cY i hzi hi wg wm wx).2 hn
      obtain ⟨u, hu⟩ : ∃ u : Int, u = if m = 1 then 1 else -1 := ⟨_, rfl⟩
      rw [← hu] at e1
      have hw : u = 1 ∨ u = -1 := by
        rw [hu]
        by_cases m9 : m = 1
        · exact Or.inl (if_pos m9)
        · exact Or.inr (if_neg m9)
      have k1 := Ke_ropeH (h := h) (nr := nr) (ta := tA i) (w := u) (g := g) (x := x)
      have hS1 := hS.e hz k1 (by decide)
      have r1 := v_ropeC hS hS1 (by omega) (by omega) e1
      rw [if_neg (by omega)] at r1
      have k2 : Ke [400, 402, 403, 404, 509, 1106] [] [401] [17] h (uI (ropeH h nr (tA i) u g x) 1106 0 (iI 0)) := ((((((((Ke_rf.n _).u _ _ _ (by decide)).r _ _ _ (by decide)).u _ _ _ (by decide)).u _ _ _ (by decide)).u _ _ _ (by decide)).q _ _ _ (by decide)).u _ _ _ (by decide)).u _ _ _ (by decide)
      have hS2 := hS.e hz k2 (by decide)
      have a1 : gI (uI (ropeH h nr (tA i) u g x) 1106 0 (iI 0)) 1211 29 = iI nr := by
        rw [k2.1 1211 29 (by decide) (by omega)]
        exact hR.1.2.1
      have a2 : gI (uI (ropeH h nr (tA i) u g x) 1106 0 (iI 0)) 1201 29 = iI nt := by
        rw [k2.1 1201 29 (by decide) (by omega)]
        exact hT.1.2.1
      have e2 := ((m_rope (N := N) hS2 a1 c3 a2 hT.1.2.2 z y x g m z1 z2 y1 y2 x1 x2 gb1 gb2 mb1 mb2 dv mm gy).2 i hzi hi wg wm wx).2 hn
      rw [← hu] at e2
      have kb := Ke_ropeB (h := h) (nr := nr) (i := i) (ta := tA i) (w := u) (g := g) (x := x)
      refine ⟨_, _, ropeB h nr i (tA i) u g x, r1, e2, ⟨0, ?_, ?_, Or.inl rfl⟩, kb, ?_, Or.inr ⟨i, u, g, x, hn, by simp [ropeB, ropeM, HR], hi, RRo.add hz hR hG hn hi hw wg wx, RTi.add hz (fun i hi => (hT.2.1 i hi).1.2.2.1) (fun r hr => (hR.2.1 r hr).1.2.2.1) hI, fun r hr hr2 => ?_⟩⟩
      · simp [ropeB, ropeM, HR]
      · simp [ropeB, ropeM, HR]
      · show sz h + 1 ≤ sz h + 1
        omega
      · rw [kb.2.1 44 (by decide) (by omega)]
        exact hG r (by omega) hr2
    · have e1 := (cY i hzi hi wg wm wx).1 hn
      have e2 := (mY i hzi hi wg wm wx).1 hn
      have r1 := v_ropeC hS hS (by omega) (by omega) e1
      rw [if_pos (by omega)] at r1
      exact ⟨_, h, h, r1, e2, hB, Ke_rf, by omega, Or.inl rfl⟩
  · have r1 := v_ropeC hS hS (by omega) (by omega) (cN w)
    rw [if_pos (by omega)] at r1
    exact ⟨_, h, h, r1, mN w, hB, Ke_rf, by omega, Or.inl rfl⟩
