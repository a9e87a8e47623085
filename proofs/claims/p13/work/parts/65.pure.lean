theorem t_thing {N : Nat} (hN : 100000000 ≤ N) {h : Hs} (hS : Sk h) (hz : 70 ≤ sz h) {nr nt nd : Nat} {rA tA dA sA rT : Nat → Nat} {wy gr hd : Nat → Int} {gn : Nat → Bool} {tl tw tg ls ms pa : Nat → Int} {sc : Nat → Nat → Int} {dr td : Nat → Option Nat} {sr dn : Nat → Int} (hT : RTh h nt tA tl tw tg ls ms pa) (hC : RSc h nt tA sA ls ms sc) (hR : RRo h nr nt rA tA rT wy gr hd gn) (hI : RTi h nt nd nr tA dA rA rT dr td sr dn) (hB : ICan h) (p1 p2 p3 p4 : Int32) :
    ∃ (a : Int32) (h1 h2 : Hs), fX11_thing N h 0 p1 p2 p3 p4 = some (a, h1) ∧ fX12_thing N h1 29 p1 p2 p3 p4 = some (a, h2) ∧ ICan h2 ∧ Ke [507, 900, 901, 902, 903, 904, 905, 907, 1106, 1201, 1243] [30, 31, 32, 33, 34, 35, 48] [906] [15] h h2 ∧ sz h2 ≤ sz h + 2 ∧ (h2 = h ∨ ∃ l x w lo hi g : Int, nt < 40 ∧ gI h2 1106 0 = iI 0 ∧ hasB (metB tl tw pa none l x w) 0 nt = false ∧ RTh h2 (nt + 1) (updO tA nt (sz h)) (updO tl nt l) (updO tw nt w) (updO tg nt g) (updO ls nt lo) (updO ms nt hi) (updO pa nt x) ∧ RSc h2 (nt + 1) (updO tA nt (sz h)) (updO sA nt (sz h + 1)) (updO ls nt lo) (updO ms nt hi) (updO sc nt (fun _ => -1)) ∧ RRo h2 nr (nt + 1) rA (updO tA nt (sz h)) rT wy gr hd gn ∧ RTi h2 (nt + 1) nd nr (updO tA nt (sz h)) dA rA rT dr (updO td nt none) sr dn) := by
  obtain ⟨z, z1, z2, rfl⟩ := iI_ex p1
  obtain ⟨w, w1, w2, rfl⟩ := iI_ex p2
  obtain ⟨y, y1, y2, rfl⟩ := iI_ex p3
  obtain ⟨g, g1, g2, rfl⟩ := iI_ex p4
  have dz := iI_dv (a := z) (b := 100) z1 z2 (by omega) (by omega)
  have tz := td_cases z 100
  have dy := iI_dv (a := y) (b := 100) y1 y2 (by omega) (by omega)
  have ty := td_cases y 100
  obtain ⟨l, hl⟩ : ∃ l, l = z.tdiv 100 := ⟨_, rfl⟩
  obtain ⟨lo, hlo⟩ : ∃ lo, lo = y.tdiv 100 := ⟨_, rfl⟩
  rw [← hl] at dz tz
  rw [← hlo] at dy ty
  obtain ⟨x, hx⟩ : ∃ x, x = z - l * 100 := ⟨_, rfl⟩
  obtain ⟨hi, hhi⟩ : ∃ hi, hi = y - lo * 100 := ⟨_, rfl⟩
  have mz : iI z - iI l * iI 100 = iI x := by rw [iI_mul, iI_sub, hx]
  have my : iI y - iI lo * iI 100 = iI hi := by rw [iI_mul, iI_sub, hhi]
  have lo1 : -1000000000 ≤ lo := by omega
  have lo2 : lo < 1000000000 := by omega
  have hi1 : -100 < hi := by omega
  have hi2 : hi < 100 := by omega
  have x1 : -100 < x := by omega
  have x2 : x < 100 := by omega
  have lz : 0 ≤ z ∧ z ≤ 1599 → 0 ≤ l ∧ l ≤ 15 := by omega
  have ly : 0 ≤ y → lo ≤ x → y ≤ 9999 := by omega
  have ll : 0 ≤ y → 0 ≤ lo := by omega
  have c3 := hT.1.2.2
  have c4 : ∀ i, i < nt → (aI h 30 i = iI (tl i) ∧ aI h 31 i = iI (tw i) ∧ aI h 33 i = iI (pa i)) ∧ 0 ≤ tl i ∧ tl i ≤ 15 ∧ 1 ≤ tw i ∧ tw i ≤ 60 ∧ 0 ≤ pa i ∧ pa i ≤ 100 := fun i hi' => by
    obtain ⟨-, -, ⟨m0, m1, m2, m3, m4, m5⟩, bb⟩ := hT.2.1 i hi'
    exact ⟨⟨m0, m1, m3⟩, by omega⟩
  obtain ⟨cN, cY⟩ := c_thing hN hS hz hT z w y g l x lo hi z1 z2 w1 w2 y1 y2 g1 g2 lo1 lo2 hi1 hi2 x1 x2 dz mz dy my lz
  obtain ⟨mN, mY⟩ := m_thing hN hS hT.1.2.1 c3 c4 z w y g l x lo hi z1 z2 w1 w2 y1 y2 g1 g2 lo1 lo2 hi1 hi2 x1 x2 dz mz dy my lz ly
  by_cases ok : (0 ≤ z ∧ z ≤ 1599) ∧ (1 ≤ w ∧ w ≤ 60) ∧ 0 ≤ y ∧ (0 ≤ g ∧ g ≤ 999) ∧ (lo ≤ x ∧ x ≤ hi) ∧ hi + w ≤ 100
  · have e1 := cY ok
    have e2 := mY ok
    by_cases m9 : hasB (metB tl tw pa none l x w) 0 nt = true
    · rw [if_pos m9] at e1 e2
      have r1 := v_thingC hS hS (by omega) (by omega) e1
      rw [if_pos (by omega)] at r1
      exact ⟨_, h, h, r1, e2, hB, Ke_rf, by omega, Or.inl rfl⟩
    · rw [if_neg m9] at e1 e2
      by_cases n9 : nt < 40
      · rw [if_pos n9] at e1
        have k0 := Ke_thingH (h := h) (nt := nt) (l := l) (x := x) (w := w) (lo := lo) (hi := hi) (g := g)
        have hS1 := hS.e hz k0 (by decide)
        have r1 := v_thingC hS hS1 (by omega) (by omega) e1
        rw [if_neg (by omega)] at r1
        have k1 : Ke [507, 900, 901, 902, 903, 904, 905, 907, 1106] [] [906] [15] h (uI (thingH h nt l x w lo hi g) 1106 0 (iI 0)) := by
          have k2 : Ke [507, 900, 901, 902, 903, 904, 905, 907, 1106] [] [906] [15] h (thingH h nt l x w lo hi g) := ⟨fun f a q z => k0.1 f a (fun r => q (by simp at r ⊢; omega)) z, k0.2⟩
          exact k2.u _ _ _ (by decide)
        have hS2 := hS.e hz k1 (by decide)
        have c2' : gI (uI (thingH h nt l x w lo hi g) 1106 0 (iI 0)) 1201 29 = iI nt := by
          rw [k1.1 1201 29 (by decide) (by omega)]
          exact hT.1.2.1
        have c4' : ∀ i, i < nt → (aI (uI (thingH h nt l x w lo hi g) 1106 0 (iI 0)) 30 i = iI (tl i) ∧ aI (uI (thingH h nt l x w lo hi g) 1106 0 (iI 0)) 31 i = iI (tw i) ∧ aI (uI (thingH h nt l x w lo hi g) 1106 0 (iI 0)) 33 i = iI (pa i)) ∧ 0 ≤ tl i ∧ tl i ≤ 15 ∧ 1 ≤ tw i ∧ tw i ≤ 60 ∧ 0 ≤ pa i ∧ pa i ≤ 100 := fun i hi' => by
          rw [k1.2.1 30 (by decide) (by omega), k1.2.1 31 (by decide) (by omega), k1.2.1 33 (by decide) (by omega)]
          exact c4 i hi'
        have e3 := (m_thing hN hS2 c2' c3 c4' z w y g l x lo hi z1 z2 w1 w2 y1 y2 g1 g2 lo1 lo2 hi1 hi2 x1 x2 dz mz dy my lz ly).2 ok
        rw [if_neg m9, if_pos n9] at e3
        obtain ⟨-, -, -, -, -, b1, b2⟩ := thingB_arr (h := h) (nt := nt) (l := l) (x := x) (w := w) (lo := lo) (hi := hi) (g := g) hz
        have bz := (thingB_O (h := h) (nt := nt) (l := l) (x := x) (w := w) (lo := lo) (hi := hi) (g := g)).2.2.2.1
        obtain ⟨q1, q2, q3, q4, q5, q6⟩ := ok
        have lb := lz q1
        have lob := ll q3
        exact ⟨_, _, thingB h nt l x w lo hi g, r1, e3, ⟨0, b1, b2, Or.inl rfl⟩, Ke_thingB, by omega, Or.inr ⟨l, x, w, lo, hi, g, n9, b1, eq_false_of_ne_true m9, RTh.add hz hT n9 (by omega), RSc.add hz (fun i hi' => (hT.2.1 i hi').1.2.2.1) hC n9, RRo.addT hz hR, RTi.addT hz (fun i hi' => (hT.2.1 i hi').1.2.2.1) (fun r hr => ⟨(hR.2.1 r hr).1.2.2.1, (hR.2.1 r hr).2.2.2.1⟩) hI⟩⟩
      · rw [if_neg n9] at e1 e2
        have r1 := v_thingC hS hS (by omega) (by omega) e1
        rw [if_pos (by omega)] at r1
        exact ⟨_, h, h, r1, e2, hB, Ke_rf, by omega, Or.inl rfl⟩
  · have r1 := v_thingC hS hS (by omega) (by omega) (cN ok)
    rw [if_pos (by omega)] at r1
    exact ⟨_, h, h, r1, mN ok, hB, Ke_rf, by omega, Or.inl rfl⟩
