theorem thingB_O {h : Hs} {nt : Nat} {l x w lo hi g : Int} : (∀ f a, f ∉ [507, 1106, 1201, 1243] → gI (thingB h nt l x w lo hi g) f a = gI (thingO h nt l x w lo hi g) f a) ∧ gR (thingB h nt l x w lo hi g) = gR (thingO h nt l x w lo hi g) ∧ sh (thingB h nt l x w lo hi g) = sh (thingO h nt l x w lo hi g) ∧ sz (thingB h nt l x w lo hi g) = sz h + 2 ∧ (∀ a, a ∉ [30, 31, 32, 33, 34, 35, 48] → aI (thingB h nt l x w lo hi g) a = aI (thingO h nt l x w lo hi g) a) := by
  have k := Kq_thingM (h := uI (thingH h nt l x w lo hi g) 1106 0 (iI 0)) (nt := nt) (l := l) (x := x) (w := w) (lo := lo) (hi := hi) (g := g)
  refine ⟨fun f a q => ?_, ?_, ?_, ?_, fun a q => ?_⟩
  · simp only [List.mem_cons, List.not_mem_nil, or_false, not_or] at q
    rw [thingB, k.1 f a (by simp; omega)]
    simp [thingH, HR, q.1, q.2.1]
  · rw [thingB, k.2.2.1]
    simp [thingH, HR]
  · rw [thingB, k.2.2.2.2.1]
    simp [thingH, HR]
  · rw [thingB, k.2.2.2.2.2]
    rfl
  · rw [thingB, k.2.1 a q]
    simp [thingH, HR]
theorem thingB_arr {h : Hs} {nt : Nat} {l x w lo hi g : Int} (hz : 70 ≤ sz h) : ((∀ j, aI (thingB h nt l x w lo hi g) 30 j = if j = nt then iI l else aI h 30 j) ∧ (∀ j, aI (thingB h nt l x w lo hi g) 31 j = if j = nt then iI w else aI h 31 j) ∧ (∀ j, aI (thingB h nt l x w lo hi g) 32 j = if j = nt then iI g else aI h 32 j) ∧ (∀ j, aI (thingB h nt l x w lo hi g) 33 j = if j = nt then iI x else aI h 33 j) ∧ (∀ j, aI (thingB h nt l x w lo hi g) 34 j = if j = nt then iI lo else aI h 34 j) ∧ (∀ j, aI (thingB h nt l x w lo hi g) 35 j = if j = nt then iI hi else aI h 35 j)) ∧ (∀ j, aI (thingB h nt l x w lo hi g) 48 j = if j % 40 = nt ∧ j / 40 < 10 then iI (-1) else aI h 48 j) ∧ (∀ j, aR (thingB h nt l x w lo hi g) 15 j = if j = nt then some (sz h) else aR h 15 j) ∧ gI (thingB h nt l x w lo hi g) 507 14 = iI (nt + 1) ∧ gI (thingB h nt l x w lo hi g) 1201 29 = iI (nt + 1) ∧ gI (thingB h nt l x w lo hi g) 1106 0 = iI 0 ∧ gI (thingB h nt l x w lo hi g) 1243 29 = iI 0 := by
  have o : ∀ a, a < 70 → aI (thingO h nt l x w lo hi g) a = aI h a := fun a q => (thingO_old (by omega)).2.2.1
  have o2 : aR (thingO h nt l x w lo hi g) 15 = aR h 15 := (thingO_old (by omega)).2.2.2.1
  refine ⟨⟨fun j => ?_, fun j => ?_, fun j => ?_, fun j => ?_, fun j => ?_, fun j => ?_⟩, fun j => ?_, fun j => ?_, ?_, ?_, ?_, ?_⟩
  · simp [thingB, thingM, thingE, thingA, thingH, HR, o]
  · simp [thingB, thingM, thingE, thingA, thingH, HR, o]
  · simp [thingB, thingM, thingE, thingA, thingH, HR, o]
  · simp [thingB, thingM, thingE, thingA, thingH, HR, o]
  · simp [thingB, thingM, thingE, thingA, thingH, HR, o]
  · simp [thingB, thingM, thingE, thingA, thingH, HR, o]
  · simp [thingB, thingM, thingE, thingA, thingH, sceneF, HR, o]
  · simp [thingB, thingM, thingE, thingA, thingH, HR, o2]
  · simp [thingB, thingM, thingE, thingA, thingH, HR]
  · simp [thingB, thingM, thingE, thingA, thingH, HR]
  · simp [thingB, thingM, thingE, thingA, thingH, HR]
  · simp [thingB, thingM, thingE, thingA, thingH, HR]
theorem RTh.add {h : Hs} {nt : Nat} {tA : Nat → Nat} {tl tw tg ls ms pa : Nat → Int} (hz : 70 ≤ sz h) (hC : RTh h nt tA tl tw tg ls ms pa) {l x w lo hi g : Int} (hn : nt < 40) (hb : 0 ≤ l ∧ l ≤ 15 ∧ 1 ≤ w ∧ w ≤ 60 ∧ 0 ≤ g ∧ g ≤ 999 ∧ 0 ≤ lo ∧ lo ≤ x ∧ x ≤ hi ∧ hi + w ≤ 100) : RTh (thingB h nt l x w lo hi g) (nt + 1) (updO tA nt (sz h)) (updO tl nt l) (updO tw nt w) (updO tg nt g) (updO ls nt lo) (updO ms nt hi) (updO pa nt x) := by
  obtain ⟨-, c4, c5⟩ := hC
  obtain ⟨bI, bR, bS, bZ, bA⟩ := thingB_O (h := h) (nt := nt) (l := l) (x := x) (w := w) (lo := lo) (hi := hi) (g := g)
  obtain ⟨⟨a0, a1, a2, a3, a4, a5⟩, a48, r15, n1, n2, -, -⟩ := thingB_arr (h := h) (nt := nt) (l := l) (x := x) (w := w) (lo := lo) (hi := hi) (g := g) hz
  obtain ⟨⟨f0, f1, f2, f3, f4, f5, f7⟩, -, -, s0, -⟩ := thingO_new (h := h) (nt := nt) (l := l) (x := x) (w := w) (lo := lo) (hi := hi) (g := g)
  refine ⟨⟨n1, n2, by omega⟩, fun i hi' => ?_, fun i j hi' hj' => ?_⟩
  · by_cases e : i = nt
    · subst e
      simp only [updO_s]
      refine ⟨⟨?_, hz, by omega, by rw [bS]; exact s0⟩, ⟨?_, ?_, ?_, ?_, ?_, ?_, ?_⟩, ⟨?_, ?_, ?_, ?_, ?_, ?_⟩, hb⟩
      · rw [r15, if_pos rfl]
      · rw [bI _ _ (by decide)]; exact f0
      · rw [bI _ _ (by decide)]; exact f1
      · rw [bI _ _ (by decide)]; exact f2
      · rw [bI _ _ (by decide)]; exact f3
      · rw [bI _ _ (by decide)]; exact f4
      · rw [bI _ _ (by decide)]; exact f5
      · rw [bI _ _ (by decide)]; exact f7
      · rw [a0, if_pos rfl]
      · rw [a1, if_pos rfl]
      · rw [a2, if_pos rfl]
      · rw [a3, if_pos rfl]
      · rw [a4, if_pos rfl]
      · rw [a5, if_pos rfl]
    · obtain ⟨⟨d1, d2, d3, d4⟩, ⟨g0, g1, g2, g3, g4, g5, g7⟩, ⟨m0, m1, m2, m3, m4, m5⟩, bb⟩ := c4 i (by omega)
      obtain ⟨oI', -, -, -, oS⟩ := thingO_old (h := h) (nt := nt) (l := l) (x := x) (w := w) (lo := lo) (hi := hi) (g := g) d3
      simp only [updO_n _ _ e]
      refine ⟨⟨?_, d2, by omega, by rw [bS, oS]; exact d4⟩, ⟨?_, ?_, ?_, ?_, ?_, ?_, ?_⟩, ⟨?_, ?_, ?_, ?_, ?_, ?_⟩, bb⟩
      · rw [r15, if_neg e]; exact d1
      · rw [bI _ _ (by decide), oI']; exact g0
      · rw [bI _ _ (by decide), oI']; exact g1
      · rw [bI _ _ (by decide), oI']; exact g2
      · rw [bI _ _ (by decide), oI']; exact g3
      · rw [bI _ _ (by decide), oI']; exact g4
      · rw [bI _ _ (by decide), oI']; exact g5
      · rw [bI _ _ (by decide), oI']; exact g7
      · rw [a0, if_neg e]; exact m0
      · rw [a1, if_neg e]; exact m1
      · rw [a2, if_neg e]; exact m2
      · rw [a3, if_neg e]; exact m3
      · rw [a4, if_neg e]; exact m4
      · rw [a5, if_neg e]; exact m5
  · by_cases e1 : i = nt
    · by_cases e2 : j = nt
      · intro _
        omega
      · have := (c4 j (by omega)).1.2.2.1
        subst e1
        rw [updO_s, updO_n _ _ e2]
        intro q9
        omega
    · by_cases e2 : j = nt
      · have := (c4 i (by omega)).1.2.2.1
        subst e2
        rw [updO_s, updO_n _ _ e1]
        intro q9
        omega
      · rw [updO_n _ _ e1, updO_n _ _ e2]
        exact c5 i j (by omega) (by omega)
theorem RSc.add {h : Hs} {nt : Nat} {tA sA : Nat → Nat} {ls ms : Nat → Int} {sc : Nat → Nat → Int} (hz : 70 ≤ sz h) (ht : ∀ i, i < nt → tA i < sz h) (hC : RSc h nt tA sA ls ms sc) {l x w lo hi g : Int} (hn : nt < 40) : RSc (thingB h nt l x w lo hi g) (nt + 1) (updO tA nt (sz h)) (updO sA nt (sz h + 1)) (updO ls nt lo) (updO ms nt hi) (updO sc nt (fun _ => -1)) := by
  obtain ⟨c1, c2⟩ := hC
  obtain ⟨bI, bR, bS, bZ, bA⟩ := thingB_O (h := h) (nt := nt) (l := l) (x := x) (w := w) (lo := lo) (hi := hi) (g := g)
  obtain ⟨-, a48, -⟩ := thingB_arr (h := h) (nt := nt) (l := l) (x := x) (w := w) (lo := lo) (hi := hi) (g := g) hz
  obtain ⟨-, ⟨f6, -⟩, fs, -, s1, -⟩ := thingO_new (h := h) (nt := nt) (l := l) (x := x) (w := w) (lo := lo) (hi := hi) (g := g)
  refine ⟨fun i hi' => ?_, fun i j hi' hj' => ?_⟩
  · by_cases e : i = nt
    · subst e
      simp only [updO_s]
      refine ⟨⟨by rw [bR]; exact f6, by omega, by omega, by rw [bS]; exact s1⟩, fun s hs => ⟨?_, ?_, Or.inl trivial⟩⟩
      · rw [bA _ (by simp; omega)]
        exact fs s hs
      · rw [a48, if_pos (by omega)]
    · obtain ⟨⟨d1, d2, d3, d4⟩, d5⟩ := c1 i (by omega)
      obtain ⟨-, oR', -, -, -⟩ := thingO_old (h := h) (nt := nt) (l := l) (x := x) (w := w) (lo := lo) (hi := hi) (g := g) (ht i (by omega))
      obtain ⟨-, -, oA, -, oS⟩ := thingO_old (h := h) (nt := nt) (l := l) (x := x) (w := w) (lo := lo) (hi := hi) (g := g) d3
      simp only [updO_n _ _ e]
      refine ⟨⟨by rw [bR, oR']; exact d1, d2, by omega, by rw [bS, oS]; exact d4⟩, fun s hs => ⟨?_, ?_, (d5 s hs).2.2⟩⟩
      · rw [bA _ (by simp; omega), oA]
        exact (d5 s hs).1
      · rw [a48, if_neg (by omega)]
        exact (d5 s hs).2.1
  · by_cases e1 : i = nt
    · by_cases e2 : j = nt
      · intro _
        omega
      · have := (c1 j (by omega)).1.2.2.1
        subst e1
        rw [updO_s, updO_n _ _ e2]
        intro q9
        omega
    · by_cases e2 : j = nt
      · have := (c1 i (by omega)).1.2.2.1
        subst e2
        rw [updO_s, updO_n _ _ e1]
        intro q9
        omega
      · rw [updO_n _ _ e1, updO_n _ _ e2]
        exact c2 i j (by omega) (by omega)
theorem RRo.addT {h : Hs} {nr nt : Nat} {rA tA rT : Nat → Nat} {wy gr hd : Nat → Int} {gn : Nat → Bool} (hz : 70 ≤ sz h) (hR : RRo h nr nt rA tA rT wy gr hd gn) {l x w lo hi g : Int} : RRo (thingB h nt l x w lo hi g) nr (nt + 1) rA (updO tA nt (sz h)) rT wy gr hd gn := by
  have r2 := hR.e hz (Ke_thingB (h := h) (nt := nt) (l := l) (x := x) (w := w) (lo := lo) (hi := hi) (g := g)) (by decide) (by decide) (by decide) (by decide)
  refine ⟨r2.1, fun r hr => ?_, r2.2.2⟩
  obtain ⟨d, ⟨f0, f1, ff⟩, m, q1, q2⟩ := r2.2.1 r hr
  refine ⟨d, ⟨f0, ?_, ff⟩, m, by omega, q2⟩
  rw [updO_n _ _ (by omega)]
  exact f1
theorem RTi.addT {h : Hs} {nt nd nr : Nat} {tA dA rA rT : Nat → Nat} {dr td : Nat → Option Nat} {sr dn : Nat → Int} (hz : 70 ≤ sz h) (ht : ∀ i, i < nt → tA i < sz h) (hr : ∀ r, r < nr → rA r < sz h ∧ rT r < nt) (hI : RTi h nt nd nr tA dA rA rT dr td sr dn) {l x w lo hi g : Int} : RTi (thingB h nt l x w lo hi g) (nt + 1) nd nr (updO tA nt (sz h)) dA rA rT dr (updO td nt none) sr dn := by
  have r2 := hI.e hz ht (fun r q => (hr r q).1) (Ke_thingB (h := h) (nt := nt) (l := l) (x := x) (w := w) (lo := lo) (hi := hi) (g := g)) (by decide) (by decide) (by decide)
  obtain ⟨bI, bR, bS, bZ, bA⟩ := thingB_O (h := h) (nt := nt) (l := l) (x := x) (w := w) (lo := lo) (hi := hi) (g := g)
  obtain ⟨-, ⟨-, f9⟩, -⟩ := thingO_new (h := h) (nt := nt) (l := l) (x := x) (w := w) (lo := lo) (hi := hi) (g := g)
  refine ⟨fun r hr' => ?_, fun i hi' => ?_⟩
  · obtain ⟨g1, g2, g3⟩ := r2.1 r hr'
    refine ⟨g1, g2, fun d hd => ?_⟩
    obtain ⟨e1, e2, e3, e4, e5, e6⟩ := g3 d hd
    refine ⟨e1, e2, e3, e4, e5, ?_⟩
    rw [updO_n _ _ (by have := (hr r hr').2; omega)]
    exact e6
  · by_cases e : i = nt
    · subst e
      rw [updO_s, updO_s]
      refine ⟨by rw [bR]; exact f9, fun r q => by cases q⟩
    · rw [updO_n _ _ e, updO_n _ _ e]
      exact r2.2 i (by omega)
