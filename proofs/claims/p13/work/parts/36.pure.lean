theorem zc_i1 : zc (iI 1) = some (iI 1) := rfl
theorem zc_i0 : zc (iI 0) = some (iI 0) := rfl
theorem v_isPanel {N : Nat} {h : Hs} {s q : Int} (s1 : -2147483648 ≤ s) (s2 : s < 2147483648) (q1 : -2147483648 ≤ q) (q2 : q < 2147483648) : fX6_isPanel N h (iI s) (iI q) = some (if (100 ≤ s ∧ s ≤ 9999 ∧ s % 100 ≠ 0) ∧ 0 ≤ q ∧ q ≤ 9 then iI 1 else iI 0, h) := by
  have hd := td_cases s 100
  have e1 := iI_dv s1 s2 (b := 100) (by omega) (by omega)
  obtain ⟨H, hH⟩ : ∃ H, H = s.tdiv 100 := ⟨_, rfl⟩
  rw [← hH] at hd e1
  obtain ⟨R, hR⟩ : ∃ R, R = s - H * 100 := ⟨_, rfl⟩
  have e2 : iI s - iI H * iI 100 = iI R := by rw [iI_mul, iI_sub, hR]
  have b1 : -2147483648 ≤ H ∧ H < 2147483648 := by omega
  have b2 : -2147483648 ≤ R ∧ R < 2147483648 := by omega
  by_cases w1 : 1 ≤ H ∧ H ≤ 99
  · by_cases w2 : 1 ≤ R ∧ R ≤ 99
    · have w4 : 100 ≤ s ∧ s ≤ 9999 ∧ s % 100 ≠ 0 := by omega
      by_cases w3 : 0 ≤ q ∧ q ≤ 9
      · rw [if_pos ⟨w4, w3⟩]
        simp (disch := omega) only [fX6_isPanel, fX6_isPanel_b40, fX6_isPanel_b41, lit, e1, e2, v_isW, w1, w2, w3, and_self, if_true, iI_eq, Option.bind_some, zc_i1]
        simp
      · rw [if_neg (fun z => w3 z.2)]
        simp (disch := omega) only [fX6_isPanel, fX6_isPanel_b40, fX6_isPanel_b41, lit, e1, e2, v_isW, w1, w2, w3, and_self, if_true, if_false, iI_eq, Option.bind_some, zc_i0]
        simp
    · have w4 : ¬ (100 ≤ s ∧ s ≤ 9999 ∧ s % 100 ≠ 0) := by omega
      rw [if_neg (fun z => w4 z.1)]
      simp (disch := omega) only [fX6_isPanel, fX6_isPanel_b40, fX6_isPanel_b41, lit, e1, e2, v_isW, w1, w2, and_self, if_true, if_false, iI_eq, Option.bind_some, zc_i0]
      simp
  · have w4 : ¬ (100 ≤ s ∧ s ≤ 9999 ∧ s % 100 ≠ 0) := by omega
    rw [if_neg (fun z => w4 z.1)]
    simp (disch := omega) only [fX6_isPanel, fX6_isPanel_b40, fX6_isPanel_b41, lit, e1, e2, v_isW, w1, if_true, if_false, iI_eq, Option.bind_some, zc_i0]
theorem v_isSize {N : Nat} {h : Hs} {s : Int} (s1 : -2147483648 ≤ s) (s2 : s < 2147483648) : fX12_isSize N h (iI s) = some (if 100 ≤ s ∧ s ≤ 9999 ∧ s % 100 ≠ 0 then iI 1 else iI 0, h) := by
  have hd := td_cases s 100
  have e1 := iI_dv s1 s2 (b := 100) (by omega) (by omega)
  obtain ⟨H, hH⟩ : ∃ H, H = s.tdiv 100 := ⟨_, rfl⟩
  rw [← hH] at hd e1
  obtain ⟨R, hR⟩ : ∃ R, R = s - H * 100 := ⟨_, rfl⟩
  have e2 : iI s - iI H * iI 100 = iI R := by rw [iI_mul, iI_sub, hR]
  have b1 : -2147483648 ≤ H ∧ H < 2147483648 := by omega
  have b2 : -2147483648 ≤ R ∧ R < 2147483648 := by omega
  by_cases w0 : s < 0
  · rw [if_neg (by omega)]
    simp (disch := omega) only [fX12_isSize, fX12_isSize_b28, fX12_isSize_b29, lit, iI_lt, w0, if_true, Option.bind_some, zc_i0]
  · by_cases w1 : 1 ≤ H ∧ H ≤ 99
    · by_cases w2 : R ≤ 0
      · rw [if_neg (by omega)]
        simp (disch := omega) only [fX12_isSize, fX12_isSize_b28, fX12_isSize_b29, lit, e1, e2, iI_lt, iI_le, v_inW, w0, w1, w2, and_self, if_true, if_false, iI_eq, Option.bind_some, zc_i0]
        simp
      · rw [if_pos (by omega)]
        simp (disch := omega) only [fX12_isSize, fX12_isSize_b28, fX12_isSize_b29, lit, e1, e2, iI_lt, iI_le, v_inW, w0, w1, w2, and_self, if_true, if_false, iI_eq, Option.bind_some, zc_i1]
        simp
    · rw [if_neg (by omega)]
      simp (disch := omega) only [fX12_isSize, fX12_isSize_b28, fX12_isSize_b29, lit, e1, e2, iI_lt, iI_le, v_inW, w0, w1, if_true, if_false, iI_eq, Option.bind_some, zc_i0]
/-- a panel made: its three fields -/
theorem v_panel {N : Nat} {h : Hs} {s q : Int} (s1 : 100 ≤ s) (s2 : s ≤ 9999) : fX3_init N (nw h (3, 0)) (sz h) (iI s) (iI q) = some (uI (uI (uI (nw h (3, 0)) 300 (sz h) (iI (s / 100))) 301 (sz h) (iI (s % 100))) 302 (sz h) (iI q)) := by
  have e1 := iI_dv (a := s) (b := 100) (by omega) (by omega) (by omega) (by omega)
  rw [Int.tdiv_eq_ediv_of_nonneg (by omega)] at e1
  have e2 : iI s - iI (s / 100) * iI 100 = iI (s % 100) := by
    rw [iI_mul, iI_sub]
    congr 1
    omega
  have e3 : (sh (nw h (3, 0)) (sz h)).1 = 3 := by rw [sh_nwS]
  simp [fX3_init, qI, lit, e1, e2, HR, e3]
theorem RPan.add {h : Hs} {qa a1 a2 n : Nat} {pA : Nat → Nat} {ht wd pt : Nat → Int} (hR : RPan h qa a1 a2 n pA ht wd pt) (hz : 70 ≤ sz h) {h2 : Hs} {F A FR AQ : List Nat} (k : Ke F A FR AQ h h2) (q1 : qa < 70) (q2 : a1 < 70) (q3 : a2 < 70) {s q : Int} (s1 : 100 ≤ s) (s2 : s ≤ 9999) (s3 : s % 100 ≠ 0) (g1 : 0 ≤ q) (g2 : q ≤ 9)
    (z2 : sz h < sz h2) (n0 : aR h2 qa n = some (sz h)) (nq : ∀ i, i ≠ n → aR h2 qa i = aR h qa i) (ns : sh h2 (sz h) = (3, 0)) (m0 : gI h2 300 (sz h) = iI (s / 100)) (m1 : gI h2 301 (sz h) = iI (s % 100)) (m2 : gI h2 302 (sz h) = iI q) (o0 : ∀ a, a < sz h → gI h2 300 a = gI h 300 a ∧ gI h2 301 a = gI h 301 a ∧ gI h2 302 a = gI h 302 a)
    (p1 : aI h2 a1 n = iI s) (p2 : aI h2 a2 n = iI q) (pq1 : ∀ i, i ≠ n → aI h2 a1 i = aI h a1 i) (pq2 : ∀ i, i ≠ n → aI h2 a2 i = aI h a2 i) : RPan h2 qa a1 a2 (n + 1) (fun i => if i = n then sz h else pA i) (fun i => if i = n then s / 100 else ht i) (fun i => if i = n then s % 100 else wd i) (fun i => if i = n then q else pt i) := by
  intro i hi
  by_cases e : i = n
  · subst e
    simp only [if_true]
    refine ⟨⟨n0, hz, z2, ns, m0, m1, m2⟩, ?_, p2, by omega, by omega, by omega, by omega, g1, g2⟩
    rw [p1]
    congr 1
    omega
  · obtain ⟨⟨r1, r2, r3, r4, r5, r6, r7⟩, r8, r9, r10⟩ := hR i (by omega)
    simp only [e, if_false]
    have := o0 _ r3
    refine ⟨⟨by rw [nq i e]; exact r1, r2, by omega, by rw [k.2.2.2.2.1 _ r3]; exact r4, by rw [this.1]; exact r5, by rw [this.2.1]; exact r6, by rw [this.2.2]; exact r7⟩, by rw [pq1 i e]; exact r8, by rw [pq2 i e]; exact r9, r10⟩
theorem RPan.oth {h : Hs} {qa a1 a2 n : Nat} {pA : Nat → Nat} {ht wd pt : Nat → Int} (hR : RPan h qa a1 a2 n pA ht wd pt) (hz : 70 ≤ sz h) {h2 : Hs} {F A FR AQ : List Nat} (k : Ke F A FR AQ h h2) (q1 : qa < 70) (q2 : a1 < 70) (q3 : a2 < 70) (hq : qa ∉ AQ) (h1 : a1 ∉ A) (h2' : a2 ∉ A) (o0 : ∀ a, a < sz h → gI h2 300 a = gI h 300 a ∧ gI h2 301 a = gI h 301 a ∧ gI h2 302 a = gI h 302 a) : RPan h2 qa a1 a2 n pA ht wd pt := by
  intro i hi
  obtain ⟨⟨r1, r2, r3, r4, r5, r6, r7⟩, r8, r9, r10⟩ := hR i hi
  have := o0 _ r3
  have k6 := k.2.2.2.2.2
  refine ⟨⟨by rw [k.2.2.2.1 _ hq (by omega)]; exact r1, r2, by omega, by rw [k.2.2.2.2.1 _ r3]; exact r4, by rw [this.1]; exact r5, by rw [this.2.1]; exact r6, by rw [this.2.2]; exact r7⟩, by rw [k.2.1 _ h1 (by omega)]; exact r8, by rw [k.2.1 _ h2' (by omega)]; exact r9, r10⟩
