/-! ===== stock: flats, wants, what was given ===== -/
def RPan (h : Hs) (qa a1 a2 : Nat) (n : Nat) (pA : Nat → Nat) (ht wd pt : Nat → Int) : Prop := ∀ i, i < n → (aR h qa i = some (pA i) ∧ 70 ≤ pA i ∧ pA i < sz h ∧ sh h (pA i) = (3, 0) ∧ gI h 300 (pA i) = iI (ht i) ∧ gI h 301 (pA i) = iI (wd i) ∧ gI h 302 (pA i) = iI (pt i)) ∧ aI h a1 i = iI (100 * ht i + wd i) ∧ aI h a2 i = iI (pt i) ∧ 1 ≤ ht i ∧ ht i ≤ 99 ∧ 1 ≤ wd i ∧ wd i ≤ 99 ∧ 0 ≤ pt i ∧ pt i ≤ 9
def IStk (h : Hs) : Prop := ∃ (nf nv ng : Nat) (fA vA : Nat → Nat) (fh fw fp vh vw vp gv : Nat → Int),
  (gI h 604 9 = iI nf ∧ gI h 605 9 = iI nv ∧ gI h 606 9 = iI ng ∧ gI h 1256 29 = iI nf ∧ gI h 1259 29 = iI nv ∧ gI h 1263 29 = iI ng) ∧ nf ≤ 12 ∧ nv ≤ 6 ∧ ng ≤ 6 ∧
  RPan h 10 64 65 nf fA fh fw fp ∧ RPan h 11 66 67 nv vA vh vw vp ∧ ∀ i, i < ng → aI h 12 i = iI (gv i) ∧ aI h 69 i = iI (gv i)
abbrev FStk : List Nat := [604, 605, 606, 300, 301, 302, 1256, 1259, 1263]
abbrev AStk : List Nat := [12, 13, 64, 65, 66, 67, 68, 69]
abbrev QStk : List Nat := [10, 11]
theorem RPan.e {F A FR AQ : List Nat} {h h2 : Hs} {qa a1 a2 n : Nat} {pA : Nat → Nat} {ht wd pt : Nat → Int} (hR : RPan h qa a1 a2 n pA ht wd pt) (hz : 70 ≤ sz h) (k : Ke F A FR AQ h h2) (q1 : qa < 70) (q2 : a1 < 70) (q3 : a2 < 70) (hq : qa ∉ AQ) (h1 : a1 ∉ A) (h2' : a2 ∉ A) (f0 : 300 ∉ F) (f1 : 301 ∉ F) (f2 : 302 ∉ F) : RPan h2 qa a1 a2 n pA ht wd pt := by
  intro i hi
  obtain ⟨⟨r1, r2, r3, r4, r5, r6, r7⟩, r8, r9, r10⟩ := hR i hi
  obtain ⟨k1, k2, k3, k4, k5, k6⟩ := k
  refine ⟨⟨?_, r2, by omega, ?_, ?_, ?_, ?_⟩, ?_, ?_, r10⟩
  · rw [k4 _ hq (by omega)]; exact r1
  · rw [k5 _ r3]; exact r4
  · rw [k1 _ _ f0 r3]; exact r5
  · rw [k1 _ _ f1 r3]; exact r6
  · rw [k1 _ _ f2 r3]; exact r7
  · rw [k2 _ h1 (by omega)]; exact r8
  · rw [k2 _ h2' (by omega)]; exact r9
theorem IStk.e {F A FR AQ : List Nat} {h h2 : Hs} (hC : IStk h) (hz : 70 ≤ sz h) (k : Ke F A FR AQ h h2) (hF : ∀ f ∈ FStk, f ∉ F) (hA : ∀ a ∈ [12, 64, 65, 66, 67, 69], a ∉ A) (hQ : ∀ a ∈ QStk, a ∉ AQ) : IStk h2 := by
  obtain ⟨nf, nv, ng, fA, vA, fh, fw, fp, vh, vw, vp, gv, ⟨c1, c2, c3, c4, c5, c6⟩, b1, b2, b3, r1, r2, r3⟩ := hC
  refine ⟨nf, nv, ng, fA, vA, fh, fw, fp, vh, vw, vp, gv, ⟨?_, ?_, ?_, ?_, ?_, ?_⟩, b1, b2, b3, r1.e hz k (by omega) (by omega) (by omega) (hQ _ (by decide)) (hA _ (by decide)) (hA _ (by decide)) (hF _ (by decide)) (hF _ (by decide)) (hF _ (by decide)), r2.e hz k (by omega) (by omega) (by omega) (hQ _ (by decide)) (hA _ (by decide)) (hA _ (by decide)) (hF _ (by decide)) (hF _ (by decide)) (hF _ (by decide)), fun i hi => ?_⟩
  · rw [k.1 _ _ (hF _ (by decide)) (by omega)]; exact c1
  · rw [k.1 _ _ (hF _ (by decide)) (by omega)]; exact c2
  · rw [k.1 _ _ (hF _ (by decide)) (by omega)]; exact c3
  · rw [k.1 _ _ (hF _ (by decide)) (by omega)]; exact c4
  · rw [k.1 _ _ (hF _ (by decide)) (by omega)]; exact c5
  · rw [k.1 _ _ (hF _ (by decide)) (by omega)]; exact c6
  · rw [k.2.1 _ (hA 12 (by decide)) (by omega), k.2.1 _ (hA 69 (by decide)) (by omega)]
    exact r3 i hi
theorem t_given {N : Nat} {h : Hs} (hS : Sk h) (hC : IStk h) (p : Int32) : ∃ r, fX11_given N h 0 p = some (r, h) ∧ fX12_given N h 29 p = some (r, h) := by
  obtain ⟨z, z1, z2, rfl⟩ := iI_ex p
  obtain ⟨nf, nv, ng, fA, vA, fh, fw, fp, vh, vw, vp, gv, ⟨c1, c2, c3, c4, c5, c6⟩, b1, b2, b3, r1, r2, r3⟩ := hC
  by_cases w : 0 ≤ z ∧ z ≤ (ng : Int) - 1
  · obtain ⟨i, rfl⟩ : ∃ i : Nat, z = i := ⟨z.toNat, by omega⟩
    have e0 := r3 i (by omega)
    have e1 : ixb (iI (i : Int)) 6 = true := ixb_i (by omega) (by omega) (by omega)
    have e2 : (iI (i : Int)).toNatClampNeg = i := by rw [iI_cl (by omega) (by omega)]; simp
    refine ⟨iI (gv i), ?_, ?_⟩
    · simp (disch := omega) [oI, oR, qI, qZ, qR, rc, lit, iI_add, iI_sub, iI_mul, iI_neg, iI_le, iI_lt, iI_eq, v_isW, v_inW, bz, HR, sk_0 hS, sk_9 hS, sk_12 hS, sk_85 hS, sk_99 hS, fX11_given, fX6_givenTo, fX6_givenTo_b24, lA, c3, w, e0, e1, e2]
    · simp (disch := omega) [oI, oR, qI, qZ, qR, rc, lit, iI_add, iI_sub, iI_mul, iI_neg, iI_le, iI_lt, iI_eq, v_isW, v_inW, bz, HR, sk_29 hS, sk_69 hS, sk_139 hS, fX12_given, fX12_given_b24, lA, c6, w, e0, e1, e2]
  · refine ⟨-1, ?_, ?_⟩
    · simp (disch := omega) [oI, oR, qI, qZ, qR, rc, lit, iI_add, iI_sub, iI_mul, iI_neg, iI_le, iI_lt, iI_eq, v_isW, v_inW, bz, HR, sk_0 hS, sk_9 hS, sk_99 hS, fX11_given, fX6_givenTo, fX6_givenTo_b24, c3, w]
    · simp (disch := omega) [oI, oR, qI, qZ, qR, rc, lit, iI_add, iI_sub, iI_mul, iI_neg, iI_le, iI_lt, iI_eq, v_isW, v_inW, bz, HR, sk_29 hS, fX12_given, fX12_given_b24, c6, w]
theorem zc_i1 : zc (iI 1) = some (iI 1) := rfl
theorem zc_i0 : zc (iI 0) = some (iI 0) := rfl
theorem v_isPanel {N : Nat} {h : Hs} {s q : Int} (s1 : -2147483648 ≤ s) (s2 : s < 2147483648) (q1 : -2147483648 ≤ q) (q2 : q < 2147483648) : fX6_isPanel N h (iI s) (iI q) = some (if (100 ≤ s ∧ s ≤ 9999 ∧ s % 100 ≠ 0) ∧ 0 ≤ q ∧ q ≤ 9 then iI 1 else iI 0, h) := by
  have hd := td_cases s 100
  have e1 := iI_dv s1 s2 (b := 100) (by omega) (by omega)
  obtain ⟨H, hH⟩ : ∃ H, H = s.tdiv 100 := ⟨_, rfl⟩
  rw [← hH] at hd e1
  obtain ⟨R, hR⟩ : ∃ R, R = s - H * 100 := ⟨_, rfl⟩
  have e2 : iI s - iI H * iI 100 = iI R := by rw [iI_mul, iI_sub, hR]
  have b1 : -2147483648 ≤ H ∧ H < 2147483648 := by omega
  have b2 : -2147483648 ≤ R ∧ R < 2147483648 := by omega
  by_cases w1 : 1 ≤ H ∧ H ≤ 99
  · by_cases w2 : 1 ≤ R ∧ R ≤ 99
    · have w4 : 100 ≤ s ∧ s ≤ 9999 ∧ s % 100 ≠ 0 := by omega
      by_cases w3 : 0 ≤ q ∧ q ≤ 9
      · rw [if_pos ⟨w4, w3⟩]
        simp (disch := omega) only [fX6_isPanel, fX6_isPanel_b40, fX6_isPanel_b41, lit, e1, e2, v_isW, w1, w2, w3, and_self, if_true, iI_eq, Option.bind_some, zc_i1]
        simp
      · rw [if_neg (fun z => w3 z.2)]
        simp (disch := omega) only [fX6_isPanel, fX6_isPanel_b40, fX6_isPanel_b41, lit, e1, e2, v_isW, w1, w2, w3, and_self, if_true, if_false, iI_eq, Option.bind_some, zc_i0]
        simp
    · have w4 : ¬ (100 ≤ s ∧ s ≤ 9999 ∧ s % 100 ≠ 0) := by omega
      rw [if_neg (fun z => w4 z.1)]
      simp (disch := omega) only [fX6_isPanel, fX6_isPanel_b40, fX6_isPanel_b41, lit, e1, e2, v_isW, w1, w2, and_self, if_true, if_false, iI_eq, Option.bind_some, zc_i0]
      simp
  · have w4 : ¬ (100 ≤ s ∧ s ≤ 9999 ∧ s % 100 ≠ 0) := by omega
    rw [if_neg (fun z => w4 z.1)]
    simp (disch := omega) only [fX6_isPanel, fX6_isPanel_b40, fX6_isPanel_b41, lit, e1, e2, v_isW, w1, if_true, if_false, iI_eq, Option.bind_some, zc_i0]
theorem v_isSize {N : Nat} {h : Hs} {s : Int} (s1 : -2147483648 ≤ s) (s2 : s < 2147483648) : fX12_isSize N h (iI s) = some (if 100 ≤ s ∧ s ≤ 9999 ∧ s % 100 ≠ 0 then iI 1 else iI 0, h) := by
  have hd := td_cases s 100
  have e1 := iI_dv s1 s2 (b := 100) (by omega) (by omega)
  obtain ⟨H, hH⟩ : ∃ H, H = s.tdiv 100 := ⟨_, rfl⟩
  rw [← hH] at hd e1
  obtain ⟨R, hR⟩ : ∃ R, R = s - H * 100 := ⟨_, rfl⟩
  have e2 : iI s - iI H * iI 100 = iI R := by rw [iI_mul, iI_sub, hR]
  have b1 : -2147483648 ≤ H ∧ H < 2147483648 := by omega
  have b2 : -2147483648 ≤ R ∧ R < 2147483648 := by omega
  by_cases w0 : s < 0
  · rw [if_neg (by omega)]
    simp (disch := omega) only [fX12_isSize, fX12_isSize_b28, fX12_isSize_b29, lit, iI_lt, w0, if_true, Option.bind_some, zc_i0]
  · by_cases w1 : 1 ≤ H ∧ H ≤ 99
    · by_cases w2 : R ≤ 0
      · rw [if_neg (by omega)]
        simp (disch := omega) only [fX12_isSize, fX12_isSize_b28, fX12_isSize_b29, lit, e1, e2, iI_lt, iI_le, v_inW, w0, w1, w2, and_self, if_true, if_false, iI_eq, Option.bind_some, zc_i0]
        simp
      · rw [if_pos (by omega)]
        simp (disch := omega) only [fX12_isSize, fX12_isSize_b28, fX12_isSize_b29, lit, e1, e2, iI_lt, iI_le, v_inW, w0, w1, w2, and_self, if_true, if_false, iI_eq, Option.bind_some, zc_i1]
        simp
    · rw [if_neg (by omega)]
      simp (disch := omega) only [fX12_isSize, fX12_isSize_b28, fX12_isSize_b29, lit, e1, e2, iI_lt, iI_le, v_inW, w0, w1, if_true, if_false, iI_eq, Option.bind_some, zc_i0]
/-- a panel made: its three fields -/
theorem v_panel {N : Nat} {h : Hs} {s q : Int} (s1 : 100 ≤ s) (s2 : s ≤ 9999) : fX3_init N (nw h (3, 0)) (sz h) (iI s) (iI q) = some (uI (uI (uI (nw h (3, 0)) 300 (sz h) (iI (s / 100))) 301 (sz h) (iI (s % 100))) 302 (sz h) (iI q)) := by
  have e1 := iI_dv (a := s) (b := 100) (by omega) (by omega) (by omega) (by omega)
  rw [Int.tdiv_eq_ediv_of_nonneg (by omega)] at e1
  have e2 : iI s - iI (s / 100) * iI 100 = iI (s % 100) := by
    rw [iI_mul, iI_sub]
    congr 1
    omega
  have e3 : (sh (nw h (3, 0)) (sz h)).1 = 3 := by rw [sh_nwS]
  simp [fX3_init, qI, lit, e1, e2, HR, e3]
theorem RPan.add {h : Hs} {qa a1 a2 n : Nat} {pA : Nat → Nat} {ht wd pt : Nat → Int} (hR : RPan h qa a1 a2 n pA ht wd pt) (hz : 70 ≤ sz h) {h2 : Hs} {F A FR AQ : List Nat} (k : Ke F A FR AQ h h2) (q1 : qa < 70) (q2 : a1 < 70) (q3 : a2 < 70) {s q : Int} (s1 : 100 ≤ s) (s2 : s ≤ 9999) (s3 : s % 100 ≠ 0) (g1 : 0 ≤ q) (g2 : q ≤ 9)
    (z2 : sz h < sz h2) (n0 : aR h2 qa n = some (sz h)) (nq : ∀ i, i ≠ n → aR h2 qa i = aR h qa i) (ns : sh h2 (sz h) = (3, 0)) (m0 : gI h2 300 (sz h) = iI (s / 100)) (m1 : gI h2 301 (sz h) = iI (s % 100)) (m2 : gI h2 302 (sz h) = iI q) (o0 : ∀ a, a < sz h → gI h2 300 a = gI h 300 a ∧ gI h2 301 a = gI h 301 a ∧ gI h2 302 a = gI h 302 a)
    (p1 : aI h2 a1 n = iI s) (p2 : aI h2 a2 n = iI q) (pq1 : ∀ i, i ≠ n → aI h2 a1 i = aI h a1 i) (pq2 : ∀ i, i ≠ n → aI h2 a2 i = aI h a2 i) : RPan h2 qa a1 a2 (n + 1) (fun i => if i = n then sz h else pA i) (fun i => if i = n then s / 100 else ht i) (fun i => if i = n then s % 100 else wd i) (fun i => if i = n then q else pt i) := by
  intro i hi
  by_cases e : i = n
  · subst e
    simp only [if_true]
    refine ⟨⟨n0, hz, z2, ns, m0, m1, m2⟩, ?_, p2, by omega, by omega, by omega, by omega, g1, g2⟩
    rw [p1]
    congr 1
    omega
  · obtain ⟨⟨r1, r2, r3, r4, r5, r6, r7⟩, r8, r9, r10⟩ := hR i (by omega)
    simp only [e, if_false]
    have := o0 _ r3
    refine ⟨⟨by rw [nq i e]; exact r1, r2, by omega, by rw [k.2.2.2.2.1 _ r3]; exact r4, by rw [this.1]; exact r5, by rw [this.2.1]; exact r6, by rw [this.2.2]; exact r7⟩, by rw [pq1 i e]; exact r8, by rw [pq2 i e]; exact r9, r10⟩
theorem RPan.oth {h : Hs} {qa a1 a2 n : Nat} {pA : Nat → Nat} {ht wd pt : Nat → Int} (hR : RPan h qa a1 a2 n pA ht wd pt) (hz : 70 ≤ sz h) {h2 : Hs} {F A FR AQ : List Nat} (k : Ke F A FR AQ h h2) (q1 : qa < 70) (q2 : a1 < 70) (q3 : a2 < 70) (hq : qa ∉ AQ) (h1 : a1 ∉ A) (h2' : a2 ∉ A) (o0 : ∀ a, a < sz h → gI h2 300 a = gI h 300 a ∧ gI h2 301 a = gI h 301 a ∧ gI h2 302 a = gI h 302 a) : RPan h2 qa a1 a2 n pA ht wd pt := by
  intro i hi
  obtain ⟨⟨r1, r2, r3, r4, r5, r6, r7⟩, r8, r9, r10⟩ := hR i hi
  have := o0 _ r3
  have k6 := k.2.2.2.2.2
  refine ⟨⟨by rw [k.2.2.2.1 _ hq (by omega)]; exact r1, r2, by omega, by rw [k.2.2.2.2.1 _ r3]; exact r4, by rw [this.1]; exact r5, by rw [this.2.1]; exact r6, by rw [this.2.2]; exact r7⟩, by rw [k.2.1 _ h1 (by omega)]; exact r8, by rw [k.2.1 _ h2' (by omega)]; exact r9, r10⟩
theorem t_flat {N : Nat} {h : Hs} (hS : Sk h) (hz : 70 ≤ sz h) (hC : IStk h) (p1 p2 : Int32) : ∃ r h1 h2, fX11_flat N h 0 p1 p2 = some (r, h1) ∧ fX12_flat N h1 29 p1 p2 = some (r, h2) ∧ IStk h2 ∧ Ke [604, 1256, 300, 301, 302] [64, 65] [] [10] h h2 := by
  obtain ⟨s, s1, s2, rfl⟩ := iI_ex p1
  obtain ⟨q, q1, q2, rfl⟩ := iI_ex p2
  have hC0 := hC
  obtain ⟨nf, nv, ng, fA, vA, fh, fw, fp, vh, vw, vp, gv, ⟨c1, c2, c3, c4, c5, c6⟩, b1, b2, b3, r1, r2, r3⟩ := hC
  by_cases w1 : 100 ≤ s ∧ s ≤ 9999 ∧ s % 100 ≠ 0
  · by_cases w2 : 0 ≤ q ∧ q ≤ 9
    · by_cases w3 : nf < 12
      · obtain ⟨h0, hh0⟩ : ∃ h0, h0 = uI (uI (uI (nw h (3, 0)) 300 (sz h) (iI (s / 100))) 301 (sz h) (iI (s % 100))) 302 (sz h) (iI q) := ⟨_, rfl⟩
        have ke0 : Ke [604, 1256, 300, 301, 302] [64, 65] [] [10] h h0 := by
          rw [hh0]
          exact (((Ke_rf.n _).u _ _ _ (by decide)).u _ _ _ (by decide)).u _ _ _ (by decide)
        have kv := v_panel (N := N) (h := h) (q := q) w1.1 w1.2.1
        rw [← hh0] at kv
        have hS0 := hS.e hz ke0 (fun f hf => absurd hf List.not_mem_nil)
        have z0 : sz h0 = sz h + 1 := by rw [hh0]; rfl
        have x1 : gI h0 604 9 = iI nf := by rw [hh0]; simp [HR]; rw [gI_nw (by omega)]; exact c1
        have x2 : (sh h0 (sz h)).1 = 3 := by rw [hh0]; simp [HR, sh_nwS]
        have e1 : ixb (iI (nf : Int)) 12 = true := ixb_i (by omega) (by omega) (by omega)
        have e2 : (iI (nf : Int)).toNatClampNeg = nf := by rw [iI_cl (by omega) (by omega)]; simp
        obtain ⟨h1, hh1⟩ : ∃ h1, h1 = uI (uQ h0 10 nf (some (sz h))) 604 9 (iI (nf + 1)) := ⟨_, rfl⟩
        have ke1 : Ke [604, 1256, 300, 301, 302] [64, 65] [] [10] h h1 := by
          rw [hh1]
          exact (ke0.q _ _ _ (by decide)).u _ _ _ (by decide)
        have hS1 := hS.e hz ke1 (fun f hf => absurd hf List.not_mem_nil)
        have y1 : gI h1 1256 29 = iI nf := by rw [hh1, hh0]; simp [HR]; rw [gI_nw (by omega)]; exact c4
        obtain ⟨h2, hh2⟩ : ∃ h2, h2 = uI (uA (uA h1 64 nf (iI s)) 65 nf (iI q)) 1256 29 (iI (nf + 1)) := ⟨_, rfl⟩
        have ke2 : Ke [604, 1256, 300, 301, 302] [64, 65] [] [10] h h2 := by
          rw [hh2]
          exact ((ke1.b _ _ _ (by decide)).b _ _ _ (by decide)).u _ _ _ (by decide)
        refine ⟨iI nf, h1, h2, ?_, ?_, ?_, ke2⟩
        · have w4 : (nf : Int) < 12 := by omega
          rw [hh1]
          have hP := v_isPanel (N := N) (h := h) s1 s2 q1 q2
          rw [if_pos ⟨w1, w2⟩] at hP
          simp (disch := omega) [fX11_flat, fX6_addFlat, hP, oI, oR, rc, sk_0 hS, sk_9 hS, sk_83 hS, sk_99 hS, c1, lit, iI_lt, iI_eq, w4, kv, sQ, qI, sk_9 hS0, sk_10 hS0, e1, e2, x1, x2, HR, iI_add]
        · have w4 : ¬ (nf : Int) = 12 := by omega
          rw [hh2]
          have hP := v_isSize (N := N) (h := h1) s1 s2
          rw [if_pos w1] at hP
          have hI := v_inW (N := N) (h := h1) (x := q) (a := 0) (b := 9) (by omega) (by omega) (by omega) (by omega) (by omega) (by omega)
          rw [if_pos w2] at hI
          simp (disch := omega) [fX12_flat, hP, hI, oI, oR, rc, sk_29 hS1, sk_64 hS1, sk_65 hS1, sk_134 hS1, sk_135 hS1, y1, lit, iI_lt, iI_eq, w4, sA, qI, e1, e2, HR, iI_add, iI_sub]
        · have o0 : ∀ a, a < sz h → gI h2 300 a = gI h 300 a ∧ gI h2 301 a = gI h 301 a ∧ gI h2 302 a = gI h 302 a := fun a ha => by
            have e9 : ¬ a = sz h := by omega
            rw [hh2, hh1, hh0]
            simp [HR, e9, gI_nw ha]
          refine ⟨nf + 1, nv, ng, fun i => if i = nf then sz h else fA i, vA, fun i => if i = nf then s / 100 else fh i, fun i => if i = nf then s % 100 else fw i, fun i => if i = nf then q else fp i, vh, vw, vp, gv, ⟨?_, ?_, ?_, ?_, ?_, ?_⟩, by omega, b2, b3, ?_, ?_, ?_⟩
          · rw [hh2, hh1]; simp [HR]
          · rw [ke2.1 _ _ (by decide) (by omega)]; exact c2
          · rw [ke2.1 _ _ (by decide) (by omega)]; exact c3
          · rw [hh2]; simp [HR]
          · rw [ke2.1 _ _ (by decide) (by omega)]; exact c5
          · rw [ke2.1 _ _ (by decide) (by omega)]; exact c6
          · refine r1.add hz ke2 (by omega) (by omega) (by omega) w1.1 w1.2.1 w1.2.2 w2.1 w2.2 ?_ ?_ ?_ ?_ ?_ ?_ ?_ o0 ?_ ?_ ?_ ?_
            · rw [hh2, hh1]; simp [HR, z0]
            · rw [hh2, hh1]; simp [HR]
            · intro i hi
              rw [hh2, hh1, hh0]
              simp [HR, hi]
              rw [aR_nw (by omega)]
            · rw [hh2, hh1, hh0]; simp [HR, sh_nwS]
            · rw [hh2, hh1, hh0]; simp [HR]
            · rw [hh2, hh1, hh0]; simp [HR]
            · rw [hh2, hh1, hh0]; simp [HR]
            · rw [hh2]; simp [HR]
            · rw [hh2]; simp [HR]
            · intro i hi
              rw [hh2, hh1, hh0]
              simp [HR, hi]
              rw [aI_nw (by omega)]
            · intro i hi
              rw [hh2, hh1, hh0]
              simp [HR, hi]
              rw [aI_nw (by omega)]
          · exact r2.oth hz ke2 (by omega) (by omega) (by omega) (by decide) (by decide) (by decide) o0
          · intro i hi
            rw [ke2.2.1 _ (by decide) (by omega), ke2.2.1 _ (by decide) (by omega)]
            exact r3 i hi
      · have w4 : ¬ (nf : Int) < 12 := by omega
        have w5 : (nf : Int) = 12 := by omega
        refine ⟨-3, h, h, ?_, ?_, hC0, Ke_rf⟩
        · have hP := v_isPanel (N := N) (h := h) s1 s2 q1 q2
          rw [if_pos ⟨w1, w2⟩] at hP
          simp (disch := omega) [fX11_flat, fX6_addFlat, hP, oI, oR, rc, sk_0 hS, sk_9 hS, sk_83 hS, sk_99 hS, c1, lit, iI_lt, iI_eq, w4]
        · have hP := v_isSize (N := N) (h := h) s1 s2
          rw [if_pos w1] at hP
          have hI := v_inW (N := N) (h := h) (x := q) (a := 0) (b := 9) (by omega) (by omega) (by omega) (by omega) (by omega) (by omega)
          rw [if_pos w2] at hI
          simp (disch := omega) [fX12_flat, hP, hI, oI, oR, rc, sk_29 hS, sk_134 hS, c4, lit, iI_lt, iI_eq, w5]
    · refine ⟨-1, h, h, ?_, ?_, hC0, Ke_rf⟩
      · have hP := v_isPanel (N := N) (h := h) s1 s2 q1 q2
        rw [if_neg (fun z => w2 z.2)] at hP
        simp [fX11_flat, fX6_addFlat, hP, oR, rc, sk_0 hS, sk_9 hS, sk_99 hS, lit]
      · have hP := v_isSize (N := N) (h := h) s1 s2
        rw [if_pos w1] at hP
        have hI := v_inW (N := N) (h := h) (x := q) (a := 0) (b := 9) (by omega) (by omega) (by omega) (by omega) (by omega) (by omega)
        rw [if_neg w2] at hI
        simp (disch := omega) [fX12_flat, fX12_flat_b17, hP, hI, lit, iI_eq]
  · refine ⟨-1, h, h, ?_, ?_, hC0, Ke_rf⟩
    · have hP := v_isPanel (N := N) (h := h) s1 s2 q1 q2
      rw [if_neg (fun z => w1 z.1)] at hP
      simp [fX11_flat, fX6_addFlat, hP, oR, rc, sk_0 hS, sk_9 hS, sk_99 hS, lit]
    · have hP := v_isSize (N := N) (h := h) s1 s2
      rw [if_neg w1] at hP
      simp [fX12_flat, fX12_flat_b17, hP, lit]
theorem t_want {N : Nat} {h : Hs} (hS : Sk h) (hz : 70 ≤ sz h) (hC : IStk h) (p1 p2 : Int32) : ∃ r h1 h2, fX11_want N h 0 p1 p2 = some (r, h1) ∧ fX12_want N h1 29 p1 p2 = some (r, h2) ∧ IStk h2 ∧ Ke [605, 1259, 300, 301, 302] [66, 67] [] [11] h h2 := by
  obtain ⟨s, s1, s2, rfl⟩ := iI_ex p1
  obtain ⟨q, q1, q2, rfl⟩ := iI_ex p2
  have hC0 := hC
  obtain ⟨nf, nv, ng, fA, vA, fh, fw, fp, vh, vw, vp, gv, ⟨c1, c2, c3, c4, c5, c6⟩, b1, b2, b3, r1, r2, r3⟩ := hC
  by_cases w1 : 100 ≤ s ∧ s ≤ 9999 ∧ s % 100 ≠ 0
  · by_cases w2 : 0 ≤ q ∧ q ≤ 9
    · by_cases w3 : nv < 6
      · obtain ⟨h0, hh0⟩ : ∃ h0, h0 = uI (uI (uI (nw h (3, 0)) 300 (sz h) (iI (s / 100))) 301 (sz h) (iI (s % 100))) 302 (sz h) (iI q) := ⟨_, rfl⟩
        have ke0 : Ke [605, 1259, 300, 301, 302] [66, 67] [] [11] h h0 := by
          rw [hh0]
          exact (((Ke_rf.n _).u _ _ _ (by decide)).u _ _ _ (by decide)).u _ _ _ (by decide)
        have kv := v_panel (N := N) (h := h) (q := q) w1.1 w1.2.1
        rw [← hh0] at kv
        have hS0 := hS.e hz ke0 (fun f hf => absurd hf List.not_mem_nil)
        have z0 : sz h0 = sz h + 1 := by rw [hh0]; rfl
        have x1 : gI h0 605 9 = iI nv := by rw [hh0]; simp [HR]; rw [gI_nw (by omega)]; exact c2
        have x2 : (sh h0 (sz h)).1 = 3 := by rw [hh0]; simp [HR, sh_nwS]
        have e1 : ixb (iI (nv : Int)) 6 = true := ixb_i (by omega) (by omega) (by omega)
        have e2 : (iI (nv : Int)).toNatClampNeg = nv := by rw [iI_cl (by omega) (by omega)]; simp
        obtain ⟨h1, hh1⟩ : ∃ h1, h1 = uI (uQ h0 11 nv (some (sz h))) 605 9 (iI (nv + 1)) := ⟨_, rfl⟩
        have ke1 : Ke [605, 1259, 300, 301, 302] [66, 67] [] [11] h h1 := by
          rw [hh1]
          exact (ke0.q _ _ _ (by decide)).u _ _ _ (by decide)
        have hS1 := hS.e hz ke1 (fun f hf => absurd hf List.not_mem_nil)
        have y1 : gI h1 1259 29 = iI nv := by rw [hh1, hh0]; simp [HR]; rw [gI_nw (by omega)]; exact c5
        obtain ⟨h2, hh2⟩ : ∃ h2, h2 = uI (uA (uA h1 66 nv (iI s)) 67 nv (iI q)) 1259 29 (iI (nv + 1)) := ⟨_, rfl⟩
        have ke2 : Ke [605, 1259, 300, 301, 302] [66, 67] [] [11] h h2 := by
          rw [hh2]
          exact ((ke1.b _ _ _ (by decide)).b _ _ _ (by decide)).u _ _ _ (by decide)
        refine ⟨iI (nv + 1), h1, h2, ?_, ?_, ?_, ke2⟩
        · have w4 : (nv : Int) < 6 := by omega
          rw [hh1]
          have hP := v_isPanel (N := N) (h := h) s1 s2 q1 q2
          rw [if_pos ⟨w1, w2⟩] at hP
          simp (disch := omega) [fX11_want, fX6_addWant, hP, oI, oR, rc, sk_0 hS, sk_9 hS, sk_84 hS, sk_99 hS, c2, lit, iI_lt, iI_eq, w4, kv, sQ, qI, sk_9 hS0, sk_11 hS0, e1, e2, x1, x2, HR, iI_add]
        · have w4 : ¬ (nv : Int) = 6 := by omega
          rw [hh2]
          have hP := v_isSize (N := N) (h := h1) s1 s2
          rw [if_pos w1] at hP
          have hI := v_inW (N := N) (h := h1) (x := q) (a := 0) (b := 9) (by omega) (by omega) (by omega) (by omega) (by omega) (by omega)
          rw [if_pos w2] at hI
          simp (disch := omega) [fX12_want, hP, hI, oI, oR, rc, sk_29 hS1, sk_66 hS1, sk_67 hS1, sk_136 hS1, sk_137 hS1, y1, lit, iI_lt, iI_eq, w4, sA, qI, e1, e2, HR, iI_add, iI_sub]
        · have o0 : ∀ a, a < sz h → gI h2 300 a = gI h 300 a ∧ gI h2 301 a = gI h 301 a ∧ gI h2 302 a = gI h 302 a := fun a ha => by
            have e9 : ¬ a = sz h := by omega
            rw [hh2, hh1, hh0]
            simp [HR, e9, gI_nw ha]
          refine ⟨nf, nv + 1, ng, fA, fun i => if i = nv then sz h else vA i, fh, fw, fp, fun i => if i = nv then s / 100 else vh i, fun i => if i = nv then s % 100 else vw i, fun i => if i = nv then q else vp i, gv, ⟨?_, ?_, ?_, ?_, ?_, ?_⟩, b1, by omega, b3, r1.oth hz ke2 (by omega) (by omega) (by omega) (by decide) (by decide) (by decide) o0, ?_, ?_⟩
          · rw [ke2.1 _ _ (by decide) (by omega)]; exact c1
          · rw [hh2, hh1]; simp [HR]
          · rw [ke2.1 _ _ (by decide) (by omega)]; exact c3
          · rw [ke2.1 _ _ (by decide) (by omega)]; exact c4
          · rw [hh2]; simp [HR]
          · rw [ke2.1 _ _ (by decide) (by omega)]; exact c6
          · refine r2.add hz ke2 (by omega) (by omega) (by omega) w1.1 w1.2.1 w1.2.2 w2.1 w2.2 ?_ ?_ ?_ ?_ ?_ ?_ ?_ o0 ?_ ?_ ?_ ?_
            · rw [hh2, hh1]; simp [HR, z0]
            · rw [hh2, hh1]; simp [HR]
            · intro i hi
              rw [hh2, hh1, hh0]
              simp [HR, hi]
              rw [aR_nw (by omega)]
            · rw [hh2, hh1, hh0]; simp [HR, sh_nwS]
            · rw [hh2, hh1, hh0]; simp [HR]
            · rw [hh2, hh1, hh0]; simp [HR]
            · rw [hh2, hh1, hh0]; simp [HR]
            · rw [hh2]; simp [HR]
            · rw [hh2]; simp [HR]
            · intro i hi
              rw [hh2, hh1, hh0]
              simp [HR, hi]
              rw [aI_nw (by omega)]
            · intro i hi
              rw [hh2, hh1, hh0]
              simp [HR, hi]
              rw [aI_nw (by omega)]
          · intro i hi
            rw [ke2.2.1 _ (by decide) (by omega), ke2.2.1 _ (by decide) (by omega)]
            exact r3 i hi
      · have w4 : ¬ (nv : Int) < 6 := by omega
        have w5 : (nv : Int) = 6 := by omega
        refine ⟨-3, h, h, ?_, ?_, hC0, Ke_rf⟩
        · have hP := v_isPanel (N := N) (h := h) s1 s2 q1 q2
          rw [if_pos ⟨w1, w2⟩] at hP
          simp (disch := omega) [fX11_want, fX6_addWant, hP, oI, oR, rc, sk_0 hS, sk_9 hS, sk_84 hS, sk_99 hS, c2, lit, iI_lt, iI_eq, w4]
        · have hP := v_isSize (N := N) (h := h) s1 s2
          rw [if_pos w1] at hP
          have hI := v_inW (N := N) (h := h) (x := q) (a := 0) (b := 9) (by omega) (by omega) (by omega) (by omega) (by omega) (by omega)
          rw [if_pos w2] at hI
          simp (disch := omega) [fX12_want, hP, hI, oI, oR, rc, sk_29 hS, sk_136 hS, c5, lit, iI_lt, iI_eq, w5]
    · refine ⟨-1, h, h, ?_, ?_, hC0, Ke_rf⟩
      · have hP := v_isPanel (N := N) (h := h) s1 s2 q1 q2
        rw [if_neg (fun z => w2 z.2)] at hP
        simp [fX11_want, fX6_addWant, hP, oR, rc, sk_0 hS, sk_9 hS, sk_99 hS, lit]
      · have hP := v_isSize (N := N) (h := h) s1 s2
        rw [if_pos w1] at hP
        have hI := v_inW (N := N) (h := h) (x := q) (a := 0) (b := 9) (by omega) (by omega) (by omega) (by omega) (by omega) (by omega)
        rw [if_neg w2] at hI
        simp (disch := omega) [fX12_want, fX12_want_b17, hP, hI, lit, iI_eq]
  · refine ⟨-1, h, h, ?_, ?_, hC0, Ke_rf⟩
    · have hP := v_isPanel (N := N) (h := h) s1 s2 q1 q2
      rw [if_neg (fun z => w1 z.1)] at hP
      simp [fX11_want, fX6_addWant, hP, oR, rc, sk_0 hS, sk_9 hS, sk_99 hS, lit]
    · have hP := v_isSize (N := N) (h := h) s1 s2
      rw [if_neg w1] at hP
      simp [fX12_want, fX12_want_b17, hP, lit]
/-! ===== bound, counterweights, the chance to go back, catches ===== -/
def IBnd (h : Hs) : Prop := ∃ b : Int, gI h 510 14 = iI b ∧ gI h 1220 29 = iI b ∧ 0 ≤ b ∧ b ≤ 99999
def ICnt (h : Hs) : Prop := ∃ cw : Nat → Int, ∀ i, i < 20 → aI h 18 i = iI (cw i) ∧ aI h 45 i = iI (cw i) ∧ -9999 ≤ cw i ∧ cw i ≤ 9999
def ICan (h : Hs) : Prop := ∃ c : Int, gI h 1106 0 = iI c ∧ gI h 1243 29 = iI c ∧ (c = 0 ∨ c = 1)
def ICat (h : Hs) : Prop := ∃ (cc : Nat → Nat) (cp : Nat → Int), ∀ l, l < 16 → aI h 21 l = iI (cc l) ∧ aI h 46 l = iI (cc l) ∧ cc l ≤ 5 ∧ ∀ k, k < cc l → aI h 20 (5 * l + k) = iI (cp (5 * l + k)) ∧ aI h 47 (5 * l + k) = iI (cp (5 * l + k)) ∧ 0 ≤ cp (5 * l + k) ∧ cp (5 * l + k) ≤ 99
def ICn (h h2 : Hs) : Prop := ∃ c : Int, gI h2 1106 0 = iI c ∧ gI h2 1243 29 = iI c ∧ (c = 0 ∨ (c = 1 ∧ gI h 1106 0 = iI 1))
theorem ICan.n {h : Hs} (hB : ICan h) : ICn h h := by
  obtain ⟨c, b1, b2, b3⟩ := hB
  exact ⟨c, b1, b2, b3.imp id (fun e => ⟨e, by rw [b1, e]⟩)⟩
theorem ICn.can {h h2 : Hs} (hB : ICn h h2) : ICan h2 := by
  obtain ⟨c, b1, b2, b3⟩ := hB
  exact ⟨c, b1, b2, b3.imp id (fun e => e.1)⟩
theorem IBnd.e {F A FR AQ : List Nat} {h h2 : Hs} (hC : IBnd h) (hz : 70 ≤ sz h) (k : Ke F A FR AQ h h2) (f1 : 510 ∉ F) (f2 : 1220 ∉ F) : IBnd h2 := by
  obtain ⟨b, c1, c2, c3⟩ := hC
  exact ⟨b, by rw [k.1 _ _ f1 (by omega)]; exact c1, by rw [k.1 _ _ f2 (by omega)]; exact c2, c3⟩
theorem ICnt.e {F A FR AQ : List Nat} {h h2 : Hs} (hC : ICnt h) (hz : 70 ≤ sz h) (k : Ke F A FR AQ h h2) (a1 : 18 ∉ A) (a2 : 45 ∉ A) : ICnt h2 := by
  obtain ⟨cw, c1⟩ := hC
  exact ⟨cw, fun i hi => by rw [k.2.1 _ a1 (by omega), k.2.1 _ a2 (by omega)]; exact c1 i hi⟩
theorem ICan.e {F A FR AQ : List Nat} {h h2 : Hs} (hC : ICan h) (hz : 70 ≤ sz h) (k : Ke F A FR AQ h h2) (f1 : 1106 ∉ F) (f2 : 1243 ∉ F) : ICan h2 := by
  obtain ⟨b, c1, c2, c3⟩ := hC
  exact ⟨b, by rw [k.1 _ _ f1 (by omega)]; exact c1, by rw [k.1 _ _ f2 (by omega)]; exact c2, c3⟩
theorem ICat.e {F A FR AQ : List Nat} {h h2 : Hs} (hC : ICat h) (hz : 70 ≤ sz h) (k : Ke F A FR AQ h h2) (hA : ∀ a ∈ [20, 21, 46, 47], a ∉ A) : ICat h2 := by
  obtain ⟨cc, cp, c1⟩ := hC
  exact ⟨cc, cp, fun i hi => by rw [k.2.1 _ (hA 20 (by decide)) (by omega), k.2.1 _ (hA 21 (by decide)) (by omega), k.2.1 _ (hA 46 (by decide)) (by omega), k.2.1 _ (hA 47 (by decide)) (by omega)]; exact c1 i hi⟩
theorem t_bound {N : Nat} {h : Hs} (hS : Sk h) (hC : IBnd h) (p : Int32) : ∃ r h1 h2, fX11_bound N h 0 p = some (r, h1) ∧ fX12_bound N h1 29 p = some (r, h2) ∧ IBnd h2 ∧ Kq [510, 1220] [] h h2 := by
  obtain ⟨z, z1, z2, rfl⟩ := iI_ex p
  have hC0 := hC
  obtain ⟨b, c1, c2, c3, c4⟩ := hC
  by_cases w : 0 ≤ z ∧ z ≤ 99999
  · refine ⟨iI b, uI h 510 14 (iI z), uI (uI h 510 14 (iI z)) 1220 29 (iI z), ?_, ?_, ⟨z, ?_, ?_, w⟩, (Kq_rf.u _ _ _ (by decide)).u _ _ _ (by decide)⟩
    · simp (disch := omega) [oI, oR, qI, qZ, qR, rc, lit, iI_add, iI_sub, iI_mul, iI_neg, iI_le, iI_lt, iI_eq, v_isW, v_inW, bz, HR, sk_0 hS, sk_14 hS, sk_94 hS, fX11_bound, fX5_setBound, c1, w]
    · simp (disch := omega) [oI, oR, qI, qZ, qR, rc, lit, iI_add, iI_sub, iI_mul, iI_neg, iI_le, iI_lt, iI_eq, v_isW, v_inW, bz, HR, sk_29 hS, fX12_bound, c2, w]
    · simp [HR]
    · simp [HR]
  · refine ⟨-1, h, h, ?_, ?_, hC0, Kq_rf⟩
    · simp (disch := omega) [oI, oR, qI, qZ, qR, rc, lit, iI_add, iI_sub, iI_mul, iI_neg, iI_le, iI_lt, iI_eq, v_isW, v_inW, bz, HR, sk_0 hS, sk_14 hS, sk_94 hS, fX11_bound, fX5_setBound, w]
    · simp (disch := omega) [oI, oR, qI, qZ, qR, rc, lit, iI_add, iI_sub, iI_mul, iI_neg, iI_le, iI_lt, iI_eq, v_isW, v_inW, bz, HR, fX12_bound, w]
/-- the class's own note of a deed -/
theorem v_deed {N : Nat} {h : Hs} (hS : Sk h) {r : Int32} {z : Int} (hz : z = 0 ∨ z = 1) : fX11_deed N h 0 r (iI z) = some (r, if z = 1 then uI h 1106 0 (iI 0) else h) := by
  rcases hz with rfl | rfl
  · simp [fX11_deed, fX11_deed_b9, lit]
  · have e : ¬ iI 1 = iI 0 := by decide
    simp [fX11_deed, fX11_deed_b9, lit, e, qZ, sk_0 hS]
theorem t_weight {N : Nat} {h : Hs} (hS : Sk h) (hC : ICnt h) (hB : ICan h) (p1 p2 : Int32) : ∃ r h1 h2, fX11_weight N h 0 p1 p2 = some (r, h1) ∧ fX12_weight N h1 29 p1 p2 = some (r, h2) ∧ ICnt h2 ∧ ICn h h2 ∧ Kq [1106, 1243] [18, 45] h h2 := by
  obtain ⟨x, x1, x2, rfl⟩ := iI_ex p1
  obtain ⟨z, z1, z2, rfl⟩ := iI_ex p2
  have hC0 := hC
  have hB0 := hB
  obtain ⟨cw, c1⟩ := hC
  obtain ⟨c, b1, b2, b3⟩ := hB
  by_cases w : (0 ≤ x ∧ x ≤ 19) ∧ -9999 ≤ z ∧ z ≤ 9999
  · obtain ⟨wx, wz⟩ := w
    obtain ⟨i, rfl⟩ : ∃ i : Nat, x = i := ⟨x.toNat, by omega⟩
    have e1 : ixb (iI (i : Int)) 20 = true := ixb_i (by omega) (by omega) (by omega)
    have e2 : (iI (i : Int)).toNatClampNeg = i := by rw [iI_cl (by omega) (by omega)]; simp
    have e3 := c1 i (by omega)
    have e4 : ¬ cw i = -2000000000 := by omega
    have hS1 : Sk (uA h 18 i (iI z)) := hS.k (Kq_uA 18 i _)
    have dd := v_deed (N := N) hS1 (r := iI (cw i)) (z := 1) (Or.inr rfl)
    simp only [if_true] at dd
    refine ⟨iI (cw i), uI (uA h 18 i (iI z)) 1106 0 (iI 0), uI (uA (uI (uA h 18 i (iI z)) 1106 0 (iI 0)) 45 i (iI z)) 1243 29 (iI 0), ?_, ?_, ⟨fun j => if j = i then z else cw j, fun j hj => ?_⟩, ⟨0, ?_, ?_, Or.inl rfl⟩, ?_⟩
    · simp (disch := omega) [oI, oR, qI, qZ, qR, rc, lit, iI_add, iI_sub, iI_mul, iI_neg, iI_le, iI_lt, iI_eq, v_isW, v_inW, bz, HR, sk_0 hS, sk_14 hS, sk_18 hS, sk_79 hS, sk_94 hS, fX11_weight, fX11_weight_b23, fX5_setWeight, lA, sA, wx, wz, e1, e2, e3, e4, dd]
    · rcases b3 with rfl | rfl
      · simp (disch := omega) [oI, oR, qI, qZ, qR, rc, lit, iI_add, iI_sub, iI_mul, iI_neg, iI_le, iI_lt, iI_eq, v_isW, v_inW, bz, HR, sk_29 hS, sk_45 hS, sk_115 hS, fX12_weight, fX12_weight_b25, fX12_weight_b26, fX12_weighNow, lA, sA, wx, wz, e1, e2, e3, e4, b2]
      · simp (disch := omega) [oI, oR, qI, qZ, qR, rc, lit, iI_add, iI_sub, iI_mul, iI_neg, iI_le, iI_lt, iI_eq, v_isW, v_inW, bz, HR, sk_29 hS, sk_45 hS, sk_115 hS, fX12_weight, fX12_weight_b25, fX12_weight_b26, fX12_weighNow, lA, sA, wx, wz, e1, e2, e3, e4, b2]
    · by_cases ej : j = i
      · subst ej
        simp [HR]
        omega
      · have := c1 j hj
        simp [HR, ej, this]
    · simp [HR]
    · simp [HR]
    · exact (((Kq_rf.b _ _ _ (by decide)).u _ _ _ (by decide)).b _ _ _ (by decide)).u _ _ _ (by decide)
  · have dd := v_deed (N := N) hS (r := iI (-2000000000)) (z := 0) (Or.inl rfl)
    have e5 : ¬ (0 : Int) = 1 := by omega
    simp only [e5, if_false] at dd
    have sw : fX5_setWeight N h 14 (iI x) (iI z) = some (iI (-2000000000), h) := by
      by_cases wx : 0 ≤ x ∧ x ≤ 19
      · have wz : ¬ (-9999 ≤ z ∧ z ≤ 9999) := fun q => w ⟨wx, q⟩
        simp (disch := omega) [oI, oR, qI, qZ, qR, rc, lit, iI_add, iI_sub, iI_mul, iI_neg, iI_le, iI_lt, iI_eq, v_isW, v_inW, bz, HR, fX5_setWeight, fX5_setWeight_b23, wx, wz]
      · simp (disch := omega) [oI, oR, qI, qZ, qR, rc, lit, iI_add, iI_sub, iI_mul, iI_neg, iI_le, iI_lt, iI_eq, v_isW, v_inW, bz, HR, fX5_setWeight, fX5_setWeight_b23, wx]
    have sw2 : fX12_weighNow N h 29 (iI x) (iI z) = some (iI (-2000000000), h) := by
      by_cases wx : 0 ≤ x ∧ x ≤ 19
      · have wz : ¬ (-9999 ≤ z ∧ z ≤ 9999) := fun q => w ⟨wx, q⟩
        simp (disch := omega) [oI, oR, qI, qZ, qR, rc, lit, iI_add, iI_sub, iI_mul, iI_neg, iI_le, iI_lt, iI_eq, v_isW, v_inW, bz, HR, fX12_weighNow, fX12_weighNow_b23, wx, wz]
      · simp (disch := omega) [oI, oR, qI, qZ, qR, rc, lit, iI_add, iI_sub, iI_mul, iI_neg, iI_le, iI_lt, iI_eq, v_isW, v_inW, bz, HR, fX12_weighNow, fX12_weighNow_b23, wx]
    refine ⟨iI (-2000000000), h, uI h 1243 29 (iI c), ?_, ?_, ⟨cw, fun j hj => by simpa [HR] using c1 j hj⟩, ⟨c, by simp [HR, b1], by simp [HR], b3.imp id (fun e => ⟨e, by rw [b1, e]⟩)⟩, Kq_rf.u _ _ _ (by decide)⟩
    · simp (disch := omega) [oI, oR, qI, qZ, qR, rc, lit, iI_add, iI_sub, iI_mul, iI_neg, iI_le, iI_lt, iI_eq, v_isW, v_inW, bz, HR, sk_0 hS, sk_14 hS, sk_94 hS, fX11_weight, fX11_weight_b23, sw, dd]
    · rcases b3 with rfl | rfl
      · simp (disch := omega) [oI, oR, qI, qZ, qR, rc, lit, iI_add, iI_sub, iI_mul, iI_neg, iI_le, iI_lt, iI_eq, v_isW, v_inW, bz, HR, sk_29 hS, fX12_weight, fX12_weight_b25, fX12_weight_b26, sw2, b2]
      · simp (disch := omega) [oI, oR, qI, qZ, qR, rc, lit, iI_add, iI_sub, iI_mul, iI_neg, iI_le, iI_lt, iI_eq, v_isW, v_inW, bz, HR, sk_29 hS, fX12_weight, fX12_weight_b25, fX12_weight_b26, sw2, b2]
/-! ===== hold ===== -/
def hasB (p : Nat → Bool) (i : Nat) : Nat → Bool
  | 0 => false
  | d + 1 => p i || hasB p (i + 1) d
theorem hext {h h2 : Hs} (h1 : ∀ f a, gI h f a = gI h2 f a) (h3 : ∀ f a, gR h f a = gR h2 f a) (h4 : ∀ a j, aI h a j = aI h2 a j) (h5 : ∀ a j, aR h a j = aR h2 a j) (h6 : ∀ a, sh h a = sh h2 a) (h7 : sz h = sz h2) : h = h2 := by
  obtain ⟨a1, a2, a3, a4, a5, a6⟩ := h
  obtain ⟨b1, b2, b3, b4, b5, b6⟩ := h2
  have e1 : a1 = b1 := by funext f a; exact h1 f a
  have e2 : a2 = b2 := by funext f a; exact h3 f a
  have e3 : a3 = b3 := by funext f a; exact h4 f a
  have e4 : a4 = b4 := by funext f a; exact h5 f a
  have e5 : a5 = b5 := by funext f; exact h6 f
  have e6 : a6 = b6 := h7
  rw [e1, e2, e3, e4, e5, e6]
/-! ===== the tape: feed ===== -/
def sg (c : Int) : Int := if c < 128 then c else c - 256
theorem byte_rel (b : Int32) : ∃ c : Int, 0 ≤ c ∧ c ≤ 255 ∧ b &&& 255 = iI c ∧ b.toInt8.toInt32 = iI (sg c) := by
  have e1 : b &&& 255 = nI (b.toBitVec.toNat % 2 ^ 8) := pk_and b 8 (by decide)
  have e2 : b.toInt = if 2 * b.toBitVec.toNat < 4294967296 then (b.toBitVec.toNat : Int) else (b.toBitVec.toNat : Int) - 4294967296 := by
    rw [← Int32.toInt_toBitVec, BitVec.toInt_eq_toNat_cond]
    split <;> rfl
  have e3 : b.toBitVec.toNat < 4294967296 := b.toBitVec.isLt
  have e4 : b.toInt % 256 = ((b.toBitVec.toNat % 256 : Nat) : Int) := by
    rw [e2]
    split <;> omega
  refine ⟨b.toInt % 256, by omega, by omega, ?_, ?_⟩
  · rw [e1, nI_iI, e4]
  · apply Int32.toInt_inj.1
    have e5 : -2147483648 ≤ sg (b.toInt % 256) ∧ sg (b.toInt % 256) < 2147483648 := by
      unfold sg
      split <;> omega
    rw [Int8.toInt_toInt32, Int32.toInt_toInt8, iI_t e5.1 e5.2, Int.bmod_def]
    unfold sg
    rfl
def RTape (h : Hs) (L : Nat) (bt : Nat → Int) : Prop := gI h 804 1 = iI L ∧ gI h 1237 29 = iI L ∧ L ≤ 120 ∧ ∀ i, i < L → aI h 2 i = iI (bt i) ∧ aI h 53 i = iI (sg (bt i)) ∧ 0 ≤ bt i ∧ bt i ≤ 255
theorem RTape.e {F A FR AQ : List Nat} {h h2 : Hs} {L : Nat} {bt : Nat → Int} (hC : RTape h L bt) (hz : 70 ≤ sz h) (k : Ke F A FR AQ h h2) (f1 : 804 ∉ F) (f2 : 1237 ∉ F) (a1 : 2 ∉ A) (a2 : 53 ∉ A) : RTape h2 L bt := by
  obtain ⟨c1, c2, c3, c4⟩ := hC
  exact ⟨by rw [k.1 _ _ f1 (by omega)]; exact c1, by rw [k.1 _ _ f2 (by omega)]; exact c2, c3, fun i hi => by rw [k.2.1 _ a1 (by omega), k.2.1 _ a2 (by omega)]; exact c4 i hi⟩
theorem L_take {N : Nat} {L n : Nat} {v : Int32} (hn : n ≤ 4) (hL : L + n ≤ 120) : ∀ (d i : Nat) (h : Hs) (fu : Nat), i + d = n → d < fu → Sk h → gI h 804 1 = iI L → fX8_take_b27 N 1 fu h (iI n) v (iI i) = some (iI (L + n), uI (wA h 2 (fun j => if L + i ≤ j ∧ j < L + n then (v >>> (iI (8 * ((j - L : Nat) : Int)) &&& 31)) &&& 255 else aI h 2 j)) 804 1 (iI (L + n))) := by
  intro d
  induction d with
  | zero =>
    intro i h fu hi hf hS c1
    obtain ⟨fu, rfl⟩ : ∃ k, fu = k + 1 := ⟨fu - 1, by omega⟩
    show fX8_take_b27_body N (fX8_take_b27 N 1 fu) 1 h (iI n) v (iI i) = _
    have w : (n : Int) ≤ i := by omega
    have e0 : (fun j => if L + i ≤ j ∧ j < L + n then (v >>> (iI (8 * ((j - L : Nat) : Int)) &&& 31)) &&& 255 else aI h 2 j) = aI h 2 := by
      funext j
      rw [if_neg (by omega)]
    rw [e0, wA_self]
    simp (disch := omega) [oI, oR, qI, qZ, qR, rc, lit, iI_add, iI_sub, iI_mul, iI_neg, iI_le, iI_lt, iI_eq, v_isW, v_inW, bz, HR, sk_1 hS, fX8_take_b27_body, c1, w]
  | succ d ih =>
    intro i h fu hi hf hS c1
    obtain ⟨fu, rfl⟩ : ∃ k, fu = k + 1 := ⟨fu - 1, by omega⟩
    show fX8_take_b27_body N (fX8_take_b27 N 1 fu) 1 h (iI n) v (iI i) = _
    have w : ¬ (n : Int) ≤ i := by omega
    have e1 : ixb (iI ((L : Int) + i)) 120 = true := ixb_i (by omega) (by omega) (by omega)
    have e2 : (iI ((L : Int) + i)).toNatClampNeg = L + i := by rw [iI_cl (by omega) (by omega)]; omega
    obtain ⟨bb, hbb⟩ : ∃ bb : Int32, bb = (v >>> (iI (8 * (i : Int)) &&& 31)) &&& 255 := ⟨_, rfl⟩
    have q := ih (i + 1) (uA h 2 (L + i) bb) fu (by omega) (by omega) (hS.k (Kq_uA 2 _ _)) (by simp [HR, c1])
    simp only [Int.natCast_add, Int.natCast_one] at q
    have e7 : wA (uA h 2 (L + i) bb) 2 (fun j => if L + (i + 1) ≤ j ∧ j < L + n then (v >>> (iI (8 * ((j - L : Nat) : Int)) &&& 31)) &&& 255 else aI (uA h 2 (L + i) bb) 2 j) = wA h 2 (fun j => if L + i ≤ j ∧ j < L + n then (v >>> (iI (8 * ((j - L : Nat) : Int)) &&& 31)) &&& 255 else aI h 2 j) := by
      rw [uA_wA, wA_wA]
      congr 1
      funext j
      by_cases ej : j = L + i
      · subst ej
        rw [if_neg (by omega), if_pos (by omega)]
        simp [aI_wA, hbb]
      · by_cases cj : L + (i + 1) ≤ j ∧ j < L + n
        · rw [if_pos cj, if_pos (by omega)]
        · rw [if_neg cj, if_neg (by omega)]
          simp [aI_wA, ej]
    rw [e7] at q
    rw [← q, hbb]
    simp (disch := omega) [oI, oR, qI, qZ, qR, rc, lit, iI_add, iI_sub, iI_mul, iI_neg, iI_le, iI_lt, iI_eq, v_isW, v_inW, bz, HR, sk_1 hS, sk_2 hS, sk_87 hS, fX8_take_b27_body, sA, c1, w, e1, e2]
theorem L_feed {N : Nat} {L n : Nat} {v : Int32} (hn : n ≤ 4) (hL : L + n ≤ 120) : ∀ (d i : Nat) (h : Hs) (fu : Nat), i + d = n → d < fu → Sk h → gI h 1237 29 = iI (L + i) → fX12_feed_b27 N 29 fu h (iI n) v (iI i) = some (iI (L + n), uI (wA h 53 (fun j => if L + i ≤ j ∧ j < L + n then (v >>> (iI (8 * ((j - L : Nat) : Int)) &&& 31)).toInt8.toInt32 else aI h 53 j)) 1237 29 (iI (L + n))) := by
  intro d
  induction d with
  | zero =>
    intro i h fu hi hf hS c1
    obtain ⟨fu, rfl⟩ : ∃ k, fu = k + 1 := ⟨fu - 1, by omega⟩
    show fX12_feed_b27_body N (fX12_feed_b27 N 29 fu) 29 h (iI n) v (iI i) = _
    have w : (n : Int) ≤ i := by omega
    have e0 : (fun j => if L + i ≤ j ∧ j < L + n then (v >>> (iI (8 * ((j - L : Nat) : Int)) &&& 31)).toInt8.toInt32 else aI h 53 j) = aI h 53 := by
      funext j
      rw [if_neg (by omega)]
    have e9 : (i : Int) = n := by omega
    have e8 : uI h 1237 29 (iI (L + n)) = h := by
      rw [← e9, ← c1]
      unfold uI gI
      congr 1
      funext f a
      by_cases q : f = 1237 ∧ a = 29
      · rw [if_pos q, q.1, q.2]
      · rw [if_neg q]
    rw [e0, wA_self, e8]
    rw [e9] at c1
    simp (disch := omega) [oI, oR, qI, qZ, qR, rc, lit, iI_add, iI_sub, iI_mul, iI_neg, iI_le, iI_lt, iI_eq, v_isW, v_inW, bz, HR, sk_29 hS, fX12_feed_b27_body, c1, w]
  | succ d ih =>
    intro i h fu hi hf hS c1
    obtain ⟨fu, rfl⟩ : ∃ k, fu = k + 1 := ⟨fu - 1, by omega⟩
    show fX12_feed_b27_body N (fX12_feed_b27 N 29 fu) 29 h (iI n) v (iI i) = _
    have w : ¬ (n : Int) ≤ i := by omega
    have e1 : ixb (iI ((L : Int) + i)) 120 = true := ixb_i (by omega) (by omega) (by omega)
    have e2 : (iI ((L : Int) + i)).toNatClampNeg = L + i := by rw [iI_cl (by omega) (by omega)]; omega
    obtain ⟨bb, hbb⟩ : ∃ bb : Int32, bb = (v >>> (iI (8 * (i : Int)) &&& 31)).toInt8.toInt32 := ⟨_, rfl⟩
    have kk : Kq [1237] [53] h (uI (uA h 53 (L + i) bb) 1237 29 (iI (L + i + 1))) := (Kq_rf.b _ _ _ (by decide)).u _ _ _ (by decide)
    have q := ih (i + 1) (uI (uA h 53 (L + i) bb) 1237 29 (iI (L + i + 1))) fu (by omega) (by omega) (hS.k kk) (by simp [HR, Int.add_assoc])
    simp only [Int.natCast_add, Int.natCast_one] at q
    have e7 : uI (wA (uI (uA h 53 (L + i) bb) 1237 29 (iI (L + i + 1))) 53 (fun j => if L + (i + 1) ≤ j ∧ j < L + n then (v >>> (iI (8 * ((j - L : Nat) : Int)) &&& 31)).toInt8.toInt32 else aI (uI (uA h 53 (L + i) bb) 1237 29 (iI (L + i + 1))) 53 j)) 1237 29 (iI (L + n)) = uI (wA h 53 (fun j => if L + i ≤ j ∧ j < L + n then (v >>> (iI (8 * ((j - L : Nat) : Int)) &&& 31)).toInt8.toInt32 else aI h 53 j)) 1237 29 (iI (L + n)) := by
      have ea : (fun j => if L + (i + 1) ≤ j ∧ j < L + n then (v >>> (iI (8 * ((j - L : Nat) : Int)) &&& 31)).toInt8.toInt32 else aI (uI (uA h 53 (L + i) bb) 1237 29 (iI (L + i + 1))) 53 j) = (fun j => if L + i ≤ j ∧ j < L + n then (v >>> (iI (8 * ((j - L : Nat) : Int)) &&& 31)).toInt8.toInt32 else aI h 53 j) := by
        funext j
        by_cases ej : j = L + i
        · subst ej
          rw [if_neg (by omega), if_pos (by omega)]
          simp [HR, hbb]
        · by_cases cj : L + (i + 1) ≤ j ∧ j < L + n
          · rw [if_pos cj, if_pos (by omega)]
          · rw [if_neg cj, if_neg (by omega)]
            simp [HR, ej]
      rw [ea]
      refine hext (fun f a => ?_) (fun _ _ => rfl) (fun a j => ?_) (fun _ _ => rfl) (fun _ => rfl) rfl
      · by_cases q9 : f = 1237 ∧ a = 29 <;> simp [HR, q9]
      · by_cases q9 : a = 53 <;> simp [HR, q9]
    rw [e7] at q
    rw [← q, hbb]
    simp (disch := omega) [oI, oR, qI, qZ, qR, rc, lit, iI_add, iI_sub, iI_mul, iI_neg, iI_le, iI_lt, iI_eq, v_isW, v_inW, bz, HR, sk_29 hS, sk_53 hS, sk_123 hS, fX12_feed_b27_body, sB, c1, w, e1, e2, pk_vb]
theorem t_feed {N : Nat} (hN : 100000000 ≤ N) {h : Hs} (hS : Sk h) {L : Nat} {bt : Nat → Int} (hC : RTape h L bt) (p1 p2 : Int32) : ∃ r h1 h2 L' bt', fX11_feed N h 0 p1 p2 = some (r, h1) ∧ fX12_feed N h1 29 p1 p2 = some (r, h2) ∧ RTape h2 L' bt' ∧ L' ≤ L + 4 ∧ Kq [804, 1237] [2, 53] h h2 := by
  obtain ⟨z, z1, z2, rfl⟩ := iI_ex p1
  have hC0 := hC
  obtain ⟨c1, c2, c3, c4⟩ := hC
  by_cases w : 1 ≤ z ∧ z ≤ 4
  · obtain ⟨n, rfl⟩ : ∃ n : Nat, z = n := ⟨z.toNat, by omega⟩
    by_cases w2 : (L : Int) + n ≤ 120
    · have la := L_take (N := N) (L := L) (n := n) (v := p2) (by omega) (by omega) n 0 h N (by omega) (by omega) hS c1
      generalize hh1 : uI (wA h 2 _) 804 1 _ = h1 at la
      have kk : Kq [804, 1237] [2, 53] h h1 := by rw [← hh1]; exact (Kq_rf.a _ _ (by decide)).u _ _ _ (by decide)
      have lr := L_feed (N := N) (L := L) (n := n) (v := p2) (by omega) (by omega) n 0 h1 N (by omega) (by omega) (hS.k kk) (by rw [← hh1]; simp [HR, c2])
      generalize hh2 : uI (wA h1 53 _) 1237 29 _ = h2 at lr
      have kk2 : Kq [804, 1237] [2, 53] h h2 := by rw [← hh2]; exact (kk.a _ _ (by decide)).u _ _ _ (by decide)
      simp only [Int.natCast_zero] at la lr
      refine ⟨iI (L + n), h1, h2, L + n, fun j => if j < L then bt j else Classical.choose (byte_rel (p2 >>> (iI (8 * ((j - L : Nat) : Int)) &&& 31))), ?_, ?_, ⟨?_, ?_, by omega, fun j hj => ?_⟩, by omega, kk2⟩
      · simp (disch := omega) [oI, oR, qI, qZ, qR, rc, lit, iI_add, iI_sub, iI_mul, iI_neg, iI_le, iI_lt, iI_eq, v_isW, v_inW, bz, HR, sk_0 hS, sk_1 hS, sk_97 hS, fX11_feed, fX8_take, w, c1, w2, la]
      · have hS := hS.k kk
        have c2' : gI h1 1237 29 = iI L := by rw [← hh1]; simp [HR, c2]
        simp (disch := omega) [oI, oR, qI, qZ, qR, rc, lit, iI_add, iI_sub, iI_mul, iI_neg, iI_le, iI_lt, iI_eq, v_isW, v_inW, bz, HR, sk_29 hS, fX12_feed, w, c2', w2, lr]
      · rw [← hh2, ← hh1]; simp [HR]
      · rw [← hh2]; simp [HR]
      · by_cases cj : j < L
        · simp only [cj, if_true]
          rw [← hh2, ← hh1]
          have a0 := c4 j cj
          have a1 : ¬ (L + 0 ≤ j ∧ j < L + n) := by omega
          simp only [HR]
          simp [a0]
          exact ⟨fun q9 => absurd q9 (by omega), fun q9 => absurd q9 (by omega)⟩
        · simp only [cj, if_false]
          have sp := Classical.choose_spec (byte_rel (p2 >>> (iI (8 * ((j - L : Nat) : Int)) &&& 31)))
          have a1 : L + 0 ≤ j ∧ j < L + n := by omega
          rw [← hh2, ← hh1]
          refine ⟨?_, ?_, sp.1, sp.2.1⟩
          · rw [← sp.2.2.1]
            simp only [HR]
            simp
            intro q
            omega
          · rw [← sp.2.2.2]
            simp only [HR]
            simp
            intro q
            omega
    · refine ⟨-3, h, h, L, bt, ?_, ?_, hC0, by omega, Kq_rf⟩
      · simp (disch := omega) [oI, oR, qI, qZ, qR, rc, lit, iI_add, iI_sub, iI_mul, iI_neg, iI_le, iI_lt, iI_eq, v_isW, v_inW, bz, HR, sk_0 hS, sk_1 hS, sk_97 hS, fX11_feed, fX8_take, w, c1, w2]
      · simp (disch := omega) [oI, oR, qI, qZ, qR, rc, lit, iI_add, iI_sub, iI_mul, iI_neg, iI_le, iI_lt, iI_eq, v_isW, v_inW, bz, HR, sk_29 hS, fX12_feed, w, c2, w2]
  · refine ⟨-1, h, h, L, bt, ?_, ?_, hC0, by omega, Kq_rf⟩
    · simp (disch := omega) [oI, oR, qI, qZ, qR, rc, lit, iI_add, iI_sub, iI_mul, iI_neg, iI_le, iI_lt, iI_eq, v_isW, v_inW, bz, HR, sk_0 hS, sk_1 hS, sk_97 hS, fX11_feed, fX8_take, w]
    · simp (disch := omega) [oI, oR, qI, qZ, qR, rc, lit, iI_add, iI_sub, iI_mul, iI_neg, iI_le, iI_lt, iI_eq, v_isW, v_inW, bz, HR, fX12_feed, w]
/-! ===== the stage's own: things, drums ===== -/
def RTh (h : Hs) (nt : Nat) (tA : Nat → Nat) (tl tw tg ls ms pa : Nat → Int) : Prop :=
  (gI h 507 14 = iI nt ∧ gI h 1201 29 = iI nt ∧ nt ≤ 40) ∧
  (∀ i, i < nt → (aR h 15 i = some (tA i) ∧ 70 ≤ tA i ∧ tA i < sz h ∧ sh h (tA i) = (9, 0)) ∧ (gI h 900 (tA i) = iI i ∧ gI h 901 (tA i) = iI (tl i) ∧ gI h 902 (tA i) = iI (tw i) ∧ gI h 903 (tA i) = iI (tg i) ∧ gI h 904 (tA i) = iI (ls i) ∧ gI h 905 (tA i) = iI (ms i) ∧ gI h 907 (tA i) = iI (pa i)) ∧ (aI h 30 i = iI (tl i) ∧ aI h 31 i = iI (tw i) ∧ aI h 32 i = iI (tg i) ∧ aI h 33 i = iI (pa i) ∧ aI h 34 i = iI (ls i) ∧ aI h 35 i = iI (ms i)) ∧ (0 ≤ tl i ∧ tl i ≤ 15 ∧ 1 ≤ tw i ∧ tw i ≤ 60 ∧ 0 ≤ tg i ∧ tg i ≤ 999 ∧ 0 ≤ ls i ∧ ls i ≤ pa i ∧ pa i ≤ ms i ∧ ms i + tw i ≤ 100)) ∧ (∀ i j, i < nt → j < nt → tA i = tA j → i = j)
abbrev FTh : List Nat := [507, 1201, 900, 901, 902, 903, 904, 905, 907]
abbrev ATh : List Nat := [30, 31, 32, 33, 34, 35]
theorem RTh.e {F A FR AQ : List Nat} {h h2 : Hs} {nt : Nat} {tA : Nat → Nat} {tl tw tg ls ms pa : Nat → Int} (hC : RTh h nt tA tl tw tg ls ms pa) (hz : 70 ≤ sz h) (k : Ke F A FR AQ h h2) (hF : ∀ f ∈ FTh, f ∉ F) (hA : ∀ a ∈ ATh, a ∉ A) (hQ : 15 ∉ AQ) : RTh h2 nt tA tl tw tg ls ms pa := by
  obtain ⟨⟨c1, c2, c3⟩, c4, c5⟩ := hC
  have k6 := k.2.2.2.2.2
  refine ⟨⟨by rw [k.1 _ _ (hF _ (by decide)) (by omega)]; exact c1, by rw [k.1 _ _ (hF _ (by decide)) (by omega)]; exact c2, c3⟩, fun i hi => ?_, c5⟩
  obtain ⟨⟨d1, d2, d3, d4⟩, d5, d6, d7⟩ := c4 i hi
  refine ⟨⟨by rw [k.2.2.2.1 _ hQ (by omega)]; exact d1, d2, by omega, by rw [k.2.2.2.2.1 _ d3]; exact d4⟩, ?_, ?_, d7⟩
  · rw [k.1 _ _ (hF 900 (by decide)) d3, k.1 _ _ (hF 901 (by decide)) d3, k.1 _ _ (hF 902 (by decide)) d3, k.1 _ _ (hF 903 (by decide)) d3, k.1 _ _ (hF 904 (by decide)) d3, k.1 _ _ (hF 905 (by decide)) d3, k.1 _ _ (hF 907 (by decide)) d3]
    exact d5
  · rw [k.2.1 _ (hA 30 (by decide)) (by omega), k.2.1 _ (hA 31 (by decide)) (by omega), k.2.1 _ (hA 32 (by decide)) (by omega), k.2.1 _ (hA 33 (by decide)) (by omega), k.2.1 _ (hA 34 (by decide)) (by omega), k.2.1 _ (hA 35 (by decide)) (by omega)]
    exact d6
def RDr (h : Hs) (nd : Nat) (dA : Nat → Nat) (ds : Nat → Int) : Prop :=
  (gI h 508 14 = iI nd ∧ gI h 1209 29 = iI nd ∧ nd ≤ 20) ∧
  (∀ i, i < nd → (aR h 16 i = some (dA i) ∧ 70 ≤ dA i ∧ dA i < sz h ∧ sh h (dA i) = (2, 0)) ∧ (gI h 200 (dA i) = iI i ∧ gI h 201 (dA i) = iI (ds i)) ∧ aI h 37 i = iI (ds i) ∧ 1 ≤ ds i ∧ ds i ≤ 20) ∧ (∀ i j, i < nd → j < nd → dA i = dA j → i = j)
theorem RDr.e {F A FR AQ : List Nat} {h h2 : Hs} {nd : Nat} {dA : Nat → Nat} {ds : Nat → Int} (hC : RDr h nd dA ds) (hz : 70 ≤ sz h) (k : Ke F A FR AQ h h2) (hF : ∀ f ∈ [508, 1209, 200, 201], f ∉ F) (hA : 37 ∉ A) (hQ : 16 ∉ AQ) : RDr h2 nd dA ds := by
  obtain ⟨⟨c1, c2, c3⟩, c4, c5⟩ := hC
  have k6 := k.2.2.2.2.2
  refine ⟨⟨by rw [k.1 _ _ (hF _ (by decide)) (by omega)]; exact c1, by rw [k.1 _ _ (hF _ (by decide)) (by omega)]; exact c2, c3⟩, fun i hi => ?_, c5⟩
  obtain ⟨⟨d1, d2, d3, d4⟩, d5, d6, d7⟩ := c4 i hi
  refine ⟨⟨by rw [k.2.2.2.1 _ hQ (by omega)]; exact d1, d2, by omega, by rw [k.2.2.2.2.1 _ d3]; exact d4⟩, ?_, ?_, d7⟩
  · rw [k.1 _ _ (hF 200 (by decide)) d3, k.1 _ _ (hF 201 (by decide)) d3]
    exact d5
  · rw [k.2.1 _ hA (by omega)]
    exact d6
/-- the first of them, or none -/
def fstB (p : Nat → Bool) (i : Nat) : Nat → Int
  | 0 => -2
  | d + 1 => if p i then (i : Int) else fstB p (i + 1) d
theorem fst_y (p : Nat → Bool) {i d : Nat} (h : p i = true) : fstB p i (d + 1) = i := by
  simp only [fstB, h, if_true]
theorem fst_n (p : Nat → Bool) {i d : Nat} (h : p i = false) : fstB p i (d + 1) = fstB p (i + 1) d := by
  simp [fstB, h]
theorem L_standingOn {N : Nat} {h : Hs} (hS : Sk h) {nt : Nat} {tA : Nat → Nat} {tl tw tg ls ms pa : Nat → Int} (hC : RTh h nt tA tl tw tg ls ms pa) {z l x : Int} (hl : 0 ≤ l ∧ l ≤ 15) (hx : 0 ≤ x ∧ x ≤ 99) (hzx : iI z - iI z / iI 100 * iI 100 = iI x) : ∀ (d i : Nat) (fu : Nat), i + d = nt → d < fu → fX5_standingOn_b16 N 14 fu h (iI z) (iI l) (iI i) = some (iI (fstB (fun k => decide (tl k = l ∧ pa k ≤ x ∧ x < pa k + tw k)) i d), h) := by
  obtain ⟨⟨c1, c2, c3⟩, c4, c5⟩ := hC
  intro d
  induction d with
  | zero =>
    intro i fu hi hf
    obtain ⟨fu, rfl⟩ : ∃ k, fu = k + 1 := ⟨fu - 1, by omega⟩
    show fX5_standingOn_b16_body N (fX5_standingOn_b16 N 14 fu) 14 h (iI z) (iI l) (iI i) = _
    have w : (nt : Int) ≤ i := by omega
    simp (disch := omega) [oI, oR, qI, qZ, qR, rc, lit, iI_add, iI_sub, iI_mul, iI_neg, iI_le, iI_lt, iI_eq, v_isW, v_inW, bz, HR, sk_14 hS, sk_76 hS, fX5_standingOn_b16_body, c1, w, fstB]
  | succ d ih =>
    intro i fu hi hf
    obtain ⟨fu, rfl⟩ : ∃ k, fu = k + 1 := ⟨fu - 1, by omega⟩
    show fX5_standingOn_b16_body N (fX5_standingOn_b16 N 14 fu) 14 h (iI z) (iI l) (iI i) = _
    have w : ¬ (nt : Int) ≤ i := by omega
    have e1 : ixb (iI (i : Int)) 40 = true := ixb_i (by omega) (by omega) (by omega)
    have e2 : (iI (i : Int)).toNatClampNeg = i := by rw [iI_cl (by omega) (by omega)]; simp
    obtain ⟨⟨d1, d2, d3, d4⟩, ⟨g0, g1, g2, g3, g4, g5, g7⟩, -, d7⟩ := c4 i (by omega)
    have q := ih (i + 1) fu (by omega) (by omega)
    simp only [Int.natCast_add, Int.natCast_one] at q
    have cov : fX9_covers N h (tA i) (iI x) = some (if pa i ≤ x ∧ x < pa i + tw i then iI 1 else iI 0, h) := by
      by_cases w1 : x < pa i
      · have w3 : ¬ pa i ≤ x := by omega
        simp (disch := omega) [oI, oR, qI, qZ, qR, rc, lit, iI_add, iI_sub, iI_mul, iI_neg, iI_le, iI_lt, iI_eq, v_isW, v_inW, bz, HR, fX9_covers, fX9_covers_b25, fX9_covers_b26, d4, g7, w1, w3, zc_i0]
      · by_cases w2 : pa i + tw i ≤ x
        · have w3 : ¬ x < pa i + tw i := by omega
          simp (disch := omega) [oI, oR, qI, qZ, qR, rc, lit, iI_add, iI_sub, iI_mul, iI_neg, iI_le, iI_lt, iI_eq, v_isW, v_inW, bz, HR, fX9_covers, fX9_covers_b25, fX9_covers_b26, d4, g7, g2, w1, w2, w3, zc_i0]
        · have w3 : pa i ≤ x ∧ x < pa i + tw i := by omega
          simp (disch := omega) [oI, oR, qI, qZ, qR, rc, lit, iI_add, iI_sub, iI_mul, iI_neg, iI_le, iI_lt, iI_eq, v_isW, v_inW, bz, HR, fX9_covers, fX9_covers_b25, fX9_covers_b26, d4, g7, g2, w1, w2, w3, zc_i1]
    by_cases w1 : tl i = l
    · by_cases w2 : pa i ≤ x ∧ x < pa i + tw i
      · rw [if_pos w2] at cov
        have w3 : tl i = l ∧ pa i ≤ x ∧ x < pa i + tw i := ⟨w1, w2⟩
        rw [fst_y (fun k => decide (tl k = l ∧ pa k ≤ x ∧ x < pa k + tw k)) (decide_eq_true w3)]
        simp (disch := omega) only [fX5_standingOn_b16_body, fX5_standingOn_b55, lit, hzx, oI, oR, rc, lQ, sk_14 hS, sk_15 hS, sk_76 hS, c1, iI_le, w, if_false, Option.bind_some, d1, e1, e2, d4, g1, w1, iI_eq, if_true, and_self, cov]
        try simp
      · rw [if_neg w2] at cov
        have w3 : ¬ (tl i = l ∧ pa i ≤ x ∧ x < pa i + tw i) := fun z9 => w2 z9.2
        rw [fst_n (fun k => decide (tl k = l ∧ pa k ≤ x ∧ x < pa k + tw k)) (decide_eq_false w3), ← q]
        simp (disch := omega) only [fX5_standingOn_b16_body, fX5_standingOn_b55, lit, hzx, oI, oR, rc, lQ, sk_14 hS, sk_15 hS, sk_76 hS, c1, iI_le, w, if_false, Option.bind_some, d1, e1, e2, d4, g1, w1, iI_eq, if_true, and_self, cov, iI_add]
        try simp
    · have w3 : ¬ (tl i = l ∧ pa i ≤ x ∧ x < pa i + tw i) := fun z9 => w1 z9.1
      rw [fst_n (fun k => decide (tl k = l ∧ pa k ≤ x ∧ x < pa k + tw k)) (decide_eq_false w3), ← q]
      simp (disch := omega) only [fX5_standingOn_b16_body, fX5_standingOn_b55, lit, oI, oR, rc, lQ, sk_14 hS, sk_15 hS, sk_76 hS, c1, iI_le, w, if_false, Option.bind_some, d1, e1, e2, d4, g1, w1, iI_eq, if_true, and_self, iI_add]
      try simp
theorem L_on {N : Nat} {h : Hs} (hS : Sk h) {nt : Nat} {tA : Nat → Nat} {tl tw tg ls ms pa : Nat → Int} (hC : RTh h nt tA tl tw tg ls ms pa) {z l x : Int} (hl : 0 ≤ l ∧ l ≤ 15) (hx : 0 ≤ x ∧ x ≤ 99) (hzl : iI z / iI 100 = iI l) (hzx : iI z - iI l * iI 100 = iI x) : ∀ (d i : Nat) (fu : Nat), i + d = nt → d < fu → fX12_on_b15 N 29 fu h (iI z) (iI i) = some (iI (fstB (fun k => decide (tl k = l ∧ pa k ≤ x ∧ x < pa k + tw k)) i d), h) := by
  obtain ⟨⟨c1, c2, c3⟩, c4, c5⟩ := hC
  intro d
  induction d with
  | zero =>
    intro i fu hi hf
    obtain ⟨fu, rfl⟩ : ∃ k, fu = k + 1 := ⟨fu - 1, by omega⟩
    show fX12_on_b15_body N (fX12_on_b15 N 29 fu) 29 h (iI z) (iI i) = _
    have w : (nt : Int) ≤ i := by omega
    simp (disch := omega) [oI, oR, qI, qZ, qR, rc, lit, iI_add, iI_sub, iI_mul, iI_neg, iI_le, iI_lt, iI_eq, v_isW, v_inW, bz, HR, sk_29 hS, sk_100 hS, sk_101 hS, sk_103 hS, fX12_on_b15_body, c2, w, fstB]
  | succ d ih =>
    intro i fu hi hf
    obtain ⟨fu, rfl⟩ : ∃ k, fu = k + 1 := ⟨fu - 1, by omega⟩
    show fX12_on_b15_body N (fX12_on_b15 N 29 fu) 29 h (iI z) (iI i) = _
    have w : ¬ (nt : Int) ≤ i := by omega
    have e1 : ixb (iI (i : Int)) 40 = true := ixb_i (by omega) (by omega) (by omega)
    have e2 : (iI (i : Int)).toNatClampNeg = i := by rw [iI_cl (by omega) (by omega)]; simp
    obtain ⟨-, -, ⟨g0, g1, g2, g3, g4, g5⟩, d7⟩ := c4 i (by omega)
    have q := ih (i + 1) fu (by omega) (by omega)
    simp only [Int.natCast_add, Int.natCast_one] at q
    by_cases w1 : tl i = l
    · by_cases w2 : pa i ≤ x ∧ x ≤ pa i + tw i - 1
      · have w3 : tl i = l ∧ pa i ≤ x ∧ x < pa i + tw i := by omega
        rw [fst_y (fun k => decide (tl k = l ∧ pa k ≤ x ∧ x < pa k + tw k)) (decide_eq_true w3)]
        simp (disch := omega) only [fX12_on_b15_body, fX12_on_b69, lit, hzl, hzx, oI, oR, rc, lA, sk_29 hS, sk_30 hS, sk_31 hS, sk_33 hS, sk_100 hS, sk_101 hS, sk_103 hS, c2, iI_le, w, if_false, Option.bind_some, e1, e2, g0, g1, g3, w1, iI_eq, if_true, and_self, iI_add, iI_sub, v_inW, w2]
        try simp
      · have w3 : ¬ (tl i = l ∧ pa i ≤ x ∧ x < pa i + tw i) := by omega
        rw [fst_n (fun k => decide (tl k = l ∧ pa k ≤ x ∧ x < pa k + tw k)) (decide_eq_false w3), ← q]
        simp (disch := omega) only [fX12_on_b15_body, fX12_on_b69, lit, hzl, hzx, oI, oR, rc, lA, sk_29 hS, sk_30 hS, sk_31 hS, sk_33 hS, sk_100 hS, sk_101 hS, sk_103 hS, c2, iI_le, w, if_false, Option.bind_some, e1, e2, g0, g1, g3, w1, iI_eq, if_true, and_self, iI_add, iI_sub, v_inW, w2]
        try simp
    · have w3 : ¬ (tl i = l ∧ pa i ≤ x ∧ x < pa i + tw i) := fun z9 => w1 z9.1
      rw [fst_n (fun k => decide (tl k = l ∧ pa k ≤ x ∧ x < pa k + tw k)) (decide_eq_false w3), ← q]
      simp (disch := omega) only [fX12_on_b15_body, fX12_on_b69, lit, hzl, oI, oR, rc, lA, sk_29 hS, sk_30 hS, sk_31 hS, sk_33 hS, sk_100 hS, sk_101 hS, sk_103 hS, c2, iI_le, w, if_false, Option.bind_some, e1, e2, g0, w1, iI_eq, if_true, and_self, iI_add]
      try simp
theorem t_on {N : Nat} (hN : 100000000 ≤ N) {h : Hs} (hS : Sk h) {nt : Nat} {tA : Nat → Nat} {tl tw tg ls ms pa : Nat → Int} (hC : RTh h nt tA tl tw tg ls ms pa) (p : Int32) : ∃ r, fX11_on N h 0 p = some (r, h) ∧ fX12_on N h 29 p = some (r, h) := by
  obtain ⟨z, z1, z2, rfl⟩ := iI_ex p
  by_cases w : 0 ≤ z ∧ z ≤ 1599
  · have d1 := iI_dv (a := z) (b := 100) (by omega) (by omega) (by omega) (by omega)
    rw [Int.tdiv_eq_ediv_of_nonneg (by omega)] at d1
    obtain ⟨l, hl⟩ : ∃ l : Int, l = z / 100 := ⟨_, rfl⟩
    rw [← hl] at d1
    obtain ⟨x, hx⟩ : ∃ x, x = z - l * 100 := ⟨_, rfl⟩
    have d2 : iI z - iI l * iI 100 = iI x := by rw [iI_mul, iI_sub, hx]
    have la := L_standingOn (N := N) hS hC (z := z) (l := l) (x := x) (by omega) (by omega) (by rw [d1]; exact d2) nt 0 N (by omega) (by have := hC.1.2.2; omega)
    have lr := L_on (N := N) hS hC (z := z) (l := l) (x := x) (by omega) (by omega) d1 d2 nt 0 N (by omega) (by have := hC.1.2.2; omega)
    simp only [Int.natCast_zero] at la lr
    refine ⟨iI (fstB (fun k => decide (tl k = l ∧ pa k ≤ x ∧ x < pa k + tw k)) 0 nt), ?_, ?_⟩
    · simp (disch := omega) [oI, oR, qI, qZ, qR, rc, lit, iI_add, iI_sub, iI_mul, iI_neg, iI_le, iI_lt, iI_eq, v_isW, v_inW, bz, HR, sk_0 hS, sk_14 hS, sk_94 hS, fX11_on, fX5_standingOn, fX5_isStagePlace, w, zc_i1, d1, la]
    · simp (disch := omega) [oI, oR, qI, qZ, qR, rc, lit, iI_add, iI_sub, iI_mul, iI_neg, iI_le, iI_lt, iI_eq, v_isW, v_inW, bz, HR, fX12_on, w, lr]
  · refine ⟨-1, ?_, ?_⟩
    · simp (disch := omega) [oI, oR, qI, qZ, qR, rc, lit, iI_add, iI_sub, iI_mul, iI_neg, iI_le, iI_lt, iI_eq, v_isW, v_inW, bz, HR, sk_0 hS, sk_14 hS, sk_94 hS, fX11_on, fX5_standingOn, fX5_isStagePlace, w, zc_i0]
    · simp (disch := omega) [oI, oR, qI, qZ, qR, rc, lit, iI_add, iI_sub, iI_mul, iI_neg, iI_le, iI_lt, iI_eq, v_isW, v_inW, bz, HR, fX12_on, w]
theorem v_drum {N : Nat} {h : Hs} {i s : Int32} : fX2_init N (nw h (2, 0)) (sz h) i s = some (uI (uI (nw h (2, 0)) 200 (sz h) i) 201 (sz h) s) := by
  have e3 : (sh (nw h (2, 0)) (sz h)).1 = 2 := by rw [sh_nwS]
  simp [fX2_init, qI, HR, e3]
theorem t_drum {N : Nat} {h : Hs} (hS : Sk h) (hz : 70 ≤ sz h) {nd : Nat} {dA : Nat → Nat} {ds : Nat → Int} (hC : RDr h nd dA ds) (hB : ICan h) (p : Int32) : ∃ r h1 h2 nd' dA' ds', fX11_drum N h 0 p = some (r, h1) ∧ fX12_drum N h1 29 p = some (r, h2) ∧ RDr h2 nd' dA' ds' ∧ nd ≤ nd' ∧ (∀ i, i < nd → dA' i = dA i ∧ ds' i = ds i) ∧ ICn h h2 ∧ Ke [508, 1209, 200, 201, 1106, 1243] [37] [] [16] h h2 ∧ sz h2 ≤ sz h + 1 := by
  obtain ⟨z, z1, z2, rfl⟩ := iI_ex p
  have hC0 := hC
  have hB0 := hB
  obtain ⟨⟨c1, c2, c3⟩, c4, c5⟩ := hC
  by_cases w : 1 ≤ z ∧ z ≤ 20
  · by_cases w3 : nd < 20
    · obtain ⟨h0, hh0⟩ : ∃ h0, h0 = uI (uI (nw h (2, 0)) 200 (sz h) (iI nd)) 201 (sz h) (iI z) := ⟨_, rfl⟩
      have ke0 : Ke [508, 1209, 200, 201, 1106, 1243] [37] [] [16] h h0 := by
        rw [hh0]
        exact ((Ke_rf.n _).u _ _ _ (by decide)).u _ _ _ (by decide)
      have kv := v_drum (N := N) (h := h) (i := iI nd) (s := iI z)
      rw [← hh0] at kv
      have hS0 := hS.e hz ke0 (fun f hf => absurd hf List.not_mem_nil)
      have z0 : sz h0 = sz h + 1 := by rw [hh0]; rfl
      have x0 : gI (nw h (2, 0)) 508 14 = iI nd := by rw [gI_nw (by omega)]; exact c1
      have x0s : (sh (nw h (2, 0)) 14).1 = 5 := by rw [sh_nw (by omega)]; simp [sk_14 hS]
      have x1 : gI h0 508 14 = iI nd := by rw [hh0]; simp [HR, x0]
      have x2 : (sh h0 (sz h)).1 = 2 := by rw [hh0]; simp [HR, sh_nwS]
      have e1 : ixb (iI (nd : Int)) 20 = true := ixb_i (by omega) (by omega) (by omega)
      have e2 : (iI (nd : Int)).toNatClampNeg = nd := by rw [iI_cl (by omega) (by omega)]; simp
      obtain ⟨hq, hhq⟩ : ∃ hq, hq = uI (uQ h0 16 nd (some (sz h))) 508 14 (iI (nd + 1)) := ⟨_, rfl⟩
      have keq : Ke [508, 1209, 200, 201, 1106, 1243] [37] [] [16] h hq := by
        rw [hhq]
        exact (ke0.q _ _ _ (by decide)).u _ _ _ (by decide)
      have hSq := hS.e hz keq (fun f hf => absurd hf List.not_mem_nil)
      have dd := v_deed (N := N) hSq (r := iI nd) (z := 1) (Or.inr rfl)
      simp only [if_true] at dd
      obtain ⟨h1, hh1⟩ : ∃ h1, h1 = uI hq 1106 0 (iI 0) := ⟨_, rfl⟩
      rw [← hh1] at dd
      have ke1 : Ke [508, 1209, 200, 201, 1106, 1243] [37] [] [16] h h1 := by
        rw [hh1]
        exact keq.u _ _ _ (by decide)
      have hS1 := hS.e hz ke1 (fun f hf => absurd hf List.not_mem_nil)
      have y1 : gI h1 1209 29 = iI nd := by rw [hh1, hhq, hh0]; simp [HR]; rw [gI_nw (by omega)]; exact c2
      obtain ⟨h2, hh2⟩ : ∃ h2, h2 = uI (uI (uA h1 37 nd (iI z)) 1209 29 (iI (nd + 1))) 1243 29 (iI 0) := ⟨_, rfl⟩
      have ke2 : Ke [508, 1209, 200, 201, 1106, 1243] [37] [] [16] h h2 := by
        rw [hh2]
        exact ((ke1.b _ _ _ (by decide)).u _ _ _ (by decide)).u _ _ _ (by decide)
      refine ⟨iI nd, h1, h2, nd + 1, fun i => if i = nd then sz h else dA i, fun i => if i = nd then z else ds i, ?_, ?_, ?_, by omega, fun i hi => ?_, ⟨0, ?_, ?_, Or.inl rfl⟩, ke2, ?_⟩
      · have w4 : (nd : Int) < 20 := by omega
        have w5 : ¬ (nd : Int) < 0 := by omega
        have w6 : fX5_addDrum N h 14 (iI z) = some (iI nd, hq) := by
          rw [hhq]
          simp (disch := omega) [fX5_addDrum, v_isW, w, oI, oR, rc, sk_14 hS, sk_77 hS, c1, lit, iI_lt, iI_eq, w4, x0, x0s, kv, sQ, qI, sk_14 hS0, sk_16 hS0, e1, e2, x1, x2, HR, iI_add]
        simp (disch := omega) [fX11_drum, fX11_drum_b20, oR, rc, sk_0 hS, sk_14 hS, sk_94 hS, sk_0 hSq, w6, lit, iI_lt, w5, dd]
      · have w4 : ¬ (nd : Int) = 20 := by omega
        rw [hh2]
        simp (disch := omega) [fX12_drum, v_inW, w, oI, oR, rc, sk_29 hS1, sk_37 hS1, sk_107 hS1, y1, lit, iI_eq, w4, sA, qI, qZ, e1, e2, HR, iI_add, iI_sub]
      · refine ⟨⟨?_, ?_, by omega⟩, fun i hi => ?_, fun i j hi hj => ?_⟩
        · rw [hh2, hh1, hhq]; simp [HR]
        · rw [hh2]; simp [HR]
        · by_cases ei : i = nd
          · subst ei
            simp only [if_true]
            refine ⟨⟨?_, hz, ?_, ?_⟩, ⟨?_, ?_⟩, ?_, w.1, w.2⟩
            · rw [hh2, hh1, hhq]; simp [HR]
            · rw [hh2, hh1, hhq]; simp [HR, z0]
            · rw [hh2, hh1, hhq, hh0]; simp [HR, sh_nwS]
            · rw [hh2, hh1, hhq, hh0]; simp [HR]
            · rw [hh2, hh1, hhq, hh0]; simp [HR]
            · rw [hh2]; simp [HR]
          · obtain ⟨⟨d1, d2, d3, d4⟩, ⟨d5, d6⟩, d7, d8⟩ := c4 i (by omega)
            have en : ¬ dA i = sz h := by omega
            simp only [ei, if_false]
            refine ⟨⟨?_, d2, ?_, ?_⟩, ⟨?_, ?_⟩, ?_, d8⟩
            · rw [hh2, hh1, hhq, hh0]; simp [HR, ei]; rw [aR_nw (by omega)]; exact d1
            · have := ke2.2.2.2.2.2; omega
            · rw [ke2.2.2.2.2.1 _ d3]; exact d4
            · rw [hh2, hh1, hhq, hh0]; simp [HR, en]; rw [gI_nw d3]; exact d5
            · rw [hh2, hh1, hhq, hh0]; simp [HR, en]; rw [gI_nw d3]; exact d6
            · rw [hh2, hh1, hhq, hh0]; simp [HR, ei]; rw [aI_nw (by omega)]; exact d7
        · by_cases ei : i = nd
          · by_cases ej : j = nd
            · intro _; omega
            · have := (c4 j (by omega)).1.2.2.1
              simp only [ei, ej, if_true, if_false]
              intro q9; omega
          · by_cases ej : j = nd
            · have := (c4 i (by omega)).1.2.2.1
              simp only [ei, ej, if_true, if_false]
              intro q9; omega
            · simp only [ei, ej, if_false]
              exact c5 i j (by omega) (by omega)
      · have ei : ¬ i = nd := by omega
        simp [ei]
      · rw [hh2, hh1]; simp [HR]
      · rw [hh2]; simp [HR]
      · rw [hh2, hh1, hhq]; simp [HR, z0]
    · have w4 : ¬ (nd : Int) < 20 := by omega
      have w5 : (nd : Int) = 20 := by omega
      have dd := v_deed (N := N) hS (r := iI (-3)) (z := 0) (Or.inl rfl)
      have e5 : ¬ (0 : Int) = 1 := by omega
      simp only [e5, if_false] at dd
      refine ⟨iI (-3), h, h, nd, dA, ds, ?_, ?_, hC0, Nat.le_refl _, fun _ _ => ⟨rfl, rfl⟩, hB0.n, Ke_rf, by omega⟩
      · simp (disch := omega) [oI, oR, qI, qZ, qR, rc, lit, iI_add, iI_sub, iI_mul, iI_neg, iI_le, iI_lt, iI_eq, v_isW, v_inW, bz, HR, sk_0 hS, sk_14 hS, sk_77 hS, sk_94 hS, fX11_drum, fX11_drum_b20, fX5_addDrum, c1, w, w4, dd]
      · simp (disch := omega) [oI, oR, qI, qZ, qR, rc, lit, iI_add, iI_sub, iI_mul, iI_neg, iI_le, iI_lt, iI_eq, v_isW, v_inW, bz, HR, sk_29 hS, sk_107 hS, fX12_drum, c2, w, w5]
  · have dd := v_deed (N := N) hS (r := iI (-1)) (z := 0) (Or.inl rfl)
    have e5 : ¬ (0 : Int) = 1 := by omega
    simp only [e5, if_false] at dd
    refine ⟨iI (-1), h, h, nd, dA, ds, ?_, ?_, hC0, Nat.le_refl _, fun _ _ => ⟨rfl, rfl⟩, hB0.n, Ke_rf, by omega⟩
    · simp (disch := omega) [oI, oR, qI, qZ, qR, rc, lit, iI_add, iI_sub, iI_mul, iI_neg, iI_le, iI_lt, iI_eq, v_isW, v_inW, bz, HR, sk_0 hS, sk_14 hS, sk_94 hS, fX11_drum, fX11_drum_b20, fX5_addDrum, w, dd]
    · simp (disch := omega) [oI, oR, qI, qZ, qR, rc, lit, iI_add, iI_sub, iI_mul, iI_neg, iI_le, iI_lt, iI_eq, v_isW, v_inW, bz, HR, fX12_drum, w]
/-! ===== scenes of things, ropes, ties ===== -/
def b2 (b : Bool) : Int := if b then 1 else 0
def od (o : Option Nat) : Int := match o with
  | some d => (d : Int)
  | none => -1
def RSc (h : Hs) (nt : Nat) (tA sA : Nat → Nat) (ls ms : Nat → Int) (sc : Nat → Nat → Int) : Prop :=
  (∀ i, i < nt → (gR h 906 (tA i) = some (sA i) ∧ 70 ≤ sA i ∧ sA i < sz h ∧ sh h (sA i) = (20, 10)) ∧ ∀ s, s < 10 → aI h (sA i) s = iI (sc i s) ∧ aI h 48 (40 * s + i) = iI (sc i s) ∧ (sc i s = -1 ∨ (ls i ≤ sc i s ∧ sc i s ≤ ms i))) ∧ (∀ i j, i < nt → j < nt → sA i = sA j → i = j)
def RRo (h : Hs) (nr nt : Nat) (rA tA rT : Nat → Nat) (wy gr hd : Nat → Int) (gn : Nat → Bool) : Prop :=
  (gI h 509 14 = iI nr ∧ gI h 1211 29 = iI nr ∧ nr ≤ 40) ∧
  (∀ r, r < nr → (aR h 17 r = some (rA r) ∧ 70 ≤ rA r ∧ rA r < sz h ∧ sh h (rA r) = (4, 0)) ∧ (gI h 400 (rA r) = iI r ∧ gR h 401 (rA r) = some (tA (rT r)) ∧ gI h 402 (rA r) = iI (wy r) ∧ gI h 403 (rA r) = iI (gr r) ∧ gI h 404 (rA r) = iI (hd r) ∧ gI h 408 (rA r) = iI (b2 (gn r))) ∧ (aI h 38 r = iI (rT r) ∧ aI h 39 r = iI (gr r) ∧ aI h 40 r = iI (wy r) ∧ aI h 41 r = iI (hd r) ∧ aI h 44 r = iI (b2 (gn r))) ∧ (rT r < nt ∧ (wy r = 1 ∨ wy r = -1) ∧ 1 ≤ gr r ∧ gr r ≤ 5 ∧ 1 ≤ hd r ∧ hd r ≤ 9999)) ∧ (∀ i j, i < nr → j < nr → rA i = rA j → i = j)
def RTi (h : Hs) (nt nd nr : Nat) (tA dA rA rT : Nat → Nat) (dr td : Nat → Option Nat) (sr dn : Nat → Int) : Prop :=
  (∀ r, r < nr → gR h 405 (rA r) = (dr r).map dA ∧ aI h 42 r = iI (od (dr r)) ∧ ∀ d, dr r = some d → d < nd ∧ gI h 406 (rA r) = iI (sr r) ∧ gI h 407 (rA r) = iI (dn r) ∧ aI h 43 r = iI (dn r) ∧ aI h 36 (rT r) = iI (sr r) ∧ td (rT r) = some r) ∧
  (∀ i, i < nt → gR h 909 (tA i) = (td i).map rA ∧ ∀ r, td i = some r → r < nr ∧ rT r = i ∧ dr r ≠ none)
theorem RSc.e {F A FR AQ : List Nat} {h h2 : Hs} {nt : Nat} {tA sA : Nat → Nat} {ls ms : Nat → Int} {sc : Nat → Nat → Int} (hC : RSc h nt tA sA ls ms sc) (hz : 70 ≤ sz h) (ht : ∀ i, i < nt → tA i < sz h) (k : Ke F A FR AQ h h2) (hF : 906 ∉ FR) (hA : 48 ∉ A) (hA2 : ∀ i, i < nt → sA i ∉ A) : RSc h2 nt tA sA ls ms sc := by
  obtain ⟨c1, c2⟩ := hC
  have k6 := k.2.2.2.2.2
  refine ⟨fun i hi => ?_, c2⟩
  obtain ⟨⟨d1, d2, d3, d4⟩, d5⟩ := c1 i hi
  refine ⟨⟨by rw [k.2.2.1 _ _ hF (ht i hi)]; exact d1, d2, by omega, by rw [k.2.2.2.2.1 _ d3]; exact d4⟩, fun s hs => ?_⟩
  rw [k.2.1 _ (hA2 i hi) d3, k.2.1 _ hA (by omega)]
  exact d5 s hs
theorem RRo.e {F A FR AQ : List Nat} {h h2 : Hs} {nr nt : Nat} {rA tA rT : Nat → Nat} {wy gr hd : Nat → Int} {gn : Nat → Bool} (hC : RRo h nr nt rA tA rT wy gr hd gn) (hz : 70 ≤ sz h) (k : Ke F A FR AQ h h2) (hF : ∀ f ∈ [509, 1211, 400, 402, 403, 404, 408], f ∉ F) (hA : ∀ a ∈ [38, 39, 40, 41, 44], a ∉ A) (hR : 401 ∉ FR) (hQ : 17 ∉ AQ) : RRo h2 nr nt rA tA rT wy gr hd gn := by
  obtain ⟨⟨c1, c2, c3⟩, c4, c5⟩ := hC
  have k6 := k.2.2.2.2.2
  refine ⟨⟨by rw [k.1 _ _ (hF _ (by decide)) (by omega)]; exact c1, by rw [k.1 _ _ (hF _ (by decide)) (by omega)]; exact c2, c3⟩, fun i hi => ?_, c5⟩
  obtain ⟨⟨d1, d2, d3, d4⟩, d5, d6, d7⟩ := c4 i hi
  refine ⟨⟨by rw [k.2.2.2.1 _ hQ (by omega)]; exact d1, d2, by omega, by rw [k.2.2.2.2.1 _ d3]; exact d4⟩, ?_, ?_, d7⟩
  · rw [k.1 _ _ (hF 400 (by decide)) d3, k.2.2.1 _ _ hR d3, k.1 _ _ (hF 402 (by decide)) d3, k.1 _ _ (hF 403 (by decide)) d3, k.1 _ _ (hF 404 (by decide)) d3, k.1 _ _ (hF 408 (by decide)) d3]
    exact d5
  · rw [k.2.1 _ (hA 38 (by decide)) (by omega), k.2.1 _ (hA 39 (by decide)) (by omega), k.2.1 _ (hA 40 (by decide)) (by omega), k.2.1 _ (hA 41 (by decide)) (by omega), k.2.1 _ (hA 44 (by decide)) (by omega)]
    exact d6
theorem RTi.e {F A FR AQ : List Nat} {h h2 : Hs} {nt nd nr : Nat} {tA dA rA rT : Nat → Nat} {dr td : Nat → Option Nat} {sr dn : Nat → Int} (hC : RTi h nt nd nr tA dA rA rT dr td sr dn) (hz : 70 ≤ sz h) (ht : ∀ i, i < nt → tA i < sz h) (hr : ∀ r, r < nr → rA r < sz h) (k : Ke F A FR AQ h h2) (hF : ∀ f ∈ [406, 407], f ∉ F) (hA : ∀ a ∈ [36, 42, 43], a ∉ A) (hR : ∀ f ∈ [405, 909], f ∉ FR) : RTi h2 nt nd nr tA dA rA rT dr td sr dn := by
  obtain ⟨c1, c2⟩ := hC
  refine ⟨fun r hr' => ?_, fun i hi => ?_⟩
  · have hr2 := hr r hr'
    obtain ⟨d1, d2, d3⟩ := c1 r hr'
    refine ⟨by rw [k.2.2.1 _ _ (hR 405 (by decide)) hr2]; exact d1, by rw [k.2.1 _ (hA 42 (by decide)) (by omega)]; exact d2, fun d hd => ?_⟩
    rw [k.1 _ _ (hF 406 (by decide)) hr2, k.1 _ _ (hF 407 (by decide)) hr2, k.2.1 _ (hA 43 (by decide)) (by omega), k.2.1 _ (hA 36 (by decide)) (by omega)]
    exact d3 d hd
  · obtain ⟨d1, d2⟩ := c2 i hi
    exact ⟨by rw [k.2.2.1 _ _ (hR 909 (by decide)) (ht i hi)]; exact d1, d2⟩
/-! a number's thing, rope, drum -/
theorem v_thingY {N : Nat} {h : Hs} (hS : Sk h) {nt : Nat} {tA : Nat → Nat} {tl tw tg ls ms pa : Nat → Int} (hC : RTh h nt tA tl tw tg ls ms pa) {i : Nat} (hi : i < nt) : fX5_thingNumbered N h 14 (iI i) = some (some (tA i), h) := by
  obtain ⟨⟨c1, c2, c3⟩, c4, c5⟩ := hC
  have e1 : ixb (iI (i : Int)) 40 = true := ixb_i (by omega) (by omega) (by omega)
  have e2 : (iI (i : Int)).toNatClampNeg = i := by rw [iI_cl (by omega) (by omega)]; simp
  have w : 0 ≤ (i : Int) ∧ (i : Int) ≤ nt - 1 := by omega
  have d1 := (c4 i hi).1.1
  simp (disch := omega) [oI, oR, qI, qZ, qR, rc, lit, iI_add, iI_sub, iI_mul, iI_neg, iI_le, iI_lt, iI_eq, v_isW, v_inW, bz, HR, sk_14 hS, sk_15 hS, sk_76 hS, fX5_thingNumbered, fX5_thingNumbered_b24, lQ, c1, w, e1, e2, d1]
theorem v_thingN {N : Nat} {h : Hs} (hS : Sk h) {nt : Nat} {tA : Nat → Nat} {tl tw tg ls ms pa : Nat → Int} (hC : RTh h nt tA tl tw tg ls ms pa) {z : Int} (z1 : -2147483648 ≤ z) (z2 : z < 2147483648) (hi : ¬ (0 ≤ z ∧ z ≤ nt - 1)) : fX5_thingNumbered N h 14 (iI z) = some (none, h) := by
  obtain ⟨⟨c1, c2, c3⟩, c4, c5⟩ := hC
  simp (disch := omega) [oI, oR, qI, qZ, qR, rc, lit, iI_add, iI_sub, iI_mul, iI_neg, iI_le, iI_lt, iI_eq, v_isW, v_inW, bz, HR, sk_14 hS, fX5_thingNumbered, fX5_thingNumbered_b24, c1, hi]
theorem v_drumY {N : Nat} {h : Hs} (hS : Sk h) {nd : Nat} {dA : Nat → Nat} {ds : Nat → Int} (hC : RDr h nd dA ds) {i : Nat} (hi : i < nd) : fX5_drumNumbered N h 14 (iI i) = some (some (dA i), h) := by
  obtain ⟨⟨c1, c2, c3⟩, c4, c5⟩ := hC
  have e1 : ixb (iI (i : Int)) 20 = true := ixb_i (by omega) (by omega) (by omega)
  have e2 : (iI (i : Int)).toNatClampNeg = i := by rw [iI_cl (by omega) (by omega)]; simp
  have w : 0 ≤ (i : Int) ∧ (i : Int) ≤ nd - 1 := by omega
  have d1 := (c4 i hi).1.1
  simp (disch := omega) [oI, oR, qI, qZ, qR, rc, lit, iI_add, iI_sub, iI_mul, iI_neg, iI_le, iI_lt, iI_eq, v_isW, v_inW, bz, HR, sk_14 hS, sk_16 hS, sk_77 hS, fX5_drumNumbered, fX5_drumNumbered_b24, lQ, c1, w, e1, e2, d1]
theorem v_drumN {N : Nat} {h : Hs} (hS : Sk h) {nd : Nat} {dA : Nat → Nat} {ds : Nat → Int} (hC : RDr h nd dA ds) {z : Int} (z1 : -2147483648 ≤ z) (z2 : z < 2147483648) (hi : ¬ (0 ≤ z ∧ z ≤ nd - 1)) : fX5_drumNumbered N h 14 (iI z) = some (none, h) := by
  obtain ⟨⟨c1, c2, c3⟩, c4, c5⟩ := hC
  simp (disch := omega) [oI, oR, qI, qZ, qR, rc, lit, iI_add, iI_sub, iI_mul, iI_neg, iI_le, iI_lt, iI_eq, v_isW, v_inW, bz, HR, sk_14 hS, fX5_drumNumbered, fX5_drumNumbered_b24, c1, hi]
theorem v_ropeY {N : Nat} {h : Hs} (hS : Sk h) {nr nt : Nat} {rA tA rT : Nat → Nat} {wy gr hd : Nat → Int} {gn : Nat → Bool} (hC : RRo h nr nt rA tA rT wy gr hd gn) {i : Nat} (hi : i < nr) : fX5_ropeNumbered N h 14 (iI i) = some (some (rA i), h) := by
  obtain ⟨⟨c1, c2, c3⟩, c4, c5⟩ := hC
  have e1 : ixb (iI (i : Int)) 40 = true := ixb_i (by omega) (by omega) (by omega)
  have e2 : (iI (i : Int)).toNatClampNeg = i := by rw [iI_cl (by omega) (by omega)]; simp
  have w : 0 ≤ (i : Int) ∧ (i : Int) ≤ nr - 1 := by omega
  have d1 := (c4 i hi).1.1
  simp (disch := omega) [oI, oR, qI, qZ, qR, rc, lit, iI_add, iI_sub, iI_mul, iI_neg, iI_le, iI_lt, iI_eq, v_isW, v_inW, bz, HR, sk_14 hS, sk_17 hS, sk_78 hS, fX5_ropeNumbered, fX5_ropeNumbered_b24, lQ, c1, w, e1, e2, d1]
theorem v_ropeN {N : Nat} {h : Hs} (hS : Sk h) {nr nt : Nat} {rA tA rT : Nat → Nat} {wy gr hd : Nat → Int} {gn : Nat → Bool} (hC : RRo h nr nt rA tA rT wy gr hd gn) {z : Int} (z1 : -2147483648 ≤ z) (z2 : z < 2147483648) (hi : ¬ (0 ≤ z ∧ z ≤ nr - 1)) : fX5_ropeNumbered N h 14 (iI z) = some (none, h) := by
  obtain ⟨⟨c1, c2, c3⟩, c4, c5⟩ := hC
  simp (disch := omega) [oI, oR, qI, qZ, qR, rc, lit, iI_add, iI_sub, iI_mul, iI_neg, iI_le, iI_lt, iI_eq, v_isW, v_inW, bz, HR, sk_14 hS, fX5_ropeNumbered, fX5_ropeNumbered_b24, c1, hi]
theorem v_isThing {N : Nat} {h : Hs} (hS : Sk h) {nt : Nat} (c : gI h 1201 29 = iI nt) (hn : nt ≤ 40) {z : Int} (z1 : -2147483648 ≤ z) (z2 : z < 2147483648) : fX12_isThing N h 29 (iI z) = some (if 0 ≤ z ∧ z ≤ nt - 1 then iI 1 else iI 0, h) := by
  by_cases w : 0 ≤ z ∧ z ≤ (nt : Int) - 1
  · rw [if_pos w]; simp (disch := omega) [oI, oR, qI, qZ, qR, rc, lit, iI_add, iI_sub, iI_mul, iI_neg, iI_le, iI_lt, iI_eq, v_isW, v_inW, bz, HR, sk_29 hS, fX12_isThing, c, w, zc_i1]
  · rw [if_neg w]; simp (disch := omega) [oI, oR, qI, qZ, qR, rc, lit, iI_add, iI_sub, iI_mul, iI_neg, iI_le, iI_lt, iI_eq, v_isW, v_inW, bz, HR, sk_29 hS, fX12_isThing, c, w, zc_i0]
theorem v_isRope {N : Nat} {h : Hs} (hS : Sk h) {nr : Nat} (c : gI h 1211 29 = iI nr) (hn : nr ≤ 40) {z : Int} (z1 : -2147483648 ≤ z) (z2 : z < 2147483648) : fX12_isRope N h 29 (iI z) = some (if 0 ≤ z ∧ z ≤ nr - 1 then iI 1 else iI 0, h) := by
  by_cases w : 0 ≤ z ∧ z ≤ (nr : Int) - 1
  · rw [if_pos w]; simp (disch := omega) [oI, oR, qI, qZ, qR, rc, lit, iI_add, iI_sub, iI_mul, iI_neg, iI_le, iI_lt, iI_eq, v_isW, v_inW, bz, HR, sk_29 hS, fX12_isRope, c, w, zc_i1]
  · rw [if_neg w]; simp (disch := omega) [oI, oR, qI, qZ, qR, rc, lit, iI_add, iI_sub, iI_mul, iI_neg, iI_le, iI_lt, iI_eq, v_isW, v_inW, bz, HR, sk_29 hS, fX12_isRope, c, w, zc_i0]
theorem v_isDrum {N : Nat} {h : Hs} (hS : Sk h) {nd : Nat} (c : gI h 1209 29 = iI nd) (hn : nd ≤ 20) {z : Int} (z1 : -2147483648 ≤ z) (z2 : z < 2147483648) : fX12_isDrum N h 29 (iI z) = some (if 0 ≤ z ∧ z ≤ nd - 1 then iI 1 else iI 0, h) := by
  by_cases w : 0 ≤ z ∧ z ≤ (nd : Int) - 1
  · rw [if_pos w]; simp (disch := omega) [oI, oR, qI, qZ, qR, rc, lit, iI_add, iI_sub, iI_mul, iI_neg, iI_le, iI_lt, iI_eq, v_isW, v_inW, bz, HR, sk_29 hS, fX12_isDrum, c, w, zc_i1]
  · rw [if_neg w]; simp (disch := omega) [oI, oR, qI, qZ, qR, rc, lit, iI_add, iI_sub, iI_mul, iI_neg, iI_le, iI_lt, iI_eq, v_isW, v_inW, bz, HR, sk_29 hS, fX12_isDrum, c, w, zc_i0]
/-! ===== load, spare ===== -/
def ldv (g r : Int) : Int := (g + r - 1).tdiv r
theorem ldv_b {g r : Int} (hg : 0 ≤ g ∧ g ≤ 999) (hr : 1 ≤ r ∧ r ≤ 5) : 0 ≤ ldv g r ∧ ldv g r ≤ 1003 := by
  unfold ldv
  rw [Int.tdiv_eq_ediv_of_nonneg (by omega)]
  constructor
  · exact Int.ediv_nonneg (by omega) (by omega)
  · exact Int.le_trans (Int.ediv_le_self _ (by omega)) (by omega)
theorem v_load {N : Nat} {h : Hs} {nr nt : Nat} {rA tA rT : Nat → Nat} {wy gr hd : Nat → Int} {gn : Nat → Bool} {tl tw tg ls ms pa : Nat → Int} (hR : RRo h nr nt rA tA rT wy gr hd gn) (hT : RTh h nt tA tl tw tg ls ms pa) {r : Nat} (hr : r < nr) : fX4_load N h (rA r) = some (iI (ldv (tg (rT r)) (gr r)), h) := by
  obtain ⟨⟨-, -, -, d4⟩, ⟨f0, f1, f2, f3, f4, f8⟩, -, q1, q2, q3, q4, q5⟩ := hR.2.1 r hr
  obtain ⟨⟨-, -, -, t4⟩, ⟨-, -, -, g3, -⟩, -, b1, b2', b3, b4, b5, b6, -⟩ := hT.2.1 (rT r) q1
  have e1 : ¬ gr r = 0 := by omega
  have e2 : iI (tg (rT r) + gr r - 1) / iI (gr r) = iI (ldv (tg (rT r)) (gr r)) := iI_div (by omega) (by omega) (by omega) (by omega)
  simp (disch := omega) [fX4_load, fX11_quotientUp, fX11_quotientUp_b15, oR, oI, d4, f1, t4, g3, f3, lit, iI_eq, e1, iI_add, iI_sub, dv, e2]
theorem v_spare {N : Nat} {h : Hs} {nr nt : Nat} {rA tA rT : Nat → Nat} {wy gr hd : Nat → Int} {gn : Nat → Bool} {tl tw tg ls ms pa : Nat → Int} (hR : RRo h nr nt rA tA rT wy gr hd gn) (hT : RTh h nt tA tl tw tg ls ms pa) {r : Nat} (hr : r < nr) : fX4_spare N h (rA r) = some (iI (hd r - ldv (tg (rT r)) (gr r)), h) := by
  have e := v_load (N := N) hR hT hr
  obtain ⟨⟨-, -, -, d4⟩, ⟨f0, f1, f2, f3, f4, f8⟩, -⟩ := hR.2.1 r hr
  simp [fX4_spare, oI, rc, d4, f4, e, iI_sub]
theorem v_loadM {N : Nat} {h : Hs} (hS : Sk h) {nr nt : Nat} {rA tA rT : Nat → Nat} {wy gr hd : Nat → Int} {gn : Nat → Bool} {tl tw tg ls ms pa : Nat → Int} (hR : RRo h nr nt rA tA rT wy gr hd gn) (hT : RTh h nt tA tl tw tg ls ms pa) {r : Nat} (hr : r < nr) : fX12_load N h 29 (iI r) = some (iI (ldv (tg (rT r)) (gr r)), h) := by
  obtain ⟨-, -, ⟨f0, f1, f2, f3, f4⟩, q1, q2, q3, q4, q5⟩ := hR.2.1 r hr
  obtain ⟨-, -, ⟨-, -, g3, -⟩, b1, b2', b3, b4, b5, b6, -⟩ := hT.2.1 (rT r) q1
  have c3 := hR.1.2.2
  have c4 := hT.1.2.2
  have e1 : ixb (iI (r : Int)) 40 = true := ixb_i (by omega) (by omega) (by omega)
  have e2 : (iI (r : Int)).toNatClampNeg = r := by rw [iI_cl (by omega) (by omega)]; simp
  have e3 : ixb (iI ((rT r : Nat) : Int)) 40 = true := ixb_i (by omega) (by omega) (by omega)
  have e4 : (iI ((rT r : Nat) : Int)).toNatClampNeg = rT r := by rw [iI_cl (by omega) (by omega)]; simp
  have e5 : ¬ gr r = 0 := by omega
  have e6 : iI (tg (rT r) + gr r - 1) / iI (gr r) = iI (ldv (tg (rT r)) (gr r)) := iI_div (by omega) (by omega) (by omega) (by omega)
  simp (disch := omega) [fX12_load, oR, lA, sk_29 hS, sk_32 hS, sk_38 hS, sk_39 hS, sk_102 hS, sk_108 hS, sk_109 hS, e1, e2, e3, e4, f0, f1, g3, lit, iI_eq, e5, iI_add, iI_sub, dv, e6]
theorem t_ofRope {N : Nat} {h : Hs} (hS : Sk h) {nr nt nd : Nat} {rA tA dA rT : Nat → Nat} {wy gr hd : Nat → Int} {gn : Nat → Bool} {tl tw tg ls ms pa ds : Nat → Int} {dr td : Nat → Option Nat} {sr dn : Nat → Int} (hT : RTh h nt tA tl tw tg ls ms pa) (hD : RDr h nd dA ds) (hR : RRo h nr nt rA tA rT wy gr hd gn) (hI : RTi h nt nd nr tA dA rA rT dr td sr dn) (p1 p2 : Int32) : ∃ r, fX11_ofRope N h 0 p1 p2 = some (r, h) ∧ fX12_ofRope N h 29 p1 p2 = some (r, h) := by
  obtain ⟨z, z1, z2, rfl⟩ := iI_ex p1
  obtain ⟨x, x1, x2, rfl⟩ := iI_ex p2
  have c3 := hR.1.2.2
  have ir := v_isRope (N := N) hS hR.1.2.1 c3 z1 z2
  by_cases w : 0 ≤ z ∧ z ≤ (nr : Int) - 1
  · obtain ⟨r, rfl⟩ : ∃ r : Nat, z = r := ⟨z.toNat, by omega⟩
    have hr : r < nr := by omega
    rw [if_pos w] at ir
    have ry := v_ropeY (N := N) hS hR hr
    have lc := v_load (N := N) hR hT hr
    have lm := v_loadM (N := N) hS hR hT hr
    have e1 : ixb (iI (r : Int)) 40 = true := ixb_i (by omega) (by omega) (by omega)
    have e2 : (iI (r : Int)).toNatClampNeg = r := by rw [iI_cl (by omega) (by omega)]; simp
    obtain ⟨⟨-, -, -, d4⟩, ⟨f0, f1, f2, f3, f4, f8⟩, ⟨m0, m1, m2, m3, m4⟩, q1, q2, q3, q4, q5⟩ := hR.2.1 r hr
    obtain ⟨⟨-, -, -, t4⟩, ⟨t0, -⟩, -⟩ := hT.2.1 (rT r) q1
    obtain ⟨i1, i2, i3⟩ := hI.1 r hr
    have n10 : ¬ iI 1 = iI 0 := by decide
    by_cases a0 : x = 0
    · subst a0
      refine ⟨iI (rT r), ?_, ?_⟩
      · simp (disch := omega) [oI, oR, qI, qZ, qR, rc, lit, iI_add, iI_sub, iI_mul, iI_neg, iI_le, iI_lt, iI_eq, v_isW, v_inW, bz, HR, sk_0 hS, sk_14 hS, sk_94 hS, fX11_ofRope, fX11_ofRope_b23, ry, d4, fX4_tell, f1, t4, t0]
      · simp (disch := omega) [oI, oR, qI, qZ, qR, rc, lit, iI_add, iI_sub, iI_mul, iI_neg, iI_le, iI_lt, iI_eq, v_isW, v_inW, bz, HR, sk_29 hS, sk_38 hS, sk_108 hS, fX12_ofRope, ir, lA, e1, e2, m0, n10]
    · by_cases a1 : x = 1
      · subst a1
        refine ⟨iI (gr r), ?_, ?_⟩
        · simp (disch := omega) [oI, oR, qI, qZ, qR, rc, lit, iI_add, iI_sub, iI_mul, iI_neg, iI_le, iI_lt, iI_eq, v_isW, v_inW, bz, HR, sk_0 hS, sk_14 hS, sk_94 hS, fX11_ofRope, fX11_ofRope_b23, ry, d4, fX4_tell, f3]
        · simp (disch := omega) [oI, oR, qI, qZ, qR, rc, lit, iI_add, iI_sub, iI_mul, iI_neg, iI_le, iI_lt, iI_eq, v_isW, v_inW, bz, HR, sk_29 hS, sk_39 hS, sk_109 hS, fX12_ofRope, ir, lA, e1, e2, m1, n10]
      · by_cases a2 : x = 2
        · subst a2
          refine ⟨iI (wy r), ?_, ?_⟩
          · simp (disch := omega) [oI, oR, qI, qZ, qR, rc, lit, iI_add, iI_sub, iI_mul, iI_neg, iI_le, iI_lt, iI_eq, v_isW, v_inW, bz, HR, sk_0 hS, sk_14 hS, sk_94 hS, fX11_ofRope, fX11_ofRope_b23, ry, d4, fX4_tell, f2]
          · simp (disch := omega) [oI, oR, qI, qZ, qR, rc, lit, iI_add, iI_sub, iI_mul, iI_neg, iI_le, iI_lt, iI_eq, v_isW, v_inW, bz, HR, sk_29 hS, sk_40 hS, sk_110 hS, fX12_ofRope, ir, lA, e1, e2, m2, n10]
        · by_cases a3 : x = 3
          · subst a3
            refine ⟨iI (hd r), ?_, ?_⟩
            · simp (disch := omega) [oI, oR, qI, qZ, qR, rc, lit, iI_add, iI_sub, iI_mul, iI_neg, iI_le, iI_lt, iI_eq, v_isW, v_inW, bz, HR, sk_0 hS, sk_14 hS, sk_94 hS, fX11_ofRope, fX11_ofRope_b23, ry, d4, fX4_tell, f4]
            · simp (disch := omega) [oI, oR, qI, qZ, qR, rc, lit, iI_add, iI_sub, iI_mul, iI_neg, iI_le, iI_lt, iI_eq, v_isW, v_inW, bz, HR, sk_29 hS, sk_41 hS, sk_111 hS, fX12_ofRope, ir, lA, e1, e2, m3, n10]
          · by_cases a4 : x = 4
            · subst a4
              refine ⟨iI (ldv (tg (rT r)) (gr r)), ?_, ?_⟩
              · simp (disch := omega) [oI, oR, qI, qZ, qR, rc, lit, iI_add, iI_sub, iI_mul, iI_neg, iI_le, iI_lt, iI_eq, v_isW, v_inW, bz, HR, sk_0 hS, sk_14 hS, sk_94 hS, fX11_ofRope, fX11_ofRope_b23, ry, d4, fX4_tell, lc]
              · simp (disch := omega) [oI, oR, qI, qZ, qR, rc, lit, iI_add, iI_sub, iI_mul, iI_neg, iI_le, iI_lt, iI_eq, v_isW, v_inW, bz, HR, sk_29 hS, fX12_ofRope, ir, lm, n10]
            · by_cases a5 : x = 5
              · subst a5
                refine ⟨iI (od (dr r)), ?_, ?_⟩
                · cases hdr : dr r with
                  | none =>
                    rw [hdr] at i1
                    simp (disch := omega) [oI, oR, qI, qZ, qR, rc, lit, iI_add, iI_sub, iI_mul, iI_neg, iI_le, iI_lt, iI_eq, v_isW, v_inW, bz, HR, sk_0 hS, sk_14 hS, sk_94 hS, fX11_ofRope, fX11_ofRope_b23, ry, d4, fX4_tell, fX4_tell_b94, i1, od]
                  | some d =>
                    rw [hdr] at i1
                    obtain ⟨⟨-, -, -, u4⟩, ⟨u5, -⟩, -⟩ := hD.2.1 d (i3 d hdr).1
                    simp (disch := omega) [oI, oR, qI, qZ, qR, rc, lit, iI_add, iI_sub, iI_mul, iI_neg, iI_le, iI_lt, iI_eq, v_isW, v_inW, bz, HR, sk_0 hS, sk_14 hS, sk_94 hS, fX11_ofRope, fX11_ofRope_b23, ry, d4, fX4_tell, fX4_tell_b94, i1, od, u4, u5]
                · simp (disch := omega) [oI, oR, qI, qZ, qR, rc, lit, iI_add, iI_sub, iI_mul, iI_neg, iI_le, iI_lt, iI_eq, v_isW, v_inW, bz, HR, sk_29 hS, sk_42 hS, sk_112 hS, fX12_ofRope, ir, lA, e1, e2, i2, n10]
              · by_cases a6 : x = 6
                · subst a6
                  cases hdr : dr r with
                  | none =>
                    rw [hdr] at i1 i2
                    simp only [od] at i2
                    refine ⟨iI 0, ?_, ?_⟩
                    · simp (disch := omega) [oI, oR, qI, qZ, qR, rc, lit, iI_add, iI_sub, iI_mul, iI_neg, iI_le, iI_lt, iI_eq, v_isW, v_inW, bz, HR, sk_0 hS, sk_14 hS, sk_94 hS, fX11_ofRope, fX11_ofRope_b23, ry, d4, fX4_tell, fX4_tell_b110, i1]
                    · simp (disch := omega) [oI, oR, qI, qZ, qR, rc, lit, iI_add, iI_sub, iI_mul, iI_neg, iI_le, iI_lt, iI_eq, v_isW, v_inW, bz, HR, sk_29 hS, sk_42 hS, sk_43 hS, sk_112 hS, sk_113 hS, fX12_ofRope, fX12_ofRope_b120, ir, lA, e1, e2, i2, n10]
                  | some d =>
                    rw [hdr] at i1 i2
                    simp only [od] at i2
                    obtain ⟨j1, j2, j3, j4, j5, j6⟩ := i3 d hdr
                    have hnd := hD.1.2.2
                    have j7 : (0 : Int) ≤ d := by omega
                    refine ⟨iI (dn r), ?_, ?_⟩
                    · simp (disch := omega) [oI, oR, qI, qZ, qR, rc, lit, iI_add, iI_sub, iI_mul, iI_neg, iI_le, iI_lt, iI_eq, v_isW, v_inW, bz, HR, sk_0 hS, sk_14 hS, sk_94 hS, fX11_ofRope, fX11_ofRope_b23, ry, d4, fX4_tell, fX4_tell_b110, i1, j3]
                    · simp (disch := omega) [oI, oR, qI, qZ, qR, rc, lit, iI_add, iI_sub, iI_mul, iI_neg, iI_le, iI_lt, iI_eq, v_isW, v_inW, bz, HR, sk_29 hS, sk_42 hS, sk_43 hS, sk_112 hS, sk_113 hS, fX12_ofRope, fX12_ofRope_b120, ir, lA, e1, e2, i2, n10, j4, j7]
                · by_cases a7 : x = 7
                  · subst a7
                    refine ⟨iI (b2 (gn r)), ?_, ?_⟩
                    · cases hg : gn r with
                      | false =>
                        rw [hg] at f8
                        simp only [b2] at f8
                        simp (disch := omega) [oI, oR, qI, qZ, qR, rc, lit, iI_add, iI_sub, iI_mul, iI_neg, iI_le, iI_lt, iI_eq, v_isW, v_inW, bz, HR, sk_0 hS, sk_14 hS, sk_94 hS, fX11_ofRope, fX11_ofRope_b23, ry, d4, fX4_tell, fX4_tell_b123, f8, b2]
                      | true =>
                        rw [hg] at f8
                        simp only [b2] at f8
                        simp (disch := omega) [oI, oR, qI, qZ, qR, rc, lit, iI_add, iI_sub, iI_mul, iI_neg, iI_le, iI_lt, iI_eq, v_isW, v_inW, bz, HR, sk_0 hS, sk_14 hS, sk_94 hS, fX11_ofRope, fX11_ofRope_b23, ry, d4, fX4_tell, fX4_tell_b123, f8, b2]
                    · cases hg : gn r with
                      | false =>
                        rw [hg] at m4
                        simp only [b2] at m4
                        simp (disch := omega) [oI, oR, qI, qZ, qR, rc, lit, iI_add, iI_sub, iI_mul, iI_neg, iI_le, iI_lt, iI_eq, v_isW, v_inW, bz, HR, sk_29 hS, sk_44 hS, sk_114 hS, fX12_ofRope, fX12_ofRope_b135, ir, lA, e1, e2, m4, n10, b2]
                      | true =>
                        rw [hg] at m4
                        simp only [b2] at m4
                        simp (disch := omega) [oI, oR, qI, qZ, qR, rc, lit, iI_add, iI_sub, iI_mul, iI_neg, iI_le, iI_lt, iI_eq, v_isW, v_inW, bz, HR, sk_29 hS, sk_44 hS, sk_114 hS, fX12_ofRope, fX12_ofRope_b135, ir, lA, e1, e2, m4, n10, b2]
                  · refine ⟨iI (-2000000000), ?_, ?_⟩
                    · simp (disch := omega) [oI, oR, qI, qZ, qR, rc, lit, iI_add, iI_sub, iI_mul, iI_neg, iI_le, iI_lt, iI_eq, v_isW, v_inW, bz, HR, sk_0 hS, sk_14 hS, sk_94 hS, fX11_ofRope, fX11_ofRope_b23, ry, d4, fX4_tell, a0, a1, a2, a3, a4, a5, a6, a7]
                    · simp (disch := omega) [oI, oR, qI, qZ, qR, rc, lit, iI_add, iI_sub, iI_mul, iI_neg, iI_le, iI_lt, iI_eq, v_isW, v_inW, bz, HR, sk_29 hS, fX12_ofRope, ir, n10, a0, a1, a2, a3, a4, a5, a6, a7]
  · rw [if_neg w] at ir
    have rn := v_ropeN (N := N) hS hR z1 z2 w
    refine ⟨iI (-2000000000), ?_, ?_⟩
    · simp (disch := omega) [oI, oR, qI, qZ, qR, rc, lit, iI_add, iI_sub, iI_mul, iI_neg, iI_le, iI_lt, iI_eq, v_isW, v_inW, bz, HR, sk_0 hS, sk_14 hS, sk_94 hS, fX11_ofRope, fX11_ofRope_b23, rn]
    · simp only [fX12_ofRope, rc, sk_29 hS, if_true, Option.bind_some, ir, lit, iI_neg]
