/-! ===== stock: flats, wants, what was given ===== -/
def RPan (h : Hs) (qa a1 a2 : Nat) (n : Nat) (pA : Nat → Nat) (ht wd pt : Nat → Int) : Prop := ∀ i, i < n → (aR h qa i = some (pA i) ∧ 70 ≤ pA i ∧ pA i < sz h ∧ sh h (pA i) = (3, 0) ∧ gI h 300 (pA i) = iI (ht i) ∧ gI h 301 (pA i) = iI (wd i) ∧ gI h 302 (pA i) = iI (pt i)) ∧ aI h a1 i = iI (100 * ht i + wd i) ∧ aI h a2 i = iI (pt i) ∧ 1 ≤ ht i ∧ ht i ≤ 99 ∧ 1 ≤ wd i ∧ wd i ≤ 99 ∧ 0 ≤ pt i ∧ pt i ≤ 9
def IStk (h : Hs) : Prop := ∃ (nf nv ng : Nat) (fA vA : Nat → Nat) (fh fw fp vh vw vp gv : Nat → Int),
  (gI h 604 9 = iI nf ∧ gI h 605 9 = iI nv ∧ gI h 606 9 = iI ng ∧ gI h 1256 29 = iI nf ∧ gI h 1259 29 = iI nv ∧ gI h 1263 29 = iI ng) ∧ nf ≤ 12 ∧ nv ≤ 6 ∧ ng ≤ 6 ∧
  RPan h 10 64 65 nf fA fh fw fp ∧ RPan h 11 66 67 nv vA vh vw vp ∧ ∀ i, i < ng → aI h 12 i = iI (gv i) ∧ aI h 69 i = iI (gv i)
abbrev FStk : List Nat := [604, 605, 606, 300, 301, 302, 1256, 1259, 1263]
abbrev AStk : List Nat := [12, 13, 64, 65, 66, 67, 68, 69]
abbrev QStk : List Nat := [10, 11]
theorem RPan.e {F A FR AQ : List Nat} {h h2 : Hs} {qa a1 a2 n : Nat} {pA : Nat → Nat} {ht wd pt : Nat → Int} (hR : RPan h qa a1 a2 n pA ht wd pt) (hz : 70 ≤ sz h) (k : Ke F A FR AQ h h2) (q1 : qa < 70) (q2 : a1 < 70) (q3 : a2 < 70) (hq : qa ∉ AQ) (h1 : a1 ∉ A) (h2' : a2 ∉ A) (f0 : 300 ∉ F) (f1 : 301 ∉ F) (f2 : 302 ∉ F) : RPan h2 qa a1 a2 n pA ht wd pt := by
  intro i hi
  obtain ⟨⟨r1, r2, r3, r4, r5, r6, r7⟩, r8, r9, r10⟩ := hR i hi
  obtain ⟨k1, k2, k3, k4, k5, k6⟩ := k
  refine ⟨⟨?_, r2, by omega, ?_, ?_, ?_, ?_⟩, ?_, ?_, r10⟩
  · rw [k4 _ hq (by omega)]; exact r1
  · rw [k5 _ r3]; exact r4
  · rw [k1 _ _ f0 r3]; exact r5
  · rw [k1 _ _ f1 r3]; exact r6
  · rw [k1 _ _ f2 r3]; exact r7
  · rw [k2 _ h1 (by omega)]; exact r8
  · rw [k2 _ h2' (by omega)]; exact r9
theorem IStk.e {F A FR AQ : List Nat} {h h2 : Hs} (hC : IStk h) (hz : 70 ≤ sz h) (k : Ke F A FR AQ h h2) (hF : ∀ f ∈ FStk, f ∉ F) (hA : ∀ a ∈ [12, 64, 65, 66, 67, 69], a ∉ A) (hQ : ∀ a ∈ QStk, a ∉ AQ) : IStk h2 := by
  obtain ⟨nf, nv, ng, fA, vA, fh, fw, fp, vh, vw, vp, gv, ⟨c1, c2, c3, c4, c5, c6⟩, b1, b2, b3, r1, r2, r3⟩ := hC
  refine ⟨nf, nv, ng, fA, vA, fh, fw, fp, vh, vw, vp, gv, ⟨?_, ?_, ?_, ?_, ?_, ?_⟩, b1, b2, b3, r1.e hz k (by omega) (by omega) (by omega) (hQ _ (by decide)) (hA _ (by decide)) (hA _ (by decide)) (hF _ (by decide)) (hF _ (by decide)) (hF _ (by decide)), r2.e hz k (by omega) (by omega) (by omega) (hQ _ (by decide)) (hA _ (by decide)) (hA _ (by decide)) (hF _ (by decide)) (hF _ (by decide)) (hF _ (by decide)), fun i hi => ?_⟩
  · rw [k.1 _ _ (hF _ (by decide)) (by omega)]; exact c1
  · rw [k.1 _ _ (hF _ (by decide)) (by omega)]; exact c2
  · rw [k.1 _ _ (hF _ (by decide)) (by omega)]; exact c3
  · rw [k.1 _ _ (hF _ (by decide)) (by omega)]; exact c4
  · rw [k.1 _ _ (hF _ (by decide)) (by omega)]; exact c5
  · rw [k.1 _ _ (hF _ (by decide)) (by omega)]; exact c6
  · rw [k.2.1 _ (hA 12 (by decide)) (by omega), k.2.1 _ (hA 69 (by decide)) (by omega)]
    exact r3 i hi
theorem t_given {N : Nat} {h : Hs} (hS : Sk h) (hC : IStk h) (p : Int32) : ∃ r, fX11_given N h 0 p = some (r, h) ∧ fX12_given N h 29 p = some (r, h) := by
  obtain ⟨z, z1, z2, rfl⟩ := iI_ex p
  obtain ⟨nf, nv, ng, fA, vA, fh, fw, fp, vh, vw, vp, gv, ⟨c1, c2, c3, c4, c5, c6⟩, b1, b2, b3, r1, r2, r3⟩ := hC
  by_cases w : 0 ≤ z ∧ z ≤ (ng : Int) - 1
  · obtain ⟨i, rfl⟩ : ∃ i : Nat, z = i := ⟨z.toNat, by omega⟩
    have e0 := r3 i (by omega)
    have e1 : ixb (iI (i : Int)) 6 = true := ixb_i (by omega) (by omega) (by omega)
    have e2 : (iI (i : Int)).toNatClampNeg = i := by rw [iI_cl (by omega) (by omega)]; simp
    refine ⟨iI (gv i), ?_, ?_⟩
    · simp (disch := omega) [oI, oR, qI, qZ, qR, rc, lit, iI_add, iI_sub, iI_mul, iI_neg, iI_le, iI_lt, iI_eq, v_isW, v_inW, bz, HR, Sk_rw hS, fX11_given, fX6_givenTo, fX6_givenTo_b24, lA, c3, w, e0, e1, e2]
    · simp (disch := omega) [oI, oR, qI, qZ, qR, rc, lit, iI_add, iI_sub, iI_mul, iI_neg, iI_le, iI_lt, iI_eq, v_isW, v_inW, bz, HR, Sk_rw hS, fX12_given, fX12_given_b24, lA, c6, w, e0, e1, e2]
  · refine ⟨-1, ?_, ?_⟩
    · simp (disch := omega) [oI, oR, qI, qZ, qR, rc, lit, iI_add, iI_sub, iI_mul, iI_neg, iI_le, iI_lt, iI_eq, v_isW, v_inW, bz, HR, Sk_rw hS, fX11_given, fX6_givenTo, fX6_givenTo_b24, c3, w]
    · simp (disch := omega) [oI, oR, qI, qZ, qR, rc, lit, iI_add, iI_sub, iI_mul, iI_neg, iI_le, iI_lt, iI_eq, v_isW, v_inW, bz, HR, Sk_rw hS, fX12_given, fX12_given_b24, c6, w]
