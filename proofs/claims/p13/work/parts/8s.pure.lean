/-! ===== paint: the class's answer; the reference's costs ===== -/
theorem v_paintC {N : Nat} (hN : 100000000 ≤ N) {h : Hs} (hS : Sk h) (hz : 70 ≤ sz h) {nf nv : Nat} {fA vA : Nat → Nat} {fh fw fp vh vw vp : Nat → Int} (hf : nf ≤ 12) (hnv : nv ≤ 6) (g4 : gI h 604 9 = iI nf) (g5 : gI h 605 9 = iI nv) (pF : PF h nf fA fh fw fp) (pV : PV h nv vA vh vw vp) : ∃ h1, fX11_paint N h 0 = some (iI (if nv = 0 ∨ 1000000 ≤ bsm (ctf fh fw fp vh vw vp) nf nv nv 0 then -2 else bsm (ctf fh fw fp vh vw vp) nf nv nv 0), h1) ∧ Ke [605, 606] [12, 13] [] [] h h1 ∧ sz h1 = sz h ∧ gI h1 605 9 = iI 0 ∧ (nv = 0 ∨ 1000000 ≤ bsm (ctf fh fw fp vh vw vp) nf nv nv 0 → gI h1 606 9 = gI h 606 9 ∧ ∀ k, aI h1 12 k = aI h 12 k) ∧ (¬ (nv = 0 ∨ 1000000 ≤ bsm (ctf fh fw fp vh vw vp) nf nv nv 0) → gI h1 606 9 = iI nv ∧ ∀ k, k < nv → aI h1 12 k = iI (gvs (ctf fh fw fp vh vw vp) nf nv nv 0 k)) := by
  have o5 : oI 6 5 h (some 9) = some (iI nv) := oIv (by rw [ss_9 hS]) g5
  have out : ∀ (a : Int) (h1 : Hs), fX6_leastPainting N h 9 = some (iI a, h1) → fX11_paint N h 0 = some (iI a, h1) := fun a h1 e => by
    simp only [fX11_paint]
    refine bst (sR_1105_0 hS) ?_
    refine bst (rcv (by rw [ss_9 hS])) ?_
    refine bst (e) ?_
    rfl
  have zq : ∀ hx : Hs, Sk hx → qI 6 5 hx (some 9) (iI 0) = some (uI hx 605 9 (iI 0)) := fun hx sx => qIv (by rw [ss_9 sx])
  have m0 : iI 1000000 ≤ iI 1000000 := by decide
  by_cases w : nv = 0
  · subst w
    rw [if_pos (Or.inl rfl)]
    refine ⟨uI h 605 9 (iI 0), out _ _ ?_, Ke_rf.u 605 9 _ (by decide), rfl, by simp [HR], fun _ => ⟨by simp [HR], fun k => rfl⟩, fun z => absurd (Or.inl rfl) z⟩
    simp only [fX6_leastPainting, fX6_leastPainting_b16, fX6_leastPainting_b27, fX6_leastPainting_b44, lit, iI_neg]
    refine bst (o5) ?_
    refine ifp (rfl) ?_
    refine ifp (m0) ?_
    refine bst (zq h hS) ?_
    refine ifp (m0) ?_
    rfl
  · obtain ⟨h2, e2, ke2, s2, sm⟩ := v_lsum (N := N) hN hS hz hf hnv g4 g5 pF pV
    have hS2 := hS.e hz ke2 (by decide)
    have n0 : ¬ iI (nv : Int) = iI 0 := fun z => by have := (iI_eq (by omega) (by omega) (by omega) (by omega)).mp z; omega
    have bb := bsm_b (ctf fh fw fp vh vw vp) nf nv nv 0
    have gg : bsm (ctf fh fw fp vh vw vp) nf nv nv 0 < 1000000 → ∃ h', fX6_give_b4 N 9 N h2 (iI ((0 : Nat) : Int)) (iI ((0 : Nat) : Int)) = some h' ∧ Ke [606] [12] [] [] h2 h' ∧ sz h' = sz h2 ∧ gI h' 606 9 = iI nv ∧ (∀ k, k < nv → aI h' 12 (0 + k) = iI (gvs (ctf fh fw fp vh vw vp) nf nv nv 0 k)) ∧ (∀ k, k < 0 → aI h' 12 k = aI h2 12 k) := fun q => L_give (N := N) hN hS2 (by omega) hf hnv ((ke2.1 604 9 (by decide) (by omega)).trans g4) ((ke2.1 605 9 (by decide) (by omega)).trans g5) (pF.e hz ke2 (by decide) (by decide)) (pV.e hz ke2 (by decide) (by decide)) sm nv 0 0 N h2 (by omega) (by omega) (Nat.pow_pos (by omega)) rfl q Ke_rf rfl
    generalize bsm (ctf fh fw fp vh vw vp) nf nv nv 0 = v at *
    have lm : iI 1000000 ≤ iI v ↔ 1000000 ≤ v := iI_le (by omega) (by omega) (by omega) (by omega)
    by_cases q : 1000000 ≤ v
    · rw [if_pos (Or.inr q)]
      refine ⟨uI h2 605 9 (iI 0), out _ _ ?_, (ke2.w (by decide) (by decide) (by decide) (by decide)).u 605 9 _ (by decide), s2, by simp [HR], fun _ => ⟨?_, fun k => ?_⟩, fun z => absurd (Or.inr q) z⟩
      · simp only [fX6_leastPainting, fX6_leastPainting_b16, fX6_leastPainting_b27, fX6_leastPainting_b44, lit, iI_neg]
        refine bst (o5) ?_
        refine ifn (n0) ?_
        refine bst (rcv (by rw [ss_9 hS])) ?_
        refine bst (e2) ?_
        refine ifp (lm.mpr q) ?_
        refine bst (zq h2 hS2) ?_
        refine ifp (lm.mpr q) ?_
        rfl
      · have := ke2.1 606 9 (by decide) (by omega)
        simp [HR, this]
      · show aI h2 12 k = aI h 12 k
        rw [ke2.2.1 12 (by decide) (by omega)]
    · have nq : ¬ (nv = 0 ∨ 1000000 ≤ v) := fun z => z.elim w q
      rw [if_neg nq]
      obtain ⟨h3, e3, ke3, s3, x1, x2, -⟩ := gg (by omega)
      have hS3 := hS2.e (by omega) ke3 (by decide)
      refine ⟨uI h3 605 9 (iI 0), out _ _ ?_, ((ke2.w (by decide) (by decide) (by decide) (by decide)).tr (ke3.w (by decide) (by decide) (by decide) (by decide))).u 605 9 _ (by decide), s3.trans s2, by simp [HR], fun z => absurd z nq, fun _ => ⟨?_, fun k hk => ?_⟩⟩
      · have eg : fX6_give N h2 9 = some h3 := by
          simp only [fX6_give, lit]
          exact e3
        simp only [fX6_leastPainting, fX6_leastPainting_b16, fX6_leastPainting_b27, fX6_leastPainting_b44, lit, iI_neg]
        refine bst (o5) ?_
        refine ifn (n0) ?_
        refine bst (rcv (by rw [ss_9 hS])) ?_
        refine bst (e2) ?_
        refine ifn (fun z => q (lm.mp z)) ?_
        refine bst (rcv (by rw [ss_9 hS2])) ?_
        refine bst (eg) ?_
        refine bst (zq h3 hS3) ?_
        refine ifn (fun z => q (lm.mp z)) ?_
        rfl
      · simp [HR, x1]
      · have := x2 k hk
        rw [Nat.zero_add] at this
        exact this
def QF (h : Hs) (a1 a2 n : Nat) (ht wd pt : Nat → Int) : Prop := ∀ i, i < n → aI h a1 i = iI (100 * ht i + wd i) ∧ aI h a2 i = iI (pt i) ∧ 1 ≤ ht i ∧ ht i ≤ 99 ∧ 1 ≤ wd i ∧ wd i ≤ 99 ∧ 0 ≤ pt i ∧ pt i ≤ 9
theorem QF.e {F A FR AQ : List Nat} {h h2 : Hs} {a1 a2 n : Nat} {ht wd pt : Nat → Int} (hQ : QF h a1 a2 n ht wd pt) (hz : 70 ≤ sz h) (k : Ke F A FR AQ h h2) (b1 : a1 < 70) (b2 : a2 < 70) (c1 : a1 ∉ A) (c2 : a2 ∉ A) : QF h2 a1 a2 n ht wd pt := fun i hi => by
  obtain ⟨q1, q2, q3⟩ := hQ i hi
  exact ⟨by rw [k.2.1 _ c1 (by omega)]; exact q1, by rw [k.2.1 _ c2 (by omega)]; exact q2, q3⟩
theorem pan_d {a b : Int} (h1 : 1 ≤ a ∧ a ≤ 99) (h2 : 1 ≤ b ∧ b ≤ 99) : iI (100 * a + b) / iI 100 = iI a ∧ iI (100 * a + b) - iI a * iI 100 = iI b := by
  have e1 := iI_dv (a := 100 * a + b) (b := 100) (by omega) (by omega) (by omega) (by omega)
  have e2 : (100 * a + b).tdiv 100 = a := by
    rw [Int.tdiv_eq_ediv_of_nonneg (by omega)]
    omega
  refine ⟨by rw [e1, e2], ?_⟩
  rw [iI_mul, iI_sub]
  congr 1
  omega
theorem v_area2 {N : Nat} {h : Hs} {a b : Int} (h1 : 1 ≤ a ∧ a ≤ 99) (h2 : 1 ≤ b ∧ b ≤ 99) : fX12_area N h (iI (100 * a + b)) = some (iI (a * b), h) := by
  obtain ⟨e1, e2⟩ := pan_d h1 h2
  simp only [fX12_area, lit]
  rw [e1, e2, iI_mul]
theorem v_cost {N : Nat} {h : Hs} (hS : Sk h) {nf nv : Nat} {fh fw fp vh vw vp : Nat → Int} (hf : nf ≤ 12) (hnv : nv ≤ 6) (qF : QF h 64 65 nf fh fw fp) (qV : QF h 66 67 nv vh vw vp) {i j : Nat} (hi : i < nf) (hj : j < nv) : fX12_cost N h 29 (iI i) (iI j) = some (iI (ctf fh fw fp vh vw vp i j), h) := by
  obtain ⟨f1, f2, f3, f4, f5, f6, f7, f8⟩ := qF i hi
  obtain ⟨w1, w2, w3, w4, w5, w6, w7, w8⟩ := qV j hj
  have l1 := lAv (ss_64 hS) (show i < 12 by omega) (by omega) f1
  have l2 := lAv (ss_65 hS) (show i < 12 by omega) (by omega) f2
  have l3 := lAv (ss_66 hS) (show j < 6 by omega) (by omega) w1
  have l4 := lAv (ss_67 hS) (show j < 6 by omega) (by omega) w2
  obtain ⟨d1, d2⟩ := pan_d ⟨f3, f4⟩ ⟨f5, f6⟩
  obtain ⟨d3, d4⟩ := pan_d ⟨w3, w4⟩ ⟨w5, w6⟩
  have aF := v_area2 (N := N) (h := h) ⟨f3, f4⟩ ⟨f5, f6⟩
  have aV := v_area2 (N := N) (h := h) ⟨w3, w4⟩ ⟨w5, w6⟩
  have lh : iI (fh i) < iI (vh j) ↔ fh i < vh j := iI_lt (by omega) (by omega) (by omega) (by omega)
  have lw : iI (vw j) ≤ iI (fw i) ↔ vw j ≤ fw i := iI_le (by omega) (by omega) (by omega) (by omega)
  have lp' : iI (fp i) = iI (vp j) ↔ fp i = vp j := iI_eq (by omega) (by omega) (by omega) (by omega)
  simp only [fX12_cost, fX12_cost_b42, fX12_cost_b72, lit, iI_neg]
  unfold ctf
  refine bst (sR_1257_29 hS) (bst l1 (bst (sR_1260_29 hS) (bst l3 ?_)))
  rw [d1, d3]
  by_cases q1 : fh i < vh j
  · have nq : ¬ (vh j ≤ fh i ∧ vw j ≤ fw i) := by omega
    rw [if_neg nq]
    refine ifp (lh.mpr q1) ?_
    rfl
  · refine ifn (fun z => q1 (lh.mp z)) (bst (sR_1257_29 hS) (bst l1 (bst (sR_1260_29 hS) (bst l3 ?_))))
    rw [d1, d3, d2, d4]
    by_cases q2 : vw j ≤ fw i
    · have yq : vh j ≤ fh i ∧ vw j ≤ fw i := by omega
      rw [if_pos yq]
      by_cases q3 : fp i = vp j
      · rw [if_pos q3]
        refine ifp (lw.mpr q2) ?_
        refine bst (sR_1258_29 hS) ?_
        refine bst (l2) ?_
        refine bst (sR_1261_29 hS) ?_
        refine bst (l4) ?_
        refine ifp (lp'.mpr q3) ?_
        refine bst (sR_1257_29 hS) ?_
        refine bst (l1) ?_
        refine bst (aF) ?_
        refine bst (sR_1260_29 hS) ?_
        refine bst (l3) ?_
        refine bst (aV) ?_
        rw [iI_add, iI_sub]
      · rw [if_neg q3]
        refine ifp (lw.mpr q2) ?_
        refine bst (sR_1258_29 hS) ?_
        refine bst (l2) ?_
        refine bst (sR_1261_29 hS) ?_
        refine bst (l4) ?_
        refine ifn (fun z => q3 (lp'.mp z)) ?_
        refine bst (sR_1257_29 hS) ?_
        refine bst (l1) ?_
        refine bst (aF) ?_
        refine bst (sR_1257_29 hS) ?_
        refine bst (l1) ?_
        refine bst (aF) ?_
        refine bst (sR_1260_29 hS) ?_
        refine bst (l3) ?_
        refine bst (aV) ?_
        rw [iI_add, iI_sub]
    · have nq : ¬ (vh j ≤ fh i ∧ vw j ≤ fw i) := by omega
      rw [if_neg nq]
      refine ifn (fun z => q2 (lw.mp z)) ?_
      rfl
