/-! ===== the class reads the lines ===== -/
def LnA (h h' : Hs) (a b c ln : Nat) : Prop := ∀ k, k ≠ ln → aI h' a k = aI h a k ∧ aI h' b k = aI h b k ∧ aI h' c k = aI h c k
theorem v_one {N : Nat} (hN : 100000000 ≤ N) {L : Nat} {bt : Nat → Int} {h : Hs} (hS : Sk h) (hz : 70 ≤ sz h) (hC : TC h L bt) {p ln : Nat} (hp : p ≤ 700) (hl : ln < 30) (g6 : gI h 806 1 = iI p) (sg : Bool) : ∃ h', fX8_readOne N h 1 (iI ln) (iI (b2 sg)) = some (iI (b2 ((rdN (pkf bt L) sg (p + 1)).1 && decide (pkf bt L (rdN (pkf bt L) sg (p + 1)).2.1 = 59))), h') ∧ Ke [806, 807] [4] [] [] h h' ∧ sz h' = sz h ∧ gI h' 806 1 = iI (((rdN (pkf bt L) sg (p + 1)).2.1 + (if (rdN (pkf bt L) sg (p + 1)).1 && decide (pkf bt L (rdN (pkf bt L) sg (p + 1)).2.1 = 59) then 1 else 0) : Nat) : Int) ∧ (∀ k, k ≠ ln → aI h' 4 k = aI h 4 k) ∧ ((rdN (pkf bt L) sg (p + 1)).1 = true → aI h' 4 ln = iI (rdN (pkf bt L) sg (p + 1)).2.2) := by
  have cc : (sh h 1).1 = 8 := by rw [ss_1 hS]
  obtain ⟨h1, eh1⟩ : ∃ h1, h1 = uI h 806 1 (iI ((p + 1 : Nat) : Int)) := ⟨_, rfl⟩
  have ke1 : Ke [806, 807] [] [] [] h h1 := by rw [eh1]; exact Ke_rf.u 806 _ _ (by decide)
  have sz1 : sz h1 = sz h := by rw [eh1]; rfl
  have hS1 := hS.e hz ke1 (by decide)
  have rb := rdN_b (pkf bt L) sg (p + 1)
  obtain ⟨h2, r1, r2, r3, r4, r5⟩ := v_rdN (N := N) hN hS1 (by omega) (hC.e hz ke1 (by decide) (by decide)) (p := p + 1) (by omega) (by rw [eh1]; simp [HR]) sg
  generalize rdN (pkf bt L) sg (p + 1) = R at *
  obtain ⟨ok, q, v⟩ := R
  simp only at *
  have ke2 : Ke [806, 807] [] [] [] h h2 := ke1.tr r2
  have hS2 := hS.e hz ke2 (by decide)
  have cc2 : (sh h2 1).1 = 8 := by rw [ss_1 hS2]
  have e5 : iI (p : Int) + iI 1 = iI ((p + 1 : Nat) : Int) := by rw [iI_add]; congr 1
  simp only [fX8_readOne, lit]
  cases ok with
  | false =>
    refine ⟨h2, ?_, ke2.w (by decide) (by decide) (by decide) (by decide), by omega, by simpa using r4, fun k _ => by rw [ke2.2.1 4 (by decide) (by omega)], fun z => by cases z⟩
    refine bst (oIv cc g6) ?_
    rw [e5]
    refine bst (qIv cc) ?_
    rw [← eh1]
    refine bst (rcv (by rw [ss_1 hS1])) ?_
    refine bst (r1) ?_
    refine ifp (rfl) ?_
    rfl
  | true =>
    have r5' := r5 rfl
    obtain ⟨h3, eh3⟩ : ∃ h3, h3 = uA h2 4 ln (iI v) := ⟨_, rfl⟩
    have ke3 : Ke [806, 807] [4] [] [] h h3 := by rw [eh3]; exact (ke2.w (by decide) (by decide) (by decide) (by decide)).b 4 _ _ (by decide)
    have sz3 : sz h3 = sz h := by rw [eh3]; show sz h2 = sz h; omega
    have hS3 := hS.e hz ke3 (by decide)
    have g63 : gI h3 806 1 = iI (q : Int) := by rw [eh3]; exact r4
    have hC3 := hC.e hz ke3 (by decide) (by decide)
    obtain ⟨s1, s0⟩ := v_sign (N := N) hS3 hC3 (p := q) (by omega) g63 (c := 59) (by omega) (by omega)
    have a4 : sA h2 (some 4) (iI ln) (iI v) = some h3 := by rw [eh3]; exact sAv (ss_4 hS2) (by omega) (by omega)
    have kk : ∀ k, k ≠ ln → aI h3 4 k = aI h 4 k := fun k hk => by
      rw [eh3]
      have := congrFun (ke2.2.1 4 (by decide) (by omega)) k
      simp [HR, hk, this]
    have kl : aI h3 4 ln = iI v := by rw [eh3]; simp [HR]
    by_cases w : pkf bt L q = 59
    · rw [decide_eq_true w]
      refine ⟨uI h3 806 1 (iI ((q + 1 : Nat) : Int)), ?_, ke3.u 806 _ _ (by decide), sz3, by simp [HR], kk, fun _ => kl⟩
      refine bst (oIv cc g6) ?_
      rw [e5]
      refine bst (qIv cc) ?_
      rw [← eh1]
      refine bst (rcv (by rw [ss_1 hS1])) ?_
      refine bst (r1) ?_
      refine ifn (n10) ?_
      refine bst (sR_802_1 hS2) ?_
      refine bst (oIv cc2 r5') ?_
      refine bst (a4) ?_
      refine bst (rcv (by rw [ss_1 hS3])) ?_
      refine bst (s1 w) ?_
      refine bst (zc_i1) ?_
      rfl
    · rw [decide_eq_false w]
      refine ⟨h3, ?_, ke3, sz3, by simpa using g63, kk, fun _ => kl⟩
      refine bst (oIv cc g6) ?_
      rw [e5]
      refine bst (qIv cc) ?_
      rw [← eh1]
      refine bst (rcv (by rw [ss_1 hS1])) ?_
      refine bst (r1) ?_
      refine ifn (n10) ?_
      refine bst (sR_802_1 hS2) ?_
      refine bst (oIv cc2 r5') ?_
      refine bst (a4) ?_
      refine bst (rcv (by rw [ss_1 hS3])) ?_
      refine bst (s0 w) ?_
      refine bst (zc_i0) ?_
      rfl
theorem v_two {N : Nat} (hN : 100000000 ≤ N) {L : Nat} {bt : Nat → Int} {h : Hs} (hS : Sk h) (hz : 70 ≤ sz h) (hC : TC h L bt) {p ln : Nat} (hp : p ≤ 700) (hl : ln < 30) (g6 : gI h 806 1 = iI p) (sg : Bool) : ∃ (ok : Bool) (q : Nat) (h' : Hs), fX8_readTwo N h 1 (iI ln) (iI (b2 sg)) = some (iI (b2 ok), h') ∧ Ke [806, 807] [4, 5] [] [] h h' ∧ sz h' = sz h ∧ gI h' 806 1 = iI (q : Int) ∧ (∀ k, k ≠ ln → aI h' 4 k = aI h 4 k ∧ aI h' 5 k = aI h 5 k) ∧ ((ok, q) = (if (rdN (pkf bt L) false (p + 1)).1 then (if (rdN (pkf bt L) sg (rdN (pkf bt L) false (p + 1)).2.1).1 then (decide (pkf bt L (rdN (pkf bt L) sg (rdN (pkf bt L) false (p + 1)).2.1).2.1 = 59), (rdN (pkf bt L) sg (rdN (pkf bt L) false (p + 1)).2.1).2.1 + (if decide (pkf bt L (rdN (pkf bt L) sg (rdN (pkf bt L) false (p + 1)).2.1).2.1 = 59) then 1 else 0)) else (false, (rdN (pkf bt L) sg (rdN (pkf bt L) false (p + 1)).2.1).2.1)) else (false, (rdN (pkf bt L) false (p + 1)).2.1))) ∧ (ok = true → aI h' 4 ln = iI (rdN (pkf bt L) false (p + 1)).2.2 ∧ aI h' 5 ln = iI (rdN (pkf bt L) sg (rdN (pkf bt L) false (p + 1)).2.1).2.2) := by
  have cc : (sh h 1).1 = 8 := by rw [ss_1 hS]
  obtain ⟨h1, eh1⟩ : ∃ h1, h1 = uI h 806 1 (iI ((p + 1 : Nat) : Int)) := ⟨_, rfl⟩
  have ke1 : Ke [806, 807] [] [] [] h h1 := by rw [eh1]; exact Ke_rf.u 806 _ _ (by decide)
  have sz1 : sz h1 = sz h := by rw [eh1]; rfl
  have hS1 := hS.e hz ke1 (by decide)
  have rb := rdN_b (pkf bt L) false (p + 1)
  obtain ⟨h2, r1, r2, r3, r4, r5⟩ := v_rdN (N := N) hN hS1 (by omega) (hC.e hz ke1 (by decide) (by decide)) (p := p + 1) (by omega) (by rw [eh1]; simp [HR]) false
  generalize rdN (pkf bt L) false (p + 1) = R at *
  obtain ⟨ok, q, v⟩ := R
  simp only at *
  have ke2 : Ke [806, 807] [] [] [] h h2 := ke1.tr r2
  have hS2 := hS.e hz ke2 (by decide)
  have cc2 : (sh h2 1).1 = 8 := by rw [ss_1 hS2]
  have e5 : iI (p : Int) + iI 1 = iI ((p + 1 : Nat) : Int) := by rw [iI_add]; congr 1
  have r1' : fX8_readNumber N h1 1 (iI 0) = some (iI (b2 ok), h2) := r1
  cases ok with
  | false =>
    refine ⟨false, q, h2, ?_, ke2.w (by decide) (by decide) (by decide) (by decide), by omega, r4, fun k _ => ⟨by rw [ke2.2.1 4 (by decide) (by omega)], by rw [ke2.2.1 5 (by decide) (by omega)]⟩, rfl, fun z => by cases z⟩
    simp only [fX8_readTwo, lit]
    refine bst (oIv cc g6) ?_
    rw [e5]
    refine bst (qIv cc) ?_
    rw [← eh1]
    refine bst (rcv (by rw [ss_1 hS1])) ?_
    refine bst (r1') ?_
    refine ifp (rfl) ?_
    rfl
  | true =>
    have r5' := r5 rfl
    obtain ⟨h3, eh3⟩ : ∃ h3, h3 = uA h2 4 ln (iI v) := ⟨_, rfl⟩
    have ke3 : Ke [806, 807] [4] [] [] h h3 := by rw [eh3]; exact (ke2.w (by decide) (by decide) (by decide) (by decide)).b 4 _ _ (by decide)
    have sz3 : sz h3 = sz h := by rw [eh3]; show sz h2 = sz h; omega
    have hS3 := hS.e hz ke3 (by decide)
    have g63 : gI h3 806 1 = iI (q : Int) := by rw [eh3]; exact r4
    have hC3 := hC.e hz ke3 (by decide) (by decide)
    have a4 : sA h2 (some 4) (iI ln) (iI v) = some h3 := by rw [eh3]; exact sAv (ss_4 hS2) (by omega) (by omega)
    have kk : ∀ k, k ≠ ln → aI h3 4 k = aI h 4 k := fun k hk => by
      rw [eh3]
      have := congrFun (ke2.2.1 4 (by decide) (by omega)) k
      simp [HR, hk, this]
    have kl : aI h3 4 ln = iI v := by rw [eh3]; simp [HR]
    have rb2 := rdN_b (pkf bt L) sg q
    obtain ⟨h4, t1, t2, t3, t4, t5⟩ := v_rdN (N := N) hN hS3 (by omega) hC3 (p := q) (by omega) g63 sg
    generalize rdN (pkf bt L) sg q = R2 at *
    obtain ⟨ok2, q2, v2⟩ := R2
    simp only at *
    have ke4 : Ke [806, 807] [4, 5] [] [] h h4 := (ke3.w (by decide) (by decide) (by decide) (by decide)).tr (t2.w (by decide) (by decide) (by decide) (by decide))
    have hS4 := hS.e hz ke4 (by decide)
    have cc4 : (sh h4 1).1 = 8 := by rw [ss_1 hS4]
    have hz4 : 70 ≤ sz h4 := by omega
    have k44 : aI h4 4 = aI h3 4 := t2.2.1 4 (by decide) (by omega)
    have k45 : aI h4 5 = aI h 5 := by rw [t2.2.1 5 (by decide) (by omega), ke3.2.1 5 (by decide) (by omega)]
    cases ok2 with
    | false =>
      refine ⟨false, q2, h4, ?_, ke4, by omega, t4, fun k hk => ⟨by rw [k44]; exact kk k hk, by rw [k45]⟩, rfl, fun z => by cases z⟩
      simp only [fX8_readTwo, lit]
      refine bst (oIv cc g6) ?_
      rw [e5]
      refine bst (qIv cc) ?_
      rw [← eh1]
      refine bst (rcv (by rw [ss_1 hS1])) ?_
      refine bst (r1') ?_
      refine ifn (n10) ?_
      refine bst (sR_802_1 hS2) ?_
      refine bst (oIv cc2 r5') ?_
      refine bst (a4) ?_
      refine bst (rcv (by rw [ss_1 hS3])) ?_
      refine bst (t1) ?_
      refine ifp (rfl) ?_
      rfl
    | true =>
      have t5' := t5 rfl
      obtain ⟨h5, eh5⟩ : ∃ h5, h5 = uA h4 5 ln (iI v2) := ⟨_, rfl⟩
      have ke5 : Ke [806, 807] [4, 5] [] [] h h5 := by rw [eh5]; exact ke4.b 5 _ _ (by decide)
      have sz5 : sz h5 = sz h := by rw [eh5]; show sz h4 = sz h; omega
      have hS5 := hS.e hz ke5 (by decide)
      have g65 : gI h5 806 1 = iI (q2 : Int) := by rw [eh5]; exact t4
      obtain ⟨s1, s0⟩ := v_sign (N := N) hS5 (hC.e hz ke5 (by decide) (by decide)) (p := q2) (by omega) g65 (c := 59) (by omega) (by omega)
      have a5 : sA h4 (some 5) (iI ln) (iI v2) = some h5 := by rw [eh5]; exact sAv (ss_5 hS4) (by omega) (by omega)
      have kk5 : ∀ k, k ≠ ln → aI h5 4 k = aI h 4 k ∧ aI h5 5 k = aI h 5 k := fun k hk => by
        have y1 : aI h4 4 k = aI h 4 k := by rw [k44]; exact kk k hk
        have y2 : aI h4 5 k = aI h 5 k := by rw [k45]
        rw [eh5]
        simp [HR, hk, y1, y2]
      have kl5 : aI h5 4 ln = iI v ∧ aI h5 5 ln = iI v2 := by
        have y1 : aI h4 4 ln = iI v := by rw [k44]; exact kl
        rw [eh5]
        simp [HR, y1]
      by_cases w : pkf bt L q2 = 59
      · refine ⟨true, q2 + 1, uI h5 806 1 (iI ((q2 + 1 : Nat) : Int)), ?_, ke5.u 806 _ _ (by decide), sz5, by simp [HR], kk5, by simp [w], fun _ => kl5⟩
        simp only [fX8_readTwo, lit]
        refine bst (oIv cc g6) ?_
        rw [e5]
        refine bst (qIv cc) ?_
        rw [← eh1]
        refine bst (rcv (by rw [ss_1 hS1])) ?_
        refine bst (r1') ?_
        refine ifn (n10) ?_
        refine bst (sR_802_1 hS2) ?_
        refine bst (oIv cc2 r5') ?_
        refine bst (a4) ?_
        refine bst (rcv (by rw [ss_1 hS3])) ?_
        refine bst (t1) ?_
        refine ifn (n10) ?_
        refine bst (sR_803_1 hS4) ?_
        refine bst (oIv cc4 t5') ?_
        refine bst (a5) ?_
        refine bst (rcv (by rw [ss_1 hS5])) ?_
        refine bst (s1 w) ?_
        refine bst (zc_i1) ?_
        rfl
      · refine ⟨false, q2, h5, ?_, ke5, sz5, g65, kk5, by simp [w], fun z => by cases z⟩
        simp only [fX8_readTwo, lit]
        refine bst (oIv cc g6) ?_
        rw [e5]
        refine bst (qIv cc) ?_
        rw [← eh1]
        refine bst (rcv (by rw [ss_1 hS1])) ?_
        refine bst (r1') ?_
        refine ifn (n10) ?_
        refine bst (sR_802_1 hS2) ?_
        refine bst (oIv cc2 r5') ?_
        refine bst (a4) ?_
        refine bst (rcv (by rw [ss_1 hS3])) ?_
        refine bst (t1) ?_
        refine ifn (n10) ?_
        refine bst (sR_803_1 hS4) ?_
        refine bst (oIv cc4 t5') ?_
        refine bst (a5) ?_
        refine bst (rcv (by rw [ss_1 hS5])) ?_
        refine bst (s0 w) ?_
        refine bst (zc_i0) ?_
        rfl
theorem v_rdLC {N : Nat} (hN : 100000000 ≤ N) {L : Nat} {bt : Nat → Int} {h : Hs} (hS : Sk h) (hz : 70 ≤ sz h) (hC : TC h L bt) {p ln : Nat} (hp : p ≤ 700) (hl : ln < 30) (g6 : gI h 806 1 = iI p) : ∃ h', fX8_readLine N h 1 (iI ln) = some (iI (b2 (rdL (pkf bt L) p).1), h') ∧ Ke [806, 807] [3, 4, 5] [] [] h h' ∧ sz h' = sz h ∧ gI h' 806 1 = iI (((rdL (pkf bt L) p).2.1 : Nat) : Int) ∧ LnA h h' 3 4 5 ln ∧ ((rdL (pkf bt L) p).1 = true → aI h' 3 ln = iI (rdL (pkf bt L) p).2.2.1 ∧ aI h' 4 ln = iI (rdL (pkf bt L) p).2.2.2.1 ∧ aI h' 5 ln = iI (rdL (pkf bt L) p).2.2.2.2) := by
  have rc8 : rc 8 h (some 1) = some 1 := rcv (by rw [ss_1 hS])
  have vp := v_peek (N := N) hS hC (by omega) g6
  have b := pkf_b hC p
  obtain ⟨h4, eh4⟩ : ∃ h4, h4 = uA h 3 ln (iI (pkf bt L p)) := ⟨_, rfl⟩
  have a4 : sA h (some 3) (iI ln) (iI (pkf bt L p)) = some h4 := by rw [eh4]; exact sAv (ss_3 hS) (by omega) (by omega)
  have ke4 : Ke [806, 807] [3, 4, 5] [] [] h h4 := by rw [eh4]; exact Ke_rf.b 3 _ _ (by decide)
  have hS4 := hS.e hz ke4 (by decide)
  obtain ⟨h6, eh6⟩ : ∃ h6, h6 = uA h4 5 ln (iI 0) := ⟨_, rfl⟩
  have a6 : sA h4 (some 5) (iI ln) (iI 0) = some h6 := by rw [eh6]; exact sAv (ss_5 hS4) (by omega) (by omega)
  have ke6 : Ke [806, 807] [3, 4, 5] [] [] h h6 := by rw [eh6]; exact ke4.b 5 _ _ (by decide)
  have sz6 : sz h6 = sz h := by rw [eh6, eh4]; rfl
  have hS6 := hS.e hz ke6 (by decide)
  have hC6 := hC.e hz ke6 (by decide) (by decide)
  have g66 : gI h6 806 1 = iI p := by rw [eh6, eh4]; exact g6
  have rc86 : rc 8 h6 (some 1) = some 1 := rcv (by rw [ss_1 hS6])
  have ln6 : LnA h h6 3 4 5 ln := fun k hk => by rw [eh6, eh4]; simp [HR, hk]
  have l3 : aI h6 3 ln = iI (pkf bt L p) := by rw [eh6, eh4]; simp [HR]
  have l5 : aI h6 5 ln = iI 0 := by rw [eh6]; simp [HR]
  have q1 : iI (pkf bt L p) = iI 115 ↔ pkf bt L p = 115 := iI_eq (by omega) (by omega) (by omega) (by omega)
  have q2 : iI (pkf bt L p) = iI 116 ↔ pkf bt L p = 116 := iI_eq (by omega) (by omega) (by omega) (by omega)
  have q3 : iI (pkf bt L p) = iI 117 ↔ pkf bt L p = 117 := iI_eq (by omega) (by omega) (by omega) (by omega)
  have q4 : iI (pkf bt L p) = iI 119 ↔ pkf bt L p = 119 := iI_eq (by omega) (by omega) (by omega) (by omega)
  have zcb : ∀ b : Bool, zc (iI (b2 b)) = some (iI (b2 b)) := fun b => by cases b <;> decide
  -- one number
  have one : ∀ sg : Bool, pkf bt L p = 115 ∨ pkf bt L p = 117 → sg = decide (pkf bt L p = 115) → ∃ h', fX8_readOne N h6 1 (iI ln) (iI (b2 sg)) = some (iI (b2 (rdL (pkf bt L) p).1), h') ∧ Ke [806, 807] [3, 4, 5] [] [] h h' ∧ sz h' = sz h ∧ gI h' 806 1 = iI (((rdL (pkf bt L) p).2.1 : Nat) : Int) ∧ LnA h h' 3 4 5 ln ∧ ((rdL (pkf bt L) p).1 = true → aI h' 3 ln = iI (rdL (pkf bt L) p).2.2.1 ∧ aI h' 4 ln = iI (rdL (pkf bt L) p).2.2.2.1 ∧ aI h' 5 ln = iI (rdL (pkf bt L) p).2.2.2.2) := by
    intro sg hw hsg
    obtain ⟨h', r1, r2, r3, r4, r5, r6⟩ := v_one (N := N) hN hS6 (by omega) hC6 hp hl g66 sg
    have er : rdL (pkf bt L) p = if (rdN (pkf bt L) sg (p + 1)).1 then rdE (pkf bt L) (rdN (pkf bt L) sg (p + 1)).2.1 (pkf bt L p, (rdN (pkf bt L) sg (p + 1)).2.2, 0) else (false, (rdN (pkf bt L) sg (p + 1)).2.1, (0, 0, 0)) := by
      unfold rdL
      rw [if_pos hw, hsg]
    rw [er]
    generalize rdN (pkf bt L) sg (p + 1) = R at *
    obtain ⟨ok, q, v⟩ := R
    simp only at *
    have ke : Ke [806, 807] [3, 4, 5] [] [] h h' := ke6.tr (r2.w (by decide) (by decide) (by decide) (by decide))
    have lnA : LnA h h' 3 4 5 ln := fun k hk => by
      rw [r2.2.1 3 (by decide) (by omega), r2.2.1 5 (by decide) (by omega), r5 k hk]
      exact ln6 k hk
    cases ok with
    | false => exact ⟨h', r1, ke, by omega, by simpa using r4, lnA, fun z => by cases z⟩
    | true =>
      have x3 : aI h' 3 ln = iI (pkf bt L p) := by rw [r2.2.1 3 (by decide) (by omega)]; exact l3
      have x5 : aI h' 5 ln = iI 0 := by rw [r2.2.1 5 (by decide) (by omega)]; exact l5
      by_cases w : pkf bt L q = 59
      · have ee : rdE (pkf bt L) q (pkf bt L p, v, 0) = (true, q + 1, (pkf bt L p, v, 0)) := by unfold rdE; rw [if_pos w]
        rw [if_pos rfl, ee]
        rw [decide_eq_true w] at r1 r4
        exact ⟨h', r1, ke, by omega, r4, lnA, fun _ => ⟨x3, r6 rfl, x5⟩⟩
      · have ee : rdE (pkf bt L) q (pkf bt L p, v, 0) = (false, q, (pkf bt L p, v, 0)) := by unfold rdE; rw [if_neg w]
        rw [if_pos rfl, ee]
        rw [decide_eq_false w] at r1 r4
        exact ⟨h', r1, ke, by omega, by simpa using r4, lnA, fun z => by cases z⟩
  have two : ∀ sg : Bool, ¬ (pkf bt L p = 115 ∨ pkf bt L p = 117) → pkf bt L p = 116 ∨ pkf bt L p = 119 → sg = decide (pkf bt L p = 119) → ∃ h', fX8_readTwo N h6 1 (iI ln) (iI (b2 sg)) = some (iI (b2 (rdL (pkf bt L) p).1), h') ∧ Ke [806, 807] [3, 4, 5] [] [] h h' ∧ sz h' = sz h ∧ gI h' 806 1 = iI (((rdL (pkf bt L) p).2.1 : Nat) : Int) ∧ LnA h h' 3 4 5 ln ∧ ((rdL (pkf bt L) p).1 = true → aI h' 3 ln = iI (rdL (pkf bt L) p).2.2.1 ∧ aI h' 4 ln = iI (rdL (pkf bt L) p).2.2.2.1 ∧ aI h' 5 ln = iI (rdL (pkf bt L) p).2.2.2.2) := by
    intro sg hw0 hw hsg
    obtain ⟨ok', q', h', r1, r2, r3, r4, r5, r6, r7⟩ := v_two (N := N) hN hS6 (by omega) hC6 hp hl g66 sg
    have er : rdL (pkf bt L) p = if (rdN (pkf bt L) false (p + 1)).1 then (if (rdN (pkf bt L) sg (rdN (pkf bt L) false (p + 1)).2.1).1 then rdE (pkf bt L) (rdN (pkf bt L) sg (rdN (pkf bt L) false (p + 1)).2.1).2.1 (pkf bt L p, (rdN (pkf bt L) false (p + 1)).2.2, (rdN (pkf bt L) sg (rdN (pkf bt L) false (p + 1)).2.1).2.2) else (false, (rdN (pkf bt L) sg (rdN (pkf bt L) false (p + 1)).2.1).2.1, (0, 0, 0))) else (false, (rdN (pkf bt L) false (p + 1)).2.1, (0, 0, 0)) := by
      unfold rdL
      rw [if_neg hw0, if_pos hw, hsg]
    rw [er]
    generalize rdN (pkf bt L) false (p + 1) = R at *
    obtain ⟨ok, q, v⟩ := R
    simp only at *
    have ke : Ke [806, 807] [3, 4, 5] [] [] h h' := ke6.tr (r2.w (by decide) (by decide) (by decide) (by decide))
    have lnA : LnA h h' 3 4 5 ln := fun k hk => by
      rw [r2.2.1 3 (by decide) (by omega), (r5 k hk).1, (r5 k hk).2]
      exact ln6 k hk
    cases ok with
    | false =>
      rw [if_neg (by decide)] at r6
      cases r6
      exact ⟨h', r1, ke, by omega, r4, lnA, fun z => by cases z⟩
    | true =>
      rw [if_pos rfl] at r6
      rw [if_pos rfl]
      generalize rdN (pkf bt L) sg q = R2 at *
      obtain ⟨ok2, q2, v2⟩ := R2
      simp only at *
      have x3 : aI h' 3 ln = iI (pkf bt L p) := by rw [r2.2.1 3 (by decide) (by omega)]; exact l3
      cases ok2 with
      | false =>
        rw [if_neg (by decide)] at r6
        cases r6
        exact ⟨h', r1, ke, by omega, r4, lnA, fun z => by cases z⟩
      | true =>
        rw [if_pos rfl] at r6
        rw [if_pos rfl]
        by_cases w : pkf bt L q2 = 59
        · have ee : rdE (pkf bt L) q2 (pkf bt L p, v, v2) = (true, q2 + 1, (pkf bt L p, v, v2)) := by unfold rdE; rw [if_pos w]
          rw [ee]
          rw [decide_eq_true w] at r6
          cases r6
          exact ⟨h', r1, ke, by omega, r4, lnA, fun _ => ⟨x3, r7 rfl⟩⟩
        · have ee : rdE (pkf bt L) q2 (pkf bt L p, v, v2) = (false, q2, (pkf bt L p, v, v2)) := by unfold rdE; rw [if_neg w]
          rw [ee]
          rw [decide_eq_false w] at r6
          cases r6
          exact ⟨h', r1, ke, by omega, r4, lnA, fun z => by cases z⟩
  simp only [fX8_readLine, lit]
  by_cases w1 : pkf bt L p = 115
  · obtain ⟨h', r1, r2⟩ := one true (Or.inl w1) (decide_eq_true w1).symm
    refine ⟨h', ?_, r2⟩
    refine bst (rc8) ?_
    refine bst (vp) ?_
    refine bst (sR_801_1 hS) ?_
    refine bst (a4) ?_
    refine bst (sR_803_1 hS4) ?_
    refine bst (a6) ?_
    refine ifp (q1.mpr w1) ?_
    refine bst (rc86) ?_
    refine bst (r1) ?_
    refine bst (zcb _) ?_
    rfl
  · by_cases w2 : pkf bt L p = 116
    · obtain ⟨h', r1, r2⟩ := two false (by omega) (Or.inl w2) (decide_eq_false (by omega)).symm
      refine ⟨h', ?_, r2⟩
      refine bst (rc8) ?_
      refine bst (vp) ?_
      refine bst (sR_801_1 hS) ?_
      refine bst (a4) ?_
      refine bst (sR_803_1 hS4) ?_
      refine bst (a6) ?_
      refine ifn (fun z => w1 (q1.mp z)) ?_
      refine ifp (q2.mpr w2) ?_
      refine bst (rc86) ?_
      refine bst (r1) ?_
      refine bst (zcb _) ?_
      rfl
    · by_cases w3 : pkf bt L p = 117
      · obtain ⟨h', r1, r2⟩ := one false (Or.inr w3) (decide_eq_false w1).symm
        refine ⟨h', ?_, r2⟩
        refine bst (rc8) ?_
        refine bst (vp) ?_
        refine bst (sR_801_1 hS) ?_
        refine bst (a4) ?_
        refine bst (sR_803_1 hS4) ?_
        refine bst (a6) ?_
        refine ifn (fun z => w1 (q1.mp z)) ?_
        refine ifn (fun z => w2 (q2.mp z)) ?_
        refine ifp (q3.mpr w3) ?_
        refine bst (rc86) ?_
        refine bst (r1) ?_
        refine bst (zcb _) ?_
        rfl
      · by_cases w4 : pkf bt L p = 119
        · obtain ⟨h', r1, r2⟩ := two true (by omega) (Or.inr w4) (decide_eq_true w4).symm
          refine ⟨h', ?_, r2⟩
          refine bst (rc8) ?_
          refine bst (vp) ?_
          refine bst (sR_801_1 hS) ?_
          refine bst (a4) ?_
          refine bst (sR_803_1 hS4) ?_
          refine bst (a6) ?_
          refine ifn (fun z => w1 (q1.mp z)) ?_
          refine ifn (fun z => w2 (q2.mp z)) ?_
          refine ifn (fun z => w3 (q3.mp z)) ?_
          refine ifp (q4.mpr w4) ?_
          refine bst (rc86) ?_
          refine bst (r1) ?_
          refine bst (zcb _) ?_
          rfl
        · have er : rdL (pkf bt L) p = (false, p, (0, 0, 0)) := by
            unfold rdL
            rw [if_neg (by omega), if_neg (by omega)]
          rw [er]
          refine ⟨h6, ?_, ke6, sz6, g66, ln6, fun z => by cases z⟩
          refine bst (rc8) ?_
          refine bst (vp) ?_
          refine bst (sR_801_1 hS) ?_
          refine bst (a4) ?_
          refine bst (sR_803_1 hS4) ?_
          refine bst (a6) ?_
          refine ifn (fun z => w1 (q1.mp z)) ?_
          refine ifn (fun z => w2 (q2.mp z)) ?_
          refine ifn (fun z => w3 (q3.mp z)) ?_
          refine ifn (fun z => w4 (q4.mp z)) ?_
          rfl
theorem L_rdC {N : Nat} (hN : 100000000 ≤ N) {L : Nat} {bt : Nat → Int} : ∀ (f p ln : Nat) (lc : Nat → Int × Int × Int) (fu : Nat) (h : Hs), Sk h → 70 ≤ sz h → TC h L bt → gI h 806 1 = iI p → gI h 805 1 = iI ln → 4 * ln ≤ p → (p < L ∨ ln = 0) → p ≤ 120 → 200 < p + f → f ≤ fu → (∀ k, k < ln → aI h 3 k = iI (lc k).1 ∧ aI h 4 k = iI (lc k).2.1 ∧ aI h 5 k = iI (lc k).2.2) → ∃ h', fX8_readLines_b10 N 1 fu h = some (iI (prs (pkf bt L) L f p ln lc).1, h') ∧ Ke [805, 806, 807] [3, 4, 5] [] [] h h' ∧ sz h' = sz h ∧ gI h' 805 1 = iI (((prs (pkf bt L) L f p ln lc).2.1 : Nat) : Int) ∧ (∀ k, k < (prs (pkf bt L) L f p ln lc).2.1 → aI h' 3 k = iI ((prs (pkf bt L) L f p ln lc).2.2 k).1 ∧ aI h' 4 k = iI ((prs (pkf bt L) L f p ln lc).2.2 k).2.1 ∧ aI h' 5 k = iI ((prs (pkf bt L) L f p ln lc).2.2 k).2.2) := by
  intro f
  induction f with
  | zero =>
    intro p ln lc fu h hS hz hC g6 g5 h4 hpl hp hf hfu ga
    omega
  | succ f ih =>
    intro p ln lc fu h hS hz hC g6 g5 h4 hpl hp hf hfu ga
    obtain ⟨fu, rfl⟩ : ∃ m, fu = m + 1 := ⟨fu - 1, by omega⟩
    have hL := hC.2.1
    have cc : (sh h 1).1 = 8 := by rw [ss_1 hS]
    have rc8 : rc 8 h (some 1) = some 1 := rcv (by rw [ss_1 hS])
    have o5 : oI 8 5 h (some 1) = some (iI ln) := oIv cc g5
    have a1 : ¬ iI 30 ≤ iI (ln : Int) := fun q => by have := (iI_le (by omega) (by omega) (by omega) (by omega)).mp q; omega
    obtain ⟨h1, r1, r2, r3, r4, r5, r6⟩ := v_rdLC (N := N) hN hS hz hC (p := p) (ln := ln) (by omega) (by omega) g6
    have rb := rdL_b bt L p
    have ep : prs (pkf bt L) L (f + 1) p ln lc = if (rdL (pkf bt L) p).1 then (if (rdL (pkf bt L) p).2.1 < L then prs (pkf bt L) L f (rdL (pkf bt L) p).2.1 (ln + 1) (updO lc ln (rdL (pkf bt L) p).2.2) else (-1, ln + 1, updO lc ln (rdL (pkf bt L) p).2.2)) else (((rdL (pkf bt L) p).2.1 : Int), ln, lc) := rfl
    rw [ep]
    generalize rdL (pkf bt L) p = R at *
    obtain ⟨ok, q, c⟩ := R
    simp only at *
    have hS1 := hS.e hz r2 (by decide)
    have cc1 : (sh h1 1).1 = 8 := by rw [ss_1 hS1]
    have g51 : gI h1 805 1 = iI ln := by rw [r2.1 805 1 (by decide) (by omega)]; exact g5
    have un : fX8_readLines_b10 N 1 (fu + 1) h = fX8_readLines_b10_body N (fX8_readLines_b10 N 1 fu) 1 h := rfl
    cases ok with
    | false =>
      refine ⟨h1, ?_, r2.w (by decide) (by decide) (by decide) (by decide), r3, g51, fun k hk => ?_⟩
      · rw [un]
        simp only [fX8_readLines_b10_body, fX8_readLines_b30, lit]
        refine bst (o5) ?_
        refine ifn (a1) ?_
        refine bst (o5) ?_
        refine bst (rc8) ?_
        refine bst (r1) ?_
        refine ifp (rfl) ?_
        refine bst (oIv cc1 r4) ?_
        rfl
      · have hk' : k < ln := hk
        obtain ⟨z1, z2, z3⟩ := r5 k (by omega)
        rw [z1, z2, z3]
        exact ga k hk'
    | true =>
      obtain ⟨rb1, rb2, rb3⟩ := rb
      obtain ⟨x1, x2, -⟩ := rb3 rfl
      obtain ⟨h2, eh2⟩ : ∃ h2, h2 = uI h1 805 1 (iI ((ln + 1 : Nat) : Int)) := ⟨_, rfl⟩
      have ke2 : Ke [805, 806, 807] [3, 4, 5] [] [] h h2 := by rw [eh2]; exact (r2.w (by decide) (by decide) (by decide) (by decide)).u 805 _ _ (by decide)
      have sz2 : sz h2 = sz h := by rw [eh2]; exact r3
      have hS2 := hS.e hz ke2 (by decide)
      have cc2 : (sh h2 1).1 = 8 := by rw [ss_1 hS2]
      have g62 : gI h2 806 1 = iI (q : Int) := by rw [eh2]; simp [HR, r4]
      have g52 : gI h2 805 1 = iI ((ln + 1 : Nat) : Int) := by rw [eh2]; simp [HR]
      have hC2 := hC.e hz ke2 (by decide) (by decide)
      have e5 : iI (ln : Int) + iI 1 = iI ((ln + 1 : Nat) : Int) := by rw [iI_add]; congr 1
      have ga2 : ∀ k, k < ln + 1 → aI h2 3 k = iI (updO lc ln c k).1 ∧ aI h2 4 k = iI (updO lc ln c k).2.1 ∧ aI h2 5 k = iI (updO lc ln c k).2.2 := fun k hk => by
        have y : aI h2 3 k = aI h1 3 k ∧ aI h2 4 k = aI h1 4 k ∧ aI h2 5 k = aI h1 5 k := by rw [eh2]; exact ⟨rfl, rfl, rfl⟩
        rw [y.1, y.2.1, y.2.2]
        by_cases w : k = ln
        · subst w
          rw [updO_s]
          exact r6 rfl
        · rw [updO_n _ _ w]
          obtain ⟨z1, z2, z3⟩ := r5 k w
          rw [z1, z2, z3]
          exact ga k (by omega)
      have lt : iI (q : Int) < iI (L : Int) ↔ (q : Int) < L := iI_lt (by omega) (by omega) (by omega) (by omega)
      by_cases w : q < L
      · rw [if_pos rfl, if_pos w]
        obtain ⟨h', t1, t2, t3, t4, t5⟩ := ih q (ln + 1) (updO lc ln c) fu h2 hS2 (by omega) hC2 g62 g52 (by omega) (Or.inl w) (by omega) (by omega) (by omega) ga2
        refine ⟨h', ?_, ke2.tr t2, by omega, t4, t5⟩
        rw [un]
        simp only [fX8_readLines_b10_body, lit]
        refine bst (o5) ?_
        refine ifn (a1) ?_
        refine bst (o5) ?_
        refine bst (rc8) ?_
        refine bst (r1) ?_
        refine ifn (n10) ?_
        refine bst (oIv cc1 g51) ?_
        rw [e5]
        refine bst (qIv cc1) ?_
        rw [← eh2]
        refine bst (oIv cc2 g62) ?_
        refine bst (oIv cc2 hC2.1) ?_
        refine ifp (lt.mpr (by omega)) ?_
        exact t1
      · rw [if_pos rfl, if_neg w]
        refine ⟨h2, ?_, ke2, sz2, g52, ga2⟩
        rw [un]
        simp only [fX8_readLines_b10_body, lit, iI_neg]
        refine bst (o5) ?_
        refine ifn (a1) ?_
        refine bst (o5) ?_
        refine bst (rc8) ?_
        refine bst (r1) ?_
        refine ifn (n10) ?_
        refine bst (oIv cc1 g51) ?_
        rw [e5]
        refine bst (qIv cc1) ?_
        rw [← eh2]
        refine bst (oIv cc2 g62) ?_
        refine bst (oIv cc2 hC2.1) ?_
        refine ifn (fun z => by have := lt.mp z; omega) ?_
        rfl
