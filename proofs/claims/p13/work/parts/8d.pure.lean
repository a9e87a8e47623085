/-! ===== men: both calls end ===== -/
theorem v_q100 {N : Nat} {h : Hs} (v : Int32) : ∃ q, fX11_quotient N h v (iI 100) = some (q, h) := by
  obtain ⟨a, a1, a2, rfl⟩ := iI_ex v
  exact ⟨_, v_quot (N := N) (h := h) (a := a) (b := 100) a1 a2 (by omega) (by omega)⟩
theorem v_longest {N : Nat} {h : Hs} (hS : Sk h) : ∃ v, fX1_longestWork N h 25 = some (v, h) := by
  have c25 : (sh h 25).1 = 1 := by rw [ss_25 hS]
  simp only [fX1_longestWork, fX1_longestWork_b30]
  have o8 : oI 1 8 h (some 25) = some (gI h 108 25) := oIv c25 rfl
  have o7 : oI 1 7 h (some 25) = some (gI h 107 25) := oIv c25 rfl
  have o6 : oI 1 6 h (some 25) = some (gI h 106 25) := oIv c25 rfl
  rw [o8, o7, o6]
  simp only [Option.bind_some]
  by_cases w8 : gI h 108 25 ≤ 0
  · by_cases w7 : gI h 107 25 ≤ 0
    · by_cases w6 : gI h 106 25 ≤ 0
      · exact ⟨_, by rw [if_pos w8, if_pos w7, if_pos w6]⟩
      · exact ⟨_, by rw [if_pos w8, if_pos w7, if_neg w6]⟩
    · exact ⟨_, by rw [if_pos w8, if_neg w7]⟩
  · exact ⟨_, by rw [if_neg w8]⟩
theorem L_menM {N : Nat} (hN : 100000000 ≤ N) {h : Hs} (hS : Sk h) (hz : 70 ≤ sz h) {na : Nat} (hn : na ≤ 40) (k3 : gI h 1234 29 = iI na) (p : Int32) : ∀ (e i f5 f3 f2 fu : Nat), i + e = na → e < fu → f5 ≤ i → f3 ≤ i → f2 ≤ i → OKh [52] h (fX12_men_b39 N 29 fu h p (iI f5) (iI f3) (iI f2) (iI i)) := by
  have c29 : (sh h 29).1 = 12 := by rw [ss_29 hS]
  have o34 : oI 12 34 h (some 29) = some (iI na) := oIv c29 k3
  intro e
  induction e with
  | zero =>
    intro i f5 f3 f2 fu hi hf h5 h3 h2
    obtain ⟨fu, rfl⟩ : ∃ m, fu = m + 1 := ⟨fu - 1, by omega⟩
    have a1 : iI (na : Int) ≤ iI (i : Int) := (iI_le (by omega) (by omega) (by omega) (by omega)).mpr (by omega)
    have un : fX12_men_b39 N 29 (fu + 1) h p (iI f5) (iI f3) (iI f2) (iI i) = fX12_men_b39_body N (fX12_men_b39 N 29 fu) 29 h p (iI f5) (iI f3) (iI f2) (iI i) := rfl
    have lw : iI ((f5 : Int) + f3 + f2) ≤ iI 12 ↔ (f5 : Int) + f3 + f2 ≤ 12 := iI_le (by omega) (by omega) (by omega) (by omega)
    by_cases w : f5 + f3 + f2 ≤ 12
    · obtain ⟨v, h', e1, e2, e3⟩ := v_mF (N := N) hN hS hz (f5 := f5) (f3 := f3) (f2 := f2) (by omega) (by omega) (by omega) p
      have rc12 : rc 12 h (some 29) = some 29 := rcv (by rw [ss_29 hS])
      rw [un]
      simp only [fX12_men_b39_body, fX12_men_b153, lit, iI_add]
      by_cases w2 : v < iI 1000
      · refine ⟨v, h', ?_, e2, e3⟩
        refine bst (o34) ?_
        refine ifp (a1) ?_
        refine ifp (lw.mpr (by omega)) ?_
        refine bst (rc12) ?_
        refine bst (e1) ?_
        refine ifp (w2) ?_
        rfl
      · refine ⟨-2, h', ?_, e2, e3⟩
        refine bst (o34) ?_
        refine ifp (a1) ?_
        refine ifp (lw.mpr (by omega)) ?_
        refine bst (rc12) ?_
        refine bst (e1) ?_
        refine ifn (w2) ?_
        rfl
    · rw [un]
      simp only [fX12_men_b39_body, lit, iI_add]
      refine ⟨-4, h, ?_, Ke_rf, rfl⟩
      refine bst (o34) ?_
      refine ifp (a1) ?_
      refine ifn (fun q => by have := lw.mp q; omega) ?_
      rfl
  | succ e ih =>
    intro i f5 f3 f2 fu hi hf h5 h3 h2
    obtain ⟨fu, rfl⟩ : ∃ m, fu = m + 1 := ⟨fu - 1, by omega⟩
    have a1 : ¬ iI (na : Int) ≤ iI (i : Int) := fun q => by have := (iI_le (by omega) (by omega) (by omega) (by omega)).mp q; omega
    have l : lA 20 h (some 51) (iI (i : Int)) = some (aI h 51 i) := lAv (ss_51 hS) (by omega) (by omega) rfl
    have nx : ∀ g5 g3 g2 : Nat, g5 ≤ i + 1 → g3 ≤ i + 1 → g2 ≤ i + 1 → OKh [52] h (fX12_men_b39 N 29 fu h p (iI g5) (iI g3) (iI g2) (iI ((i : Int) + 1))) := fun g5 g3 g2 q5 q3 q2 => by
      have := ih (i + 1) g5 g3 g2 fu (by omega) (by omega) q5 q3 q2
      simp only [Int.natCast_add, Int.natCast_one] at this
      exact this
    have st : ∃ x5 x3 x2 : Nat, x5 ≤ 1 ∧ x3 ≤ 1 ∧ x2 ≤ 1 ∧ fX12_men_b39 N 29 (fu + 1) h p (iI f5) (iI f3) (iI f2) (iI i) = fX12_men_b39 N 29 fu h p (iI ((f5 + x5 : Nat) : Int)) (iI ((f3 + x3 : Nat) : Int)) (iI ((f2 + x2 : Nat) : Int)) (iI ((i : Int) + 1)) := by
      have un : fX12_men_b39 N 29 (fu + 1) h p (iI f5) (iI f3) (iI f2) (iI i) = fX12_men_b39_body N (fX12_men_b39 N 29 fu) 29 h p (iI f5) (iI f3) (iI f2) (iI i) := rfl
      rw [un]
      simp only [fX12_men_b39_body, fX12_men_b65, fX12_men_b84, fX12_men_b104, lit, iI_add, Option.bind_some]
      by_cases w5 : aI h 51 i = iI 5
      · have w3 : ¬ aI h 51 i = iI 3 := by rw [w5]; decide
        have w2 : ¬ aI h 51 i = iI 2 := by rw [w5]; decide
        refine ⟨1, 0, 0, by omega, by omega, by omega, ?_⟩
        refine bst (o34) ?_
        refine ifn (a1) ?_
        refine bst (sR_1233_29 hS) ?_
        refine bst (l) ?_
        refine ifp (w5) ?_
        refine bst (sR_1233_29 hS) ?_
        refine bst (l) ?_
        refine ifn (w3) ?_
        refine bst (sR_1233_29 hS) ?_
        refine bst (l) ?_
        refine ifn (w2) ?_
        simp
      · by_cases w3 : aI h 51 i = iI 3
        · have w2 : ¬ aI h 51 i = iI 2 := by rw [w3]; decide
          refine ⟨0, 1, 0, by omega, by omega, by omega, ?_⟩
          refine bst (o34) ?_
          refine ifn (a1) ?_
          refine bst (sR_1233_29 hS) ?_
          refine bst (l) ?_
          refine ifn (w5) ?_
          refine bst (sR_1233_29 hS) ?_
          refine bst (l) ?_
          refine ifp (w3) ?_
          refine bst (sR_1233_29 hS) ?_
          refine bst (l) ?_
          refine ifn (w2) ?_
          simp
        · by_cases w2 : aI h 51 i = iI 2
          · refine ⟨0, 0, 1, by omega, by omega, by omega, ?_⟩
            refine bst (o34) ?_
            refine ifn (a1) ?_
            refine bst (sR_1233_29 hS) ?_
            refine bst (l) ?_
            refine ifn (w5) ?_
            refine bst (sR_1233_29 hS) ?_
            refine bst (l) ?_
            refine ifn (w3) ?_
            refine bst (sR_1233_29 hS) ?_
            refine bst (l) ?_
            refine ifp (w2) ?_
            simp
          · refine ⟨0, 0, 0, by omega, by omega, by omega, ?_⟩
            refine bst (o34) ?_
            refine ifn (a1) ?_
            refine bst (sR_1233_29 hS) ?_
            refine bst (l) ?_
            refine ifn (w5) ?_
            refine bst (sR_1233_29 hS) ?_
            refine bst (l) ?_
            refine ifn (w3) ?_
            refine bst (sR_1233_29 hS) ?_
            refine bst (l) ?_
            refine ifn (w2) ?_
            simp
    obtain ⟨x5, x3, x2, b5, b3, b2', hu⟩ := st
    rw [hu]
    exact nx _ _ _ (by omega) (by omega) (by omega)
theorem t_men0 {N : Nat} (hN : 100000000 ≤ N) {h : Hs} (hS : Sk h) (hz : 70 ≤ sz h) {nt na : Nat} (hnt : nt ≤ 40) {as no : Bool} {cr cd wk : Nat → Int} (hG : RChg h nt na as no cr cd wk) (p : Int32) : ∃ (r r' : Int32) (h1 h2 : Hs), fX11_men N h 0 p = some (r, h1) ∧ fX12_men N h1 29 p = some (r', h2) ∧ Ke [] [28, 52] [] [] h h2 ∧ sz h2 = sz h := by
  obtain ⟨t, t1, t2, rfl⟩ := iI_ex p
  obtain ⟨⟨c1, c2⟩, c3⟩ := hG
  have rc1 : rc 1 h (some 25) = some 25 := rcv (by rw [ss_25 hS])
  have up : ∀ {r : Int32} {h1 : Hs}, fX1_leastMen N h 25 (iI t) = some (r, h1) → fX11_men N h 0 (iI t) = some (r, h1) := by
    intro r h1 e
    simp only [fX11_men]
    refine bst (sR_1102_0 hS) ?_
    refine bst (rc1) ?_
    refine bst (e) ?_
    rfl
  have c25 : (sh h 25).1 = 1 := by rw [ss_25 hS]
  have o4 : oI 1 4 h (some 25) = some (iI (b2 as)) := oIv c25 c1
  have iw := v_isW (N := N) (h := h) (x := t) (a := 1) (b := 99) t1 t2 (by omega) (by omega) (by omega) (by omega)
  -- the reference, from any sheet of the class's
  have ref : ∀ h1, Ke [] [28] [] [] h h1 → sz h1 = sz h → OKh [52] h1 (fX12_men N h1 29 (iI t)) := by
    intro h1 ke s1
    have hS1 := hS.e hz ke (by decide)
    have c29 : (sh h1 29).1 = 12 := by rw [ss_29 hS1]
    have o29 : oI 12 29 h1 (some 29) = some (iI (b2 as)) := oIv c29 ((ke.1 1229 29 (by decide) (by omega)).trans c2)
    have mw := v_inW (N := N) (h := h1) (x := t) (a := 1) (b := 99) t1 t2 (by omega) (by omega) (by omega) (by omega)
    simp only [fX12_men, fX12_men_b17, lit, iI_neg]
    cases has : as with
    | false =>
      rw [has] at o29
      refine ⟨iI (-1), h1, ?_, Ke_rf, rfl⟩
      refine bst (o29) ?_
      refine ifp (rfl) ?_
      rfl
    | true =>
      obtain ⟨⟨k1, k2, k3, k4⟩, -⟩ := c3 has
      rw [has] at o29
      have o29' : oI 12 29 h1 (some 29) = some (iI 1) := o29
      by_cases w : 1 ≤ t ∧ t ≤ 99
      · rw [if_pos w] at mw
        have o30 : oI 12 30 h1 (some 29) = some (iI (b2 no)) := oIv c29 ((ke.1 1230 29 (by decide) (by omega)).trans k2)
        cases hno : no with
        | true =>
          rw [hno] at o30
          have o30' : oI 12 30 h1 (some 29) = some (iI 1) := o30
          refine ⟨iI (-2), h1, ?_, Ke_rf, rfl⟩
          refine bst (o29') ?_
          refine ifn (n10) ?_
          refine bst (mw) ?_
          refine ifn (n10) ?_
          refine bst (o30') ?_
          refine ifn (n10) ?_
          rfl
        | false =>
          rw [hno] at o30
          have o30' : oI 12 30 h1 (some 29) = some (iI 0) := o30
          obtain ⟨r, h2, e1, e2⟩ := L_menM (N := N) hN hS1 (by omega) (show na ≤ 40 by omega) ((ke.1 1234 29 (by decide) (by omega)).trans k3) (iI t) na 0 0 0 0 N (by omega) (by omega) (by omega) (by omega) (by omega)
          refine ⟨r, h2, ?_, e2⟩
          refine bst (o29') ?_
          refine ifn (n10) ?_
          refine bst (mw) ?_
          refine ifn (n10) ?_
          refine bst (o30') ?_
          refine ifp (rfl) ?_
          exact e1
      · rw [if_neg w] at mw
        refine ⟨iI (-1), h1, ?_, Ke_rf, rfl⟩
        refine bst (o29') ?_
        refine ifn (n10) ?_
        refine bst (mw) ?_
        refine ifp (rfl) ?_
        rfl
  have cls : OKh [28] h (fX1_leastMen N h 25 (iI t)) := by
    simp only [fX1_leastMen, fX1_leastMen_b17, fX1_leastMen_b34, fX1_leastMen_b61, lit, iI_neg]
    cases has : as with
    | false =>
      rw [has] at o4
      refine ⟨iI (-1), h, ?_, Ke_rf, rfl⟩
      refine bst (o4) ?_
      refine ifp (rfl) ?_
      rfl
    | true =>
      obtain ⟨⟨k1, k2, k3, k4⟩, -, -, k7⟩ := c3 has
      rw [has] at o4
      have o4' : oI 1 4 h (some 25) = some (iI 1) := o4
      by_cases w : 1 ≤ t ∧ t ≤ 99
      · rw [if_pos w] at iw
        have o5 : oI 1 5 h (some 25) = some (iI (b2 (!no))) := oIv c25 k1
        cases hno : no with
        | true =>
          rw [hno] at o5
          have o5' : oI 1 5 h (some 25) = some (iI 0) := o5
          refine ⟨iI (-2), h, ?_, Ke_rf, rfl⟩
          refine bst (o4') ?_
          refine ifn (n10) ?_
          refine bst (iw) ?_
          refine ifn (n10) ?_
          refine bst (o5') ?_
          refine ifp (rfl) ?_
          rfl
        | false =>
          rw [hno] at o5
          have o5' : oI 1 5 h (some 25) = some (iI 1) := o5
          obtain ⟨-, j2, j3, j4⟩ := k7 hno
          obtain ⟨lv, hlv⟩ := v_longest (N := N) hS
          by_cases w1 : lv ≤ iI t
          · obtain ⟨tw, htw⟩ : ∃ x, x = cntB (fun i => decide (wk i = 2)) 0 na := ⟨_, rfl⟩
            obtain ⟨th, hth⟩ : ∃ x, x = cntB (fun i => decide (wk i = 3)) 0 na := ⟨_, rfl⟩
            obtain ⟨fi, hfi⟩ : ∃ x, x = cntB (fun i => decide (wk i = 5)) 0 na := ⟨_, rfl⟩
            have b1 := cntB_le (fun i => decide (wk i = 2)) na 0
            have b2' := cntB_le (fun i => decide (wk i = 3)) na 0
            have b3 := cntB_le (fun i => decide (wk i = 5)) na 0
            rw [← htw] at j2 b1
            rw [← hth] at j3 b2'
            rw [← hfi] at j4 b3
            have wks : fX1_works N h 25 = some (iI ((tw : Int) + th + fi), h) := by
              simp only [fX1_works]
              refine bst (oIv c25 j2) ?_
              refine bst (oIv c25 j3) ?_
              refine bst (oIv c25 j4) ?_
              simp only [iI_add]
            have lw : iI ((tw : Int) + th + fi) ≤ iI 12 ↔ (tw : Int) + th + fi ≤ 12 := iI_le (by omega) (by omega) (by omega) (by omega)
            by_cases w2 : tw + th + fi ≤ 12
            · obtain ⟨v, h', e1, e2, e3⟩ := v_shO (N := N) hN hS hz w2 j2 j3 j4 (iI t)
              obtain ⟨q, hq⟩ := v_q100 (N := N) (h := h') v
              refine ⟨q, h', ?_, e2, e3⟩
              refine bst (o4') ?_
              refine ifn (n10) ?_
              refine bst (iw) ?_
              refine ifn (n10) ?_
              refine bst (o5') ?_
              refine ifn (n10) ?_
              refine bst (rc1) ?_
              refine bst (hlv) ?_
              refine ifp (w1) ?_
              refine bst (rc1) ?_
              refine bst (wks) ?_
              refine ifp (lw.mpr (by omega)) ?_
              refine bst (rc1) ?_
              refine bst (e1) ?_
              refine bst (hq) ?_
              rfl
            · refine ⟨iI (-4), h, ?_, Ke_rf, rfl⟩
              refine bst (o4') ?_
              refine ifn (n10) ?_
              refine bst (iw) ?_
              refine ifn (n10) ?_
              refine bst (o5') ?_
              refine ifn (n10) ?_
              refine bst (rc1) ?_
              refine bst (hlv) ?_
              refine ifp (w1) ?_
              refine bst (rc1) ?_
              refine bst (wks) ?_
              refine ifn (fun q => by have := lw.mp q; omega) ?_
              rfl
          · refine ⟨iI (-2), h, ?_, Ke_rf, rfl⟩
            refine bst (o4') ?_
            refine ifn (n10) ?_
            refine bst (iw) ?_
            refine ifn (n10) ?_
            refine bst (o5') ?_
            refine ifn (n10) ?_
            refine bst (rc1) ?_
            refine bst (hlv) ?_
            refine ifn (w1) ?_
            rfl
      · rw [if_neg w] at iw
        refine ⟨iI (-1), h, ?_, Ke_rf, rfl⟩
        refine bst (o4') ?_
        refine ifn (n10) ?_
        refine bst (iw) ?_
        refine ifp (rfl) ?_
        rfl
  obtain ⟨r, h1, e1, k1, s1⟩ := cls
  obtain ⟨r', h2, e2, k2, s2⟩ := ref h1 k1 s1
  exact ⟨r, r', h1, h2, up e1, e2, (k1.w (by decide) (by decide) (by decide) (by decide)).tr (k2.w (by decide) (by decide) (by decide) (by decide)), by omega⟩
