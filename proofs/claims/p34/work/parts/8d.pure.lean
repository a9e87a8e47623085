/-! ===== men: both calls end ===== -/
theorem v_q100 {N : Nat} {h : Hs} (v : Int32) : ∃ q, fX11_quotient N h v (iI 100) = some (q, h) := by
  obtain ⟨a, a1, a2, rfl⟩ := iI_ex v
  exact ⟨_, v_quot (N := N) (h := h) (a := a) (b := 100) a1 a2 (by omega) (by omega)⟩
theorem v_longest {N : Nat} {h : Hs} (hS : Sk h) : ∃ v, fX1_longestWork N h 25 = some (v, h) := by
  have c25 : (sh h 25).1 = 1 := by rw [ss_25 hS]
  simp only [fX1_longestWork, fX1_longestWork_b30]
  have o8 : oI 1 8 h (some 25) = some (gI h 108 25) := oIv c25 rfl
  have o7 : oI 1 7 h (some 25) = some (gI h 107 25) := oIv c25 rfl
  have o6 : oI 1 6 h (some 25) = some (gI h 106 25) := oIv c25 rfl
  rw [o8, o7, o6]
  simp only [Option.bind_some]
  by_cases w8 : gI h 108 25 ≤ 0
  · by_cases w7 : gI h 107 25 ≤ 0
    · by_cases w6 : gI h 106 25 ≤ 0
      · exact ⟨_, by rw [if_pos w8, if_pos w7, if_pos w6]⟩
      · exact ⟨_, by rw [if_pos w8, if_pos w7, if_neg w6]⟩
    · exact ⟨_, by rw [if_pos w8, if_neg w7]⟩
  · exact ⟨_, by rw [if_neg w8]⟩
theorem L_menM {N : Nat} (hN : 100000000 ≤ N) {h : Hs} (hS : Sk h) (hz : 70 ≤ sz h) {na : Nat} (hn : na ≤ 40) (k3 : gI h 1234 29 = iI na) (p : Int32) : ∀ (e i f5 f3 f2 fu : Nat), i + e = na → e < fu → f5 ≤ i → f3 ≤ i → f2 ≤ i → OKh [52] h (fX12_men_b39 N 29 fu h p (iI f5) (iI f3) (iI f2) (iI i)) := by
  have c29 : (sh h 29).1 = 12 := by rw [ss_29 hS]
  have o34 : oI 12 34 h (some 29) = some (iI na) := oIv c29 k3
  intro e
  induction e with
  | zero =>
    intro i f5 f3 f2 fu hi hf h5 h3 h2
    obtain ⟨fu, rfl⟩ : ∃ m, fu = m + 1 := ⟨fu - 1, by omega⟩
    have a1 : iI (na : Int) ≤ iI (i : Int) := (iI_le (by omega) (by omega) (by omega) (by omega)).mpr (by omega)
    have un : fX12_men_b39 N 29 (fu + 1) h p (iI f5) (iI f3) (iI f2) (iI i) = fX12_men_b39_body N (fX12_men_b39 N 29 fu) 29 h p (iI f5) (iI f3) (iI f2) (iI i) := rfl
    have lw : iI ((f5 : Int) + f3 + f2) ≤ iI 12 ↔ (f5 : Int) + f3 + f2 ≤ 12 := iI_le (by omega) (by omega) (by omega) (by omega)
    by_cases w : f5 + f3 + f2 ≤ 12
    · obtain ⟨v, h', e1, e2, e3⟩ := v_mF (N := N) hN hS hz (f5 := f5) (f3 := f3) (f2 := f2) (by omega) (by omega) (by omega) p
      have rc12 : rc 12 h (some 29) = some 29 := rcv (by rw [ss_29 hS])
      rw [un]
      simp only [fX12_men_b39_body, fX12_men_b153, lit, iI_add]
      by_cases w2 : v < iI 1000
      · refine ⟨v, h', ?_, e2, e3⟩
        refine bst (o34) ?_
        refine ifp (a1) ?_
        refine ifp (lw.mpr (by omega)) ?_
        refine bst (rc12) ?_
        refine bst (e1) ?_
        refine ifp (w2) ?_
        rfl
      · refine ⟨-2, h', ?_, e2, e3⟩
        refine bst (o34) ?_
        refine ifp (a1) ?_
        refine ifp (lw.mpr (by omega)) ?_
        refine bst (rc12) ?_
        refine bst (e1) ?_
        refine ifn (w2) ?_
        rfl
    · rw [un]
      simp only [fX12_men_b39_body, lit, iI_add]
      refine ⟨-4, h, ?_, Ke_rf, rfl⟩
      refine bst (o34) ?_
      refine ifp (a1) ?_
      refine ifn (fun q => by have := lw.mp q; omega) ?_
      rfl
  | succ e ih =>
    intro i f5 f3 f2 fu hi hf h5 h3 h2
    obtain ⟨fu, rfl⟩ : ∃ m, fu = m + 1 := ⟨fu - 1, by omega⟩
    have a1 : ¬ iI (na : Int) ≤ iI (i : Int) := fun q => by have := (iI_le (by omega) (by omega) (by omega) (by omega)).mp q; omega
    have l : lA 20 h (some 51) (iI (i : Int)) = some (aI h 51 i) := lAv (ss_51 hS) (by omega) (by omega) rfl
    have nx : ∀ g5 g3 g2 : Nat, g5 ≤ i + 1 → g3 ≤ i + 1 → g2 ≤ i + 1 → OKh [52] h (fX12_men_b39 N 29 fu h p (iI g5) (iI g3) (iI g2) (iI ((i : Int) + 1))) := fun g5 g3 g2 q5 q3 q2 => by
      have := ih (i + 1) g5 g3 g2 fu (by omega) (by omega) q5 q3 q2
      simp only [Int.natCast_add, Int.natCast_one] at this
      exact this
    have st : ∃ x5 x3 x2 : Nat, x5 ≤ 1 ∧ x3 ≤ 1 ∧ x2 ≤ 1 ∧ fX12_men_b39 N 29 (fu + 1) h p (iI f5) (iI f3) (iI f2) (iI i) = fX12_men_b39 N 29 fu h p (iI ((f5 + x5 : Nat) : Int)) (iI ((f3 + x3 : Nat) : Int)) (iI ((f2 + x2 : Nat) : Int)) (iI ((i : Int) + 1)) := by
      have un : fX12_men_b39 N 29 (fu + 1) h p (iI f5) (iI f3) (iI f2) (iI i) = fX12_men_b39_body N (fX12_men_b39 N 29 fu) 29 h p (iI f5) (iI f3) (iI f2) (iI i) := rfl
      rw [un]
      simp only [fX12_men_b39_body, fX12_men_b65, fX12_men_b84, fX12_men_b104, lit, iI_add, Option.bind_some]
      by_cases w5 : aI h 51 i = iI 5
      · have w3 : ¬ aI h 51 i = iI 3 := by rw [w5]; decide
        have w2 : ¬ aI h 51 i = iI 2 := by rw [w5]; decide
        refine ⟨1, 0, 0, by omega, by omega, by omega, ?_⟩
        refine bst (o34) ?_
        refine ifn (a1) ?_
        refine bst (sR_1233_29 hS) ?_
        refine bst (l) ?_
        refine ifp (w5) ?_
        refine bst (sR_1233_29 hS) ?_
        refine bst (l) ?_
        refine ifn (w3) ?_
        refine bst (sR_1233_29 hS) ?_
        refine bst (l) ?_
        refine ifn (w2) ?_
        simp
      · by_cases w3 : aI h 51 i = iI 3
        · have w2 : ¬ aI h 51 i = iI 2 := by rw [w3]; decide
          refine ⟨0, 1, 0, by omega, by omega, by omega, ?_⟩
          refine bst (o34) ?_
          refine ifn (a1) ?_
          refine bst (sR_1233_29 hS) ?_
          refine bst (l) ?_
          refine ifn (w5) ?_
          refine bst (sR_1233_29 hS) ?_
          refine bst (l) ?_
          refine ifp (w3) ?_
          refine bst (sR_1233_29 hS) ?_
          refine bst (l) ?_
          refine ifn (w2) ?_
          simp
        · by_cases w2 : aI h 51 i = iI 2
          · refine ⟨0, 0, 1, by omega, by omega, by omega, ?_⟩
            refine bst (o34) ?_
            refine ifn (a1) ?_
            refine bst (sR_1233_29 hS) ?_
            refine bst (l) ?_
            refine ifn (w5) ?_
            refine bst (sR_1233_29 hS) ?_
            refine bst (l) ?_
            refine ifn (w3) ?_
            refine bst (sR_1233_29 hS) ?_
            refine bst (l) ?_
            refine ifp (w2) ?_
            simp
          · refine ⟨0, 0, 0, by omega, by omega, by omega, ?_⟩
            refine bst (o34) ?_
            refine ifn (a1) ?_
            refine bst (sR_1233_29 hS) ?_
            refine bst (l) ?_
            refine ifn (w5) ?_
            refine bst (sR_1233_29 hS) ?_
            refine bst (l) ?_
            refine ifn (w3) ?_
            refine bst (sR_1233_29 hS) ?_
            refine bst (l) ?_
            refine ifn (w2) ?_
            simp
    obtain ⟨x5, x3, x2, b5, b3, b2', hu⟩ := st
    rw [hu]
    exact nx _ _ _ (by omega) (by omega) (by omega)
theorem t_men0 {N : Nat} (hN : 100000000 ≤ N) {h : Hs} (hS : Sk h) (hz : 70 ≤ sz h) {nt na : Nat} (hnt : nt ≤ 40) {as no : Bool} {cr cd wk : Nat → Int} (hG : RChg h nt na as no cr cd wk) (p : Int32) : ∃ (r r' : Int32) (h1 h2 : Hs), fX11_men N h 0 p = some (r, h1) ∧ fX12_men N h1 29 p = some (r', h2) ∧ Ke [] [28, 52] [] [] h h2 ∧ sz h2 = sz h := by
  obtain ⟨t, t1, t2, rfl⟩ := iI_ex p
  obtain ⟨⟨c1, c2⟩, c3⟩ := hG
  have rc1 : rc 1 h (some 25) = some 25 := rcv (by rw [ss_25 hS])
  have up : ∀ {r : Int32} {h1 : Hs}, fX1_leastMen N h 25 (iI t) = some (r, h1) → fX11_men N h 0 (iI t) = some (r, h1) := by
    intro r h1 e
    simp only [fX11_men]
    refine bst (sR_1102_0 hS) ?_
    refine bst (rc1) ?_
    refine bst (e) ?_
    rfl
  have c25 : (sh h 25).1 = 1 := by rw [ss_25 hS]
  have o4 : oI 1 4 h (some 25) = some (iI (b2 as)) := oIv c25 c1
  have iw := v_isW (N := N) (h := h) (x := t) (a := 1) (b := 99) t1 t2 (by omega) (by omega) (by omega) (by omega)
  -- the reference, from any sheet of the class's
  have ref : ∀ h1, Ke [] [28] [] [] h h1 → sz h1 = sz h → OKh [52] h1 (fX12_men N h1 29 (iI t)) := by
    intro h1 ke s1
    have hS1 := hS.e hz ke (by decide)
    have c29 : (sh h1 29).1 = 12 := by rw [ss_29 hS1]
    have o29 : oI 12 29 h1 (some 29) = some (iI (b2 as)) := oIv c29 ((ke.1 1229 29 (by decide) (by omega)).trans c2)
    have mw := v_inW (N := N) (h := h1) (x := t) (a := 1) (b := 99) t1 t2 (by omega) (by omega) (by omega) (by omega)
    simp only [fX12_men, fX12_men_b17, lit, iI_neg]
    cases has : as with
    | false =>
      rw [has] at o29
      refine ⟨iI (-1), h1, ?_, Ke_rf, rfl⟩
      refine bst (o29) ?_
      refine ifp (rfl) ?_
      rfl
    | true =>
      obtain ⟨⟨k1, k2, k3, k4⟩, -⟩ := c3 has
      rw [has] at o29
      have o29' : oI 12 29 h1 (some 29) = some (iI 1) := o29
      by_cases w : 1 ≤ t ∧ t ≤ 99
      · rw [if_pos w] at mw
        have o30 : oI 12 30 h1 (some 29) = some (iI (b2 no)) := oIv c29 ((ke.1 1230 29 (by decide) (by omega)).trans k2)
        cases hno : no with
        | true =>
          rw [hno] at o30
          have o30' : oI 12 30 h1 (some 29) = some (iI 1) := o30
          refine ⟨iI (-2), h1, ?_, Ke_rf, rfl⟩
          refine bst (o29') ?_
          refine ifn (n10) ?_
          refine bst (mw) ?_
          refine ifn (n10) ?_
          refine bst (o30') ?_
          refine ifn (n10) ?_
          rfl
        | false =>
          rw [hno] at o30
          have o30' : oI 12 30 h1 (some 29) = some (iI 0) := o30
          obtain ⟨r, h2, e1, e2⟩ := L_menM (N := N) hN hS1 (by omega) (show na ≤ 40 by omega) ((ke.1 1234 29 (by decide) (by omega)).trans k3) (iI t) na 0 0 0 0 N (by omega) (by omega) (by omega) (by omega) (by omega)
          refine ⟨r, h2, ?_, e2⟩
          refine bst (o29') ?_
          refine ifn (n10) ?_
          refine bst (mw) ?_
          refine ifn (n10) ?_
          refine bst (o30') ?_
          refine ifp (rfl) ?_
          exact e1
      · rw [if_neg w] at mw
        refine ⟨iI (-1), h1, ?_, Ke_rf, rfl⟩
        refine bst (o29') ?_
        refine ifn (n10) ?_
        refine bst (mw) ?_
        refine ifp (rfl) ?_
        rfl
  have cls : OKh [28] h (fX1_leastMen N h 25 (iI t)) := by
    simp only [fX1_leastMen, fX1_leastMen_b17, fX1_leastMen_b34, fX1_leastMen_b61, lit, iI_neg]
    cases has : as with
    | false =>
      rw [has] at o4
      refine ⟨iI (-1), h, ?_, Ke_rf, rfl⟩
      refine bst (o4) ?_
      refine ifp (rfl) ?_
      rfl
    | true =>
      obtain ⟨⟨k1, k2, k3, k4⟩, -, -, k7⟩ := c3 has
      rw [has] at o4
      have o4' : oI 1 4 h (some 25) = some (iI 1) := o4
      by_cases w : 1 ≤ t ∧ t ≤ 99
      · rw [if_pos w] at iw
        have o5 : oI 1 5 h (some 25) = some (iI (b2 (!no))) := oIv c25 k1
        cases hno : no with
        | true =>
          rw [hno] at o5
          have o5' : oI 1 5 h (some 25) = some (iI 0) := o5
          refine ⟨iI (-2), h, ?_, Ke_rf, rfl⟩
          refine bst (o4') ?_
          refine ifn (n10) ?_
          refine bst (iw) ?_
          refine ifn (n10) ?_
          refine bst (o5') ?_
          refine ifp (rfl) ?_
          rfl
        | false =>
          rw [hno] at o5
          have o5' : oI 1 5 h (some 25) = some (iI 1) := o5
          obtain ⟨-, j2, j3, j4⟩ := k7 hno
          obtain ⟨lv, hlv⟩ := v_longest (N := N) hS
          by_cases w1 : lv ≤ iI t
          · obtain ⟨tw, htw⟩ : ∃ x, x = cntB (fun i => decide (wk i = 2)) 0 na := ⟨_, rfl⟩
            obtain ⟨th, hth⟩ : ∃ x, x = cntB (fun i => decide (wk i = 3)) 0 na := ⟨_, rfl⟩
            obtain ⟨fi, hfi⟩ : ∃ x, x = cntB (fun i => decide (wk i = 5)) 0 na := ⟨_, rfl⟩
            have b1 := cntB_le (fun i => decide (wk i = 2)) na 0
            have b2' := cntB_le (fun i => decide (wk i = 3)) na 0
            have b3 := cntB_le (fun i => decide (wk i = 5)) na 0
            rw [← htw] at j2 b1
            rw [← hth] at j3 b2'
            rw [← hfi] at j4 b3
            have wks : fX1_works N h 25 = some (iI ((tw : Int) + th + fi), h) := by
              simp only [fX1_works]
              refine bst (oIv c25 j2) ?_
              refine bst (oIv c25 j3) ?_
              refine bst (oIv c25 j4) ?_
              simp only [iI_add]
            have lw : iI ((tw : Int) + th + fi) ≤ iI 12 ↔ (tw : Int) + th + fi ≤ 12 := iI_le (by omega) (by omega) (by omega) (by omega)
            by_cases w2 : tw + th + fi ≤ 12
            · obtain ⟨v, h', e1, e2, e3⟩ := v_shO (N := N) hN hS hz w2 j2 j3 j4 (iI t)
              obtain ⟨q, hq⟩ := v_q100 (N := N) (h := h') v
              refine ⟨q, h', ?_, e2, e3⟩
              refine bst (o4') ?_
              refine ifn (n10) ?_
              refine bst (iw) ?_
              refine ifn (n10) ?_
              refine bst (o5') ?_
              refine ifn (n10) ?_
              refine bst (rc1) ?_
              refine bst (hlv) ?_
              refine ifp (w1) ?_
              refine bst (rc1) ?_
              refine bst (wks) ?_
              refine ifp (lw.mpr (by omega)) ?_
              refine bst (rc1) ?_
              refine bst (e1) ?_
              refine bst (hq) ?_
              rfl
            · refine ⟨iI (-4), h, ?_, Ke_rf, rfl⟩
              refine bst (o4') ?_
              refine ifn (n10) ?_
              refine bst (iw) ?_
              refine ifn (n10) ?_
              refine bst (o5') ?_
              refine ifn (n10) ?_
              refine bst (rc1) ?_
              refine bst (hlv) ?_
              refine ifp (w1) ?_
              refine bst (rc1) ?_
              refine bst (wks) ?_
              refine ifn (fun q => by have := lw.mp q; omega) ?_
              rfl
          · refine ⟨iI (-2), h, ?_, Ke_rf, rfl⟩
            refine bst (o4') ?_
            refine ifn (n10) ?_
            refine bst (iw) ?_
            refine ifn (n10) ?_
            refine bst (o5') ?_
            refine ifn (n10) ?_
            refine bst (rc1) ?_
            refine bst (hlv) ?_
            refine ifn (w1) ?_
            rfl
      · rw [if_neg w] at iw
        refine ⟨iI (-1), h, ?_, Ke_rf, rfl⟩
        refine bst (o4') ?_
        refine ifn (n10) ?_
        refine bst (iw) ?_
        refine ifp (rfl) ?_
        rfl
  obtain ⟨r, h1, e1, k1, s1⟩ := cls
  obtain ⟨r', h2, e2, k2, s2⟩ := ref h1 k1 s1
  exact ⟨r, r', h1, h2, up e1, e2, (k1.w (by decide) (by decide) (by decide) (by decide)).tr (k2.w (by decide) (by decide) (by decide) (by decide)), by omega⟩
/-! ===== what a cue keeps, and how it goes back ===== -/
theorem qRv {h : Hs} {c j a : Nat} {v : Option Nat} (hs : (sh h a).1 = c) : qR c j h (some a) v = some (uR h (100 * c + j) a v) := by
  simp [qR, hs]
theorem v_cp20 {h : Hs} {a b : Nat} (ha : sh h a = (20, 20)) (hb : sh h b = (20, 20)) : cpA h (some a) (iI 0) (some b) (iI 0) (iI 20) = some (wA h b (fun k => if k < 20 then aI h a k else aI h b k)) := by
  have e0 : ¬ iI 0 < (0 : Int32) := by decide
  have e1 : ¬ iI 20 < (0 : Int32) := by decide
  have e2 : (iI 0).toNatClampNeg = 0 := by decide
  have e3 : (iI 20).toNatClampNeg = 20 := by decide
  simp only [cpA, ha, hb, e0, e1, e2, e3, not_false_eq_true, Nat.zero_add, Nat.le_refl, and_self, if_true, wA]
  congr 1
  congr 1
  congr 1
  congr 1
  funext a' j'
  by_cases w : a' = b
  · rw [if_pos w, if_pos w]
    simp [va_cpy]
  · rw [if_neg w, if_neg w]
theorem L_keepR {N : Nat} {h0 : Hs} (hS0 : Sk h0) (hz : 70 ≤ sz h0) {nr : Nat} {rA : Nat → Nat} (c9 : gI h0 509 14 = iI nr) (cr : nr ≤ 40) (hr17 : ∀ r, r < nr → aR h0 17 r = some (rA r) ∧ 70 ≤ rA r ∧ rA r < sz h0 ∧ sh h0 (rA r) = (4, 0)) (ri : ∀ i j, i < nr → j < nr → rA i = rA j → i = j) : ∀ (e j fu : Nat) (h : Hs), Ke [910, 410, 411, 513, 514] [19] [911, 409] [] h0 h → sz h = sz h0 → (∀ f a, f ≠ 910 → f ≠ 513 → f ≠ 514 → a < 70 → gI h f a = gI h0 f a) → (∀ r, r < nr → (gR h 409 (rA r) = if r < j then gR h0 405 (rA r) else gR h0 409 (rA r)) ∧ (gI h 410 (rA r) = if r < j then gI h0 406 (rA r) else gI h0 410 (rA r)) ∧ (gI h 411 (rA r) = if r < j then gI h0 407 (rA r) else gI h0 411 (rA r))) → j + e = nr → e < fu → ∃ h', fX5_keep_b54 N 14 fu h (iI j) = some h' ∧ Ke [910, 410, 411, 513, 514] [19] [911, 409] [] h0 h' ∧ sz h' = sz h0 ∧ (∀ a, gI h' 910 a = gI h 910 a ∧ gR h' 911 a = gR h 911 a) ∧ (∀ r, r < nr → gR h' 409 (rA r) = gR h0 405 (rA r) ∧ gI h' 410 (rA r) = gI h0 406 (rA r) ∧ gI h' 411 (rA r) = gI h0 407 (rA r)) ∧ (∀ i, i < 20 → aI h' 19 i = aI h0 18 i) ∧ gI h' 513 14 = gI h0 511 14 ∧ gI h' 514 14 = gI h0 512 14 := by
  intro e
  induction e with
  | zero =>
    intro j fu h ke s0 hs hc hj hf
    obtain ⟨fu, rfl⟩ : ∃ m, fu = m + 1 := ⟨fu - 1, by omega⟩
    have hS := hS0.e hz ke (by decide)
    have c14 : (sh h 14).1 = 5 := by rw [ss_14 hS]
    have o9 : oI 5 9 h (some 14) = some (iI nr) := oIv c14 ((ke.1 509 14 (by decide) (by omega)).trans c9)
    have a1 : iI (nr : Int) ≤ iI (j : Int) := (iI_le (by omega) (by omega) (by omega) (by omega)).mpr (by omega)
    obtain ⟨h4, eh4⟩ : ∃ h4, h4 = wA h 19 (fun k => if k < 20 then aI h 18 k else aI h 19 k) := ⟨_, rfl⟩
    have cp : cpA h (some 18) (iI 0) (some 19) (iI 0) (iI 20) = some h4 := by rw [eh4]; exact v_cp20 (ss_18 hS) (ss_19 hS)
    have c144 : (sh h4 14).1 = 5 := by rw [eh4]; exact c14
    have g11 : gI h4 511 14 = gI h0 511 14 := by rw [eh4]; exact hs 511 14 (by decide) (by decide) (by decide) (by decide)
    have g12 : gI (uI h4 513 14 (gI h0 511 14)) 512 14 = gI h0 512 14 := by
      have : gI h4 512 14 = gI h0 512 14 := by rw [eh4]; exact hs 512 14 (by decide) (by decide) (by decide) (by decide)
      simp [HR, this]
    obtain ⟨h8, eh8⟩ : ∃ h8, h8 = uI (uI h4 513 14 (gI h0 511 14)) 514 14 (gI h0 512 14) := ⟨_, rfl⟩
    have ke8 : Ke [910, 410, 411, 513, 514] [19] [911, 409] [] h h8 := by rw [eh8, eh4]; exact ((Ke_rf.a 19 _ (by decide)).u 513 _ _ (by decide)).u 514 _ _ (by decide)
    refine ⟨h8, ?_, ke.tr ke8, by rw [eh8, eh4]; exact s0, fun a => ?_, fun r hr => ?_, fun i hi => ?_, ?_, ?_⟩
    · show fX5_keep_b54_body N (fX5_keep_b54 N 14 fu) 14 h (iI j) = _
      simp only [fX5_keep_b54_body, lit]
      refine bst (o9) ?_
      refine ifp (a1) ?_
      refine bst (sR_503_14 hS) ?_
      refine bst (sR_504_14 hS) ?_
      refine bst (cp) ?_
      refine bst (oIv c144 g11) ?_
      refine bst (qIv c144) ?_
      refine bst (oIv (by rw [sh_uI]; exact c144) g12) ?_
      refine bst (qIv (by rw [sh_uI]; exact c144)) ?_
      rw [eh8]
    · rw [eh8, eh4]
      simp [HR]
    · obtain ⟨z1, z2, z3⟩ := hc r hr
      rw [if_pos (by omega)] at z1 z2 z3
      have hrb := (hr17 r hr).2.1
      have ne : ¬ rA r = 14 := by omega
      rw [eh8, eh4]
      simp [HR, z1, z2, z3]
    · have y : aI h 18 i = aI h0 18 i := by rw [ke.2.1 18 (by decide) (by omega)]
      rw [eh8, eh4]
      simp [HR, hi, y]
    · rw [eh8]
      simp [HR]
    · rw [eh8]
      simp [HR]
  | succ e ih =>
    intro j fu h ke s0 hs hc hj hf
    obtain ⟨fu, rfl⟩ : ∃ m, fu = m + 1 := ⟨fu - 1, by omega⟩
    have hS := hS0.e hz ke (by decide)
    have c14 : (sh h 14).1 = 5 := by rw [ss_14 hS]
    have o9 : oI 5 9 h (some 14) = some (iI nr) := oIv c14 ((ke.1 509 14 (by decide) (by omega)).trans c9)
    have a1 : ¬ iI (nr : Int) ≤ iI (j : Int) := fun q => by have := (iI_le (by omega) (by omega) (by omega) (by omega)).mp q; omega
    obtain ⟨d1, d2, d3, d4⟩ := hr17 j (by omega)
    have lq : lQ 25 h (some 17) (iI j) = some (some (rA j)) := lQv (ss_17 hS) (by omega) (by omega) ((congrFun (ke.2.2.2.1 17 (by decide) (by omega)) j).trans d1)
    have d4' : sh h (rA j) = (4, 0) := by rw [ke.2.2.2.2.1 _ d3]; exact d4
    have o5 : oR 4 5 h (some (rA j)) = some (gR h0 405 (rA j)) := oRv (by rw [d4']) (ke.2.2.1 405 _ (by decide) d3)
    have o6 : oI 4 6 (uR h 409 (rA j) (gR h0 405 (rA j))) (some (rA j)) = some (gI h0 406 (rA j)) := oIv (by rw [sh_uR, d4']) (ke.1 406 _ (by decide) d3)
    have o7 : oI 4 7 (uI (uR h 409 (rA j) (gR h0 405 (rA j))) 410 (rA j) (gI h0 406 (rA j))) (some (rA j)) = some (gI h0 407 (rA j)) := oIv (by rw [sh_uI, sh_uR, d4']) (by
      have := ke.1 407 (rA j) (by decide) d3
      simp [HR, this])
    obtain ⟨h2, eh2⟩ : ∃ h2, h2 = uI (uI (uR h 409 (rA j) (gR h0 405 (rA j))) 410 (rA j) (gI h0 406 (rA j))) 411 (rA j) (gI h0 407 (rA j)) := ⟨_, rfl⟩
    have ke2 : Ke [910, 410, 411, 513, 514] [19] [911, 409] [] h h2 := by rw [eh2]; exact ((Ke_rf.r 409 _ _ (by decide)).u 410 _ _ (by decide)).u 411 _ _ (by decide)
    obtain ⟨h', r1, r2, r3, r4, r5'⟩ := ih (j + 1) fu h2 (ke.tr ke2) (by rw [eh2]; exact s0) (fun f a f1 f2 f3 ha => by
      have ne : ¬ a = rA j := by omega
      rw [← hs f a f1 f2 f3 ha, eh2]
      simp [HR, ne]) (fun r hr => by
      obtain ⟨z1, z2, z3⟩ := hc r hr
      by_cases er : r = j
      · subst er
        rw [if_pos (Nat.lt_succ_self r), if_pos (Nat.lt_succ_self r), if_pos (Nat.lt_succ_self r), eh2]
        simp [HR]
      · have ne : ¬ rA r = rA j := fun q => er (ri r j hr (by omega) q)
        have y1 : gR h2 409 (rA r) = gR h 409 (rA r) := by rw [eh2]; simp [HR, ne]
        have y2 : gI h2 410 (rA r) = gI h 410 (rA r) := by rw [eh2]; simp [HR, ne]
        have y3 : gI h2 411 (rA r) = gI h 411 (rA r) := by rw [eh2]; simp [HR, ne]
        rw [y1, y2, y3, z1, z2, z3]
        by_cases w : r < j
        · rw [if_pos w, if_pos w, if_pos w, if_pos (show r < j + 1 by omega), if_pos (show r < j + 1 by omega), if_pos (show r < j + 1 by omega)]
          exact ⟨rfl, rfl, rfl⟩
        · rw [if_neg w, if_neg w, if_neg w, if_neg (by omega), if_neg (by omega), if_neg (by omega)]
          exact ⟨rfl, rfl, rfl⟩) (by omega) (by omega)
    simp only [Int.natCast_add, Int.natCast_one] at r1
    refine ⟨h', ?_, r2, r3, fun a => ?_, r5'⟩
    · rw [← r1]
      show fX5_keep_b54_body N (fX5_keep_b54 N 14 fu) 14 h (iI j) = _
      simp only [fX5_keep_b54_body, lit, iI_add, Option.bind_some]
      refine bst (o9) ?_
      refine ifn (a1) ?_
      refine bst (sR_502_14 hS) ?_
      refine bst (lq) ?_
      refine bst (o5) ?_
      refine bst (qRv (by rw [d4'])) ?_
      refine bst (o6) ?_
      refine bst (qIv (by rw [sh_uR, d4'])) ?_
      refine bst (o7) ?_
      refine bst (qIv (by rw [sh_uI, sh_uR, d4'])) ?_
      rw [← eh2]
    · rw [(r4 a).1, (r4 a).2, eh2]
      simp [HR]
theorem L_keepT {N : Nat} (hN : 100000000 ≤ N) {h0 : Hs} (hS0 : Sk h0) (hz : 70 ≤ sz h0) {nr nt : Nat} {rA tA : Nat → Nat} (c7 : gI h0 507 14 = iI nt) (ct : nt ≤ 40) (ht15 : ∀ i, i < nt → aR h0 15 i = some (tA i) ∧ 70 ≤ tA i ∧ tA i < sz h0 ∧ sh h0 (tA i) = (9, 0)) (ti : ∀ i j, i < nt → j < nt → tA i = tA j → i = j) (c9 : gI h0 509 14 = iI nr) (cr : nr ≤ 40) (hr17 : ∀ r, r < nr → aR h0 17 r = some (rA r) ∧ 70 ≤ rA r ∧ rA r < sz h0 ∧ sh h0 (rA r) = (4, 0)) (ri : ∀ i j, i < nr → j < nr → rA i = rA j → i = j) : ∀ (e j fu : Nat) (h : Hs), Ke [910, 410, 411, 513, 514] [19] [911, 409] [] h0 h → sz h = sz h0 → (∀ f a, f ≠ 910 → gI h f a = gI h0 f a) → (∀ f a, f ≠ 911 → gR h f a = gR h0 f a) → (∀ i, i < nt → (gI h 910 (tA i) = if i < j then gI h0 907 (tA i) else gI h0 910 (tA i)) ∧ (gR h 911 (tA i) = if i < j then gR h0 909 (tA i) else gR h0 911 (tA i))) → j + e = nt → e < fu → ∃ h', fX5_keep_b2 N 14 fu h (iI j) = some h' ∧ Ke [910, 410, 411, 513, 514] [19] [911, 409] [] h0 h' ∧ sz h' = sz h0 ∧ (∀ i, i < nt → gI h' 910 (tA i) = gI h0 907 (tA i) ∧ gR h' 911 (tA i) = gR h0 909 (tA i)) ∧ (∀ r, r < nr → gR h' 409 (rA r) = gR h0 405 (rA r) ∧ gI h' 410 (rA r) = gI h0 406 (rA r) ∧ gI h' 411 (rA r) = gI h0 407 (rA r)) ∧ (∀ i, i < 20 → aI h' 19 i = aI h0 18 i) ∧ gI h' 513 14 = gI h0 511 14 ∧ gI h' 514 14 = gI h0 512 14 := by
  intro e
  induction e with
  | zero =>
    intro j fu h ke s0 hfi hfr hc hj hf
    obtain ⟨fu, rfl⟩ : ∃ m, fu = m + 1 := ⟨fu - 1, by omega⟩
    have hS := hS0.e hz ke (by decide)
    have o7 : oI 5 7 h (some 14) = some (iI nt) := oIv (by rw [ss_14 hS]) ((ke.1 507 14 (by decide) (by omega)).trans c7)
    have a1 : iI (nt : Int) ≤ iI (j : Int) := (iI_le (by omega) (by omega) (by omega) (by omega)).mpr (by omega)
    obtain ⟨h', r1, r2, r3, r4, r5'⟩ := L_keepR (N := N) hS0 hz c9 cr hr17 ri nr 0 N h ke s0 (fun f a f1 _ _ _ => hfi f a f1) (fun r hr => by
      rw [if_neg (Nat.not_lt_zero r), if_neg (Nat.not_lt_zero r), if_neg (Nat.not_lt_zero r)]
      exact ⟨hfr _ _ (by decide), hfi _ _ (by decide), hfi _ _ (by decide)⟩) (by omega) (by omega)
    refine ⟨h', ?_, r2, r3, fun i hi => ?_, r5'⟩
    · rw [← r1]
      show fX5_keep_b2_body N (fX5_keep_b2 N 14 fu) 14 h (iI j) = _
      simp only [fX5_keep_b2_body, lit]
      refine bst (o7) ?_
      refine ifp (a1) ?_
      rfl
    · have z := hc i hi
      rw [if_pos (by omega), if_pos (by omega)] at z
      rw [(r4 (tA i)).1, (r4 (tA i)).2]
      exact z
  | succ e ih =>
    intro j fu h ke s0 hfi hfr hc hj hf
    obtain ⟨fu, rfl⟩ : ∃ m, fu = m + 1 := ⟨fu - 1, by omega⟩
    have hS := hS0.e hz ke (by decide)
    have o7 : oI 5 7 h (some 14) = some (iI nt) := oIv (by rw [ss_14 hS]) ((ke.1 507 14 (by decide) (by omega)).trans c7)
    have a1 : ¬ iI (nt : Int) ≤ iI (j : Int) := fun q => by have := (iI_le (by omega) (by omega) (by omega) (by omega)).mp q; omega
    obtain ⟨d1, d2, d3, d4⟩ := ht15 j (by omega)
    have lq : lQ 23 h (some 15) (iI j) = some (some (tA j)) := lQv (ss_15 hS) (by omega) (by omega) ((congrFun (ke.2.2.2.1 15 (by decide) (by omega)) j).trans d1)
    have d4' : sh h (tA j) = (9, 0) := by rw [ke.2.2.2.2.1 _ d3]; exact d4
    obtain ⟨h7, eh7⟩ : ∃ h7, h7 = uI h 910 (tA j) (gI h0 907 (tA j)) := ⟨_, rfl⟩
    have ke7 : Ke [910, 410, 411, 513, 514] [19] [911, 409] [] h h7 := by rw [eh7]; exact Ke_rf.u 910 _ _ (by decide)
    have hS7 := hS.e (by omega) ke7 (by decide)
    have lq7 : lQ 23 h7 (some 15) (iI j) = some (some (tA j)) := lQv (ss_15 hS7) (by omega) (by omega) (by rw [eh7]; exact (congrFun (ke.2.2.2.1 15 (by decide) (by omega)) j).trans d1)
    have d47 : sh h7 (tA j) = (9, 0) := by rw [eh7]; exact d4'
    have q7 : qI 9 10 h (some (tA j)) (gI h0 907 (tA j)) = some h7 := by rw [eh7]; exact qIv (by rw [d4'])
    have oS : oI 9 7 h (some (tA j)) = some (gI h0 907 (tA j)) := oIv (by rw [d4']) (hfi _ _ (by decide))
    have oSR : oR 9 9 h7 (some (tA j)) = some (gR h0 909 (tA j)) := oRv (by rw [d47]) (by rw [eh7]; exact hfr _ _ (by decide))
    obtain ⟨h2, eh2⟩ : ∃ h2, h2 = uR h7 911 (tA j) (gR h0 909 (tA j)) := ⟨_, rfl⟩
    have ke2 : Ke [910, 410, 411, 513, 514] [19] [911, 409] [] h h2 := by rw [eh2]; exact ke7.r 911 _ _ (by decide)
    obtain ⟨h', r1, r2⟩ := ih (j + 1) fu h2 (ke.tr ke2) (by rw [eh2, eh7]; exact s0) (fun f a f1 => by
      rw [← hfi f a f1, eh2, eh7]
      simp [HR, f1]) (fun f a f1 => by
      rw [← hfr f a f1, eh2, eh7]
      simp [HR, f1]) (fun i hi => by
      obtain ⟨z1, z2⟩ := hc i hi
      by_cases er : i = j
      · subst er
        rw [if_pos (Nat.lt_succ_self i), if_pos (Nat.lt_succ_self i), eh2, eh7]
        simp [HR]
      · have ne : ¬ tA i = tA j := fun q => er (ti i j hi (by omega) q)
        have y1 : gI h2 910 (tA i) = gI h 910 (tA i) := by rw [eh2, eh7]; simp [HR, ne]
        have y2 : gR h2 911 (tA i) = gR h 911 (tA i) := by rw [eh2, eh7]; simp [HR, ne]
        rw [y1, y2, z1, z2]
        by_cases w : i < j
        · rw [if_pos w, if_pos w, if_pos (show i < j + 1 by omega), if_pos (show i < j + 1 by omega)]
          exact ⟨rfl, rfl⟩
        · rw [if_neg w, if_neg w, if_neg (by omega), if_neg (by omega)]
          exact ⟨rfl, rfl⟩) (by omega) (by omega)
    simp only [Int.natCast_add, Int.natCast_one] at r1
    refine ⟨h', ?_, r2⟩
    rw [← r1]
    show fX5_keep_b2_body N (fX5_keep_b2 N 14 fu) 14 h (iI j) = _
    simp only [fX5_keep_b2_body, lit, iI_add, Option.bind_some]
    refine bst (o7) ?_
    refine ifn (a1) ?_
    refine bst (sR_500_14 hS) ?_
    refine bst (lq) ?_
    refine bst (sR_500_14 hS) ?_
    refine bst (lq) ?_
    refine bst (oS) ?_
    refine bst (q7) ?_
    refine bst (sR_500_14 hS7) ?_
    refine bst (lq7) ?_
    refine bst (sR_500_14 hS7) ?_
    refine bst (lq7) ?_
    refine bst (oSR) ?_
    refine bst (qRv (by rw [d47])) ?_
    rw [← eh2]
theorem v_keepC {N : Nat} (hN : 100000000 ≤ N) {h : Hs} (hS : Sk h) (hz : 70 ≤ sz h) {nr nt : Nat} {rA tA : Nat → Nat} (c7 : gI h 507 14 = iI nt) (ct : nt ≤ 40) (ht15 : ∀ i, i < nt → aR h 15 i = some (tA i) ∧ 70 ≤ tA i ∧ tA i < sz h ∧ sh h (tA i) = (9, 0)) (ti : ∀ i j, i < nt → j < nt → tA i = tA j → i = j) (c9 : gI h 509 14 = iI nr) (cr : nr ≤ 40) (hr17 : ∀ r, r < nr → aR h 17 r = some (rA r) ∧ 70 ≤ rA r ∧ rA r < sz h ∧ sh h (rA r) = (4, 0)) (ri : ∀ i j, i < nr → j < nr → rA i = rA j → i = j) : ∃ h', fX5_keep N h 14 = some h' ∧ Ke [910, 410, 411, 513, 514] [19] [911, 409] [] h h' ∧ sz h' = sz h ∧ (∀ i, i < nt → gI h' 910 (tA i) = gI h 907 (tA i) ∧ gR h' 911 (tA i) = gR h 909 (tA i)) ∧ (∀ r, r < nr → gR h' 409 (rA r) = gR h 405 (rA r) ∧ gI h' 410 (rA r) = gI h 406 (rA r) ∧ gI h' 411 (rA r) = gI h 407 (rA r)) ∧ (∀ i, i < 20 → aI h' 19 i = aI h 18 i) ∧ gI h' 513 14 = gI h 511 14 ∧ gI h' 514 14 = gI h 512 14 :=
  L_keepT (N := N) hN hS hz c7 ct ht15 ti c9 cr hr17 ri nt 0 N h Ke_rf rfl (fun _ _ _ => rfl) (fun _ _ _ => rfl) (fun i hi => by rw [if_neg (Nat.not_lt_zero i), if_neg (Nat.not_lt_zero i)]; exact ⟨rfl, rfl⟩) (by omega) (by omega)

theorem L_restR {N : Nat} {h0 : Hs} (hS0 : Sk h0) (hz : 70 ≤ sz h0) {nr : Nat} {rA : Nat → Nat} (c9 : gI h0 509 14 = iI nr) (cr : nr ≤ 40) (hr17 : ∀ r, r < nr → aR h0 17 r = some (rA r) ∧ 70 ≤ rA r ∧ rA r < sz h0 ∧ sh h0 (rA r) = (4, 0)) (ri : ∀ i j, i < nr → j < nr → rA i = rA j → i = j) : ∀ (e j fu : Nat) (h : Hs), Ke [907, 406, 407, 511, 512] [18] [909, 405] [] h0 h → sz h = sz h0 → (∀ f a, f ≠ 907 → f ≠ 511 → f ≠ 512 → a < 70 → gI h f a = gI h0 f a) → (∀ r, r < nr → (gR h 405 (rA r) = if r < j then gR h0 409 (rA r) else gR h0 405 (rA r)) ∧ (gI h 406 (rA r) = if r < j then gI h0 410 (rA r) else gI h0 406 (rA r)) ∧ (gI h 407 (rA r) = if r < j then gI h0 411 (rA r) else gI h0 407 (rA r))) → j + e = nr → e < fu → ∃ h', fX5_restore_b54 N 14 fu h (iI j) = some h' ∧ Ke [907, 406, 407, 511, 512] [18] [909, 405] [] h0 h' ∧ sz h' = sz h0 ∧ (∀ a, gI h' 907 a = gI h 907 a ∧ gR h' 909 a = gR h 909 a) ∧ (∀ r, r < nr → gR h' 405 (rA r) = gR h0 409 (rA r) ∧ gI h' 406 (rA r) = gI h0 410 (rA r) ∧ gI h' 407 (rA r) = gI h0 411 (rA r)) ∧ (∀ i, i < 20 → aI h' 18 i = aI h0 19 i) ∧ gI h' 511 14 = gI h0 513 14 ∧ gI h' 512 14 = gI h0 514 14 := by
  intro e
  induction e with
  | zero =>
    intro j fu h ke s0 hs hc hj hf
    obtain ⟨fu, rfl⟩ : ∃ m, fu = m + 1 := ⟨fu - 1, by omega⟩
    have hS := hS0.e hz ke (by decide)
    have c14 : (sh h 14).1 = 5 := by rw [ss_14 hS]
    have o9 : oI 5 9 h (some 14) = some (iI nr) := oIv c14 ((ke.1 509 14 (by decide) (by omega)).trans c9)
    have a1 : iI (nr : Int) ≤ iI (j : Int) := (iI_le (by omega) (by omega) (by omega) (by omega)).mpr (by omega)
    obtain ⟨h4, eh4⟩ : ∃ h4, h4 = wA h 18 (fun k => if k < 20 then aI h 19 k else aI h 18 k) := ⟨_, rfl⟩
    have cp : cpA h (some 19) (iI 0) (some 18) (iI 0) (iI 20) = some h4 := by rw [eh4]; exact v_cp20 (ss_19 hS) (ss_18 hS)
    have c144 : (sh h4 14).1 = 5 := by rw [eh4]; exact c14
    have g11 : gI h4 513 14 = gI h0 513 14 := by rw [eh4]; exact hs 513 14 (by decide) (by decide) (by decide) (by decide)
    have g12 : gI (uI h4 511 14 (gI h0 513 14)) 514 14 = gI h0 514 14 := by
      have : gI h4 514 14 = gI h0 514 14 := by rw [eh4]; exact hs 514 14 (by decide) (by decide) (by decide) (by decide)
      simp [HR, this]
    obtain ⟨h8, eh8⟩ : ∃ h8, h8 = uI (uI h4 511 14 (gI h0 513 14)) 512 14 (gI h0 514 14) := ⟨_, rfl⟩
    have ke8 : Ke [907, 406, 407, 511, 512] [18] [909, 405] [] h h8 := by rw [eh8, eh4]; exact ((Ke_rf.a 18 _ (by decide)).u 511 _ _ (by decide)).u 512 _ _ (by decide)
    refine ⟨h8, ?_, ke.tr ke8, by rw [eh8, eh4]; exact s0, fun a => ?_, fun r hr => ?_, fun i hi => ?_, ?_, ?_⟩
    · show fX5_restore_b54_body N (fX5_restore_b54 N 14 fu) 14 h (iI j) = _
      simp only [fX5_restore_b54_body, lit]
      refine bst (o9) ?_
      refine ifp (a1) ?_
      refine bst (sR_504_14 hS) ?_
      refine bst (sR_503_14 hS) ?_
      refine bst (cp) ?_
      refine bst (oIv c144 g11) ?_
      refine bst (qIv c144) ?_
      refine bst (oIv (by rw [sh_uI]; exact c144) g12) ?_
      refine bst (qIv (by rw [sh_uI]; exact c144)) ?_
      rw [eh8]
    · rw [eh8, eh4]
      simp [HR]
    · obtain ⟨z1, z2, z3⟩ := hc r hr
      rw [if_pos (by omega)] at z1 z2 z3
      have hrb := (hr17 r hr).2.1
      have ne : ¬ rA r = 14 := by omega
      rw [eh8, eh4]
      simp [HR, z1, z2, z3]
    · have y : aI h 19 i = aI h0 19 i := by rw [ke.2.1 19 (by decide) (by omega)]
      rw [eh8, eh4]
      simp [HR, hi, y]
    · rw [eh8]
      simp [HR]
    · rw [eh8]
      simp [HR]
  | succ e ih =>
    intro j fu h ke s0 hs hc hj hf
    obtain ⟨fu, rfl⟩ : ∃ m, fu = m + 1 := ⟨fu - 1, by omega⟩
    have hS := hS0.e hz ke (by decide)
    have c14 : (sh h 14).1 = 5 := by rw [ss_14 hS]
    have o9 : oI 5 9 h (some 14) = some (iI nr) := oIv c14 ((ke.1 509 14 (by decide) (by omega)).trans c9)
    have a1 : ¬ iI (nr : Int) ≤ iI (j : Int) := fun q => by have := (iI_le (by omega) (by omega) (by omega) (by omega)).mp q; omega
    obtain ⟨d1, d2, d3, d4⟩ := hr17 j (by omega)
    have lq : lQ 25 h (some 17) (iI j) = some (some (rA j)) := lQv (ss_17 hS) (by omega) (by omega) ((congrFun (ke.2.2.2.1 17 (by decide) (by omega)) j).trans d1)
    have d4' : sh h (rA j) = (4, 0) := by rw [ke.2.2.2.2.1 _ d3]; exact d4
    have o5 : oR 4 9 h (some (rA j)) = some (gR h0 409 (rA j)) := oRv (by rw [d4']) (ke.2.2.1 409 _ (by decide) d3)
    have o6 : oI 4 10 (uR h 405 (rA j) (gR h0 409 (rA j))) (some (rA j)) = some (gI h0 410 (rA j)) := oIv (by rw [sh_uR, d4']) (ke.1 410 _ (by decide) d3)
    have o7 : oI 4 11 (uI (uR h 405 (rA j) (gR h0 409 (rA j))) 406 (rA j) (gI h0 410 (rA j))) (some (rA j)) = some (gI h0 411 (rA j)) := oIv (by rw [sh_uI, sh_uR, d4']) (by
      have := ke.1 411 (rA j) (by decide) d3
      simp [HR, this])
    obtain ⟨h2, eh2⟩ : ∃ h2, h2 = uI (uI (uR h 405 (rA j) (gR h0 409 (rA j))) 406 (rA j) (gI h0 410 (rA j))) 407 (rA j) (gI h0 411 (rA j)) := ⟨_, rfl⟩
    have ke2 : Ke [907, 406, 407, 511, 512] [18] [909, 405] [] h h2 := by rw [eh2]; exact ((Ke_rf.r 405 _ _ (by decide)).u 406 _ _ (by decide)).u 407 _ _ (by decide)
    obtain ⟨h', r1, r2, r3, r4, r5'⟩ := ih (j + 1) fu h2 (ke.tr ke2) (by rw [eh2]; exact s0) (fun f a f1 f2 f3 ha => by
      have ne : ¬ a = rA j := by omega
      rw [← hs f a f1 f2 f3 ha, eh2]
      simp [HR, ne]) (fun r hr => by
      obtain ⟨z1, z2, z3⟩ := hc r hr
      by_cases er : r = j
      · subst er
        rw [if_pos (Nat.lt_succ_self r), if_pos (Nat.lt_succ_self r), if_pos (Nat.lt_succ_self r), eh2]
        simp [HR]
      · have ne : ¬ rA r = rA j := fun q => er (ri r j hr (by omega) q)
        have y1 : gR h2 405 (rA r) = gR h 405 (rA r) := by rw [eh2]; simp [HR, ne]
        have y2 : gI h2 406 (rA r) = gI h 406 (rA r) := by rw [eh2]; simp [HR, ne]
        have y3 : gI h2 407 (rA r) = gI h 407 (rA r) := by rw [eh2]; simp [HR, ne]
        rw [y1, y2, y3, z1, z2, z3]
        by_cases w : r < j
        · rw [if_pos w, if_pos w, if_pos w, if_pos (show r < j + 1 by omega), if_pos (show r < j + 1 by omega), if_pos (show r < j + 1 by omega)]
          exact ⟨rfl, rfl, rfl⟩
        · rw [if_neg w, if_neg w, if_neg w, if_neg (by omega), if_neg (by omega), if_neg (by omega)]
          exact ⟨rfl, rfl, rfl⟩) (by omega) (by omega)
    simp only [Int.natCast_add, Int.natCast_one] at r1
    refine ⟨h', ?_, r2, r3, fun a => ?_, r5'⟩
    · rw [← r1]
      show fX5_restore_b54_body N (fX5_restore_b54 N 14 fu) 14 h (iI j) = _
      simp only [fX5_restore_b54_body, lit, iI_add, Option.bind_some]
      refine bst (o9) ?_
      refine ifn (a1) ?_
      refine bst (sR_502_14 hS) ?_
      refine bst (lq) ?_
      refine bst (o5) ?_
      refine bst (qRv (by rw [d4'])) ?_
      refine bst (o6) ?_
      refine bst (qIv (by rw [sh_uR, d4'])) ?_
      refine bst (o7) ?_
      refine bst (qIv (by rw [sh_uI, sh_uR, d4'])) ?_
      rw [← eh2]
    · rw [(r4 a).1, (r4 a).2, eh2]
      simp [HR]
theorem L_restT {N : Nat} (hN : 100000000 ≤ N) {h0 : Hs} (hS0 : Sk h0) (hz : 70 ≤ sz h0) {nr nt : Nat} {rA tA : Nat → Nat} (c7 : gI h0 507 14 = iI nt) (ct : nt ≤ 40) (ht15 : ∀ i, i < nt → aR h0 15 i = some (tA i) ∧ 70 ≤ tA i ∧ tA i < sz h0 ∧ sh h0 (tA i) = (9, 0)) (ti : ∀ i j, i < nt → j < nt → tA i = tA j → i = j) (c9 : gI h0 509 14 = iI nr) (cr : nr ≤ 40) (hr17 : ∀ r, r < nr → aR h0 17 r = some (rA r) ∧ 70 ≤ rA r ∧ rA r < sz h0 ∧ sh h0 (rA r) = (4, 0)) (ri : ∀ i j, i < nr → j < nr → rA i = rA j → i = j) : ∀ (e j fu : Nat) (h : Hs), Ke [907, 406, 407, 511, 512] [18] [909, 405] [] h0 h → sz h = sz h0 → (∀ f a, f ≠ 907 → gI h f a = gI h0 f a) → (∀ f a, f ≠ 909 → gR h f a = gR h0 f a) → (∀ i, i < nt → (gI h 907 (tA i) = if i < j then gI h0 910 (tA i) else gI h0 907 (tA i)) ∧ (gR h 909 (tA i) = if i < j then gR h0 911 (tA i) else gR h0 909 (tA i))) → j + e = nt → e < fu → ∃ h', fX5_restore_b2 N 14 fu h (iI j) = some h' ∧ Ke [907, 406, 407, 511, 512] [18] [909, 405] [] h0 h' ∧ sz h' = sz h0 ∧ (∀ i, i < nt → gI h' 907 (tA i) = gI h0 910 (tA i) ∧ gR h' 909 (tA i) = gR h0 911 (tA i)) ∧ (∀ r, r < nr → gR h' 405 (rA r) = gR h0 409 (rA r) ∧ gI h' 406 (rA r) = gI h0 410 (rA r) ∧ gI h' 407 (rA r) = gI h0 411 (rA r)) ∧ (∀ i, i < 20 → aI h' 18 i = aI h0 19 i) ∧ gI h' 511 14 = gI h0 513 14 ∧ gI h' 512 14 = gI h0 514 14 := by
  intro e
  induction e with
  | zero =>
    intro j fu h ke s0 hfi hfr hc hj hf
    obtain ⟨fu, rfl⟩ : ∃ m, fu = m + 1 := ⟨fu - 1, by omega⟩
    have hS := hS0.e hz ke (by decide)
    have o7 : oI 5 7 h (some 14) = some (iI nt) := oIv (by rw [ss_14 hS]) ((ke.1 507 14 (by decide) (by omega)).trans c7)
    have a1 : iI (nt : Int) ≤ iI (j : Int) := (iI_le (by omega) (by omega) (by omega) (by omega)).mpr (by omega)
    obtain ⟨h', r1, r2, r3, r4, r5'⟩ := L_restR (N := N) hS0 hz c9 cr hr17 ri nr 0 N h ke s0 (fun f a f1 _ _ _ => hfi f a f1) (fun r hr => by
      rw [if_neg (Nat.not_lt_zero r), if_neg (Nat.not_lt_zero r), if_neg (Nat.not_lt_zero r)]
      exact ⟨hfr _ _ (by decide), hfi _ _ (by decide), hfi _ _ (by decide)⟩) (by omega) (by omega)
    refine ⟨h', ?_, r2, r3, fun i hi => ?_, r5'⟩
    · rw [← r1]
      show fX5_restore_b2_body N (fX5_restore_b2 N 14 fu) 14 h (iI j) = _
      simp only [fX5_restore_b2_body, lit]
      refine bst (o7) ?_
      refine ifp (a1) ?_
      rfl
    · have z := hc i hi
      rw [if_pos (by omega), if_pos (by omega)] at z
      rw [(r4 (tA i)).1, (r4 (tA i)).2]
      exact z
  | succ e ih =>
    intro j fu h ke s0 hfi hfr hc hj hf
    obtain ⟨fu, rfl⟩ : ∃ m, fu = m + 1 := ⟨fu - 1, by omega⟩
    have hS := hS0.e hz ke (by decide)
    have o7 : oI 5 7 h (some 14) = some (iI nt) := oIv (by rw [ss_14 hS]) ((ke.1 507 14 (by decide) (by omega)).trans c7)
    have a1 : ¬ iI (nt : Int) ≤ iI (j : Int) := fun q => by have := (iI_le (by omega) (by omega) (by omega) (by omega)).mp q; omega
    obtain ⟨d1, d2, d3, d4⟩ := ht15 j (by omega)
    have lq : lQ 23 h (some 15) (iI j) = some (some (tA j)) := lQv (ss_15 hS) (by omega) (by omega) ((congrFun (ke.2.2.2.1 15 (by decide) (by omega)) j).trans d1)
    have d4' : sh h (tA j) = (9, 0) := by rw [ke.2.2.2.2.1 _ d3]; exact d4
    obtain ⟨h7, eh7⟩ : ∃ h7, h7 = uI h 907 (tA j) (gI h0 910 (tA j)) := ⟨_, rfl⟩
    have ke7 : Ke [907, 406, 407, 511, 512] [18] [909, 405] [] h h7 := by rw [eh7]; exact Ke_rf.u 907 _ _ (by decide)
    have hS7 := hS.e (by omega) ke7 (by decide)
    have lq7 : lQ 23 h7 (some 15) (iI j) = some (some (tA j)) := lQv (ss_15 hS7) (by omega) (by omega) (by rw [eh7]; exact (congrFun (ke.2.2.2.1 15 (by decide) (by omega)) j).trans d1)
    have d47 : sh h7 (tA j) = (9, 0) := by rw [eh7]; exact d4'
    have q7 : qI 9 7 h (some (tA j)) (gI h0 910 (tA j)) = some h7 := by rw [eh7]; exact qIv (by rw [d4'])
    have oS : oI 9 10 h (some (tA j)) = some (gI h0 910 (tA j)) := oIv (by rw [d4']) (hfi _ _ (by decide))
    have oSR : oR 9 11 h7 (some (tA j)) = some (gR h0 911 (tA j)) := oRv (by rw [d47]) (by rw [eh7]; exact hfr _ _ (by decide))
    obtain ⟨h2, eh2⟩ : ∃ h2, h2 = uR h7 909 (tA j) (gR h0 911 (tA j)) := ⟨_, rfl⟩
    have ke2 : Ke [907, 406, 407, 511, 512] [18] [909, 405] [] h h2 := by rw [eh2]; exact ke7.r 909 _ _ (by decide)
    obtain ⟨h', r1, r2⟩ := ih (j + 1) fu h2 (ke.tr ke2) (by rw [eh2, eh7]; exact s0) (fun f a f1 => by
      rw [← hfi f a f1, eh2, eh7]
      simp [HR, f1]) (fun f a f1 => by
      rw [← hfr f a f1, eh2, eh7]
      simp [HR, f1]) (fun i hi => by
      obtain ⟨z1, z2⟩ := hc i hi
      by_cases er : i = j
      · subst er
        rw [if_pos (Nat.lt_succ_self i), if_pos (Nat.lt_succ_self i), eh2, eh7]
        simp [HR]
      · have ne : ¬ tA i = tA j := fun q => er (ti i j hi (by omega) q)
        have y1 : gI h2 907 (tA i) = gI h 907 (tA i) := by rw [eh2, eh7]; simp [HR, ne]
        have y2 : gR h2 909 (tA i) = gR h 909 (tA i) := by rw [eh2, eh7]; simp [HR, ne]
        rw [y1, y2, z1, z2]
        by_cases w : i < j
        · rw [if_pos w, if_pos w, if_pos (show i < j + 1 by omega), if_pos (show i < j + 1 by omega)]
          exact ⟨rfl, rfl⟩
        · rw [if_neg w, if_neg w, if_neg (by omega), if_neg (by omega)]
          exact ⟨rfl, rfl⟩) (by omega) (by omega)
    simp only [Int.natCast_add, Int.natCast_one] at r1
    refine ⟨h', ?_, r2⟩
    rw [← r1]
    show fX5_restore_b2_body N (fX5_restore_b2 N 14 fu) 14 h (iI j) = _
    simp only [fX5_restore_b2_body, lit, iI_add, Option.bind_some]
    refine bst (o7) ?_
    refine ifn (a1) ?_
    refine bst (sR_500_14 hS) ?_
    refine bst (lq) ?_
    refine bst (sR_500_14 hS) ?_
    refine bst (lq) ?_
    refine bst (oS) ?_
    refine bst (q7) ?_
    refine bst (sR_500_14 hS7) ?_
    refine bst (lq7) ?_
    refine bst (sR_500_14 hS7) ?_
    refine bst (lq7) ?_
    refine bst (oSR) ?_
    refine bst (qRv (by rw [d47])) ?_
    rw [← eh2]
theorem v_restC {N : Nat} (hN : 100000000 ≤ N) {h : Hs} (hS : Sk h) (hz : 70 ≤ sz h) {nr nt : Nat} {rA tA : Nat → Nat} (c7 : gI h 507 14 = iI nt) (ct : nt ≤ 40) (ht15 : ∀ i, i < nt → aR h 15 i = some (tA i) ∧ 70 ≤ tA i ∧ tA i < sz h ∧ sh h (tA i) = (9, 0)) (ti : ∀ i j, i < nt → j < nt → tA i = tA j → i = j) (c9 : gI h 509 14 = iI nr) (cr : nr ≤ 40) (hr17 : ∀ r, r < nr → aR h 17 r = some (rA r) ∧ 70 ≤ rA r ∧ rA r < sz h ∧ sh h (rA r) = (4, 0)) (ri : ∀ i j, i < nr → j < nr → rA i = rA j → i = j) : ∃ h', fX5_restore N h 14 = some h' ∧ Ke [907, 406, 407, 511, 512] [18] [909, 405] [] h h' ∧ sz h' = sz h ∧ (∀ i, i < nt → gI h' 907 (tA i) = gI h 910 (tA i) ∧ gR h' 909 (tA i) = gR h 911 (tA i)) ∧ (∀ r, r < nr → gR h' 405 (rA r) = gR h 409 (rA r) ∧ gI h' 406 (rA r) = gI h 410 (rA r) ∧ gI h' 407 (rA r) = gI h 411 (rA r)) ∧ (∀ i, i < 20 → aI h' 18 i = aI h 19 i) ∧ gI h' 511 14 = gI h 513 14 ∧ gI h' 512 14 = gI h 514 14 :=
  L_restT (N := N) hN hS hz c7 ct ht15 ti c9 cr hr17 ri nt 0 N h Ke_rf rfl (fun _ _ _ => rfl) (fun _ _ _ => rfl) (fun i hi => by rw [if_neg (Nat.not_lt_zero i), if_neg (Nat.not_lt_zero i)]; exact ⟨rfl, rfl⟩) (by omega) (by omega)

theorem L_mkeepW {N : Nat} {h0 : Hs} (hS0 : Sk h0) (hz : 70 ≤ sz h0) : ∀ (e j fu : Nat) (h : Hs), Ke [1249, 1250] [57, 58, 59, 60, 61] [] [] h0 h → sz h = sz h0 → (∀ f a, gI h f a = gI h0 f a) → (∀ k, k < 20 → aI h 61 k = if k < j then aI h0 45 k else aI h0 61 k) → j + e = 20 → e < fu → ∃ h', fX12_keep_b82 N 29 fu h (iI j) = some h' ∧ Ke [1249, 1250] [57, 58, 59, 60, 61] [] [] h0 h' ∧ sz h' = sz h0 ∧ (∀ a k, a ≠ 61 → aI h' a k = aI h a k) ∧ (∀ i, i < 20 → aI h' 61 i = aI h0 45 i) ∧ gI h' 1249 29 = gI h0 1221 29 ∧ gI h' 1250 29 = gI h0 1222 29 := by
  intro e
  induction e with
  | zero =>
    intro j fu h ke s0 hs hc hj hf
    obtain ⟨fu, rfl⟩ : ∃ m, fu = m + 1 := ⟨fu - 1, by omega⟩
    have hS := hS0.e hz ke (by decide)
    have c29 : (sh h 29).1 = 12 := by rw [ss_29 hS]
    have a1 : iI 20 ≤ iI (j : Int) := (iI_le (by omega) (by omega) (by omega) (by omega)).mpr (by omega)
    have gg : gI (uI h 1249 29 (gI h0 1221 29)) 1222 29 = gI h0 1222 29 := by simp [HR, hs]
    obtain ⟨h8, eh8⟩ : ∃ h8, h8 = uI (uI h 1249 29 (gI h0 1221 29)) 1250 29 (gI h0 1222 29) := ⟨_, rfl⟩
    have ke8 : Ke [1249, 1250] [57, 58, 59, 60, 61] [] [] h h8 := by rw [eh8]; exact (Ke_rf.u 1249 _ _ (by decide)).u 1250 _ _ (by decide)
    refine ⟨h8, ?_, ke.tr ke8, by rw [eh8]; exact s0, fun a k _ => by rw [eh8]; rfl, fun i hi => ?_, by rw [eh8]; simp [HR], by rw [eh8]; simp [HR]⟩
    · show fX12_keep_b82_body N (fX12_keep_b82 N 29 fu) 29 h (iI j) = _
      simp only [fX12_keep_b82_body, lit]
      refine ifp (a1) ?_
      refine bst (oIv c29 (hs _ _)) ?_
      refine bst (qIv c29) ?_
      refine bst (oIv (by rw [sh_uI]; exact c29) gg) ?_
      refine bst (qIv (by rw [sh_uI]; exact c29)) ?_
      rw [eh8]
    · have z := hc i hi
      rw [if_pos (by omega)] at z
      rw [eh8]
      exact z
  | succ e ih =>
    intro j fu h ke s0 hs hc hj hf
    obtain ⟨fu, rfl⟩ : ∃ m, fu = m + 1 := ⟨fu - 1, by omega⟩
    have hS := hS0.e hz ke (by decide)
    have a1 : ¬ iI 20 ≤ iI (j : Int) := fun q => by have := (iI_le (by omega) (by omega) (by omega) (by omega)).mp q; omega
    have l : lA 20 h (some 45) (iI j) = some (aI h0 45 j) := lAv (ss_45 hS) (by omega) (by omega) (congrFun (ke.2.1 45 (by decide) (by omega)) j)
    obtain ⟨h2, eh2⟩ : ∃ h2, h2 = uA h 61 j (aI h0 45 j) := ⟨_, rfl⟩
    have ke2 : Ke [1249, 1250] [57, 58, 59, 60, 61] [] [] h h2 := by rw [eh2]; exact Ke_rf.b 61 _ _ (by decide)
    obtain ⟨h', r1, r2, r3, r4, r5⟩ := ih (j + 1) fu h2 (ke.tr ke2) (by rw [eh2]; exact s0) (fun f a => by rw [eh2]; exact hs f a) (fun k hk => by
      by_cases w : k = j
      · subst w
        rw [if_pos (Nat.lt_succ_self k), eh2]
        simp [HR]
      · have y : aI h2 61 k = aI h 61 k := by rw [eh2]; simp [HR, w]
        rw [y, hc k hk]
        by_cases v : k < j
        · rw [if_pos v, if_pos (by omega)]
        · rw [if_neg v, if_neg (by omega)]) (by omega) (by omega)
    simp only [Int.natCast_add, Int.natCast_one] at r1
    refine ⟨h', ?_, r2, r3, fun a k ha => by rw [r4 a k ha, eh2]; simp [HR, ha], r5⟩
    rw [← r1]
    show fX12_keep_b82_body N (fX12_keep_b82 N 29 fu) 29 h (iI j) = _
    simp only [fX12_keep_b82_body, lit, iI_add, Option.bind_some]
    refine ifn (a1) ?_
    refine bst (sR_1248_29 hS) ?_
    refine bst (sR_1219_29 hS) ?_
    refine bst (l) ?_
    refine bst (sAv (ss_61 hS) (by omega) (by omega)) ?_
    rw [← eh2]
theorem L_mkeepR {N : Nat} (hN : 100000000 ≤ N) {h0 : Hs} (hS0 : Sk h0) (hz : 70 ≤ sz h0) {nt nr : Nat} (ct : nt ≤ 40) (cr : nr ≤ 40) (c1 : gI h0 1201 29 = iI nt) (c11 : gI h0 1211 29 = iI nr) : ∀ (e j fu : Nat) (h : Hs), Ke [1249, 1250] [57, 58, 59, 60, 61] [] [] h0 h → sz h = sz h0 → (∀ f a, gI h f a = gI h0 f a) → (∀ a k, a ≠ 57 ∧ a ≠ 58 ∧ a ≠ 59 ∧ a ≠ 60 → aI h a k = aI h0 a k) → (∀ k, k < nr → (aI h 59 k = if k < j then aI h0 42 k else aI h0 59 k) ∧ (aI h 60 k = if k < j then aI h0 43 k else aI h0 60 k)) → j + e = nr → e < fu → ∃ h', fX12_keep_b42 N 29 fu h (iI j) = some h' ∧ Ke [1249, 1250] [57, 58, 59, 60, 61] [] [] h0 h' ∧ sz h' = sz h0 ∧ (∀ a k, a = 57 ∨ a = 58 → aI h' a k = aI h a k) ∧ (∀ r, r < nr → aI h' 59 r = aI h0 42 r ∧ aI h' 60 r = aI h0 43 r) ∧ (∀ i, i < 20 → aI h' 61 i = aI h0 45 i) ∧ gI h' 1249 29 = gI h0 1221 29 ∧ gI h' 1250 29 = gI h0 1222 29 := by
  intro e
  induction e with
  | zero =>
    intro j fu h ke s0 hs hk hc hj hf
    obtain ⟨fu, rfl⟩ : ∃ m, fu = m + 1 := ⟨fu - 1, by omega⟩
    have hS := hS0.e hz ke (by decide)
    have o1 : oI 12 11 h (some 29) = some (iI nr) := oIv (by rw [ss_29 hS]) ((hs _ _).trans c11)
    have a1 : iI (nr : Int) ≤ iI (j : Int) := (iI_le (by omega) (by omega) (by omega) (by omega)).mpr (by omega)
    obtain ⟨h', r1, r2, r3, r4, r5⟩ := L_mkeepW (N := N) hS0 hz 20 0 N h ke s0 hs (fun k _ => by rw [if_neg (Nat.not_lt_zero k)]; exact hk 61 k (by decide)) (by omega) (by omega)
    refine ⟨h', ?_, r2, r3, fun a k ha => r4 a k (by omega), fun r hr => ?_, r5⟩
    case refine_2 =>
      have z := hc r hr
      rw [if_pos (by omega), if_pos (by omega)] at z
      rw [r4 59 r (by decide), r4 60 r (by decide)]
      exact z
    rw [← r1]
    show fX12_keep_b42_body N (fX12_keep_b42 N 29 fu) 29 h (iI j) = _
    simp only [fX12_keep_b42_body, lit]
    refine bst (o1) ?_
    refine ifp (a1) ?_
    rfl
  | succ e ih =>
    intro j fu h ke s0 hs hk hc hj hf
    obtain ⟨fu, rfl⟩ : ∃ m, fu = m + 1 := ⟨fu - 1, by omega⟩
    have hS := hS0.e hz ke (by decide)
    have o1 : oI 12 11 h (some 29) = some (iI nr) := oIv (by rw [ss_29 hS]) ((hs _ _).trans c11)
    have a1 : ¬ iI (nr : Int) ≤ iI (j : Int) := fun q => by have := (iI_le (by omega) (by omega) (by omega) (by omega)).mp q; omega
    have l1 : lA 20 h (some 42) (iI j) = some (aI h0 42 j) := lAv (ss_42 hS) (by omega) (by omega) (congrFun (ke.2.1 42 (by decide) (by omega)) j)
    obtain ⟨h5, eh5⟩ : ∃ h5, h5 = uA h 59 j (aI h0 42 j) := ⟨_, rfl⟩
    have ke5 : Ke [1249, 1250] [57, 58, 59, 60, 61] [] [] h h5 := by rw [eh5]; exact Ke_rf.b 59 _ _ (by decide)
    have hS5 := hS.e (by omega) ke5 (by decide)
    have l2 : lA 20 h5 (some 43) (iI j) = some (aI h0 43 j) := lAv (ss_43 hS5) (by omega) (by omega) (congrFun ((ke.tr ke5).2.1 43 (by decide) (by omega)) j)
    have q5 : sA h (some 59) (iI j) (aI h0 42 j) = some h5 := by rw [eh5]; exact sAv (ss_59 hS) (by omega) (by omega)
    obtain ⟨h2, eh2⟩ : ∃ h2, h2 = uA h5 60 j (aI h0 43 j) := ⟨_, rfl⟩
    have ke2 : Ke [1249, 1250] [57, 58, 59, 60, 61] [] [] h h2 := by rw [eh2]; exact ke5.b 60 _ _ (by decide)
    obtain ⟨h', r1, r2⟩ := ih (j + 1) fu h2 (ke.tr ke2) (by rw [eh2, eh5]; exact s0) (fun f a => by rw [eh2, eh5]; exact hs f a) (fun a k ha => by
      rw [← hk a k ha, eh2, eh5]
      simp [HR, ha]) (fun k hk' => by
      obtain ⟨z1, z2⟩ := hc k hk'
      by_cases w : k = j
      · subst w
        rw [if_pos (Nat.lt_succ_self k), if_pos (Nat.lt_succ_self k), eh2, eh5]
        simp [HR]
      · have y1 : aI h2 59 k = aI h 59 k := by rw [eh2, eh5]; simp [HR, w]
        have y2 : aI h2 60 k = aI h 60 k := by rw [eh2, eh5]; simp [HR, w]
        rw [y1, y2, z1, z2]
        by_cases v : k < j
        · rw [if_pos v, if_pos v, if_pos (show k < j + 1 by omega), if_pos (show k < j + 1 by omega)]
          exact ⟨rfl, rfl⟩
        · rw [if_neg v, if_neg v, if_neg (by omega), if_neg (by omega)]
          exact ⟨rfl, rfl⟩) (by omega) (by omega)
    simp only [Int.natCast_add, Int.natCast_one] at r1
    obtain ⟨y1, y2, y3, y4⟩ := r2
    refine ⟨h', ?_, y1, y2, fun a k ha => ?_, y4⟩
    case refine_2 =>
      rw [y3 a k ha, eh2, eh5]
      have n1 : ¬ a = 59 := by omega
      have n2 : ¬ a = 60 := by omega
      simp [HR, n1, n2]
    rw [← r1]
    show fX12_keep_b42_body N (fX12_keep_b42 N 29 fu) 29 h (iI j) = _
    simp only [fX12_keep_b42_body, lit, iI_add, Option.bind_some]
    refine bst (o1) ?_
    refine ifn (a1) ?_
    refine bst (sR_1246_29 hS) ?_
    refine bst (sR_1216_29 hS) ?_
    refine bst (l1) ?_
    refine bst (q5) ?_
    refine bst (sR_1247_29 hS5) ?_
    refine bst (sR_1217_29 hS5) ?_
    refine bst (l2) ?_
    refine bst (sAv (ss_60 hS5) (by omega) (by omega)) ?_
    rw [← eh2]
theorem L_mkeepT {N : Nat} (hN : 100000000 ≤ N) {h0 : Hs} (hS0 : Sk h0) (hz : 70 ≤ sz h0) {nt nr : Nat} (ct : nt ≤ 40) (cr : nr ≤ 40) (c1 : gI h0 1201 29 = iI nt) (c11 : gI h0 1211 29 = iI nr) : ∀ (e j fu : Nat) (h : Hs), Ke [1249, 1250] [57, 58, 59, 60, 61] [] [] h0 h → sz h = sz h0 → (∀ f a, gI h f a = gI h0 f a) → (∀ a k, a ≠ 57 ∧ a ≠ 58 → aI h a k = aI h0 a k) → (∀ k, k < nt → (aI h 57 k = if k < j then aI h0 33 k else aI h0 57 k) ∧ (aI h 58 k = if k < j then aI h0 36 k else aI h0 58 k)) → j + e = nt → e < fu → ∃ h', fX12_keep_b2 N 29 fu h (iI j) = some h' ∧ Ke [1249, 1250] [57, 58, 59, 60, 61] [] [] h0 h' ∧ sz h' = sz h0 ∧ (∀ k, k < nt → aI h' 57 k = aI h0 33 k ∧ aI h' 58 k = aI h0 36 k) ∧ (∀ r, r < nr → aI h' 59 r = aI h0 42 r ∧ aI h' 60 r = aI h0 43 r) ∧ (∀ i, i < 20 → aI h' 61 i = aI h0 45 i) ∧ gI h' 1249 29 = gI h0 1221 29 ∧ gI h' 1250 29 = gI h0 1222 29 := by
  intro e
  induction e with
  | zero =>
    intro j fu h ke s0 hs hk hc hj hf
    obtain ⟨fu, rfl⟩ : ∃ m, fu = m + 1 := ⟨fu - 1, by omega⟩
    have hS := hS0.e hz ke (by decide)
    have o1 : oI 12 1 h (some 29) = some (iI nt) := oIv (by rw [ss_29 hS]) ((hs _ _).trans c1)
    have a1 : iI (nt : Int) ≤ iI (j : Int) := (iI_le (by omega) (by omega) (by omega) (by omega)).mpr (by omega)
    obtain ⟨h', r1, r2, r3, r4, r5⟩ := L_mkeepR (N := N) hN hS0 hz ct cr c1 c11 nr 0 N h ke s0 hs (fun a k ha => hk a k ⟨ha.1, ha.2.1⟩) (fun k _ => by rw [if_neg (Nat.not_lt_zero k), if_neg (Nat.not_lt_zero k)]; exact ⟨hk 59 k (by decide), hk 60 k (by decide)⟩) (by omega) (by omega)
    refine ⟨h', ?_, r2, r3, fun k hk' => ?_, r5⟩
    case refine_2 =>
      have z := hc k hk'
      rw [if_pos (by omega), if_pos (by omega)] at z
      rw [r4 57 k (Or.inl rfl), r4 58 k (Or.inr rfl)]
      exact z
    rw [← r1]
    show fX12_keep_b2_body N (fX12_keep_b2 N 29 fu) 29 h (iI j) = _
    simp only [fX12_keep_b2_body, lit]
    refine bst (o1) ?_
    refine ifp (a1) ?_
    rfl
  | succ e ih =>
    intro j fu h ke s0 hs hk hc hj hf
    obtain ⟨fu, rfl⟩ : ∃ m, fu = m + 1 := ⟨fu - 1, by omega⟩
    have hS := hS0.e hz ke (by decide)
    have o1 : oI 12 1 h (some 29) = some (iI nt) := oIv (by rw [ss_29 hS]) ((hs _ _).trans c1)
    have a1 : ¬ iI (nt : Int) ≤ iI (j : Int) := fun q => by have := (iI_le (by omega) (by omega) (by omega) (by omega)).mp q; omega
    have l1 : lA 20 h (some 33) (iI j) = some (aI h0 33 j) := lAv (ss_33 hS) (by omega) (by omega) (congrFun (ke.2.1 33 (by decide) (by omega)) j)
    obtain ⟨h5, eh5⟩ : ∃ h5, h5 = uA h 57 j (aI h0 33 j) := ⟨_, rfl⟩
    have ke5 : Ke [1249, 1250] [57, 58, 59, 60, 61] [] [] h h5 := by rw [eh5]; exact Ke_rf.b 57 _ _ (by decide)
    have hS5 := hS.e (by omega) ke5 (by decide)
    have l2 : lA 20 h5 (some 36) (iI j) = some (aI h0 36 j) := lAv (ss_36 hS5) (by omega) (by omega) (congrFun ((ke.tr ke5).2.1 36 (by decide) (by omega)) j)
    have q5 : sA h (some 57) (iI j) (aI h0 33 j) = some h5 := by rw [eh5]; exact sAv (ss_57 hS) (by omega) (by omega)
    obtain ⟨h2, eh2⟩ : ∃ h2, h2 = uA h5 58 j (aI h0 36 j) := ⟨_, rfl⟩
    have ke2 : Ke [1249, 1250] [57, 58, 59, 60, 61] [] [] h h2 := by rw [eh2]; exact ke5.b 58 _ _ (by decide)
    obtain ⟨h', r1, r2⟩ := ih (j + 1) fu h2 (ke.tr ke2) (by rw [eh2, eh5]; exact s0) (fun f a => by rw [eh2, eh5]; exact hs f a) (fun a k ha => by
      rw [← hk a k ha, eh2, eh5]
      simp [HR, ha]) (fun k hk' => by
      obtain ⟨z1, z2⟩ := hc k hk'
      by_cases w : k = j
      · subst w
        rw [if_pos (Nat.lt_succ_self k), if_pos (Nat.lt_succ_self k), eh2, eh5]
        simp [HR]
      · have y1 : aI h2 57 k = aI h 57 k := by rw [eh2, eh5]; simp [HR, w]
        have y2 : aI h2 58 k = aI h 58 k := by rw [eh2, eh5]; simp [HR, w]
        rw [y1, y2, z1, z2]
        by_cases v : k < j
        · rw [if_pos v, if_pos v, if_pos (show k < j + 1 by omega), if_pos (show k < j + 1 by omega)]
          exact ⟨rfl, rfl⟩
        · rw [if_neg v, if_neg v, if_neg (by omega), if_neg (by omega)]
          exact ⟨rfl, rfl⟩) (by omega) (by omega)
    simp only [Int.natCast_add, Int.natCast_one] at r1
    refine ⟨h', ?_, r2⟩
    rw [← r1]
    show fX12_keep_b2_body N (fX12_keep_b2 N 29 fu) 29 h (iI j) = _
    simp only [fX12_keep_b2_body, lit, iI_add, Option.bind_some]
    refine bst (o1) ?_
    refine ifn (a1) ?_
    refine bst (sR_1244_29 hS) ?_
    refine bst (sR_1205_29 hS) ?_
    refine bst (l1) ?_
    refine bst (q5) ?_
    refine bst (sR_1245_29 hS5) ?_
    refine bst (sR_1208_29 hS5) ?_
    refine bst (l2) ?_
    refine bst (sAv (ss_58 hS5) (by omega) (by omega)) ?_
    rw [← eh2]

theorem L_mbackW {N : Nat} {h0 : Hs} (hS0 : Sk h0) (hz : 70 ≤ sz h0) : ∀ (e j fu : Nat) (h : Hs), Ke [1221, 1222] [33, 36, 42, 43, 45] [] [] h0 h → sz h = sz h0 → (∀ f a, gI h f a = gI h0 f a) → (∀ k, k < 20 → aI h 45 k = if k < j then aI h0 61 k else aI h0 45 k) → j + e = 20 → e < fu → ∃ h', fX12_back_b97 N 29 fu h (iI j) = some (iI 1, h') ∧ Ke [1221, 1222] [33, 36, 42, 43, 45] [] [] h0 h' ∧ sz h' = sz h0 ∧ (∀ a k, a ≠ 45 → aI h' a k = aI h a k) ∧ (∀ i, i < 20 → aI h' 45 i = aI h0 61 i) ∧ gI h' 1221 29 = gI h0 1249 29 ∧ gI h' 1222 29 = gI h0 1250 29 := by
  intro e
  induction e with
  | zero =>
    intro j fu h ke s0 hs hc hj hf
    obtain ⟨fu, rfl⟩ : ∃ m, fu = m + 1 := ⟨fu - 1, by omega⟩
    have hS := hS0.e hz ke (by decide)
    have c29 : (sh h 29).1 = 12 := by rw [ss_29 hS]
    have a1 : iI 20 ≤ iI (j : Int) := (iI_le (by omega) (by omega) (by omega) (by omega)).mpr (by omega)
    have gg : gI (uI h 1221 29 (gI h0 1249 29)) 1250 29 = gI h0 1250 29 := by simp [HR, hs]
    obtain ⟨h8, eh8⟩ : ∃ h8, h8 = uI (uI h 1221 29 (gI h0 1249 29)) 1222 29 (gI h0 1250 29) := ⟨_, rfl⟩
    have ke8 : Ke [1221, 1222] [33, 36, 42, 43, 45] [] [] h h8 := by rw [eh8]; exact (Ke_rf.u 1221 _ _ (by decide)).u 1222 _ _ (by decide)
    refine ⟨h8, ?_, ke.tr ke8, by rw [eh8]; exact s0, fun a k _ => by rw [eh8]; rfl, fun i hi => ?_, by rw [eh8]; simp [HR], by rw [eh8]; simp [HR]⟩
    · show fX12_back_b97_body N (fX12_back_b97 N 29 fu) 29 h (iI j) = _
      simp only [fX12_back_b97_body, lit]
      refine ifp (a1) ?_
      refine bst (oIv c29 (hs _ _)) ?_
      refine bst (qIv c29) ?_
      refine bst (oIv (by rw [sh_uI]; exact c29) gg) ?_
      refine bst (qIv (by rw [sh_uI]; exact c29)) ?_
      rw [eh8]
    · have z := hc i hi
      rw [if_pos (by omega)] at z
      rw [eh8]
      exact z
  | succ e ih =>
    intro j fu h ke s0 hs hc hj hf
    obtain ⟨fu, rfl⟩ : ∃ m, fu = m + 1 := ⟨fu - 1, by omega⟩
    have hS := hS0.e hz ke (by decide)
    have a1 : ¬ iI 20 ≤ iI (j : Int) := fun q => by have := (iI_le (by omega) (by omega) (by omega) (by omega)).mp q; omega
    have l : lA 20 h (some 61) (iI j) = some (aI h0 61 j) := lAv (ss_61 hS) (by omega) (by omega) (congrFun (ke.2.1 61 (by decide) (by omega)) j)
    obtain ⟨h2, eh2⟩ : ∃ h2, h2 = uA h 45 j (aI h0 61 j) := ⟨_, rfl⟩
    have ke2 : Ke [1221, 1222] [33, 36, 42, 43, 45] [] [] h h2 := by rw [eh2]; exact Ke_rf.b 45 _ _ (by decide)
    obtain ⟨h', r1, r2, r3, r4, r5⟩ := ih (j + 1) fu h2 (ke.tr ke2) (by rw [eh2]; exact s0) (fun f a => by rw [eh2]; exact hs f a) (fun k hk => by
      by_cases w : k = j
      · subst w
        rw [if_pos (Nat.lt_succ_self k), eh2]
        simp [HR]
      · have y : aI h2 45 k = aI h 45 k := by rw [eh2]; simp [HR, w]
        rw [y, hc k hk]
        by_cases v : k < j
        · rw [if_pos v, if_pos (by omega)]
        · rw [if_neg v, if_neg (by omega)]) (by omega) (by omega)
    simp only [Int.natCast_add, Int.natCast_one] at r1
    refine ⟨h', ?_, r2, r3, fun a k ha => by rw [r4 a k ha, eh2]; simp [HR, ha], r5⟩
    rw [← r1]
    show fX12_back_b97_body N (fX12_back_b97 N 29 fu) 29 h (iI j) = _
    simp only [fX12_back_b97_body, lit, iI_add, Option.bind_some]
    refine ifn (a1) ?_
    refine bst (sR_1219_29 hS) ?_
    refine bst (sR_1248_29 hS) ?_
    refine bst (l) ?_
    refine bst (sAv (ss_45 hS) (by omega) (by omega)) ?_
    rw [← eh2]
theorem L_mbackR {N : Nat} (hN : 100000000 ≤ N) {h0 : Hs} (hS0 : Sk h0) (hz : 70 ≤ sz h0) {nt nr : Nat} (ct : nt ≤ 40) (cr : nr ≤ 40) (c1 : gI h0 1201 29 = iI nt) (c11 : gI h0 1211 29 = iI nr) : ∀ (e j fu : Nat) (h : Hs), Ke [1221, 1222] [33, 36, 42, 43, 45] [] [] h0 h → sz h = sz h0 → (∀ f a, gI h f a = gI h0 f a) → (∀ a k, a ≠ 33 ∧ a ≠ 36 ∧ a ≠ 42 ∧ a ≠ 43 → aI h a k = aI h0 a k) → (∀ k, k < nr → (aI h 42 k = if k < j then aI h0 59 k else aI h0 42 k) ∧ (aI h 43 k = if k < j then aI h0 60 k else aI h0 43 k)) → j + e = nr → e < fu → ∃ h', fX12_back_b57 N 29 fu h (iI j) = some (iI 1, h') ∧ Ke [1221, 1222] [33, 36, 42, 43, 45] [] [] h0 h' ∧ sz h' = sz h0 ∧ (∀ a k, a = 33 ∨ a = 36 → aI h' a k = aI h a k) ∧ (∀ r, r < nr → aI h' 42 r = aI h0 59 r ∧ aI h' 43 r = aI h0 60 r) ∧ (∀ i, i < 20 → aI h' 45 i = aI h0 61 i) ∧ gI h' 1221 29 = gI h0 1249 29 ∧ gI h' 1222 29 = gI h0 1250 29 := by
  intro e
  induction e with
  | zero =>
    intro j fu h ke s0 hs hk hc hj hf
    obtain ⟨fu, rfl⟩ : ∃ m, fu = m + 1 := ⟨fu - 1, by omega⟩
    have hS := hS0.e hz ke (by decide)
    have o1 : oI 12 11 h (some 29) = some (iI nr) := oIv (by rw [ss_29 hS]) ((hs _ _).trans c11)
    have a1 : iI (nr : Int) ≤ iI (j : Int) := (iI_le (by omega) (by omega) (by omega) (by omega)).mpr (by omega)
    obtain ⟨h', r1, r2, r3, r4, r5⟩ := L_mbackW (N := N) hS0 hz 20 0 N h ke s0 hs (fun k _ => by rw [if_neg (Nat.not_lt_zero k)]; exact hk 45 k (by decide)) (by omega) (by omega)
    refine ⟨h', ?_, r2, r3, fun a k ha => r4 a k (by omega), fun r hr => ?_, r5⟩
    case refine_2 =>
      have z := hc r hr
      rw [if_pos (by omega), if_pos (by omega)] at z
      rw [r4 42 r (by decide), r4 43 r (by decide)]
      exact z
    rw [← r1]
    show fX12_back_b57_body N (fX12_back_b57 N 29 fu) 29 h (iI j) = _
    simp only [fX12_back_b57_body, lit]
    refine bst (o1) ?_
    refine ifp (a1) ?_
    rfl
  | succ e ih =>
    intro j fu h ke s0 hs hk hc hj hf
    obtain ⟨fu, rfl⟩ : ∃ m, fu = m + 1 := ⟨fu - 1, by omega⟩
    have hS := hS0.e hz ke (by decide)
    have o1 : oI 12 11 h (some 29) = some (iI nr) := oIv (by rw [ss_29 hS]) ((hs _ _).trans c11)
    have a1 : ¬ iI (nr : Int) ≤ iI (j : Int) := fun q => by have := (iI_le (by omega) (by omega) (by omega) (by omega)).mp q; omega
    have l1 : lA 20 h (some 59) (iI j) = some (aI h0 59 j) := lAv (ss_59 hS) (by omega) (by omega) (congrFun (ke.2.1 59 (by decide) (by omega)) j)
    obtain ⟨h5, eh5⟩ : ∃ h5, h5 = uA h 42 j (aI h0 59 j) := ⟨_, rfl⟩
    have ke5 : Ke [1221, 1222] [33, 36, 42, 43, 45] [] [] h h5 := by rw [eh5]; exact Ke_rf.b 42 _ _ (by decide)
    have hS5 := hS.e (by omega) ke5 (by decide)
    have l2 : lA 20 h5 (some 60) (iI j) = some (aI h0 60 j) := lAv (ss_60 hS5) (by omega) (by omega) (congrFun ((ke.tr ke5).2.1 60 (by decide) (by omega)) j)
    have q5 : sA h (some 42) (iI j) (aI h0 59 j) = some h5 := by rw [eh5]; exact sAv (ss_42 hS) (by omega) (by omega)
    obtain ⟨h2, eh2⟩ : ∃ h2, h2 = uA h5 43 j (aI h0 60 j) := ⟨_, rfl⟩
    have ke2 : Ke [1221, 1222] [33, 36, 42, 43, 45] [] [] h h2 := by rw [eh2]; exact ke5.b 43 _ _ (by decide)
    obtain ⟨h', r1, r2⟩ := ih (j + 1) fu h2 (ke.tr ke2) (by rw [eh2, eh5]; exact s0) (fun f a => by rw [eh2, eh5]; exact hs f a) (fun a k ha => by
      rw [← hk a k ha, eh2, eh5]
      simp [HR, ha]) (fun k hk' => by
      obtain ⟨z1, z2⟩ := hc k hk'
      by_cases w : k = j
      · subst w
        rw [if_pos (Nat.lt_succ_self k), if_pos (Nat.lt_succ_self k), eh2, eh5]
        simp [HR]
      · have y1 : aI h2 42 k = aI h 42 k := by rw [eh2, eh5]; simp [HR, w]
        have y2 : aI h2 43 k = aI h 43 k := by rw [eh2, eh5]; simp [HR, w]
        rw [y1, y2, z1, z2]
        by_cases v : k < j
        · rw [if_pos v, if_pos v, if_pos (show k < j + 1 by omega), if_pos (show k < j + 1 by omega)]
          exact ⟨rfl, rfl⟩
        · rw [if_neg v, if_neg v, if_neg (by omega), if_neg (by omega)]
          exact ⟨rfl, rfl⟩) (by omega) (by omega)
    simp only [Int.natCast_add, Int.natCast_one] at r1
    obtain ⟨y1, y2, y3, y4⟩ := r2
    refine ⟨h', ?_, y1, y2, fun a k ha => ?_, y4⟩
    case refine_2 =>
      rw [y3 a k ha, eh2, eh5]
      have n1 : ¬ a = 42 := by omega
      have n2 : ¬ a = 43 := by omega
      simp [HR, n1, n2]
    rw [← r1]
    show fX12_back_b57_body N (fX12_back_b57 N 29 fu) 29 h (iI j) = _
    simp only [fX12_back_b57_body, lit, iI_add, Option.bind_some]
    refine bst (o1) ?_
    refine ifn (a1) ?_
    refine bst (sR_1216_29 hS) ?_
    refine bst (sR_1246_29 hS) ?_
    refine bst (l1) ?_
    refine bst (q5) ?_
    refine bst (sR_1217_29 hS5) ?_
    refine bst (sR_1247_29 hS5) ?_
    refine bst (l2) ?_
    refine bst (sAv (ss_43 hS5) (by omega) (by omega)) ?_
    rw [← eh2]
theorem L_mbackT {N : Nat} (hN : 100000000 ≤ N) {h0 : Hs} (hS0 : Sk h0) (hz : 70 ≤ sz h0) {nt nr : Nat} (ct : nt ≤ 40) (cr : nr ≤ 40) (c1 : gI h0 1201 29 = iI nt) (c11 : gI h0 1211 29 = iI nr) : ∀ (e j fu : Nat) (h : Hs), Ke [1221, 1222] [33, 36, 42, 43, 45] [] [] h0 h → sz h = sz h0 → (∀ f a, gI h f a = gI h0 f a) → (∀ a k, a ≠ 33 ∧ a ≠ 36 → aI h a k = aI h0 a k) → (∀ k, k < nt → (aI h 33 k = if k < j then aI h0 57 k else aI h0 33 k) ∧ (aI h 36 k = if k < j then aI h0 58 k else aI h0 36 k)) → j + e = nt → e < fu → ∃ h', fX12_back_b17 N 29 fu h (iI j) = some (iI 1, h') ∧ Ke [1221, 1222] [33, 36, 42, 43, 45] [] [] h0 h' ∧ sz h' = sz h0 ∧ (∀ k, k < nt → aI h' 33 k = aI h0 57 k ∧ aI h' 36 k = aI h0 58 k) ∧ (∀ r, r < nr → aI h' 42 r = aI h0 59 r ∧ aI h' 43 r = aI h0 60 r) ∧ (∀ i, i < 20 → aI h' 45 i = aI h0 61 i) ∧ gI h' 1221 29 = gI h0 1249 29 ∧ gI h' 1222 29 = gI h0 1250 29 := by
  intro e
  induction e with
  | zero =>
    intro j fu h ke s0 hs hk hc hj hf
    obtain ⟨fu, rfl⟩ : ∃ m, fu = m + 1 := ⟨fu - 1, by omega⟩
    have hS := hS0.e hz ke (by decide)
    have o1 : oI 12 1 h (some 29) = some (iI nt) := oIv (by rw [ss_29 hS]) ((hs _ _).trans c1)
    have a1 : iI (nt : Int) ≤ iI (j : Int) := (iI_le (by omega) (by omega) (by omega) (by omega)).mpr (by omega)
    obtain ⟨h', r1, r2, r3, r4, r5⟩ := L_mbackR (N := N) hN hS0 hz ct cr c1 c11 nr 0 N h ke s0 hs (fun a k ha => hk a k ⟨ha.1, ha.2.1⟩) (fun k _ => by rw [if_neg (Nat.not_lt_zero k), if_neg (Nat.not_lt_zero k)]; exact ⟨hk 42 k (by decide), hk 43 k (by decide)⟩) (by omega) (by omega)
    refine ⟨h', ?_, r2, r3, fun k hk' => ?_, r5⟩
    case refine_2 =>
      have z := hc k hk'
      rw [if_pos (by omega), if_pos (by omega)] at z
      rw [r4 33 k (Or.inl rfl), r4 36 k (Or.inr rfl)]
      exact z
    rw [← r1]
    show fX12_back_b17_body N (fX12_back_b17 N 29 fu) 29 h (iI j) = _
    simp only [fX12_back_b17_body, lit]
    refine bst (o1) ?_
    refine ifp (a1) ?_
    rfl
  | succ e ih =>
    intro j fu h ke s0 hs hk hc hj hf
    obtain ⟨fu, rfl⟩ : ∃ m, fu = m + 1 := ⟨fu - 1, by omega⟩
    have hS := hS0.e hz ke (by decide)
    have o1 : oI 12 1 h (some 29) = some (iI nt) := oIv (by rw [ss_29 hS]) ((hs _ _).trans c1)
    have a1 : ¬ iI (nt : Int) ≤ iI (j : Int) := fun q => by have := (iI_le (by omega) (by omega) (by omega) (by omega)).mp q; omega
    have l1 : lA 20 h (some 57) (iI j) = some (aI h0 57 j) := lAv (ss_57 hS) (by omega) (by omega) (congrFun (ke.2.1 57 (by decide) (by omega)) j)
    obtain ⟨h5, eh5⟩ : ∃ h5, h5 = uA h 33 j (aI h0 57 j) := ⟨_, rfl⟩
    have ke5 : Ke [1221, 1222] [33, 36, 42, 43, 45] [] [] h h5 := by rw [eh5]; exact Ke_rf.b 33 _ _ (by decide)
    have hS5 := hS.e (by omega) ke5 (by decide)
    have l2 : lA 20 h5 (some 58) (iI j) = some (aI h0 58 j) := lAv (ss_58 hS5) (by omega) (by omega) (congrFun ((ke.tr ke5).2.1 58 (by decide) (by omega)) j)
    have q5 : sA h (some 33) (iI j) (aI h0 57 j) = some h5 := by rw [eh5]; exact sAv (ss_33 hS) (by omega) (by omega)
    obtain ⟨h2, eh2⟩ : ∃ h2, h2 = uA h5 36 j (aI h0 58 j) := ⟨_, rfl⟩
    have ke2 : Ke [1221, 1222] [33, 36, 42, 43, 45] [] [] h h2 := by rw [eh2]; exact ke5.b 36 _ _ (by decide)
    obtain ⟨h', r1, r2⟩ := ih (j + 1) fu h2 (ke.tr ke2) (by rw [eh2, eh5]; exact s0) (fun f a => by rw [eh2, eh5]; exact hs f a) (fun a k ha => by
      rw [← hk a k ha, eh2, eh5]
      simp [HR, ha]) (fun k hk' => by
      obtain ⟨z1, z2⟩ := hc k hk'
      by_cases w : k = j
      · subst w
        rw [if_pos (Nat.lt_succ_self k), if_pos (Nat.lt_succ_self k), eh2, eh5]
        simp [HR]
      · have y1 : aI h2 33 k = aI h 33 k := by rw [eh2, eh5]; simp [HR, w]
        have y2 : aI h2 36 k = aI h 36 k := by rw [eh2, eh5]; simp [HR, w]
        rw [y1, y2, z1, z2]
        by_cases v : k < j
        · rw [if_pos v, if_pos v, if_pos (show k < j + 1 by omega), if_pos (show k < j + 1 by omega)]
          exact ⟨rfl, rfl⟩
        · rw [if_neg v, if_neg v, if_neg (by omega), if_neg (by omega)]
          exact ⟨rfl, rfl⟩) (by omega) (by omega)
    simp only [Int.natCast_add, Int.natCast_one] at r1
    refine ⟨h', ?_, r2⟩
    rw [← r1]
    show fX12_back_b17_body N (fX12_back_b17 N 29 fu) 29 h (iI j) = _
    simp only [fX12_back_b17_body, lit, iI_add, Option.bind_some]
    refine bst (o1) ?_
    refine ifn (a1) ?_
    refine bst (sR_1205_29 hS) ?_
    refine bst (sR_1244_29 hS) ?_
    refine bst (l1) ?_
    refine bst (q5) ?_
    refine bst (sR_1208_29 hS5) ?_
    refine bst (sR_1245_29 hS5) ?_
    refine bst (l2) ?_
    refine bst (sAv (ss_36 hS5) (by omega) (by omega)) ?_
    rw [← eh2]
/-! ===== back ===== -/
def RKc (h : Hs) (nt nr : Nat) (tA dA rA : Nat → Nat) (pk : Nat → Int) (dk tk : Nat → Option Nat) (sk nk ck : Nat → Int) : Prop := (∀ i, i < nt → gI h 910 (tA i) = iI (pk i) ∧ gR h 911 (tA i) = (tk i).map rA) ∧ (∀ r, r < nr → gR h 409 (rA r) = (dk r).map dA ∧ (dk r ≠ none → gI h 410 (rA r) = iI (sk r) ∧ gI h 411 (rA r) = iI (nk r))) ∧ ∀ i, i < 20 → aI h 19 i = iI (ck i)
def RKm (h : Hs) (nt nr : Nat) (rT : Nat → Nat) (pk : Nat → Int) (dk : Nat → Option Nat) (sk nk ck : Nat → Int) : Prop := (∀ i, i < nt → aI h 57 i = iI (pk i)) ∧ (∀ r, r < nr → aI h 59 r = iI (od (dk r)) ∧ (dk r ≠ none → aI h 60 r = iI (nk r) ∧ aI h 58 (rT r) = iI (sk r))) ∧ ∀ i, i < 20 → aI h 61 i = iI (ck i)
def RKl (nt nd nr : Nat) (rT : Nat → Nat) (wy gr ls ms : Nat → Int) (pk : Nat → Int) (dk tk : Nat → Option Nat) (sk nk ck : Nat → Int) : Prop := (∀ i, i < nt → ls i ≤ pk i ∧ pk i ≤ ms i) ∧ (∀ r, r < nr → dk r ≠ none → pk (rT r) = sk r + wy r * (nk r).tdiv (100 * gr r) ∧ ls (rT r) ≤ sk r ∧ sk r ≤ ms (rT r)) ∧ (∀ i, i < 20 → -9999 ≤ ck i ∧ ck i ≤ 9999) ∧ RTl nt nd nr rT dk tk
def RKs (h : Hs) : Prop := gI h 513 14 = gI h 1249 29 ∧ gI h 514 14 = gI h 1250 29
theorem RKc.e {F A FR AQ : List Nat} {h h2 : Hs} {nt nr : Nat} {tA dA rA : Nat → Nat} {pk : Nat → Int} {dk tk : Nat → Option Nat} {sk nk ck : Nat → Int} (hC : RKc h nt nr tA dA rA pk dk tk sk nk ck) (hz : 70 ≤ sz h) (ht : ∀ i, i < nt → tA i < sz h) (hr : ∀ r, r < nr → rA r < sz h) (k : Ke F A FR AQ h h2) (hF : ∀ f ∈ [910, 410, 411], f ∉ F) (hA : 19 ∉ A) (hR : ∀ f ∈ [911, 409], f ∉ FR) : RKc h2 nt nr tA dA rA pk dk tk sk nk ck := by
  obtain ⟨c1, c2, c3⟩ := hC
  refine ⟨fun i hi => ?_, fun r hr' => ?_, fun i hi => ?_⟩
  · rw [k.1 _ _ (hF 910 (by decide)) (ht i hi), k.2.2.1 _ _ (hR 911 (by decide)) (ht i hi)]
    exact c1 i hi
  · rw [k.2.2.1 _ _ (hR 409 (by decide)) (hr r hr'), k.1 _ _ (hF 410 (by decide)) (hr r hr'), k.1 _ _ (hF 411 (by decide)) (hr r hr')]
    exact c2 r hr'
  · rw [k.2.1 _ hA (by omega)]
    exact c3 i hi
theorem RKm.e {F A FR AQ : List Nat} {h h2 : Hs} {nt nr : Nat} {rT : Nat → Nat} {pk : Nat → Int} {dk : Nat → Option Nat} {sk nk ck : Nat → Int} (hC : RKm h nt nr rT pk dk sk nk ck) (hz : 70 ≤ sz h) (k : Ke F A FR AQ h h2) (hA : ∀ a ∈ [57, 58, 59, 60, 61], a ∉ A) : RKm h2 nt nr rT pk dk sk nk ck := by
  obtain ⟨c1, c2, c3⟩ := hC
  refine ⟨fun i hi => ?_, fun r hr' => ?_, fun i hi => ?_⟩
  · rw [k.2.1 _ (hA 57 (by decide)) (by omega)]
    exact c1 i hi
  · rw [k.2.1 _ (hA 59 (by decide)) (by omega), k.2.1 _ (hA 60 (by decide)) (by omega), k.2.1 _ (hA 58 (by decide)) (by omega)]
    exact c2 r hr'
  · rw [k.2.1 _ (hA 61 (by decide)) (by omega)]
    exact c3 i hi
theorem RKs.e {F A FR AQ : List Nat} {h h2 : Hs} (hC : RKs h) (hz : 70 ≤ sz h) (k : Ke F A FR AQ h h2) (hF : ∀ f ∈ [513, 514, 1249, 1250], f ∉ F) : RKs h2 := by
  refine ⟨?_, ?_⟩
  · rw [k.1 _ _ (hF 513 (by decide)) (by omega), k.1 _ _ (hF 1249 (by decide)) (by omega)]; exact hC.1
  · rw [k.1 _ _ (hF 514 (by decide)) (by omega), k.1 _ _ (hF 1250 (by decide)) (by omega)]; exact hC.2
theorem n01 : ¬ iI 0 = iI 1 := by decide
theorem t_back {N : Nat} (hN : 100000000 ≤ N) {h : Hs} (hS : Sk h) (hz : 70 ≤ sz h) {nr nt nd : Nat} {rA tA dA rT : Nat → Nat} {wy gr hd : Nat → Int} {gn : Nat → Bool} {tl tw tg ls ms pa : Nat → Int} (hT : RTh h nt tA tl tw tg ls ms pa) (hR : RRo h nr nt rA tA rT wy gr hd gn) (hB : ICan h) {pk : Nat → Int} {dk tk : Nat → Option Nat} {sk nk ck : Nat → Int} (hK : gI h 1106 0 = iI 1 → RKc h nt nr tA dA rA pk dk tk sk nk ck ∧ RKm h nt nr rT pk dk sk nk ck ∧ RKl nt nd nr rT wy gr ls ms pk dk tk sk nk ck ∧ RKs h) : ∃ a h1 h2, fX11_back N h 0 = some (a, h1) ∧ fX12_back N h1 29 = some (a, h2) ∧ (h2 = h ∨ (gI h 1106 0 = iI 1 ∧ gI h2 1106 0 = iI 0 ∧ ICan h2 ∧ RTh h2 nt tA tl tw tg ls ms pk ∧ RTi h2 nt nd nr tA dA rA rT dk tk sk nk ∧ (∀ i, i < 20 → aI h2 18 i = iI (ck i) ∧ aI h2 45 i = iI (ck i)) ∧ RSh h2 ∧ Ke [907, 406, 407, 511, 512, 1106, 1243, 1221, 1222] [18, 33, 36, 42, 43, 45] [909, 405] [] h h2 ∧ sz h2 = sz h)) := by
  obtain ⟨c, b1, b2', b3⟩ := hB
  have o6 : oI 11 6 h (some 0) = some (iI c) := oIv (by rw [ss_0 hS]) b1
  have ct := hT.1.2.2
  have cr := hR.1.2.2
  rcases b3 with rfl | rfl
  · refine ⟨iI (-2), h, h, ?_, ?_, Or.inl rfl⟩
    · simp only [fX11_back, lit, iI_neg]
      refine bst (o6) ?_
      refine ifp (rfl) ?_
      rfl
    · simp only [fX12_back, lit, iI_neg]
      refine bst (oIv (by rw [ss_29 hS]) b2') ?_
      refine ifp (rfl) ?_
      rfl
  · obtain ⟨kc, km, kl, ks⟩ := hK b1
    obtain ⟨hq, ehq⟩ : ∃ hq, hq = uI h 1106 0 (iI 0) := ⟨_, rfl⟩
    have keq : Ke [1106] [] [] [] h hq := by rw [ehq]; exact Ke_rf.u 1106 _ _ (by decide)
    have szq : sz hq = sz h := by rw [ehq]; rfl
    have hSq := hS.e hz keq (by decide)
    have hTq := hT.e hz keq (by decide) (by decide) (by decide)
    have hRq := hR.e hz keq (by decide) (by decide) (by decide) (by decide)
    have kcq := kc.e hz hT.lt hR.lt keq (by decide) (by decide) (by decide)
    obtain ⟨h3, e3, ke3, s3, x1, x2, x3, x4, x5⟩ := v_restC (N := N) hN hSq (by omega) hTq.1.1 ct (fun i hi => (hTq.2.1 i hi).1) hTq.2.2 hRq.1.1 cr (fun r hr => (hRq.2.1 r hr).1) hRq.2.2
    have keh3 : Ke [907, 406, 407, 511, 512, 1106] [18] [909, 405] [] h h3 := (keq.w (by decide) (by decide) (by decide) (by decide)).tr (ke3.w (by decide) (by decide) (by decide) (by decide))
    have hS3 := hS.e hz keh3 (by decide)
    have hz3 : 70 ≤ sz h3 := by omega
    have cl : fX11_back N h 0 = some (iI 1, h3) := by
      have zq : qZ 11 6 h (some 0) (iI 0) = some hq := by rw [ehq]; exact qZv (by rw [ss_0 hS]) (by omega)
      simp only [fX11_back, lit]
      refine bst (o6) ?_
      refine ifn (n10) ?_
      refine bst (zq) ?_
      refine bst (sR_1100_0 hSq) ?_
      refine bst (rcv (by rw [ss_14 hSq])) ?_
      refine bst (e3) ?_
      rfl
    obtain ⟨hw, ehw⟩ : ∃ hw, hw = uI h3 1243 29 (iI 0) := ⟨_, rfl⟩
    have kew : Ke [1243] [] [] [] h3 hw := by rw [ehw]; exact Ke_rf.u 1243 _ _ (by decide)
    have szw : sz hw = sz h3 := by rw [ehw]; rfl
    have hSw := hS3.e hz3 kew (by decide)
    have kehw : Ke [907, 406, 407, 511, 512, 1106, 1243] [18] [909, 405] [] h hw := (keh3.w (by decide) (by decide) (by decide) (by decide)).tr (kew.w (by decide) (by decide) (by decide) (by decide))
    obtain ⟨h5, e5, ke5, s5, y1, y2, y3, y4, y5⟩ := L_mbackT (N := N) hN hSw (by omega) ct cr ((kehw.1 1201 29 (by decide) (by omega)).trans hT.1.2.1) ((kehw.1 1211 29 (by decide) (by omega)).trans hR.1.2.1) nt 0 N hw Ke_rf rfl (fun _ _ => rfl) (fun _ _ _ => rfl) (fun k _ => by rw [if_neg (Nat.not_lt_zero k), if_neg (Nat.not_lt_zero k)]; exact ⟨rfl, rfl⟩) (by omega) (by omega)
    have rf : fX12_back N h3 29 = some (iI 1, h5) := by
      have o43 : oI 12 43 h3 (some 29) = some (iI 1) := oIv (by rw [ss_29 hS3]) ((keh3.1 1243 29 (by decide) (by omega)).trans b2')
      have zw : qZ 12 43 h3 (some 29) (iI 0) = some hw := by rw [ehw]; exact qZv (by rw [ss_29 hS3]) (by omega)
      simp only [fX12_back, lit]
      refine bst (o43) ?_
      refine ifn (n10) ?_
      refine bst (zw) ?_
      exact e5
    have ke3_5 : Ke [1243, 1221, 1222] [33, 36, 42, 43, 45] [] [] h3 h5 := (kew.w (by decide) (by decide) (by decide) (by decide)).tr (ke5.w (by decide) (by decide) (by decide) (by decide))
    have ke : Ke [907, 406, 407, 511, 512, 1106, 1243, 1221, 1222] [18, 33, 36, 42, 43, 45] [909, 405] [] h h5 := (keh3.w (by decide) (by decide) (by decide) (by decide)).tr (ke3_5.w (by decide) (by decide) (by decide) (by decide))
    have kmw := km.e hz kehw (by decide)
    have t3 : ∀ i, i < nt → tA i < sz h3 := fun i hi => by have := hT.lt i hi; omega
    have r3 : ∀ r, r < nr → rA r < sz h3 := fun r hr => by have := hR.lt r hr; omega
    refine ⟨iI 1, h3, h5, cl, rf, Or.inr ⟨b1, ?_, ?_, ?_, ?_, ?_, ?_, ke, by omega⟩⟩
    · rw [ke3_5.1 1106 0 (by decide) (by omega), ke3.1 1106 0 (by decide) (by omega), ehq]
      simp [HR]
    · refine ⟨0, ?_, ?_, Or.inl rfl⟩
      · rw [ke3_5.1 1106 0 (by decide) (by omega), ke3.1 1106 0 (by decide) (by omega), ehq]
        simp [HR]
      · rw [ke5.1 1243 29 (by decide) (by omega), ehw]
        simp [HR]
    · refine RTh_of (hT.o.mv hz ke (by decide) (by decide) (fun i hi => ?_) (fun i hi => kl.1 i hi)) (by rw [ke.1 1201 29 (by decide) (by omega)]; exact hT.1.2.1) (fun i hi => ?_)
      · rw [ke3_5.1 907 _ (by decide) (t3 i hi), (x1 i hi).1]
        exact (kcq.1 i hi).1
      · obtain ⟨-, -, ⟨z0, z1, z2, z3, z4, z5⟩, -⟩ := hT.2.1 i hi
        rw [ke.2.1 30 (by decide) (by omega), ke.2.1 31 (by decide) (by omega), ke.2.1 32 (by decide) (by omega), ke.2.1 34 (by decide) (by omega), ke.2.1 35 (by decide) (by omega), (y1 i hi).1]
        exact ⟨z0, z1, z2, kmw.1 i hi, z4, z5⟩
    · refine RTi_iff.mpr ⟨⟨fun r hr => ?_, fun i hi => ?_⟩, fun r hr => ?_, kl.2.2.2⟩
      · rw [ke3_5.2.2.1 405 _ (by decide) (r3 r hr), ke3_5.1 406 _ (by decide) (r3 r hr), ke3_5.1 407 _ (by decide) (r3 r hr), (x2 r hr).1, (x2 r hr).2.1, (x2 r hr).2.2]
        exact kcq.2.1 r hr
      · rw [ke3_5.2.2.1 909 _ (by decide) (t3 i hi), (x1 i hi).2]
        exact (kcq.1 i hi).2
      · have hrt := (hR.2.1 r hr).2.2.2.1
        rw [(y2 r hr).1, (y2 r hr).2, (y1 _ hrt).2]
        exact kmw.2.1 r hr
    · intro i hi
      rw [ke3_5.2.1 18 (by decide) (by omega), x3 i hi, y3 i hi]
      exact ⟨kcq.2.2 i hi, kmw.2.2 i hi⟩
    · refine ⟨?_, ?_⟩
      · rw [ke3_5.1 511 14 (by decide) (by omega), x4, y4, keq.1 513 14 (by decide) (by omega), kehw.1 1249 29 (by decide) (by omega)]
        exact ks.1
      · rw [ke3_5.1 512 14 (by decide) (by omega), x5, y5, keq.1 514 14 (by decide) (by omega), kehw.1 1250 29 (by decide) (by omega)]
        exact ks.2
