/-! ===== turning, the reference: a step is done ===== -/
def RTq (h : Hs) (nt : Nat) (tl tw tg ls ms : Nat → Int) : Prop := (gI h 1201 29 = iI nt ∧ nt ≤ 40) ∧ ∀ i, i < nt → (aI h 30 i = iI (tl i) ∧ aI h 31 i = iI (tw i) ∧ aI h 32 i = iI (tg i) ∧ aI h 34 i = iI (ls i) ∧ aI h 35 i = iI (ms i)) ∧ (0 ≤ tl i ∧ tl i ≤ 15 ∧ 1 ≤ tw i ∧ tw i ≤ 60 ∧ 0 ≤ tg i ∧ tg i ≤ 999 ∧ 0 ≤ ls i ∧ ls i ≤ ms i ∧ ms i + tw i ≤ 100)
theorem RTh.q {h : Hs} {nt : Nat} {tA : Nat → Nat} {tl tw tg ls ms pa : Nat → Int} (hT : RTh h nt tA tl tw tg ls ms pa) : RTq h nt tl tw tg ls ms := ⟨⟨hT.1.2.1, hT.1.2.2⟩, fun i hi => by
  obtain ⟨-, -, ⟨g0, g1, g2, g3, g4, g5⟩, bb⟩ := hT.2.1 i hi
  exact ⟨⟨g0, g1, g2, g4, g5⟩, by omega⟩⟩
theorem RTq.e {F A FR AQ : List Nat} {h h2 : Hs} {nt : Nat} {tl tw tg ls ms : Nat → Int} (hC : RTq h nt tl tw tg ls ms) (hz : 70 ≤ sz h) (k : Ke F A FR AQ h h2) (hF : 1201 ∉ F) (hA : ∀ a ∈ [30, 31, 32, 34, 35], a ∉ A) : RTq h2 nt tl tw tg ls ms := by
  refine ⟨⟨by rw [k.1 _ _ hF (by omega)]; exact hC.1.1, hC.1.2⟩, fun i hi => ⟨?_, (hC.2 i hi).2⟩⟩
  rw [k.2.1 _ (hA 30 (by decide)) (by omega), k.2.1 _ (hA 31 (by decide)) (by omega), k.2.1 _ (hA 32 (by decide)) (by omega), k.2.1 _ (hA 34 (by decide)) (by omega), k.2.1 _ (hA 35 (by decide)) (by omega)]
  exact (hC.2 i hi).1
def dnk (ds dn : Nat → Int) (dr : Nat → Option Nat) (z y : Int) (j : Nat) (r : Nat) : Int := if r < j then dnz ds dn dr y r else dnz ds dn dr z r
def pak (pa wy gr sr dn ds : Nat → Int) (dr td : Nat → Option Nat) (z y : Int) (j : Nat) (i : Nat) : Int := match td i with
  | none => pa i
  | some r => if r < j then tpl pa wy gr sr dn ds dr td y i else tpl pa wy gr sr dn ds dr td z i
theorem L_plM {N : Nat} {nr nt nd : Nat} {rT : Nat → Nat} {pa wy gr ds sr dn : Nat → Int} {dr td : Nat → Option Nat} {rA tA dA : Nat → Nat} {hd : Nat → Int} {gn : Nat → Bool} (hL : RTl nt nd nr rT dr td) (hnt : nt ≤ 40) {z y : Int} (z1 : -100000 ≤ y) (z2 : y ≤ 100000) (hdn : ∀ r, r < nr → dr r ≠ none → -1000000000 ≤ dn r ∧ dn r ≤ 1000000000) : ∀ (e j fu : Nat) (h : Hs), Sk h → 70 ≤ sz h → RDr h nd dA ds → RRo h nr nt rA tA rT wy gr hd gn → RTm h nr rT dr sr (dnk ds dn dr z y j) → (∀ i, i < nt → aI h 33 i = iI (pak pa wy gr sr dn ds dr td z y j i)) → j + e = nr → e < fu → ∃ h', fX12_place_b2 N 29 fu h (iI (y - z)) (iI j) = some h' ∧ Ke [] [33, 43] [] [] h h' ∧ sz h' = sz h ∧ RTm h' nr rT dr sr (dnk ds dn dr z y nr) ∧ (∀ i, i < nt → aI h' 33 i = iI (pak pa wy gr sr dn ds dr td z y nr i)) := by
  intro e
  induction e with
  | zero =>
    intro j fu h hS hz hD hR hM hP hj hf
    obtain ⟨fu, rfl⟩ : ∃ m, fu = m + 1 := ⟨fu - 1, by omega⟩
    have ej : j = nr := by omega
    subst ej
    have o9 : oI 12 11 h (some 29) = some (iI j) := oIv (by rw [ss_29 hS]) hR.1.2.1
    have a1 : iI (j : Int) ≤ iI (j : Int) := Int32.le_refl _
    refine ⟨h, ?_, Ke_rf, rfl, hM, hP⟩
    show fX12_place_b2_body N (fX12_place_b2 N 29 fu) 29 h (iI (y - z)) (iI j) = _
    simp only [fX12_place_b2_body]
    refine bst (o9) ?_
    refine ifp (a1) ?_
    rfl
  | succ e ih =>
    intro j fu h hS hz hD hR hM hP hj hf
    obtain ⟨fu, rfl⟩ : ∃ m, fu = m + 1 := ⟨fu - 1, by omega⟩
    have c3 := hR.1.2.2
    have cd := hD.1.2.2
    have o9 : oI 12 11 h (some 29) = some (iI nr) := oIv (by rw [ss_29 hS]) hR.1.2.1
    have a1 : ¬ iI (nr : Int) ≤ iI (j : Int) := fun q => by have := (iI_le (by omega) (by omega) (by omega) (by omega)).mp q; omega
    obtain ⟨-, -, ⟨f0, f1, f2, f3, f4⟩, q1, q2, q3, q4, q5⟩ := hR.2.1 j (by omega)
    obtain ⟨m1, m2⟩ := hM j (by omega)
    cases hdr : dr j with
    | none =>
      rw [hdr] at m1
      simp only [od] at m1
      have w2 : ¬ iI 0 ≤ iI (-1) := by decide
      have st : fX12_place_b2 N 29 (fu + 1) h (iI (y - z)) (iI j) = fX12_place_b2 N 29 fu h (iI (y - z)) (iI ((j : Int) + 1)) := by
        show fX12_place_b2_body N (fX12_place_b2 N 29 fu) 29 h (iI (y - z)) (iI j) = _
        simp only [fX12_place_b2_body, fX12_place_b87, lit, iI_add, Option.bind_some]
        refine bst (o9) ?_
        refine ifn (a1) ?_
        refine bst (sR_1216_29 hS) ?_
        refine bst (lAv (ss_42 hS) (by omega) (by omega) m1) ?_
        refine ifn (w2) ?_
        rfl
      obtain ⟨h', k1, k2, k3, k4, k5⟩ := ih (j + 1) fu h hS hz hD hR (fun r hr => ⟨(hM r hr).1, fun hne => by
        have er : r ≠ j := fun q => hne (by rw [q]; exact hdr)
        have e9 : dnk ds dn dr z y (j + 1) r = dnk ds dn dr z y j r := by
          unfold dnk
          by_cases q : r < j
          · rw [if_pos q, if_pos (by omega)]
          · rw [if_neg q, if_neg (by omega)]
        rw [e9]
        exact (hM r hr).2 hne⟩) (fun i hi => by
        rw [hP i hi]
        unfold pak
        cases htd : td i with
        | none => rfl
        | some r =>
          have er : r ≠ j := fun q => (hL.2 i r hi htd).2.2 (by rw [q]; exact hdr)
          by_cases q : r < j
          · simp only [if_pos q, if_pos (show r < j + 1 by omega)]
          · simp only [if_neg q, if_neg (show ¬ r < j + 1 by omega)]) (by omega) (by omega)
      simp only [Int.natCast_add, Int.natCast_one] at k1
      exact ⟨h', st.trans k1, k2, k3, k4, k5⟩
    | some e0 =>
      have hne : dr j ≠ none := by rw [hdr]; exact fun q => by cases q
      obtain ⟨hel, htj⟩ := hL.1 j e0 (by omega) hdr
      obtain ⟨-, -, e3, e5, e6⟩ := hD.2.1 e0 hel
      obtain ⟨m3, m4⟩ := m2 hne
      rw [hdr] at m1
      simp only [od] at m1
      have w2 : iI 0 ≤ iI (e0 : Int) := (iI_le (by omega) (by omega) (by omega) (by omega)).mpr (by omega)
      have nb := hdn j (by omega) hne
      have b4 : ds e0 * y ≤ ds e0 * 100000 := Int.mul_le_mul_of_nonneg_left z2 (by omega)
      have b5 : ds e0 * (-100000) ≤ ds e0 * y := Int.mul_le_mul_of_nonneg_left z1 (by omega)
      have ekz : dnk ds dn dr z y j j = dn j + ds e0 * z := by
        unfold dnk
        rw [if_neg (Nat.lt_irrefl j)]
        simp [dnz, hdr]
      have eky : dnk ds dn dr z y (j + 1) j = dn j + ds e0 * y := by
        unfold dnk
        rw [if_pos (Nat.lt_succ_self j)]
        simp [dnz, hdr]
      rw [ekz] at m3
      have ev : iI (dn j + ds e0 * z) + iI (y - z) * iI (ds e0) = iI (dn j + ds e0 * y) := by
        rw [iI_mul, iI_add]
        congr 1
        rw [Int.sub_mul, Int.mul_comm y, Int.mul_comm z]
        omega
      obtain ⟨h1, eh1⟩ : ∃ h1, h1 = uA h 43 j (iI (dn j + ds e0 * y)) := ⟨_, rfl⟩
      have ke1 : Ke [] [43] [] [] h h1 := by rw [eh1]; exact Ke_rf.b 43 _ _ (by decide)
      have hS1 := hS.e hz ke1 (by decide)
      have sz1 : sz h1 = sz h := by rw [eh1]; rfl
      have g0 : aI h1 38 j = iI (rT j) := by rw [ke1.2.1 38 (by decide) (by omega)]; exact f0
      have g1 : aI h1 36 (rT j) = iI (sr j) := by rw [ke1.2.1 36 (by decide) (by omega)]; exact m4
      have g2 : aI h1 40 j = iI (wy j) := by rw [ke1.2.1 40 (by decide) (by omega)]; exact f2
      have g3 : aI h1 39 j = iI (gr j) := by rw [ke1.2.1 39 (by decide) (by omega)]; exact f1
      have g4 : aI h1 43 j = iI (dn j + ds e0 * y) := by rw [eh1]; simp [HR]
      have dk := dv_ok (a := dn j + ds e0 * y) (b := 100 * gr j) (by omega) (by omega) (by omega) (by omega)
      have e1g : iI 100 * iI (gr j) = iI (100 * gr j) := by rw [iI_mul]
      have ep0 : iI (sr j) + iI (wy j) * iI ((dn j + ds e0 * y).tdiv (100 * gr j)) = iI (sr j + wy j * (dn j + ds e0 * y).tdiv (100 * gr j)) := by rw [iI_mul, iI_add]
      obtain ⟨h2, eh2⟩ : ∃ h2, h2 = uA h1 33 (rT j) (iI (sr j + wy j * (dn j + ds e0 * y).tdiv (100 * gr j))) := ⟨_, rfl⟩
      have ke2 : Ke [] [33] [] [] h1 h2 := by rw [eh2]; exact Ke_rf.b 33 _ _ (by decide)
      have ke : Ke [] [33, 43] [] [] h h2 := (ke1.w (by decide) (by decide) (by decide) (by decide)).tr (ke2.w (by decide) (by decide) (by decide) (by decide))
      have sz2 : sz h2 = sz h := by rw [eh2]; exact sz1
      have hS2 := hS.e hz ke (by decide)
      have lt := lAv (ss_42 hS) (show j < 40 by omega) (by omega) m1
      have st : fX12_place_b2 N 29 (fu + 1) h (iI (y - z)) (iI j) = fX12_place_b2 N 29 fu h2 (iI (y - z)) (iI ((j : Int) + 1)) := by
        show fX12_place_b2_body N (fX12_place_b2 N 29 fu) 29 h (iI (y - z)) (iI j) = _
        simp only [fX12_place_b2_body, fX12_place_b87, lit, Option.bind_some]
        refine bst (o9) ?_
        refine ifn (a1) ?_
        refine bst (sR_1216_29 hS) ?_
        refine bst (lt) ?_
        refine ifp (w2) ?_
        refine bst (sR_1217_29 hS) ?_
        refine bst (lAv (ss_43 hS) (by omega) (by omega) m3) ?_
        refine bst (sR_1210_29 hS) ?_
        refine bst (sR_1216_29 hS) ?_
        refine bst (lt) ?_
        refine bst (lAv (ss_37 hS) (by omega) (by omega) e3) ?_
        refine bst (sAv (ss_43 hS) (by omega) (by omega)) ?_
        rw [ev, ← eh1]
        refine bst (sR_1212_29 hS1) ?_
        refine bst (lAv (ss_38 hS1) (by omega) (by omega) g0) ?_
        refine bst (sR_1205_29 hS1) ?_
        refine bst (sR_1208_29 hS1) ?_
        refine bst (lAv (ss_36 hS1) (by omega) (by omega) g1) ?_
        refine bst (sR_1214_29 hS1) ?_
        refine bst (lAv (ss_40 hS1) (by omega) (by omega) g2) ?_
        refine bst (sR_1217_29 hS1) ?_
        refine bst (lAv (ss_43 hS1) (by omega) (by omega) g4) ?_
        refine bst (sR_1213_29 hS1) ?_
        refine bst (lAv (ss_39 hS1) (by omega) (by omega) g3) ?_
        rw [e1g]
        refine bst (dk) ?_
        refine bst (sAv (ss_33 hS1) (by omega) (by omega)) ?_
        rw [ep0, ← eh2, iI_add]
      obtain ⟨h', k1, k2, k3, k4, k5⟩ := ih (j + 1) fu h2 hS2 (by omega) (hD.e hz ke (by decide) (by decide) (by decide)) (hR.e hz ke (by decide) (by decide) (by decide) (by decide)) (fun r hr => by
        rw [ke.2.1 42 (by decide) (by omega), ke.2.1 36 (by decide) (by omega)]
        refine ⟨(hM r hr).1, fun hn => ⟨?_, ((hM r hr).2 hn).2⟩⟩
        rw [ke2.2.1 43 (by decide) (by omega)]
        by_cases er : r = j
        · rw [er, g4, eky]
        · have e9 : dnk ds dn dr z y (j + 1) r = dnk ds dn dr z y j r := by
            unfold dnk
            by_cases q : r < j
            · rw [if_pos q, if_pos (by omega)]
            · rw [if_neg q, if_neg (by omega)]
          rw [e9, ← ((hM r hr).2 hn).1, eh1]
          simp [HR, er]) (fun i hi => by
        by_cases er : i = rT j
        · rw [er, eh2]
          have ep : pak pa wy gr sr dn ds dr td z y (j + 1) (rT j) = sr j + wy j * (dn j + ds e0 * y).tdiv (100 * gr j) := by
            simp only [pak, htj, if_pos (Nat.lt_succ_self j), tpl, hdr, rpl]
          rw [ep]
          simp [HR]
        · have g5 : aI h2 33 i = aI h 33 i := by
            rw [eh2, eh1]
            simp [HR, er]
          rw [g5, hP i hi]
          unfold pak
          cases htd : td i with
          | none => rfl
          | some r =>
            have er2 : r ≠ j := fun q => er (by rw [← (hL.2 i r hi htd).2.1, q])
            by_cases q : r < j
            · simp only [if_pos q, if_pos (show r < j + 1 by omega)]
            · simp only [if_neg q, if_neg (show ¬ r < j + 1 by omega)]) (by omega) (by omega)
      simp only [Int.natCast_add, Int.natCast_one] at k1
      exact ⟨h', st.trans k1, ke.tr k2, k3.trans sz2, k4, k5⟩
theorem v_plM {N : Nat} (hN : 100000000 ≤ N) {nr nt nd : Nat} {rT : Nat → Nat} {pa wy gr ds sr dn : Nat → Int} {dr td : Nat → Option Nat} {rA tA dA : Nat → Nat} {hd : Nat → Int} {gn : Nat → Bool} {h : Hs} (hS : Sk h) (hz : 70 ≤ sz h) (hD : RDr h nd dA ds) (hR : RRo h nr nt rA tA rT wy gr hd gn) (hL : RTl nt nd nr rT dr td) (hnt : nt ≤ 40) {z y st : Int} (z1 : -100000 ≤ y) (z2 : y ≤ 100000) (hst : st = y - z) (hdn : ∀ r, r < nr → dr r ≠ none → -1000000000 ≤ dn r ∧ dn r ≤ 1000000000) (hM : RTm h nr rT dr sr (dnz ds dn dr z)) (hP : ∀ i, i < nt → aI h 33 i = iI (tpl pa wy gr sr dn ds dr td z i)) : ∃ h', fX12_place N h 29 (iI st) = some h' ∧ Ke [] [33, 43] [] [] h h' ∧ sz h' = sz h ∧ RTm h' nr rT dr sr (dnz ds dn dr y) ∧ (∀ i, i < nt → aI h' 33 i = iI (tpl pa wy gr sr dn ds dr td y i)) := by
  have c3 := hR.1.2.2
  have e0 : dnk ds dn dr z y 0 = dnz ds dn dr z := by
    funext r
    unfold dnk
    rw [if_neg (Nat.not_lt_zero r)]
  obtain ⟨h', k1, k2, k3, k4, k5⟩ := L_plM (N := N) (pa := pa) (wy := wy) (gr := gr) (hd := hd) (gn := gn) (rA := rA) (tA := tA) (dA := dA) (td := td) (nt := nt) (z := z) hL hnt z1 z2 hdn nr 0 N h hS hz hD hR (by rw [e0]; exact hM) (fun i hi => by
    rw [hP i hi]
    unfold pak tpl
    cases td i with
    | none => rfl
    | some r => simp) (by omega) (by omega)
  rw [hst]
  refine ⟨h', k1, k2, k3, fun r hr => ⟨(k4 r hr).1, fun hn => ?_⟩, fun i hi => ?_⟩
  · have := (k4 r hr).2 hn
    unfold dnk at this
    rw [if_pos hr] at this
    exact this
  · rw [k5 i hi]
    unfold pak tpl
    cases htd : td i with
    | none => rfl
    | some r => simp only [if_pos (hL.2 i r hi htd).1]
