/-! ===== turning, the class: the steps are done ===== -/
/-- what rope r has done after z steps more -/
def dnz (ds dn : Nat → Int) (dr : Nat → Option Nat) (z : Int) (r : Nat) : Int := match dr r with
  | none => dn r
  | some e => dn r + ds e * z
def dnj (ds dn : Nat → Int) (dr : Nat → Option Nat) (z : Int) (j : Nat) (r : Nat) : Int := if r < j then dnz ds dn dr z r else dn r
def paj (pa wy gr sr dn ds : Nat → Int) (dr td : Nat → Option Nat) (z : Int) (j : Nat) (i : Nat) : Int := match td i with
  | none => pa i
  | some r => if r < j then tpl pa wy gr sr dn ds dr td z i else pa i
theorem L_adv {N : Nat} {nr nt nd : Nat} {rT : Nat → Nat} {pa wy gr ds sr dn : Nat → Int} {dr td : Nat → Option Nat} {rA tA dA : Nat → Nat} {hd : Nat → Int} {gn : Nat → Bool} (hL : RTl nt nd nr rT dr td) (ti : ∀ i j, i < nt → j < nt → tA i = tA j → i = j) {z : Int} (z1 : -100000 ≤ z) (z2 : z ≤ 100000) (hdn : ∀ r, r < nr → dr r ≠ none → -1000000000 ≤ dn r ∧ dn r ≤ 1000000000) : ∀ (e j fu : Nat) (h : Hs), Sk h → 70 ≤ sz h → (∀ i, i < nt → tA i < sz h ∧ sh h (tA i) = (9, 0)) → RDr h nd dA ds → RRo h nr nt rA tA rT wy gr hd gn → RTc h nt nr tA dA rA dr td sr (dnj ds dn dr z j) → (∀ i, i < nt → gI h 907 (tA i) = iI (paj pa wy gr sr dn ds dr td z j i)) → j + e = nr → e < fu → ∃ h', fX5_advance_b2 N 14 fu h (iI z) (iI j) = some h' ∧ Ke [407, 907, 511, 512] [] [] [] h h' ∧ sz h' = sz h ∧ RTc h' nt nr tA dA rA dr td sr (dnj ds dn dr z nr) ∧ (∀ i, i < nt → gI h' 907 (tA i) = iI (paj pa wy gr sr dn ds dr td z nr i)) ∧ gI h' 511 14 = gI h 511 14 + iI z ∧ gI h' 512 14 = gI h 512 14 + iI (if 0 ≤ z then z else -z) := by
  intro e
  induction e with
  | zero =>
    intro j fu h hS hz hTA hD hR hC hP hj hf
    obtain ⟨fu, rfl⟩ : ∃ m, fu = m + 1 := ⟨fu - 1, by omega⟩
    have ej : j = nr := by omega
    subst ej
    have c3 := hR.1.2.2
    have o9 : oI 5 9 h (some 14) = some (iI j) := oIv (by rw [ss_14 hS]) hR.1.1
    have a1 : iI (j : Int) ≤ iI (j : Int) := Int32.le_refl _
    have ab : (if iI 0 ≤ iI z then iI z else iI 0 - iI z) = iI (if 0 ≤ z then z else -z) := by
      by_cases q : 0 ≤ z
      · rw [if_pos q, if_pos ((iI_le (by omega) (by omega) (by omega) (by omega)).mpr q)]
      · rw [if_neg q, if_neg (fun w => q ((iI_le (by omega) (by omega) (by omega) (by omega)).mp w)), iI_sub, Int.zero_sub]
    obtain ⟨h1, eh1⟩ : ∃ h1, h1 = uI h 511 14 (gI h 511 14 + iI z) := ⟨_, rfl⟩
    obtain ⟨h2, eh2⟩ : ∃ h2, h2 = uI h1 512 14 (gI h 512 14 + iI (if 0 ≤ z then z else -z)) := ⟨_, rfl⟩
    have ke : Ke [511, 512] [] [] [] h h2 := by rw [eh2, eh1]; exact (Ke_rf.u 511 14 _ (by decide)).u 512 14 _ (by decide)
    have g12 : gI h1 512 14 = gI h 512 14 := by rw [eh1]; simp [HR]
    refine ⟨h2, ?_, ke.w (by decide) (by decide) (by decide) (by decide), by rw [eh2, eh1]; rfl, hC.e (fun i hi => (hTA i hi).1) hR.lt ke (by decide) (by decide), fun i hi => by rw [ke.1 907 _ (by decide) (hTA i hi).1]; exact hP i hi, by rw [eh2, eh1]; simp [HR], by rw [eh2]; simp [HR]⟩
    show fX5_advance_b2_body N (fX5_advance_b2 N 14 fu) 14 h (iI z) (iI j) = _
    simp only [fX5_advance_b2_body, lit]
    refine bst (o9) ?_
    refine ifp (a1) ?_
    refine bst (oIv (by rw [ss_14 hS]) rfl) ?_
    refine bst (qIv (by rw [ss_14 hS])) ?_
    rw [ab]
    rw [← eh1]
    refine bst (oIv (by rw [eh1, sh_uI, ss_14 hS]) g12) ?_
    refine bst (qIv (by rw [eh1, sh_uI, ss_14 hS])) ?_
    rw [eh2]
  | succ e ih =>
    intro j fu h hS hz hTA hD hR hC hP hj hf
    obtain ⟨fu, rfl⟩ : ∃ m, fu = m + 1 := ⟨fu - 1, by omega⟩
    have c3 := hR.1.2.2
    have o9 : oI 5 9 h (some 14) = some (iI nr) := oIv (by rw [ss_14 hS]) hR.1.1
    have a1 : ¬ iI (nr : Int) ≤ iI (j : Int) := fun q => by have := (iI_le (by omega) (by omega) (by omega) (by omega)).mp q; omega
    obtain ⟨⟨d1, d2, d3, d4⟩, ⟨f0, f1, f2, f3, f4, f8⟩, -, q1, q2, q3, q4, q5⟩ := hR.2.1 j (by omega)
    have lq : lQ 25 h (some 17) (iI j) = some (some (rA j)) := lQv (ss_17 hS) (by omega) (by omega) d1
    have rc4 : rc 4 h (some (rA j)) = some (rA j) := rcv (by rw [d4])
    obtain ⟨c1, c2⟩ := hC.1 j (by omega)
    have st : ∀ h1, fX4_advance N h (rA j) (iI z) = some h1 → fX5_advance_b2 N 14 (fu + 1) h (iI z) (iI j) = fX5_advance_b2 N 14 fu h1 (iI z) (iI ((j : Int) + 1)) := by
      intro h1 ea
      show fX5_advance_b2_body N (fX5_advance_b2 N 14 fu) 14 h (iI z) (iI j) = _
      simp only [fX5_advance_b2_body, lit, iI_add, Option.bind_some]
      refine bst (o9) ?_
      refine ifn (a1) ?_
      refine bst (sR_502_14 hS) ?_
      refine bst (lq) ?_
      refine bst (rc4) ?_
      refine bst (ea) ?_
      rfl
    cases hdr : dr j with
    | none =>
      rw [hdr] at c1
      have ea : fX4_advance N h (rA j) (iI z) = some h := by
        simp only [fX4_advance, fX4_advance_b35]
        refine bst (oRv (by rw [d4]) c1) ?_
        refine ifp (rfl) ?_
        rfl
      obtain ⟨h', k1, k2, k3, k4, k5, k6, k7⟩ := ih (j + 1) fu h hS hz hTA hD hR (by
        refine ⟨fun r hr => ⟨(hC.1 r hr).1, fun hne => ?_⟩, hC.2⟩
        have er : r ≠ j := fun q => hne (by rw [q]; exact hdr)
        have e9 : dnj ds dn dr z (j + 1) r = dnj ds dn dr z j r := by
          unfold dnj
          by_cases q : r < j
          · rw [if_pos q, if_pos (by omega)]
          · rw [if_neg q, if_neg (by omega)]
        rw [e9]
        exact (hC.1 r hr).2 hne) (fun i hi => by
        rw [hP i hi]
        unfold paj
        cases htd : td i with
        | none => rfl
        | some r =>
          have er : r ≠ j := fun q => (hL.2 i r hi htd).2.2 (by rw [q]; exact hdr)
          by_cases q : r < j
          · simp only [if_pos q, if_pos (show r < j + 1 by omega)]
          · simp only [if_neg q, if_neg (show ¬ r < j + 1 by omega)]) (by omega) (by omega)
      simp only [Int.natCast_add, Int.natCast_one] at k1
      exact ⟨h', (st h ea).trans k1, k2, k3, k4, k5, k6, k7⟩
    | some e0 =>
      have hne : dr j ≠ none := by rw [hdr]; exact fun q => by cases q
      have hel := (hL.1 j e0 (by omega) hdr).1
      have htj := (hL.1 j e0 (by omega) hdr).2
      obtain ⟨-, -, -, e5, e6⟩ := hD.2.1 e0 hel
      obtain ⟨s6, s7⟩ := c2 hne
      have hjj : dnj ds dn dr z j j = dn j := if_neg (Nat.lt_irrefl j)
      have da := v_doneAfter (N := N) hR hD hC (show j < nr by omega) hdr hel (k := z)
      rw [hjj] at da
      have nb := hdn j (by omega) hne
      have b4 : ds e0 * z ≤ ds e0 * 100000 := Int.mul_le_mul_of_nonneg_left z2 (by omega)
      have b5 : ds e0 * (-100000) ≤ ds e0 * z := Int.mul_le_mul_of_nonneg_left z1 (by omega)
      have enz : dnz ds dn dr z j = dn j + ds e0 * z := by simp [dnz, hdr]
      obtain ⟨h4, eh4⟩ : ∃ h4, h4 = uI h 407 (rA j) (iI (dn j + ds e0 * z)) := ⟨_, rfl⟩
      have ke4 : Ke [407] [] [] [] h h4 := by rw [eh4]; exact Ke_rf.u 407 _ _ (by decide)
      have sz4 : sz h4 = sz h := by rw [eh4]; rfl
      have sh4 : ∀ a, sh h4 a = sh h a := by intro a; rw [eh4]; rfl
      have hS4 := hS.e hz ke4 (by decide)
      have hR4 := hR.e hz ke4 (by decide) (by decide) (by decide) (by decide)
      obtain ⟨-, ⟨x0, x1, x2, x3, x4, x8⟩, -⟩ := hR4.2.1 j (by omega)
      have d44 : sh h4 (rA j) = (4, 0) := by rw [sh4]; exact d4
      have pf := v_placeFrom (N := N) hR4 (show j < nr by omega) (p := sr j) (q := dn j + ds e0 * z) (by omega) (by omega)
      have g46 : gI h4 406 (rA j) = iI (sr j) := by rw [ke4.1 406 _ (by decide) d3]; exact s6
      have g47 : gI h4 407 (rA j) = iI (dn j + ds e0 * z) := by rw [eh4]; simp [HR]
      obtain ⟨h5, eh5⟩ : ∃ h5, h5 = uI h4 907 (tA (rT j)) (iI (sr j + wy j * (dn j + ds e0 * z).tdiv (100 * gr j))) := ⟨_, rfl⟩
      have ke5 : Ke [907] [] [] [] h4 h5 := by rw [eh5]; exact Ke_rf.u 907 _ _ (by decide)
      have sz5 : sz h5 = sz h := by rw [eh5]; exact sz4
      have ke : Ke [407, 907, 511, 512] [] [] [] h h5 := (ke4.w (by decide) (by decide) (by decide) (by decide)).tr (ke5.w (by decide) (by decide) (by decide) (by decide))
      have ea : fX4_advance N h (rA j) (iI z) = some h5 := by
        have o5 : oR 4 5 h (some (rA j)) = some (some (dA e0)) := oRv (by rw [d4]) (by rw [c1, hdr]; rfl)
        simp only [fX4_advance, fX4_advance_b35]
        refine bst (o5) ?_
        refine ifn (fun q => by cases q) ?_
        refine bst (rc4) ?_
        refine bst (da) ?_
        refine bst (qIv (by rw [d4])) ?_
        rw [← eh4]
        refine bst (oRv (by rw [d44]) x1) ?_
        refine bst (oIv (by rw [d44]) g46) ?_
        refine bst (oIv (by rw [d44]) g47) ?_
        refine bst (rcv (by rw [d44])) ?_
        refine bst (pf) ?_
        refine bst (qIv (by rw [sh4, (hTA _ q1).2])) ?_
        rw [eh5]
      have hS5 := hS.e hz ke (by decide)
      have sh5 : ∀ a, sh h5 a = sh h a := by intro a; rw [eh5]; exact sh4 a
      obtain ⟨h', k1, k2, k3, k4, k5, k6, k7⟩ := ih (j + 1) fu h5 hS5 (by omega) (fun i hi => by rw [sz5, sh5]; exact hTA i hi) (hD.e hz ke (by decide) (by decide) (by decide)) (hR.e hz ke (by decide) (by decide) (by decide) (by decide)) (by
        refine ⟨fun r hr => ?_, fun i hi => ?_⟩
        · have hr3 := (hR.2.1 r hr).1.2.2.1
          rw [ke.2.2.1 405 _ (by decide) hr3, ke.1 406 _ (by decide) hr3]
          refine ⟨(hC.1 r hr).1, fun hn => ⟨((hC.1 r hr).2 hn).1, ?_⟩⟩
          rw [ke5.1 407 _ (by decide) (by omega)]
          by_cases er : r = j
          · rw [er, g47]
            unfold dnj
            rw [if_pos (by omega), enz]
          · have na : ¬ rA r = rA j := fun q => er (hR.2.2 r j hr (by omega) q)
            have e9 : dnj ds dn dr z (j + 1) r = dnj ds dn dr z j r := by
              unfold dnj
              by_cases q : r < j
              · rw [if_pos q, if_pos (by omega)]
              · rw [if_neg q, if_neg (by omega)]
            rw [e9, ← ((hC.1 r hr).2 hn).2, eh4]
            simp [HR, na]
        · rw [ke.2.2.1 909 _ (by decide) (hTA i hi).1]
          exact hC.2 i hi) (fun i hi => by
        by_cases er : i = rT j
        · rw [er, eh5]
          have ep : paj pa wy gr sr dn ds dr td z (j + 1) (rT j) = sr j + wy j * (dn j + ds e0 * z).tdiv (100 * gr j) := by
            simp only [paj, htj, if_pos (Nat.lt_succ_self j), tpl, hdr, rpl]
          rw [ep]
          simp [HR]
        · have na : ¬ tA i = tA (rT j) := fun q => er (ti i (rT j) hi q1 q)
          have g5 : gI h5 907 (tA i) = gI h 907 (tA i) := by
            rw [eh5, eh4]
            simp [HR, na]
          rw [g5, hP i hi]
          unfold paj
          cases htd : td i with
          | none => rfl
          | some r =>
            have er2 : r ≠ j := fun q => er (by rw [← (hL.2 i r hi htd).2.1, q])
            by_cases q : r < j
            · simp only [if_pos q, if_pos (show r < j + 1 by omega)]
            · simp only [if_neg q, if_neg (show ¬ r < j + 1 by omega)]) (by omega) (by omega)
      simp only [Int.natCast_add, Int.natCast_one] at k1
      have g51 : gI h5 511 14 = gI h 511 14 := by rw [eh5, eh4]; simp [HR]
      have g52 : gI h5 512 14 = gI h 512 14 := by rw [eh5, eh4]; simp [HR]
      exact ⟨h', (st h5 ea).trans k1, ke.tr k2, k3.trans sz5, k4, k5, by rw [k6, g51], by rw [k7, g52]⟩
theorem v_adv {N : Nat} (hN : 100000000 ≤ N) {h : Hs} (hS : Sk h) (hz : 70 ≤ sz h) {nr nt nd : Nat} {rA tA dA rT : Nat → Nat} {wy gr hd ds : Nat → Int} {gn : Nat → Bool} {tl tw tg ls ms pa : Nat → Int} {dr td : Nat → Option Nat} {sr dn : Nat → Int} (hT : RTo h nt tA tl tw tg ls ms pa) (hD : RDr h nd dA ds) (hR : RRo h nr nt rA tA rT wy gr hd gn) (hC : RTc h nt nr tA dA rA dr td sr dn) (hL : RTl nt nd nr rT dr td) (hdn : ∀ r, r < nr → dr r ≠ none → -1000000000 ≤ dn r ∧ dn r ≤ 1000000000) {z : Int} (z1 : -100000 ≤ z) (z2 : z ≤ 100000) : ∃ h', fX5_advance N h 14 (iI z) = some h' ∧ Ke [407, 907, 511, 512] [] [] [] h h' ∧ sz h' = sz h ∧ RTc h' nt nr tA dA rA dr td sr (dnz ds dn dr z) ∧ (∀ i, i < nt → gI h' 907 (tA i) = iI (tpl pa wy gr sr dn ds dr td z i)) ∧ gI h' 511 14 = gI h 511 14 + iI z ∧ gI h' 512 14 = gI h 512 14 + iI (if 0 ≤ z then z else -z) := by
  have c3 := hR.1.2.2
  have e0 : dnj ds dn dr z 0 = dn := by
    funext r
    unfold dnj
    rw [if_neg (Nat.not_lt_zero r)]
  obtain ⟨h', k1, k2, k3, k4, k5, k6, k7⟩ := L_adv (N := N) (pa := pa) (wy := wy) (gr := gr) (hd := hd) (gn := gn) hL hT.2.2 z1 z2 hdn nr 0 N h hS hz (fun i hi => ⟨hT.lt i hi, (hT.2.1 i hi).1.2.2.2⟩) hD hR (by rw [e0]; exact hC) (fun i hi => by
    have ep : paj pa wy gr sr dn ds dr td z 0 i = pa i := by
      unfold paj
      cases td i with
      | none => rfl
      | some r => simp
    rw [ep]
    exact (hT.2.1 i hi).2.1.2.2.2.2.2.2) (by omega) (by omega)
  refine ⟨h', k1, k2, k3, ⟨fun r hr => ⟨(k4.1 r hr).1, fun hn => ?_⟩, k4.2⟩, fun i hi => ?_, k6, k7⟩
  · have := (k4.1 r hr).2 hn
    unfold dnj at this
    rw [if_pos hr] at this
    exact this
  · rw [k5 i hi]
    unfold paj tpl
    cases htd : td i with
    | none => rfl
    | some r => simp only [if_pos (hL.2 i r hi htd).1]
/-- the class turns -/
theorem v_turnBy {N : Nat} (hN : 100000000 ≤ N) {h : Hs} (hS : Sk h) (hz : 70 ≤ sz h) {nr nt nd : Nat} {rA tA dA rT : Nat → Nat} {wy gr hd ds : Nat → Int} {gn : Nat → Bool} {tl tw tg ls ms pa : Nat → Int} {dr td : Nat → Option Nat} {sr dn : Nat → Int} (hT : RTo h nt tA tl tw tg ls ms pa) (hD : RDr h nd dA ds) (hR : RRo h nr nt rA tA rT wy gr hd gn) (hC : RTc h nt nr tA dA rA dr td sr dn) {cw : Nat → Int} {bd : Int} (b1 : 0 ≤ bd) (b2 : bd ≤ 99999) (hL : RTl nt nd nr rT dr td) (hdn : ∀ r, r < nr → dr r ≠ none → -1000000000 ≤ dn r ∧ dn r ≤ 1000000000) (hsr : ∀ r, r < nr → dr r ≠ none → 0 ≤ sr r ∧ sr r ≤ 100) (hcw : ∀ i, i < 20 → -9999 ≤ cw i ∧ cw i ≤ 9999) (hW : ∀ i, i < 20 → aI h 18 i = iI (cw i)) (hB : gI h 510 14 = iI bd) {z d m : Int} (z1 : -9999 ≤ z) (z2 : z ≤ 9999) (hdm : (0 ≤ z ∧ d = 1 ∧ m = z) ∨ (z < 0 ∧ d = -1 ∧ m = -z)) : ∃ (n k t o : Int) (h' : Hs), fX10_turnBy N h 22 (iI z) = some (iI n, h') ∧ Stq m (tWh nt ls ms tl tw tg pa wy gr sr dn ds rT dr td nr cw bd d) n k t o ∧ (gI h' 700 23 = iI k ∧ gI h' 701 23 = iI t ∧ gI h' 702 23 = iI o) ∧ Ke [908, 700, 701, 702, 407, 907, 511, 512] [] [] [] h h' ∧ sz h' = sz h ∧ RTc h' nt nr tA dA rA dr td sr (dnz ds dn dr (d * n)) ∧ (∀ i, i < nt → gI h' 907 (tA i) = iI (tpl pa wy gr sr dn ds dr td (d * n) i)) ∧ gI h' 511 14 = gI h 511 14 + iI (d * n) ∧ gI h' 512 14 = gI h 512 14 + iI n := by
  obtain ⟨n, k, t, o, h1, r1, r2, ⟨r3, r3b, r3c⟩, r4, r5, r6⟩ := v_look hN hS hz hT hD hR hC b1 b2 hL hdn hsr hcw hW hB z1 z2 hdm
  have hS1 := hS.e hz r4 (by decide)
  have hz1 : 70 ≤ sz h1 := by omega
  have vp := v_putS (N := N) (h := h1) (a := 23) (k := k) (t := t) (o := o) (by rw [ss_23 hS1])
  have ke : Ke [700, 701, 702] [] [] [] h1 (putH h1 23 k t o) := Ke_put
  have p0 : gI (putH h1 23 k t o) 700 23 = iI k ∧ gI (putH h1 23 k t o) 701 23 = iI t ∧ gI (putH h1 23 k t o) 702 23 = iI o := put_0
  have sp : sz (putH h1 23 k t o) = sz h1 := rfl
  generalize putH h1 23 k t o = h2 at vp ke p0 sp
  have ke2 : Ke [908, 700, 701, 702] [] [] [] h h2 := r4.tr (ke.w (by decide) (by decide) (by decide) (by decide))
  have hS2 := hS.e hz ke2 (by decide)
  have n1 := r2.1
  have n2 := r2.2.1
  have zb : -100000 ≤ d * n ∧ d * n ≤ 100000 := by rcases hdm with ⟨_, rfl, _⟩ | ⟨_, rfl, _⟩ <;> omega
  obtain ⟨h3, k1, k2, k3, k4, k5, k6, k7⟩ := v_adv hN hS2 (by omega) (hT.e hz ke2 (by decide) (by decide)) (hD.e hz ke2 (by decide) (by decide) (by decide)) (hR.e hz ke2 (by decide) (by decide) (by decide) (by decide)) (hC.e hT.lt hR.lt ke2 (by decide) (by decide)) hL hdn zb.1 zb.2
  refine ⟨n, k, t, o, h3, ?_, r2, ⟨by rw [k2.1 700 23 (by decide) (by omega)]; exact p0.1, by rw [k2.1 701 23 (by decide) (by omega)]; exact p0.2.1, by rw [k2.1 702 23 (by decide) (by omega)]; exact p0.2.2⟩, (ke2.w (by decide) (by decide) (by decide) (by decide)).tr (k2.w (by decide) (by decide) (by decide) (by decide)), by rw [k3, sp, r5], k4, k5, by rw [k6, ke2.1 511 14 (by decide) (by omega)], ?_⟩
  · have rc10 : rc 10 h (some 22) = some 22 := rcv (by rw [ss_22 hS])
    have rc7 : rc 7 h1 (some 23) = some 23 := rcv (by rw [ss_23 hS1])
    have rc5 : rc 5 h2 (some 14) = some 14 := rcv (by rw [ss_14 hS2])
    have r1002 := sR_1002_22 hS1
    simp only [fX10_turnBy, fX10_turnBy_b48, lit]
    rcases hdm with ⟨q, rfl, rfl⟩ | ⟨q, rfl, rfl⟩
    · have q1 : iI 0 ≤ iI m := (iI_le (by omega) (by omega) (by omega) (by omega)).mpr q
      rw [Int.one_mul] at k1
      refine bst (rc10) ?_
      refine bst (r1) ?_
      refine bst (sR_1001_22 hS1) ?_
      refine bst (r1002) ?_
      refine bst (oIv (by rw [ss_24 hS1]) r3) ?_
      refine bst (r1002) ?_
      refine bst (oIv (by rw [ss_24 hS1]) r3b) ?_
      refine bst (r1002) ?_
      refine bst (oIv (by rw [ss_24 hS1]) r3c) ?_
      refine bst (rc7) ?_
      refine bst (vp) ?_
      refine bst (sR_1000_22 hS2) ?_
      refine ifp (q1) ?_
      refine bst (rc5) ?_
      refine bst (k1) ?_
      rfl
    · have q1 : ¬ iI 0 ≤ iI z := fun w => by have := (iI_le (by omega) (by omega) (by omega) (by omega)).mp w; omega
      rw [Int.neg_one_mul, ← iI_neg] at k1
      refine bst (rc10) ?_
      refine bst (r1) ?_
      refine bst (sR_1001_22 hS1) ?_
      refine bst (r1002) ?_
      refine bst (oIv (by rw [ss_24 hS1]) r3) ?_
      refine bst (r1002) ?_
      refine bst (oIv (by rw [ss_24 hS1]) r3b) ?_
      refine bst (r1002) ?_
      refine bst (oIv (by rw [ss_24 hS1]) r3c) ?_
      refine bst (rc7) ?_
      refine bst (vp) ?_
      refine bst (sR_1000_22 hS2) ?_
      refine ifn (q1) ?_
      refine bst (rc5) ?_
      refine bst (k1) ?_
      rfl
  · rw [k7, ke2.1 512 14 (by decide) (by omega)]
    have : (if 0 ≤ d * n then d * n else -(d * n)) = n := by
      rcases hdm with ⟨_, rfl, _⟩ | ⟨_, rfl, _⟩
      · rw [Int.one_mul, if_pos n1]
      · rw [Int.neg_one_mul]
        by_cases w : 0 ≤ -n
        · rw [if_pos w]; omega
        · rw [if_neg w]; omega
    rw [this]
