/-! ===== free ===== -/
theorem L_freeM {N : Nat} (hN : 100000000 ≤ N) {nr nt nd : Nat} {rT : Nat → Nat} {pa wy gr ds sr dn : Nat → Int} {dr td : Nat → Option Nat} {rA tA dA : Nat → Nat} {hd : Nat → Int} {gn : Nat → Bool} (hL : RTl nt nd nr rT dr td) (hnt : nt ≤ 40) (hdn : ∀ r, r < nr → dr r ≠ none → -1000000000 ≤ dn r ∧ dn r ≤ 1000000000) {d n : Int} (hd1 : d = 1 ∨ d = -1) (n1 : n ≤ 9999) {u1 u2 u3 u4 : Int32} : ∀ (q : Nat) (c : Int) (fu : Nat) (h : Hs), Sk h → 70 ≤ sz h → RDr h nd dA ds → RRo h nr nt rA tA rT wy gr hd gn → RTm h nr rT dr sr (dnz ds dn dr (d * (n - c))) → (∀ i, i < nt → aI h 33 i = iI (tpl pa wy gr sr dn ds dr td (d * (n - c)) i)) → 0 ≤ c → c ≤ n → n - c ≤ q → q < fu → ∃ h', fX12_free_b52 N 29 fu h u1 u2 u3 u4 (iI n) (iI d) (iI c) = some (iI n, h') ∧ Ke [1221, 1222, 1223, 1224, 1225] [33, 43] [] [] h h' ∧ sz h' = sz h ∧ RTm h' nr rT dr sr (dnz ds dn dr 0) ∧ (∀ i, i < nt → aI h' 33 i = iI (tpl pa wy gr sr dn ds dr td 0 i)) ∧ gI h' 1221 29 = gI h 1221 29 - iI (d * n) ∧ gI h' 1222 29 = u4 ∧ gI h' 1223 29 = u1 ∧ gI h' 1224 29 = u2 ∧ gI h' 1225 29 = u3 := by
  have fin : ∀ (c : Int) (fu : Nat) (h : Hs), c = n → Sk h → 70 ≤ sz h → RDr h nd dA ds → RRo h nr nt rA tA rT wy gr hd gn → RTm h nr rT dr sr (dnz ds dn dr (d * (n - c))) → (∀ i, i < nt → aI h 33 i = iI (tpl pa wy gr sr dn ds dr td (d * (n - c)) i)) → ∃ h', fX12_free_b52 N 29 (fu + 1) h u1 u2 u3 u4 (iI n) (iI d) (iI c) = some (iI n, h') ∧ Ke [1221, 1222, 1223, 1224, 1225] [33, 43] [] [] h h' ∧ sz h' = sz h ∧ RTm h' nr rT dr sr (dnz ds dn dr 0) ∧ (∀ i, i < nt → aI h' 33 i = iI (tpl pa wy gr sr dn ds dr td 0 i)) ∧ gI h' 1221 29 = gI h 1221 29 - iI (d * n) ∧ gI h' 1222 29 = u4 ∧ gI h' 1223 29 = u1 ∧ gI h' 1224 29 = u2 ∧ gI h' 1225 29 = u3 := by
    intro c fu h ec hS hz hD hR hM hP
    subst ec
    rw [Int.sub_self, Int.mul_zero] at hM hP
    have c29 : (sh h 29).1 = 12 := by rw [ss_29 hS]
    obtain ⟨h6, eh6⟩ : ∃ h6, h6 = uI (uI (uI (uI (uI h 1221 29 (gI h 1221 29 - iI d * iI c)) 1222 29 u4) 1223 29 u1) 1224 29 u2) 1225 29 u3 := ⟨_, rfl⟩
    have ke : Ke [1221, 1222, 1223, 1224, 1225] [] [] [] h h6 := by rw [eh6]; exact ((((Ke_rf.u 1221 29 _ (by decide)).u 1222 29 _ (by decide)).u 1223 29 _ (by decide)).u 1224 29 _ (by decide)).u 1225 29 _ (by decide)
    refine ⟨h6, ?_, ke.w (by decide) (by decide) (by decide) (by decide), by rw [eh6]; rfl, hM.e hz ke (by decide), fun i hi => by rw [ke.2.1 33 (by decide) (by omega)]; exact hP i hi, by rw [eh6, ← iI_mul]; simp [HR], by rw [eh6]; simp [HR], by rw [eh6]; simp [HR], by rw [eh6]; simp [HR], by rw [eh6]; simp [HR]⟩
    show fX12_free_b52_body N (fX12_free_b52 N 29 fu) 29 h u1 u2 u3 u4 (iI c) (iI d) (iI c) = _
    simp only [fX12_free_b52_body]
    refine ifp (Int32.le_refl _) ?_
    refine bst (oIv c29 rfl) ?_
    refine bst (qIv c29) ?_
    refine bst (qIv (by rw [sh_uI]; exact c29)) ?_
    refine bst (qIv (by rw [sh_uI, sh_uI]; exact c29)) ?_
    refine bst (qIv (by rw [sh_uI, sh_uI, sh_uI]; exact c29)) ?_
    refine bst (qIv (by rw [sh_uI, sh_uI, sh_uI, sh_uI]; exact c29)) ?_
    rw [eh6]
  intro q
  induction q with
  | zero =>
    intro c fu h hS hz hD hR hM hP c1 c2 hq hf
    obtain ⟨fu, rfl⟩ : ∃ m, fu = m + 1 := ⟨fu - 1, by omega⟩
    exact fin c fu h (by omega) hS hz hD hR hM hP
  | succ q ih =>
    intro c fu h hS hz hD hR hM hP c1 c2 hq hf
    obtain ⟨fu, rfl⟩ : ∃ m, fu = m + 1 := ⟨fu - 1, by omega⟩
    by_cases ec : c = n
    · exact fin c fu h ec hS hz hD hR hM hP
    have a1 : ¬ iI n ≤ iI c := fun w => by have := (iI_le (by omega) (by omega) (by omega) (by omega)).mp w; omega
    have zb : -100000 ≤ d * (n - (c + 1)) ∧ d * (n - (c + 1)) ≤ 100000 := by rcases hd1 with rfl | rfl <;> omega
    have ed : -d = d * (n - (c + 1)) - d * (n - c) := by
      rw [show n - c = n - (c + 1) + 1 by omega, Int.mul_add, Int.mul_one]
      omega
    obtain ⟨h1, e1, ke1, s1, hM1, hP1⟩ := v_plM (N := N) hN hS hz hD hR hL hnt (z := d * (n - c)) zb.1 zb.2 ed hdn hM hP
    rw [← iI_neg] at e1
    obtain ⟨h', r1, r2, r3, r4, r5, r6, r7⟩ := ih (c + 1) fu h1 (hS.e hz ke1 (by decide)) (by omega) (hD.e hz ke1 (by decide) (by decide) (by decide)) (hR.e hz ke1 (by decide) (by decide) (by decide) (by decide)) hM1 hP1 (by omega) (by omega) (by omega) (by omega)
    refine ⟨h', ?_, (ke1.w (by decide) (by decide) (by decide) (by decide)).tr r2, r3.trans s1, r4, r5, by rw [r6, ke1.1 1221 29 (by decide) (by omega)], r7⟩
    have rc12 : rc 12 h (some 29) = some 29 := rcv (by rw [ss_29 hS])
    show fX12_free_b52_body N (fX12_free_b52 N 29 fu) 29 h u1 u2 u3 u4 (iI n) (iI d) (iI c) = _
    simp only [fX12_free_b52_body, lit, iI_add, Option.bind_some]
    refine ifn (a1) ?_
    refine bst (rc12) ?_
    refine bst (e1) ?_
    exact r1
theorem t_free {N : Nat} (hN : 100000000 ≤ N) {h : Hs} (hS : Sk h) (hz : 70 ≤ sz h) {nr nt nd : Nat} {rA tA dA rT : Nat → Nat} {wy gr hd ds : Nat → Int} {gn : Nat → Bool} {tl tw tg ls ms pa : Nat → Int} {dr td : Nat → Option Nat} {sr dn : Nat → Int} (hT : RTh h nt tA tl tw tg ls ms pa) (hD : RDr h nd dA ds) (hR : RRo h nr nt rA tA rT wy gr hd gn) (hI : RTi h nt nd nr tA dA rA rT dr td sr dn) (hW : ICnt h) (hB : IBnd h) (hE : RSh h) (hG : IStp h) (hdn : ∀ r, r < nr → dr r ≠ none → -1000000000 ≤ dn r ∧ dn r ≤ 1000000000) (hsr : ∀ r, r < nr → dr r ≠ none → 0 ≤ sr r ∧ sr r ≤ 100) (hA : ∀ r, r < nr → dr r ≠ none → pa (rT r) = sr r + wy r * (dn r).tdiv (100 * gr r)) (p : Int32) : ∃ a h1 h2, fX11_free N h 0 p = some (a, h1) ∧ fX12_free N h1 29 p = some (a, h2) ∧ RTh h2 nt tA tl tw tg ls ms pa ∧ RTi h2 nt nd nr tA dA rA rT dr td sr dn ∧ IStp h2 ∧ RSh h2 ∧ Ke [908, 700, 701, 702, 1221, 1222, 1223, 1224, 1225] [33, 43] [] [] h h2 ∧ sz h2 = sz h := by
  obtain ⟨z, y1, y2, rfl⟩ := iI_ex p
  by_cases w : -9999 ≤ z ∧ z ≤ 9999
  · obtain ⟨hC, hM, hL⟩ := RTi_iff.mp hI
    obtain ⟨cw, hcw⟩ := hW
    obtain ⟨bd, bb1, bb2, b1, b2⟩ := hB
    obtain ⟨d, m, hdm⟩ : ∃ d m : Int, (0 ≤ z ∧ d = 1 ∧ m = z) ∨ (z < 0 ∧ d = -1 ∧ m = -z) := by
      by_cases q : 0 ≤ z
      · exact ⟨1, z, Or.inl ⟨q, rfl, rfl⟩⟩
      · exact ⟨-1, -z, Or.inr ⟨by omega, rfl, rfl⟩⟩
    have ct := hT.1.2.2
    obtain ⟨n, k, t, o, h2, e1, st, w1, ke12, s2, g23⟩ := v_look hN hS hz hT.o hD hR hC b1 b2 hL hdn hsr (fun i hi => (hcw i hi).2.2) (fun i hi => (hcw i hi).1) bb1 w.1 w.2 hdm
    have n0 := st.1
    have n1 := st.2.1
    have nb : n ≤ 9999 := by omega
    have hS2 := hS.e hz ke12 (by decide)
    have hz2 : 70 ≤ sz h2 := by omega
    have cl : fX11_free N h 0 (iI z) = some (iI n, h2) := by
      have it := isTurn_c (N := N) (h := h) (by omega) (by omega) (z := z)
      rw [if_pos w] at it
      have rc10 : rc 10 h (some 22) = some 22 := rcv (by rw [ss_22 hS])
      simp only [fX11_free, fX11_free_b19, lit]
      refine bst (it) ?_
      refine ifn (n10) ?_
      refine bst (sR_1101_0 hS) ?_
      refine bst (rc10) ?_
      refine bst (e1) ?_
      rfl
    have hD2 := hD.e hz ke12 (by decide) (by decide) (by decide)
    have hR2 := hR.e hz ke12 (by decide) (by decide) (by decide) (by decide)
    have hQ2 := hT.q.e hz ke12 (by decide) (by decide)
    have at2 : ∀ i, i < nt → aI h2 33 i = iI (pa i) := fun i hi => by rw [ke12.2.1 33 (by decide) (by omega)]; exact (hT.2.1 i hi).2.2.1.2.2.2.1
    obtain ⟨n', k', t', o', h3, e3, st', w3, ke3, s3, hM3, hP3, g31, g32⟩ := v_turnNow hN hS2 hz2 hQ2 at2 hD2 hR2 (hM.e hz ke12 (by decide)) b1 b2 hL hdn hsr hA (fun i hi => (show 0 ≤ pa i ∧ pa i ≤ 100 by have := (hT.2.1 i hi).2.2.2; omega)) (fun i hi => (hcw i hi).2.2) (fun i hi => by rw [ke12.2.1 45 (by decide) (by omega)]; exact (hcw i hi).2.1) (by rw [ke12.1 1220 29 (by decide) (by omega)]; exact bb2) w.1 w.2 hdm
    obtain ⟨rfl, rfl, rfl, rfl⟩ := Stq_un (WH := tWh nt ls ms tl tw tg pa wy gr sr dn ds rT dr td nr cw bd d) (fun s k t o k' t' o' a b => Wh_un a b) st st'
    have hS3 := hS2.e hz2 ke3 (by decide)
    have hz3 : 70 ≤ sz h3 := by omega
    obtain ⟨h4, r1, ke4, s4, hM4, hP4, q1, q2, q3, q4, q5⟩ := L_freeM (N := N) (rA := rA) (tA := tA) (dA := dA) (hd := hd) (gn := gn) hN hL ct hdn (d := d) (n := n) (by omega) nb (u1 := gI h2 1223 29) (u2 := gI h2 1224 29) (u3 := gI h2 1225 29) (u4 := gI h2 1222 29) 9999 0 N h3 hS3 hz3 (hD2.e hz2 ke3 (by decide) (by decide) (by decide)) (hR2.e hz2 ke3 (by decide) (by decide) (by decide) (by decide)) (by rw [Int.sub_zero]; exact hM3) (fun i hi => by rw [Int.sub_zero]; exact hP3 i hi) (by omega) n0 (by omega) (by omega)
    have rf : fX12_free N h2 29 (iI z) = some (iI n, h4) := by
      have it := isTurn_m (N := N) (h := h2) (by omega) (by omega) (z := z)
      rw [if_pos w] at it
      have rc12 : rc 12 h2 (some 29) = some 29 := rcv (by rw [ss_29 hS2])
      have c29 : (sh h2 29).1 = 12 := by rw [ss_29 hS2]
      simp only [fX12_free, fX12_free_b47, lit]
      rcases hdm with ⟨q, rfl, rfl⟩ | ⟨q, rfl, rfl⟩
      · have q1 : iI 0 ≤ iI m := (iI_le (by omega) (by omega) (by omega) (by omega)).mpr q
        refine bst (it) ?_
        refine ifn (n10) ?_
        refine bst (oIv c29 rfl) ?_
        refine bst (oIv c29 rfl) ?_
        refine bst (oIv c29 rfl) ?_
        refine bst (oIv c29 rfl) ?_
        refine bst (rc12) ?_
        refine bst (e3) ?_
        refine ifp (q1) ?_
        exact r1
      · have q1 : ¬ iI 0 ≤ iI z := fun w => by have := (iI_le (by omega) (by omega) (by omega) (by omega)).mp w; omega
        refine bst (it) ?_
        refine ifn (n10) ?_
        refine bst (oIv c29 rfl) ?_
        refine bst (oIv c29 rfl) ?_
        refine bst (oIv c29 rfl) ?_
        refine bst (oIv c29 rfl) ?_
        refine bst (rc12) ?_
        refine bst (e3) ?_
        refine ifn (q1) ?_
        exact r1
    have ke24 : Ke [1221, 1222, 1223, 1224, 1225] [33, 43] [] [] h2 h4 := ke3.tr ke4
    have ke : Ke [908, 700, 701, 702, 1221, 1222, 1223, 1224, 1225] [33, 43] [] [] h h4 := (ke12.w (by decide) (by decide) (by decide) (by decide)).tr (ke24.w (by decide) (by decide) (by decide) (by decide))
    rw [dnz_0] at hM4
    refine ⟨iI n, h2, h4, cl, rf, ?_, ?_, ?_, ?_, ke, by omega⟩
    · refine RTh_of (hT.o.e hz ke (by decide) (by decide)) (by rw [ke.1 1201 29 (by decide) (by omega)]; exact hT.1.2.1) (fun i hi => ?_)
      obtain ⟨-, -, ⟨x0, x1, x2, x3, x4, x5⟩, -⟩ := hT.2.1 i hi
      rw [ke.2.1 30 (by decide) (by omega), ke.2.1 31 (by decide) (by omega), ke.2.1 32 (by decide) (by omega), ke.2.1 34 (by decide) (by omega), ke.2.1 35 (by decide) (by omega), hP4 i hi, tpl_0 hL hA hi]
      exact ⟨x0, x1, x2, rfl, x4, x5⟩
    · exact RTi_iff.mpr ⟨hC.e hT.lt hR.lt ke (by decide) (by decide), hM4, hL⟩
    · refine ⟨?_, ?_, ?_⟩
      · rw [ke24.1 700 23 (by decide) (by omega), g23 700 (by decide), q3, ke12.1 1223 29 (by decide) (by omega)]; exact hG.1
      · rw [ke24.1 701 23 (by decide) (by omega), g23 701 (by decide), q4, ke12.1 1224 29 (by decide) (by omega)]; exact hG.2.1
      · rw [ke24.1 702 23 (by decide) (by omega), g23 702 (by decide), q5, ke12.1 1225 29 (by decide) (by omega)]; exact hG.2.2
    · refine ⟨?_, ?_⟩
      · rw [ke.1 511 14 (by decide) (by omega), q1, g31, ke12.1 1221 29 (by decide) (by omega), hE.1]
        obtain ⟨x, -, -, ex⟩ := iI_ex (gI h 1221 29)
        rw [ex, iI_add, iI_sub]
        congr 1
        omega
      · rw [ke.1 512 14 (by decide) (by omega), q2, ke12.1 1222 29 (by decide) (by omega)]; exact hE.2
  · have it := isTurn_c (N := N) (h := h) y1 y2
    have im := isTurn_m (N := N) (h := h) y1 y2
    rw [if_neg w] at it im
    refine ⟨iI (-1), h, h, ?_, ?_, hT, hI, hG, hE, Ke_rf, rfl⟩
    · simp only [fX11_free, fX11_free_b19, lit, iI_neg]
      refine bst (it) ?_
      refine ifp (rfl) ?_
      rfl
    · simp only [fX12_free, lit, iI_neg]
      refine bst (im) ?_
      refine ifp (rfl) ?_
      rfl
