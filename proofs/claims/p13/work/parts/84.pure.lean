/-! ===== turn ===== -/
def RSh (h : Hs) : Prop := gI h 511 14 = gI h 1221 29 ∧ gI h 512 14 = gI h 1222 29
theorem RSh.e {F A FR AQ : List Nat} {h h2 : Hs} (hC : RSh h) (hz : 70 ≤ sz h) (k : Ke F A FR AQ h h2) (hF : ∀ f ∈ [511, 512, 1221, 1222], f ∉ F) : RSh h2 := by
  refine ⟨?_, ?_⟩
  · rw [k.1 _ _ (hF 511 (by decide)) (by omega), k.1 _ _ (hF 1221 (by decide)) (by omega)]; exact hC.1
  · rw [k.1 _ _ (hF 512 (by decide)) (by omega), k.1 _ _ (hF 1222 (by decide)) (by omega)]; exact hC.2
theorem RTo.mv {F A FR AQ : List Nat} {h h2 : Hs} {nt : Nat} {tA : Nat → Nat} {tl tw tg ls ms pa : Nat → Int} {pa' : Nat → Int} (hC : RTo h nt tA tl tw tg ls ms pa) (hz : 70 ≤ sz h) (k : Ke F A FR AQ h h2) (hF : ∀ f ∈ [507, 900, 901, 902, 903, 904, 905], f ∉ F) (hQ : 15 ∉ AQ) (h9 : ∀ i, i < nt → gI h2 907 (tA i) = iI (pa' i)) (hb : ∀ i, i < nt → ls i ≤ pa' i ∧ pa' i ≤ ms i) : RTo h2 nt tA tl tw tg ls ms pa' := by
  obtain ⟨⟨c1, c2, c3⟩, c4, c5⟩ := hC
  have k6 := k.2.2.2.2.2
  refine ⟨⟨by rw [k.1 _ _ (hF _ (by decide)) (by omega)]; exact c1, trivial, c3⟩, fun i hi => ?_, c5⟩
  obtain ⟨⟨d1, d2, d3, d4⟩, d5, d6, d7⟩ := c4 i hi
  have b := hb i hi
  refine ⟨⟨by rw [k.2.2.2.1 _ hQ (by omega)]; exact d1, d2, by omega, by rw [k.2.2.2.2.1 _ d3]; exact d4⟩, ?_, trivial, by omega⟩
  rw [k.1 _ _ (hF 900 (by decide)) d3, k.1 _ _ (hF 901 (by decide)) d3, k.1 _ _ (hF 902 (by decide)) d3, k.1 _ _ (hF 903 (by decide)) d3, k.1 _ _ (hF 904 (by decide)) d3, k.1 _ _ (hF 905 (by decide)) d3]
  exact ⟨d5.1, d5.2.1, d5.2.2.1, d5.2.2.2.1, d5.2.2.2.2.1, d5.2.2.2.2.2.1, h9 i hi⟩
theorem tpl_0 {nr nt nd : Nat} {rT : Nat → Nat} {pa wy gr ds sr dn : Nat → Int} {dr td : Nat → Option Nat} (hL : RTl nt nd nr rT dr td) (hA : ∀ r, r < nr → dr r ≠ none → pa (rT r) = sr r + wy r * (dn r).tdiv (100 * gr r)) {i : Nat} (hi : i < nt) : tpl pa wy gr sr dn ds dr td 0 i = pa i := by
  unfold tpl
  cases htd : td i with
  | none => rfl
  | some r =>
    obtain ⟨hr, hrt, hne⟩ := hL.2 i r hi htd
    obtain ⟨e, hde⟩ := Option.ne_none_iff_exists'.mp hne
    simp only [hde, rpl, Int.mul_zero, Int.add_zero]
    rw [← hA r hr hne, hrt]
theorem dnz_0 {ds dn : Nat → Int} {dr : Nat → Option Nat} : dnz ds dn dr 0 = dn := by
  funext r
  unfold dnz
  cases dr r with
  | none => rfl
  | some e => simp
theorem tpl_A {nr nt nd : Nat} {rT : Nat → Nat} {pa wy gr ds sr dn : Nat → Int} {dr td : Nat → Option Nat} (hL : RTl nt nd nr rT dr td) (z : Int) {r : Nat} (hr : r < nr) (hne : dr r ≠ none) : tpl pa wy gr sr dn ds dr td z (rT r) = sr r + wy r * (dnz ds dn dr z r).tdiv (100 * gr r) := by
  obtain ⟨e, hde⟩ := Option.ne_none_iff_exists'.mp hne
  have h1 := (hL.1 r e hr hde).2
  simp only [tpl, h1, hde, rpl, dnz]
theorem stq_in {nt : Nat} {ls ms tl tw tg pa wy gr sr dn ds : Nat → Int} {rT : Nat → Nat} {dr td : Nat → Option Nat} {nr nd : Nat} {cw : Nat → Int} {bd d m n k t o : Int} (hL : RTl nt nd nr rT dr td) (hA : ∀ r, r < nr → dr r ≠ none → pa (rT r) = sr r + wy r * (dn r).tdiv (100 * gr r)) (hb : ∀ i, i < nt → ls i ≤ pa i ∧ pa i ≤ ms i) (q : Stq m (tWh nt ls ms tl tw tg pa wy gr sr dn ds rT dr td nr cw bd d) n k t o) {i : Nat} (hi : i < nt) : ls i ≤ tpl pa wy gr sr dn ds dr td (d * n) i ∧ tpl pa wy gr sr dn ds dr td (d * n) i ≤ ms i := by
  obtain ⟨q1, q2, q3, q4⟩ := q
  by_cases w : n = 0
  · rw [w, Int.mul_zero, tpl_0 hL hA hi]
    exact hb i hi
  · exact Decidable.not_not.mp ((Wh0.mp (q3 n (by omega) (Int.le_refl n))).1 i hi)
theorem dnz_bd {nr nd nt : Nat} {rT : Nat → Nat} {ds dn : Nat → Int} {dr td : Nat → Option Nat} (hL : RTl nt nd nr rT dr td) (hs : ∀ e, e < nd → 1 ≤ ds e ∧ ds e ≤ 20) {z B : Int} (z1 : -B ≤ z) (z2 : z ≤ B) {r : Nat} (hr : r < nr) (hne : dr r ≠ none) : -(20 * B) ≤ dnz ds dn dr z r - dn r ∧ dnz ds dn dr z r - dn r ≤ 20 * B := by
  obtain ⟨e, hde⟩ := Option.ne_none_iff_exists'.mp hne
  have h1 := hs e (hL.1 r e hr hde).1
  simp only [dnz, hde]
  have b4 : ds e * z ≤ ds e * B := Int.mul_le_mul_of_nonneg_left z2 (by omega)
  have b5 : ds e * (-B) ≤ ds e * z := Int.mul_le_mul_of_nonneg_left z1 (by omega)
  have b6 : ds e * B ≤ 20 * B := Int.mul_le_mul_of_nonneg_right h1.2 (by omega)
  rw [Int.mul_neg] at b5
  omega
theorem t_turn {N : Nat} (hN : 100000000 ≤ N) {h : Hs} (hS : Sk h) (hz : 70 ≤ sz h) {nr nt nd : Nat} {rA tA dA rT : Nat → Nat} {wy gr hd ds : Nat → Int} {gn : Nat → Bool} {tl tw tg ls ms pa : Nat → Int} {dr td : Nat → Option Nat} {sr dn : Nat → Int} (hT : RTh h nt tA tl tw tg ls ms pa) (hD : RDr h nd dA ds) (hR : RRo h nr nt rA tA rT wy gr hd gn) (hI : RTi h nt nd nr tA dA rA rT dr td sr dn) (hW : ICnt h) (hB : IBnd h) (hE : RSh h) (hG : IStp h) (hK : ICan h) (hdn : ∀ r, r < nr → dr r ≠ none → -1000000000 ≤ dn r ∧ dn r ≤ 1000000000) (hsr : ∀ r, r < nr → dr r ≠ none → 0 ≤ sr r ∧ sr r ≤ 100) (hA : ∀ r, r < nr → dr r ≠ none → pa (rT r) = sr r + wy r * (dn r).tdiv (100 * gr r)) (p : Int32) : ∃ a h1 h2 pa' dn', fX11_turn N h 0 p = some (a, h1) ∧ fX12_turn N h1 29 p = some (a, h2) ∧ RTh h2 nt tA tl tw tg ls ms pa' ∧ RTi h2 nt nd nr tA dA rA rT dr td sr dn' ∧ (∀ r, r < nr → dr r ≠ none → pa' (rT r) = sr r + wy r * (dn' r).tdiv (100 * gr r)) ∧ (∀ r, r < nr → dr r ≠ none → -199980 ≤ dn' r - dn r ∧ dn' r - dn r ≤ 199980) ∧ IStp h2 ∧ ICn h h2 ∧ RSh h2 ∧ Ke [908, 700, 701, 702, 407, 907, 511, 512, 1106, 1221, 1222, 1223, 1224, 1225, 1243] [33, 43] [] [] h h2 ∧ sz h2 = sz h := by
  obtain ⟨z, y1, y2, rfl⟩ := iI_ex p
  by_cases w : -9999 ≤ z ∧ z ≤ 9999
  · obtain ⟨hC, hM, hL⟩ := RTi_iff.mp hI
    obtain ⟨cw, hcw⟩ := hW
    obtain ⟨bd, bb1, bb2, b1, b2⟩ := hB
    obtain ⟨c, k1, k2, k3⟩ := hK
    obtain ⟨d, m, hdm⟩ : ∃ d m : Int, (0 ≤ z ∧ d = 1 ∧ m = z) ∨ (z < 0 ∧ d = -1 ∧ m = -z) := by
      by_cases q : 0 ≤ z
      · exact ⟨1, z, Or.inl ⟨q, rfl, rfl⟩⟩
      · exact ⟨-1, -z, Or.inr ⟨by omega, rfl, rfl⟩⟩
    obtain ⟨n, k, t, o, h1, e1, st, w1, ke1, s1, hC1, hP1, g11, g12⟩ := v_turnBy hN hS hz hT.o hD hR hC b1 b2 hL hdn hsr (fun i hi => (hcw i hi).2.2) (fun i hi => (hcw i hi).1) bb1 w.1 w.2 hdm
    have n0 := st.1
    have n1 := st.2.1
    have nb : n ≤ 9999 := by omega
    have hS1 := hS.e hz ke1 (by decide)
    obtain ⟨h2, eh2⟩ : ∃ h2, h2 = (if 0 < n then uI h1 1106 0 (iI 0) else h1) := ⟨_, rfl⟩
    have ke2 : Ke [1106] [] [] [] h1 h2 := by
      rw [eh2]
      by_cases q : 0 < n
      · rw [if_pos q]; exact Ke_rf.u 1106 0 _ (by decide)
      · rw [if_neg q]; exact Ke_rf
    have s2 : sz h2 = sz h := by
      rw [eh2]
      by_cases q : 0 < n
      · rw [if_pos q]; exact s1
      · rw [if_neg q]; exact s1
    have g06 : gI h2 1106 0 = iI (if 0 < n then 0 else c) := by
      rw [eh2]
      by_cases q : 0 < n
      · rw [if_pos q, if_pos q]; simp [HR]
      · rw [if_neg q, if_neg q, ke1.1 1106 0 (by decide) (by omega)]; exact k1
    have cl : fX11_turn N h 0 (iI z) = some (iI n, h2) := by
      have it := isTurn_c (N := N) (h := h) (by omega) (by omega) (z := z)
      rw [if_pos w] at it
      have rc10 : rc 10 h (some 22) = some 22 := rcv (by rw [ss_22 hS])
      have rc11 : rc 11 h1 (some 0) = some 0 := rcv (by rw [ss_0 hS1])
      have ln : iI n ≤ iI 0 ↔ n ≤ 0 := iI_le (by omega) (by omega) (by omega) (by omega)
      simp only [fX11_turn, fX11_turn_b29, lit]
      by_cases q : 0 < n
      · have dd := v_deed (N := N) hS1 (r := iI n) (z := 1) (Or.inr rfl)
        rw [if_pos rfl] at dd
        rw [if_pos q] at eh2
        refine bst (it) ?_
        refine ifn (n10) ?_
        refine bst (sR_1101_0 hS) ?_
        refine bst (rc10) ?_
        refine bst (e1) ?_
        refine ifn (fun v => by have := ln.mp v; omega) ?_
        refine bst (rc11) ?_
        refine bst (dd) ?_
        rw [eh2]
      · have dd := v_deed (N := N) hS1 (r := iI n) (z := 0) (Or.inl rfl)
        rw [if_neg (by decide)] at dd
        rw [if_neg q] at eh2
        refine bst (it) ?_
        refine ifn (n10) ?_
        refine bst (sR_1101_0 hS) ?_
        refine bst (rc10) ?_
        refine bst (e1) ?_
        refine ifp (ln.mpr (by omega)) ?_
        refine bst (rc11) ?_
        refine bst (dd) ?_
        rw [eh2]
    have ke12 : Ke [908, 700, 701, 702, 407, 907, 511, 512, 1106] [] [] [] h h2 := (ke1.w (by decide) (by decide) (by decide) (by decide)).tr (ke2.w (by decide) (by decide) (by decide) (by decide))
    have hS2 := hS.e hz ke12 (by decide)
    have hz2 : 70 ≤ sz h2 := by omega
    have hD2 := hD.e hz ke12 (by decide) (by decide) (by decide)
    have hR2 := hR.e hz ke12 (by decide) (by decide) (by decide) (by decide)
    have hQ2 := hT.q.e hz ke12 (by decide) (by decide)
    have at2 : ∀ i, i < nt → aI h2 33 i = iI (pa i) := fun i hi => by rw [ke12.2.1 33 (by decide) (by omega)]; exact (hT.2.1 i hi).2.2.1.2.2.2.1
    obtain ⟨n', k', t', o', h3, e3, st', w3, ke3, s3, hM3, hP3, g31, g32⟩ := v_turnNow hN hS2 hz2 hQ2 at2 hD2 hR2 (hM.e hz ke12 (by decide)) b1 b2 hL hdn hsr hA (fun i hi => (show 0 ≤ pa i ∧ pa i ≤ 100 by have := (hT.2.1 i hi).2.2.2; omega)) (fun i hi => (hcw i hi).2.2) (fun i hi => by rw [ke12.2.1 45 (by decide) (by omega)]; exact (hcw i hi).2.1) (by rw [ke12.1 1220 29 (by decide) (by omega)]; exact bb2) w.1 w.2 hdm
    obtain ⟨rfl, rfl, rfl, rfl⟩ := Stq_un (WH := tWh nt ls ms tl tw tg pa wy gr sr dn ds rT dr td nr cw bd d) (fun s k t o k' t' o' a b => Wh_un a b) st st'
    have hS3 := hS2.e hz2 ke3 (by decide)
    have c29 : (sh h3 29).1 = 12 := by rw [ss_29 hS3]
    obtain ⟨h4, eh4⟩ : ∃ h4, h4 = uI h3 1243 29 (iI (if 0 < n then 0 else c)) := ⟨_, rfl⟩
    have ke4 : Ke [1243] [] [] [] h3 h4 := by rw [eh4]; exact Ke_rf.u 1243 29 _ (by decide)
    have s4 : sz h4 = sz h := by rw [eh4]; exact s3.trans s2
    have rf : fX12_turn N h2 29 (iI z) = some (iI n, h4) := by
      have it := isTurn_m (N := N) (h := h2) (by omega) (by omega) (z := z)
      rw [if_pos w] at it
      have rc12 : rc 12 h2 (some 29) = some 29 := rcv (by rw [ss_29 hS2])
      have g43 : gI h3 1243 29 = iI c := by rw [ke3.1 1243 29 (by decide) (by omega), ke12.1 1243 29 (by decide) (by omega)]; exact k2
      have o43 : oI 12 43 h3 (some 29) = some (iI c) := oIv c29 g43
      have ln : iI n = iI 0 ↔ n = 0 := iI_eq (by omega) (by omega) (by omega) (by omega)
      simp only [fX12_turn, fX12_turn_b31, fX12_turn_b32, lit]
      rcases k3 with rfl | rfl
      · have e0 : (if 0 < n then (0 : Int) else 0) = 0 := by by_cases q : 0 < n <;> simp [q]
        rw [e0] at eh4
        refine bst (it) ?_
        refine ifn (n10) ?_
        refine bst (rc12) ?_
        refine bst (e3) ?_
        refine bst (o43) ?_
        refine ifp (rfl) ?_
        refine bst (qZv c29 (by omega)) ?_
        rw [eh4]
      · by_cases q : 0 < n
        · rw [if_pos q] at eh4
          refine bst (it) ?_
          refine ifn (n10) ?_
          refine bst (rc12) ?_
          refine bst (e3) ?_
          refine bst (o43) ?_
          refine ifn (n10) ?_
          refine ifn (fun v => by have := ln.mp v; omega) ?_
          refine bst (qZv c29 (by omega)) ?_
          rw [eh4]
        · rw [if_neg q] at eh4
          refine bst (it) ?_
          refine ifn (n10) ?_
          refine bst (rc12) ?_
          refine bst (e3) ?_
          refine bst (o43) ?_
          refine ifn (n10) ?_
          refine ifp (ln.mpr (by omega)) ?_
          refine bst (qZv c29 (by omega)) ?_
          rw [eh4]
    have ke24 : Ke [1221, 1222, 1223, 1224, 1225, 1243] [33, 43] [] [] h2 h4 := (ke3.w (by decide) (by decide) (by decide) (by decide)).tr (ke4.w (by decide) (by decide) (by decide) (by decide))
    have ke : Ke [908, 700, 701, 702, 407, 907, 511, 512, 1106, 1221, 1222, 1223, 1224, 1225, 1243] [33, 43] [] [] h h4 := (ke12.w (by decide) (by decide) (by decide) (by decide)).tr (ke24.w (by decide) (by decide) (by decide) (by decide))
    have ke1_4 : Ke [1106, 1221, 1222, 1223, 1224, 1225, 1243] [33, 43] [] [] h1 h4 := (ke2.w (by decide) (by decide) (by decide) (by decide)).tr (ke24.w (by decide) (by decide) (by decide) (by decide))
    have zb : -9999 ≤ d * n ∧ d * n ≤ 9999 := by rcases hdm with ⟨_, rfl, _⟩ | ⟨_, rfl, _⟩ <;> omega
    refine ⟨iI n, h2, h4, tpl pa wy gr sr dn ds dr td (d * n), dnz ds dn dr (d * n), cl, rf, ?_, ?_, fun r hr hne => tpl_A hL (d * n) hr hne, fun r hr hne => dnz_bd hL (fun e he => (hD.2.1 e he).2.2.2) (B := 9999) (by omega) (by omega) hr hne, ?_, ?_, ?_, ke, s4⟩
    · refine RTh_of (hT.o.mv hz ke (by decide) (by decide) (fun i hi => ?_) (fun i hi => stq_in hL hA (fun i hi => (show ls i ≤ pa i ∧ pa i ≤ ms i by have := (hT.2.1 i hi).2.2.2; omega)) st hi)) (by rw [ke.1 1201 29 (by decide) (by omega)]; exact hT.1.2.1) (fun i hi => ?_)
      · rw [ke1_4.1 907 _ (by decide) (by have := hT.lt i hi; omega)]; exact hP1 i hi
      · obtain ⟨-, -, ⟨x0, x1, x2, x3, x4, x5⟩, -⟩ := hT.2.1 i hi
        rw [ke.2.1 30 (by decide) (by omega), ke.2.1 31 (by decide) (by omega), ke.2.1 32 (by decide) (by omega), ke.2.1 34 (by decide) (by omega), ke.2.1 35 (by decide) (by omega), ke4.2.1 33 (by decide) (by omega)]
        exact ⟨x0, x1, x2, hP3 i hi, x4, x5⟩
    · exact RTi_iff.mpr ⟨hC1.e (fun i hi => by have := hT.lt i hi; omega) (fun r hr => by have := hR.lt r hr; omega) ke1_4 (by decide) (by decide), hM3.e (by omega) ke4 (by decide), hL⟩
    · refine ⟨?_, ?_, ?_⟩
      · rw [ke1_4.1 700 23 (by decide) (by omega), w1.1, ke4.1 1223 29 (by decide) (by omega), w3.1]
      · rw [ke1_4.1 701 23 (by decide) (by omega), w1.2.1, ke4.1 1224 29 (by decide) (by omega), w3.2.1]
      · rw [ke1_4.1 702 23 (by decide) (by omega), w1.2.2, ke4.1 1225 29 (by decide) (by omega), w3.2.2]
    · refine ⟨if 0 < n then 0 else c, ?_, ?_, ?_⟩
      · rw [ke24.1 1106 0 (by decide) (by omega)]; exact g06
      · rw [eh4]; simp [HR]
      · by_cases q : 0 < n
        · rw [if_pos q]; exact Or.inl rfl
        · rw [if_neg q]; exact k3.imp id (fun e => ⟨e, by rw [k1, e]⟩)
    · refine ⟨?_, ?_⟩
      · rw [ke1_4.1 511 14 (by decide) (by omega), g11, ke4.1 1221 29 (by decide) (by omega), g31, ke12.1 1221 29 (by decide) (by omega), hE.1]
      · rw [ke1_4.1 512 14 (by decide) (by omega), g12, ke4.1 1222 29 (by decide) (by omega), g32, ke12.1 1222 29 (by decide) (by omega), hE.2]
  · have it := isTurn_c (N := N) (h := h) y1 y2
    have im := isTurn_m (N := N) (h := h) y1 y2
    rw [if_neg w] at it im
    refine ⟨iI (-1), h, h, pa, dn, ?_, ?_, hT, hI, hA, fun r _ _ => by omega, hG, hK.n, hE, Ke_rf, rfl⟩
    · simp only [fX11_turn, lit, iI_neg]
      refine bst (it) ?_
      refine ifp (rfl) ?_
      rfl
    · simp only [fX12_turn, lit, iI_neg]
      refine bst (im) ?_
      refine ifp (rfl) ?_
      rfl
