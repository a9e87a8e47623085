/-! ===== back ===== -/
def RKc (h : Hs) (nt nr : Nat) (tA dA rA : Nat → Nat) (pk : Nat → Int) (dk tk : Nat → Option Nat) (sk nk ck : Nat → Int) : Prop := (∀ i, i < nt → gI h 910 (tA i) = iI (pk i) ∧ gR h 911 (tA i) = (tk i).map rA) ∧ (∀ r, r < nr → gR h 409 (rA r) = (dk r).map dA ∧ (dk r ≠ none → gI h 410 (rA r) = iI (sk r) ∧ gI h 411 (rA r) = iI (nk r))) ∧ ∀ i, i < 20 → aI h 19 i = iI (ck i)
def RKm (h : Hs) (nt nr : Nat) (rT : Nat → Nat) (pk : Nat → Int) (dk : Nat → Option Nat) (sk nk ck : Nat → Int) : Prop := (∀ i, i < nt → aI h 57 i = iI (pk i)) ∧ (∀ r, r < nr → aI h 59 r = iI (od (dk r)) ∧ (dk r ≠ none → aI h 60 r = iI (nk r) ∧ aI h 58 (rT r) = iI (sk r))) ∧ ∀ i, i < 20 → aI h 61 i = iI (ck i)
def RKl (nt nd nr : Nat) (rT : Nat → Nat) (wy gr ls ms : Nat → Int) (pk : Nat → Int) (dk tk : Nat → Option Nat) (sk nk ck : Nat → Int) : Prop := (∀ i, i < nt → ls i ≤ pk i ∧ pk i ≤ ms i) ∧ (∀ r, r < nr → dk r ≠ none → pk (rT r) = sk r + wy r * (nk r).tdiv (100 * gr r) ∧ ls (rT r) ≤ sk r ∧ sk r ≤ ms (rT r)) ∧ (∀ i, i < 20 → -9999 ≤ ck i ∧ ck i ≤ 9999) ∧ RTl nt nd nr rT dk tk
def RKs (h : Hs) : Prop := gI h 513 14 = gI h 1249 29 ∧ gI h 514 14 = gI h 1250 29
theorem RKc.e {F A FR AQ : List Nat} {h h2 : Hs} {nt nr : Nat} {tA dA rA : Nat → Nat} {pk : Nat → Int} {dk tk : Nat → Option Nat} {sk nk ck : Nat → Int} (hC : RKc h nt nr tA dA rA pk dk tk sk nk ck) (hz : 70 ≤ sz h) (ht : ∀ i, i < nt → tA i < sz h) (hr : ∀ r, r < nr → rA r < sz h) (k : Ke F A FR AQ h h2) (hF : ∀ f ∈ [910, 410, 411], f ∉ F) (hA : 19 ∉ A) (hR : ∀ f ∈ [911, 409], f ∉ FR) : RKc h2 nt nr tA dA rA pk dk tk sk nk ck := by
  obtain ⟨c1, c2, c3⟩ := hC
  refine ⟨fun i hi => ?_, fun r hr' => ?_, fun i hi => ?_⟩
  · rw [k.1 _ _ (hF 910 (by decide)) (ht i hi), k.2.2.1 _ _ (hR 911 (by decide)) (ht i hi)]
    exact c1 i hi
  · rw [k.2.2.1 _ _ (hR 409 (by decide)) (hr r hr'), k.1 _ _ (hF 410 (by decide)) (hr r hr'), k.1 _ _ (hF 411 (by decide)) (hr r hr')]
    exact c2 r hr'
  · rw [k.2.1 _ hA (by omega)]
    exact c3 i hi
theorem RKm.e {F A FR AQ : List Nat} {h h2 : Hs} {nt nr : Nat} {rT : Nat → Nat} {pk : Nat → Int} {dk : Nat → Option Nat} {sk nk ck : Nat → Int} (hC : RKm h nt nr rT pk dk sk nk ck) (hz : 70 ≤ sz h) (k : Ke F A FR AQ h h2) (hA : ∀ a ∈ [57, 58, 59, 60, 61], a ∉ A) : RKm h2 nt nr rT pk dk sk nk ck := by
  obtain ⟨c1, c2, c3⟩ := hC
  refine ⟨fun i hi => ?_, fun r hr' => ?_, fun i hi => ?_⟩
  · rw [k.2.1 _ (hA 57 (by decide)) (by omega)]
    exact c1 i hi
  · rw [k.2.1 _ (hA 59 (by decide)) (by omega), k.2.1 _ (hA 60 (by decide)) (by omega), k.2.1 _ (hA 58 (by decide)) (by omega)]
    exact c2 r hr'
  · rw [k.2.1 _ (hA 61 (by decide)) (by omega)]
    exact c3 i hi
theorem RKs.e {F A FR AQ : List Nat} {h h2 : Hs} (hC : RKs h) (hz : 70 ≤ sz h) (k : Ke F A FR AQ h h2) (hF : ∀ f ∈ [513, 514, 1249, 1250], f ∉ F) : RKs h2 := by
  refine ⟨?_, ?_⟩
  · rw [k.1 _ _ (hF 513 (by decide)) (by omega), k.1 _ _ (hF 1249 (by decide)) (by omega)]; exact hC.1
  · rw [k.1 _ _ (hF 514 (by decide)) (by omega), k.1 _ _ (hF 1250 (by decide)) (by omega)]; exact hC.2
theorem n01 : ¬ iI 0 = iI 1 := by decide
theorem t_back {N : Nat} (hN : 100000000 ≤ N) {h : Hs} (hS : Sk h) (hz : 70 ≤ sz h) {nr nt nd : Nat} {rA tA dA rT : Nat → Nat} {wy gr hd : Nat → Int} {gn : Nat → Bool} {tl tw tg ls ms pa : Nat → Int} (hT : RTh h nt tA tl tw tg ls ms pa) (hR : RRo h nr nt rA tA rT wy gr hd gn) (hB : ICan h) {pk : Nat → Int} {dk tk : Nat → Option Nat} {sk nk ck : Nat → Int} (hK : gI h 1106 0 = iI 1 → RKc h nt nr tA dA rA pk dk tk sk nk ck ∧ RKm h nt nr rT pk dk sk nk ck ∧ RKl nt nd nr rT wy gr ls ms pk dk tk sk nk ck ∧ RKs h) : ∃ a h1 h2, fX11_back N h 0 = some (a, h1) ∧ fX12_back N h1 29 = some (a, h2) ∧ (h2 = h ∨ (gI h 1106 0 = iI 1 ∧ gI h2 1106 0 = iI 0 ∧ ICan h2 ∧ RTh h2 nt tA tl tw tg ls ms pk ∧ RTi h2 nt nd nr tA dA rA rT dk tk sk nk ∧ (∀ i, i < 20 → aI h2 18 i = iI (ck i) ∧ aI h2 45 i = iI (ck i)) ∧ RSh h2 ∧ Ke [907, 406, 407, 511, 512, 1106, 1243, 1221, 1222] [18, 33, 36, 42, 43, 45] [909, 405] [] h h2 ∧ sz h2 = sz h)) := by
  obtain ⟨c, b1, b2', b3⟩ := hB
  have o6 : oI 11 6 h (some 0) = some (iI c) := oIv (by rw [ss_0 hS]) b1
  have ct := hT.1.2.2
  have cr := hR.1.2.2
  rcases b3 with rfl | rfl
  · refine ⟨iI (-2), h, h, ?_, ?_, Or.inl rfl⟩
    · simp only [fX11_back, lit, iI_neg]
      refine bst (o6) ?_
      refine ifp (rfl) ?_
      rfl
    · simp only [fX12_back, lit, iI_neg]
      refine bst (oIv (by rw [ss_29 hS]) b2') ?_
      refine ifp (rfl) ?_
      rfl
  · obtain ⟨kc, km, kl, ks⟩ := hK b1
    obtain ⟨hq, ehq⟩ : ∃ hq, hq = uI h 1106 0 (iI 0) := ⟨_, rfl⟩
    have keq : Ke [1106] [] [] [] h hq := by rw [ehq]; exact Ke_rf.u 1106 _ _ (by decide)
    have szq : sz hq = sz h := by rw [ehq]; rfl
    have hSq := hS.e hz keq (by decide)
    have hTq := hT.e hz keq (by decide) (by decide) (by decide)
    have hRq := hR.e hz keq (by decide) (by decide) (by decide) (by decide)
    have kcq := kc.e hz hT.lt hR.lt keq (by decide) (by decide) (by decide)
    obtain ⟨h3, e3, ke3, s3, x1, x2, x3, x4, x5⟩ := v_restC (N := N) hN hSq (by omega) hTq.1.1 ct (fun i hi => (hTq.2.1 i hi).1) hTq.2.2 hRq.1.1 cr (fun r hr => (hRq.2.1 r hr).1) hRq.2.2
    have keh3 : Ke [907, 406, 407, 511, 512, 1106] [18] [909, 405] [] h h3 := (keq.w (by decide) (by decide) (by decide) (by decide)).tr (ke3.w (by decide) (by decide) (by decide) (by decide))
    have hS3 := hS.e hz keh3 (by decide)
    have hz3 : 70 ≤ sz h3 := by omega
    have cl : fX11_back N h 0 = some (iI 1, h3) := by
      have zq : qZ 11 6 h (some 0) (iI 0) = some hq := by rw [ehq]; exact qZv (by rw [ss_0 hS]) (by omega)
      simp only [fX11_back, lit]
      refine bst (o6) ?_
      refine ifn (n10) ?_
      refine bst (zq) ?_
      refine bst (sR_1100_0 hSq) ?_
      refine bst (rcv (by rw [ss_14 hSq])) ?_
      refine bst (e3) ?_
      rfl
    obtain ⟨hw, ehw⟩ : ∃ hw, hw = uI h3 1243 29 (iI 0) := ⟨_, rfl⟩
    have kew : Ke [1243] [] [] [] h3 hw := by rw [ehw]; exact Ke_rf.u 1243 _ _ (by decide)
    have szw : sz hw = sz h3 := by rw [ehw]; rfl
    have hSw := hS3.e hz3 kew (by decide)
    have kehw : Ke [907, 406, 407, 511, 512, 1106, 1243] [18] [909, 405] [] h hw := (keh3.w (by decide) (by decide) (by decide) (by decide)).tr (kew.w (by decide) (by decide) (by decide) (by decide))
    obtain ⟨h5, e5, ke5, s5, y1, y2, y3, y4, y5⟩ := L_mbackT (N := N) hN hSw (by omega) ct cr ((kehw.1 1201 29 (by decide) (by omega)).trans hT.1.2.1) ((kehw.1 1211 29 (by decide) (by omega)).trans hR.1.2.1) nt 0 N hw Ke_rf rfl (fun _ _ => rfl) (fun _ _ _ => rfl) (fun k _ => by rw [if_neg (Nat.not_lt_zero k), if_neg (Nat.not_lt_zero k)]; exact ⟨rfl, rfl⟩) (by omega) (by omega)
    have rf : fX12_back N h3 29 = some (iI 1, h5) := by
      have o43 : oI 12 43 h3 (some 29) = some (iI 1) := oIv (by rw [ss_29 hS3]) ((keh3.1 1243 29 (by decide) (by omega)).trans b2')
      have zw : qZ 12 43 h3 (some 29) (iI 0) = some hw := by rw [ehw]; exact qZv (by rw [ss_29 hS3]) (by omega)
      simp only [fX12_back, lit]
      refine bst (o43) ?_
      refine ifn (n10) ?_
      refine bst (zw) ?_
      exact e5
    have ke3_5 : Ke [1243, 1221, 1222] [33, 36, 42, 43, 45] [] [] h3 h5 := (kew.w (by decide) (by decide) (by decide) (by decide)).tr (ke5.w (by decide) (by decide) (by decide) (by decide))
    have ke : Ke [907, 406, 407, 511, 512, 1106, 1243, 1221, 1222] [18, 33, 36, 42, 43, 45] [909, 405] [] h h5 := (keh3.w (by decide) (by decide) (by decide) (by decide)).tr (ke3_5.w (by decide) (by decide) (by decide) (by decide))
    have kmw := km.e hz kehw (by decide)
    have t3 : ∀ i, i < nt → tA i < sz h3 := fun i hi => by have := hT.lt i hi; omega
    have r3 : ∀ r, r < nr → rA r < sz h3 := fun r hr => by have := hR.lt r hr; omega
    refine ⟨iI 1, h3, h5, cl, rf, Or.inr ⟨b1, ?_, ?_, ?_, ?_, ?_, ?_, ke, by omega⟩⟩
    · rw [ke3_5.1 1106 0 (by decide) (by omega), ke3.1 1106 0 (by decide) (by omega), ehq]
      simp [HR]
    · refine ⟨0, ?_, ?_, Or.inl rfl⟩
      · rw [ke3_5.1 1106 0 (by decide) (by omega), ke3.1 1106 0 (by decide) (by omega), ehq]
        simp [HR]
      · rw [ke5.1 1243 29 (by decide) (by omega), ehw]
        simp [HR]
    · refine RTh_of (hT.o.mv hz ke (by decide) (by decide) (fun i hi => ?_) (fun i hi => kl.1 i hi)) (by rw [ke.1 1201 29 (by decide) (by omega)]; exact hT.1.2.1) (fun i hi => ?_)
      · rw [ke3_5.1 907 _ (by decide) (t3 i hi), (x1 i hi).1]
        exact (kcq.1 i hi).1
      · obtain ⟨-, -, ⟨z0, z1, z2, z3, z4, z5⟩, -⟩ := hT.2.1 i hi
        rw [ke.2.1 30 (by decide) (by omega), ke.2.1 31 (by decide) (by omega), ke.2.1 32 (by decide) (by omega), ke.2.1 34 (by decide) (by omega), ke.2.1 35 (by decide) (by omega), (y1 i hi).1]
        exact ⟨z0, z1, z2, kmw.1 i hi, z4, z5⟩
    · refine RTi_iff.mpr ⟨⟨fun r hr => ?_, fun i hi => ?_⟩, fun r hr => ?_, kl.2.2.2⟩
      · rw [ke3_5.2.2.1 405 _ (by decide) (r3 r hr), ke3_5.1 406 _ (by decide) (r3 r hr), ke3_5.1 407 _ (by decide) (r3 r hr), (x2 r hr).1, (x2 r hr).2.1, (x2 r hr).2.2]
        exact kcq.2.1 r hr
      · rw [ke3_5.2.2.1 909 _ (by decide) (t3 i hi), (x1 i hi).2]
        exact (kcq.1 i hi).2
      · have hrt := (hR.2.1 r hr).2.2.2.1
        rw [(y2 r hr).1, (y2 r hr).2, (y1 _ hrt).2]
        exact kmw.2.1 r hr
    · intro i hi
      rw [ke3_5.2.1 18 (by decide) (by omega), x3 i hi, y3 i hi]
      exact ⟨kcq.2.2 i hi, kmw.2.2 i hi⟩
    · refine ⟨?_, ?_⟩
      · rw [ke3_5.1 511 14 (by decide) (by omega), x4, y4, keq.1 513 14 (by decide) (by omega), kehw.1 1249 29 (by decide) (by omega)]
        exact ks.1
      · rw [ke3_5.1 512 14 (by decide) (by omega), x5, y5, keq.1 514 14 (by decide) (by omega), kehw.1 1250 29 (by decide) (by omega)]
        exact ks.2
