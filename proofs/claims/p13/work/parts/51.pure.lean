def tieM (h : Hs) (r t : Nat) (d : Nat) (p : Int) : Hs := uA (uA (uA h 42 r (iI d)) 43 r (iI 0)) 36 t (iI p)
theorem Kq_tieM {h : Hs} {r t d : Nat} {p : Int} : Kq [] [36, 42, 43] h (tieM h r t d p) := ((Kq_rf.b _ _ _ (by decide)).b _ _ _ (by decide)).b _ _ _ (by decide)
theorem m_tie {N : Nat} (hN : 100000000 ≤ N) {h : Hs} (hS : Sk h) {nr nt nd : Nat} {rA tA dA rT : Nat → Nat} {wy gr hd : Nat → Int} {gn : Nat → Bool} {tl tw tg ls ms pa ds : Nat → Int} {dr td : Nat → Option Nat} {sr dn : Nat → Int} (hz : 70 ≤ sz h) (hR : RRo h nr nt rA tA rT wy gr hd gn) (hT : RTh h nt tA tl tw tg ls ms pa) (hD : RDr h nd dA ds) (hM : RTm h nr rT dr sr dn) (hL : RTl nt nd nr rT dr td) (z y : Int) (z1 : -2147483648 ≤ z) (z2 : z < 2147483648) (y1 : -2147483648 ≤ y) (y2 : y < 2147483648) :
    (¬ ((0 ≤ z ∧ z ≤ (nr : Int) - 1) ∧ 0 ≤ y ∧ y ≤ (nd : Int) - 1) → fX12_tieNow N h 29 (iI z) (iI y) = some (iI (-1), h)) ∧ (∀ r d : Nat, z = r → y = d → r < nr → d < nd → (¬ (gn r = false ∧ td (rT r) = none ∧ ldv (tg (rT r)) (gr r) ≤ hd r) → fX12_tieNow N h 29 (iI z) (iI y) = some (iI (-2), h)) ∧ ((gn r = false ∧ td (rT r) = none ∧ ldv (tg (rT r)) (gr r) ≤ hd r) → fX12_tieNow N h 29 (iI z) (iI y) = some (iI (hd r - ldv (tg (rT r)) (gr r)), tieM h r (rT r) d (pa (rT r))))) := by
  have c3 := hR.1.2.2
  have cd := hD.1.2.2
  have ct := hT.1.2.2
  have ir := v_isRope (N := N) hS hR.1.2.1 c3 z1 z2
  have id' := v_isDrum (N := N) hS hD.1.2.1 cd y1 y2
  refine ⟨fun hn => ?_, fun r d hz' hy hr hd' => ?_⟩
  · simp only [fX12_tieNow, fX12_tieNow_b16, fX12_tieNow_b63, lit, iI_neg]
    by_cases w : 0 ≤ z ∧ z ≤ (nr : Int) - 1
    · rw [if_pos w] at ir
      rw [if_neg (fun q => hn ⟨w, q⟩)] at id'
      refine bst (rcv (by rw [ss_29 hS])) ?_
      refine bst (ir) ?_
      refine ifn (n10) ?_
      refine bst (rcv (by rw [ss_29 hS])) ?_
      refine bst (id') ?_
      refine ifp (rfl) ?_
      rfl
    · rw [if_neg w] at ir
      refine bst (rcv (by rw [ss_29 hS])) ?_
      refine bst (ir) ?_
      refine ifp (rfl) ?_
      rfl
  · subst hz' hy
    rw [if_pos (by omega)] at ir id'
    obtain ⟨-, -, ⟨f0, f1, f2, f3, f4⟩, q1, q2, q3, q4, q5⟩ := hR.2.1 r hr
    obtain ⟨-, -, ⟨g0, g1, g2, g3, g4, g5⟩, bb⟩ := hT.2.1 (rT r) q1
    have tt := v_tiedM hN hS hR hM hL cd ct q1
    have lm := v_loadM (N := N) hS hR hT hr
    have lb := ldv_b (g := tg (rT r)) (r := gr r) (by omega) (by omega)
    have m42 := (hM r hr).1
    simp only [fX12_tieNow, fX12_tieNow_b16, fX12_tieNow_b63, lit, iI_neg]
    refine ⟨fun hn => ?_, fun hy' => ?_⟩
    · cases hdr : dr r with
      | some d0 =>
        have dl := (hL.1 r d0 hr hdr).1
        rw [hdr] at m42
        simp only [od] at m42
        have w2 : (0 : Int) ≤ d0 := by omega
        refine bst (rcv (by rw [ss_29 hS])) ?_
        refine bst (ir) ?_
        refine ifn (n10) ?_
        refine bst (rcv (by rw [ss_29 hS])) ?_
        refine bst (id') ?_
        refine ifn (n10) ?_
        refine bst (sR_1216_29 hS) ?_
        refine bst (lAv (ss_42 hS) (by omega) (by omega) m42) ?_
        refine ifp ((iI_le (by omega) (by omega) (by omega) (by omega)).mpr w2) ?_
        rfl
      | none =>
        rw [hdr] at m42
        simp only [od] at m42
        have w2 : ¬ iI 0 ≤ iI (-1) := by decide
        cases hg : gn r with
        | true =>
          rw [hg] at f4
          simp only [b2, if_true] at f4
          refine bst (rcv (by rw [ss_29 hS])) ?_
          refine bst (ir) ?_
          refine ifn (n10) ?_
          refine bst (rcv (by rw [ss_29 hS])) ?_
          refine bst (id') ?_
          refine ifn (n10) ?_
          refine bst (sR_1216_29 hS) ?_
          refine bst (lAv (ss_42 hS) (by omega) (by omega) m42) ?_
          refine ifn (w2) ?_
          refine bst (sR_1218_29 hS) ?_
          refine bst (lAz (ss_44 hS) (by omega) (by omega) f4) ?_
          refine ifn (n10) ?_
          rfl
        | false =>
          rw [hg] at f4 hn
          have f4' : aI h 44 r = iI 0 := f4
          cases ht : td (rT r) with
          | some q =>
            rw [ht] at tt
            simp only [od] at tt
            have qb := (hL.2 (rT r) q q1 ht).1
            have w3 : (0 : Int) ≤ q := by omega
            refine bst (rcv (by rw [ss_29 hS])) ?_
            refine bst (ir) ?_
            refine ifn (n10) ?_
            refine bst (rcv (by rw [ss_29 hS])) ?_
            refine bst (id') ?_
            refine ifn (n10) ?_
            refine bst (sR_1216_29 hS) ?_
            refine bst (lAv (ss_42 hS) (by omega) (by omega) m42) ?_
            refine ifn (w2) ?_
            refine bst (sR_1218_29 hS) ?_
            refine bst (lAz (ss_44 hS) (by omega) (by omega) f4') ?_
            refine ifp (rfl) ?_
            refine bst (sR_1212_29 hS) ?_
            refine bst (lAv (ss_38 hS) (by omega) (by omega) f0) ?_
            refine bst (rcv (by rw [ss_29 hS])) ?_
            refine bst (tt) ?_
            refine ifp ((iI_le (by omega) (by omega) (by omega) (by omega)).mpr w3) ?_
            rfl
          | none =>
            rw [ht] at tt hn
            simp only [od] at tt
            have w3 : ¬ ldv (tg (rT r)) (gr r) ≤ hd r := fun q => hn ⟨rfl, rfl, q⟩
            refine bst (rcv (by rw [ss_29 hS])) ?_
            refine bst (ir) ?_
            refine ifn (n10) ?_
            refine bst (rcv (by rw [ss_29 hS])) ?_
            refine bst (id') ?_
            refine ifn (n10) ?_
            refine bst (sR_1216_29 hS) ?_
            refine bst (lAv (ss_42 hS) (by omega) (by omega) m42) ?_
            refine ifn (w2) ?_
            refine bst (sR_1218_29 hS) ?_
            refine bst (lAz (ss_44 hS) (by omega) (by omega) f4') ?_
            refine ifp (rfl) ?_
            refine bst (sR_1212_29 hS) ?_
            refine bst (lAv (ss_38 hS) (by omega) (by omega) f0) ?_
            refine bst (rcv (by rw [ss_29 hS])) ?_
            refine bst (tt) ?_
            refine ifn (w2) ?_
            refine bst (sR_1215_29 hS) ?_
            refine bst (lAv (ss_41 hS) (by omega) (by omega) f3) ?_
            refine bst (rcv (by rw [ss_29 hS])) ?_
            refine bst (lm) ?_
            refine ifn (fun q9 => w3 ((iI_le (by omega) (by omega) (by omega) (by omega)).mp q9)) ?_
            rfl
    · obtain ⟨hg, ht, hl⟩ := hy'
      have hdr : dr r = none := by
        cases hdr : dr r with
        | none => rfl
        | some d0 =>
          have := (hL.1 r d0 hr hdr).2
          rw [ht] at this
          cases this
      rw [hdr] at m42
      simp only [od] at m42
      rw [hg] at f4
      have f4' : aI h 44 r = iI 0 := f4
      rw [ht] at tt
      simp only [od] at tt
      have w2 : ¬ iI 0 ≤ iI (-1) := by decide
      have ke : Ke [] [36, 42, 43] [] [] h (tieM h r (rT r) d (pa (rT r))) := Kq_tieM.e
      have hR2 := hR.e hz ke (by decide) (by decide) (by decide) (by decide)
      have hT2 := hT.e hz ke (by decide) (by decide) (by decide)
      have hS2 := hS.e hz ke (fun f hf => absurd hf List.not_mem_nil)
      have lm2 := v_loadM (N := N) hS2 hR2 hT2 hr
      have f32 := (hR2.2.1 r hr).2.2.1.2.2.2.1
      have hSa : Sk (uA h 42 r (iI d)) := hS.k (Kq_uA 42 _ _)
      have hSb : Sk (uA (uA h 42 r (iI d)) 43 r (iI 0)) := hSa.k (Kq_uA 43 _ _)
      refine bst (rcv (by rw [ss_29 hS])) ?_
      refine bst (ir) ?_
      refine ifn (n10) ?_
      refine bst (rcv (by rw [ss_29 hS])) ?_
      refine bst (id') ?_
      refine ifn (n10) ?_
      refine bst (sR_1216_29 hS) ?_
      refine bst (lAv (ss_42 hS) (by omega) (by omega) m42) ?_
      refine ifn (w2) ?_
      refine bst (sR_1218_29 hS) ?_
      refine bst (lAz (ss_44 hS) (by omega) (by omega) f4') ?_
      refine ifp (rfl) ?_
      refine bst (sR_1212_29 hS) ?_
      refine bst (lAv (ss_38 hS) (by omega) (by omega) f0) ?_
      refine bst (rcv (by rw [ss_29 hS])) ?_
      refine bst (tt) ?_
      refine ifn (w2) ?_
      refine bst (sR_1215_29 hS) ?_
      refine bst (lAv (ss_41 hS) (by omega) (by omega) f3) ?_
      refine bst (rcv (by rw [ss_29 hS])) ?_
      refine bst (lm) ?_
      refine ifp ((iI_le (by omega) (by omega) (by omega) (by omega)).mpr hl) ?_
      refine bst (sR_1216_29 hS) ?_
      refine bst (sAv (ss_42 hS) (by omega) (by omega)) ?_
      refine bst (sR_1217_29 hSa) ?_
      refine bst (sAv (ss_43 hSa) (by omega) (by omega)) ?_
      refine bst (sR_1208_29 hSb) ?_
      refine bst (sR_1212_29 hSb) ?_
      refine bst (lAv (ss_38 hSb) (by omega) (by omega) (v := iI (rT r)) (by simp [HR, f0])) ?_
      refine bst (sR_1205_29 hSb) ?_
      refine bst (sR_1212_29 hSb) ?_
      refine bst (lAv (ss_38 hSb) (by omega) (by omega) (v := iI (rT r)) (by simp [HR, f0])) ?_
      refine bst (lAv (ss_33 hSb) (by omega) (by omega) (v := iI (pa (rT r))) (by simp [HR, g3])) ?_
      refine bst (sAv (ss_36 hSb) (by omega) (by omega)) ?_
      refine bst (sR_1215_29 hS2) ?_
      refine bst (lAv (ss_41 hS2) (by omega) (by omega) f32) ?_
      refine bst (rcv (h := tieM h r (rT r) d (pa (rT r))) (by rw [ss_29 hS2])) ?_
      refine bst (lm2) ?_
      rw [iI_sub]
