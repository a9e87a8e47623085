/-! ===== ties by halves, again ===== -/
theorem v_loado {N : Nat} {h : Hs} {nr nt : Nat} {rA tA rT : Nat → Nat} {wy gr hd : Nat → Int} {gn : Nat → Bool} {tl tw tg ls ms pa : Nat → Int} (hR : RRo h nr nt rA tA rT wy gr hd gn) (hT : RTo h nt tA tl tw tg ls ms pa) {r : Nat} (hr : r < nr) : fX4_load N h (rA r) = some (iI (ldv (tg (rT r)) (gr r)), h) := by
  obtain ⟨⟨-, -, -, d4⟩, ⟨f0, f1, f2, f3, f4, f8⟩, -, q1, q2, q3, q4, q5⟩ := hR.2.1 r hr
  obtain ⟨⟨-, -, -, t4⟩, ⟨-, -, -, g3, -⟩, -, b1, b2', b3, b4, b5, b6, -⟩ := hT.2.1 (rT r) q1
  have e1 : ¬ gr r = 0 := by omega
  have e2 : iI (tg (rT r) + gr r - 1) / iI (gr r) = iI (ldv (tg (rT r)) (gr r)) := iI_div (by omega) (by omega) (by omega) (by omega)
  simp (disch := omega) [fX4_load, fX11_quotientUp, fX11_quotientUp_b15, oR, oI, d4, f1, t4, g3, f3, lit, iI_eq, e1, iI_add, iI_sub, dv, e2]
theorem v_spareo {N : Nat} {h : Hs} {nr nt : Nat} {rA tA rT : Nat → Nat} {wy gr hd : Nat → Int} {gn : Nat → Bool} {tl tw tg ls ms pa : Nat → Int} (hR : RRo h nr nt rA tA rT wy gr hd gn) (hT : RTo h nt tA tl tw tg ls ms pa) {r : Nat} (hr : r < nr) : fX4_spare N h (rA r) = some (iI (hd r - ldv (tg (rT r)) (gr r)), h) := by
  have e := v_loado (N := N) hR hT hr
  obtain ⟨⟨-, -, -, d4⟩, ⟨f0, f1, f2, f3, f4, f8⟩, -⟩ := hR.2.1 r hr
  simp [fX4_spare, oI, rc, d4, f4, e, iI_sub]
theorem v_looseno {N : Nat} {h : Hs} {nr nt : Nat} {rA tA dA rT : Nat → Nat} {wy gr hd : Nat → Int} {gn : Nat → Bool} {tl tw tg ls ms pa : Nat → Int} (hR : RRo h nr nt rA tA rT wy gr hd gn) (hT : RTo h nt tA tl tw tg ls ms pa) {r : Nat} (hr : r < nr) : fX4_loosen N h (rA r) = some (uR (uI (uR h 405 (rA r) none) 407 (rA r) (iI 0)) 909 (tA (rT r)) none) := by
  obtain ⟨⟨-, -, -, d4⟩, ⟨f0, f1, f2, f3, f4, f8⟩, -, q1, -⟩ := hR.2.1 r hr
  obtain ⟨⟨-, -, -, t4⟩, -⟩ := hT.2.1 (rT r) q1
  simp [fX4_loosen, qR, qI, oR, d4, HR, f1, t4, lit]
theorem c_untieo {N : Nat} {h : Hs} (hS : Sk h) {nr nt nd : Nat} {rA tA dA rT : Nat → Nat} {wy gr hd : Nat → Int} {gn : Nat → Bool} {tl tw tg ls ms pa : Nat → Int} {dr td : Nat → Option Nat} {sr dn : Nat → Int} (hR : RRo h nr nt rA tA rT wy gr hd gn) (hT : RTo h nt tA tl tw tg ls ms pa) (hC : RTc h nt nr tA dA rA dr td sr dn) (z : Int) (z1 : -2147483648 ≤ z) (z2 : z < 2147483648) :
    (¬ (∃ r d0 : Nat, z = r ∧ r < nr ∧ dr r = some d0) ∧ fX5_untieRope N h 14 (iI z) = some (iI (-2000000000), h)) ∨ (∃ r d0 : Nat, z = r ∧ r < nr ∧ dr r = some d0 ∧ fX5_untieRope N h 14 (iI z) = some (iI (dn r), uR (uI (uR h 405 (rA r) none) 407 (rA r) (iI 0)) 909 (tA (rT r)) none)) := by
  by_cases w : 0 ≤ z ∧ z ≤ (nr : Int) - 1
  · obtain ⟨r, rfl⟩ : ∃ r : Nat, z = r := ⟨z.toNat, by omega⟩
    have hr : r < nr := by omega
    have ry := v_ropeY (N := N) hS hR hr
    obtain ⟨⟨-, -, -, d4⟩, -⟩ := hR.2.1 r hr
    obtain ⟨g1, g2⟩ := hC.1 r hr
    cases hdr : dr r with
    | none =>
      rw [hdr] at g1
      refine Or.inl ⟨?_, ?_⟩
      · rintro ⟨q, d0, hq, -, hd⟩
        have : q = r := by omega
        rw [this, hdr] at hd
        cases hd
      · simp (disch := omega) [oI, oR, qI, qZ, qR, rc, lit, iI_add, iI_sub, iI_mul, iI_neg, iI_le, iI_lt, iI_eq, v_isW, v_inW, bz, HR, sk_14 hS, fX5_untieRope, fX5_untieRope_b17, ry, d4, g1]
    | some d0 =>
      refine Or.inr ⟨r, d0, rfl, hr, hdr, ?_⟩
      have g3 := (g2 (by rw [hdr]; exact fun q => by cases q)).2
      rw [hdr] at g1
      have lo := v_looseno (N := N) (dA := dA) hR hT hr
      simp (disch := omega) [oI, oR, qI, qZ, qR, rc, lit, iI_add, iI_sub, iI_mul, iI_neg, iI_le, iI_lt, iI_eq, v_isW, v_inW, bz, HR, sk_14 hS, fX5_untieRope, fX5_untieRope_b17, ry, d4, g1, g3, lo]
  · have rn := v_ropeN (N := N) hS hR z1 z2 w
    refine Or.inl ⟨?_, ?_⟩
    · rintro ⟨q, d0, hq, hq2, -⟩
      omega
    · simp (disch := omega) [oI, oR, qI, qZ, qR, rc, lit, iI_add, iI_sub, iI_mul, iI_neg, iI_le, iI_lt, iI_eq, v_isW, v_inW, bz, HR, sk_14 hS, fX5_untieRope, fX5_untieRope_b17, rn]
theorem v_bindo {N : Nat} {h : Hs} {nr nt : Nat} {rA tA rT : Nat → Nat} {wy gr hd : Nat → Int} {gn : Nat → Bool} {tl tw tg ls ms pa : Nat → Int} (hR : RRo h nr nt rA tA rT wy gr hd gn) (hT : RTo h nt tA tl tw tg ls ms pa) {r da : Nat} (hr : r < nr) : fX4_bind N h (rA r) (some da) = some (tieH h (rA r) (tA (rT r)) da (pa (rT r))) := by
  obtain ⟨⟨-, -, -, d4⟩, ⟨f0, f1, f2, f3, f4, f8⟩, -, q1, -⟩ := hR.2.1 r hr
  obtain ⟨⟨-, -, -, t4⟩, ⟨g0, g1, g2, g3, g4, g5, g7⟩, -⟩ := hT.2.1 (rT r) q1
  simp [fX4_bind, qR, qI, oR, oI, d4, HR, f1, t4, g7, lit, tieH]
theorem c_tieo {N : Nat} {h : Hs} (hS : Sk h) {nr nt nd : Nat} {rA tA dA rT : Nat → Nat} {wy gr hd : Nat → Int} {gn : Nat → Bool} {tl tw tg ls ms pa ds : Nat → Int} {dr td : Nat → Option Nat} {sr dn : Nat → Int} (hz : 70 ≤ sz h) (hR : RRo h nr nt rA tA rT wy gr hd gn) (hT : RTo h nt tA tl tw tg ls ms pa) (hD : RDr h nd dA ds) (hC : RTc h nt nr tA dA rA dr td sr dn) (z y : Int) (z1 : -2147483648 ≤ z) (z2 : z < 2147483648) (y1 : -2147483648 ≤ y) (y2 : y < 2147483648) :
    (¬ ((0 ≤ z ∧ z ≤ (nr : Int) - 1) ∧ 0 ≤ y ∧ y ≤ (nd : Int) - 1) → fX5_tieRope N h 14 (iI z) (iI y) = some (iI (-1), h)) ∧ (∀ r d : Nat, z = r → y = d → r < nr → d < nd → (¬ (gn r = false ∧ td (rT r) = none ∧ ldv (tg (rT r)) (gr r) ≤ hd r) → fX5_tieRope N h 14 (iI z) (iI y) = some (iI (-2), h)) ∧ ((gn r = false ∧ td (rT r) = none ∧ ldv (tg (rT r)) (gr r) ≤ hd r) → fX5_tieRope N h 14 (iI z) (iI y) = some (iI (hd r - ldv (tg (rT r)) (gr r)), tieH h (rA r) (tA (rT r)) (dA d) (pa (rT r))))) := by
  refine ⟨fun hn => ?_, fun r d hz' hy hr hd' => ?_⟩
  · simp only [fX5_tieRope, fX5_tieRope_b22, fX5_tieRope_b48, lit, iI_neg]
    by_cases w : 0 ≤ z ∧ z ≤ (nr : Int) - 1
    · obtain ⟨r, rfl⟩ : ∃ r : Nat, z = r := ⟨z.toNat, by omega⟩
      have ry := v_ropeY (N := N) hS hR (i := r) (by omega)
      have dn' := v_drumN (N := N) hS hD y1 y2 (fun q => hn ⟨w, q⟩)
      refine bst (rcv (by rw [ss_14 hS])) ?_
      refine bst (ry) ?_
      refine bst (rcv (by rw [ss_14 hS])) ?_
      refine bst (dn') ?_
      refine ifn (Option.some_ne_none _) ?_
      refine ifp (rfl) ?_
      rfl
    · have rn := v_ropeN (N := N) hS hR z1 z2 w
      by_cases wy' : 0 ≤ y ∧ y ≤ (nd : Int) - 1
      · obtain ⟨d, rfl⟩ : ∃ d : Nat, y = d := ⟨y.toNat, by omega⟩
        have dy := v_drumY (N := N) hS hD (i := d) (by omega)
        refine bst (rcv (by rw [ss_14 hS])) ?_
        refine bst (rn) ?_
        refine bst (rcv (by rw [ss_14 hS])) ?_
        refine bst (dy) ?_
        refine ifp (rfl) ?_
        rfl
      · have dn' := v_drumN (N := N) hS hD y1 y2 wy'
        refine bst (rcv (by rw [ss_14 hS])) ?_
        refine bst (rn) ?_
        refine bst (rcv (by rw [ss_14 hS])) ?_
        refine bst (dn') ?_
        refine ifp (rfl) ?_
        rfl
  · subst hz' hy
    have ry := v_ropeY (N := N) hS hR hr
    have dy := v_drumY (N := N) hS hD hd'
    have sp := v_spareo (N := N) hR hT hr
    obtain ⟨⟨-, -, -, d4⟩, ⟨f0, f1, f2, f3, f4, f8⟩, -, q1, q2, q3, q4, q5⟩ := hR.2.1 r hr
    obtain ⟨⟨-, -, -, t4⟩, -, -, bb⟩ := hT.2.1 (rT r) q1
    have g9 := hC.2 (rT r) q1
    have lb := ldv_b (g := tg (rT r)) (r := gr r) (by omega) (by omega)
    have b9 : -2000 ≤ hd r - ldv (tg (rT r)) (gr r) ∧ hd r - ldv (tg (rT r)) (gr r) ≤ 9999 := by omega
    have d41 : (sh h (rA r)).1 = 4 := by rw [d4]
    have t41 : (sh h (tA (rT r))).1 = 9 := by rw [t4]
    refine ⟨fun hn => ?_, fun hy' => ?_⟩
    · simp only [fX5_tieRope, fX5_tieRope_b22, fX5_tieRope_b48, lit, iI_neg]
      refine bst (rcv (by rw [ss_14 hS])) ?_
      refine bst (ry) ?_
      refine bst (rcv (by rw [ss_14 hS])) ?_
      refine bst (dy) ?_
      refine ifn (Option.some_ne_none _) ?_
      refine ifn (Option.some_ne_none _) ?_
      refine bst (oIv d41 f8) ?_
      cases hg : gn r with
      | true => exact ifn n10 rfl
      | false =>
        rw [hg] at hn
        refine ifp rfl ?_
        refine bst (oRv d41 f1) ?_
        refine bst (oRv t41 g9) ?_
        cases ht : td (rT r) with
        | some q => exact ifn (Option.some_ne_none _) rfl
        | none =>
          rw [ht] at hn
          have w3 : ¬ 0 ≤ hd r - ldv (tg (rT r)) (gr r) := fun q => hn ⟨rfl, rfl, by omega⟩
          refine ifp rfl ?_
          refine bst (rcv d41) ?_
          refine bst (sp) ?_
          refine ifn (fun q => w3 ((iI_le (by omega) (by omega) (by omega) (by omega)).mp q)) ?_
          rfl
    · obtain ⟨hg, ht, hl⟩ := hy'
      rw [hg] at f8
      rw [ht] at g9
      have bd := v_bindo (N := N) hR hT (da := dA d) hr
      have ke := Ke_tieH (h := h) (ra := rA r) (ta := tA (rT r)) (da := dA d) (p := pa (rT r))
      obtain ⟨hq, hhq⟩ : ∃ hq, hq = tieH h (rA r) (tA (rT r)) (dA d) (pa (rT r)) := ⟨_, rfl⟩
      rw [← hhq] at bd ke ⊢
      have hR2 := hR.e hz ke (by decide) (by decide) (by decide) (by decide)
      have hT2 := hT.e hz ke (by decide) (by decide)
      have sp2 := v_spareo (N := N) hR2 hT2 hr
      have d42 : (sh hq (rA r)).1 = 4 := by rw [(hR2.2.1 r hr).1.2.2.2]
      have w3 : 0 ≤ hd r - ldv (tg (rT r)) (gr r) := by omega
      simp only [fX5_tieRope, fX5_tieRope_b22, fX5_tieRope_b48, lit, iI_neg]
      refine bst (rcv (by rw [ss_14 hS])) ?_
      refine bst (ry) ?_
      refine bst (rcv (by rw [ss_14 hS])) ?_
      refine bst (dy) ?_
      refine ifn (Option.some_ne_none _) ?_
      refine ifn (Option.some_ne_none _) ?_
      refine bst (oIv d41 f8) ?_
      refine ifp (rfl) ?_
      refine bst (oRv d41 f1) ?_
      refine bst (oRv t41 g9) ?_
      refine ifp (rfl) ?_
      refine bst (rcv d41) ?_
      refine bst (sp) ?_
      refine ifp ((iI_le (by omega) (by omega) (by omega) (by omega)).mpr w3) ?_
      refine bst (rcv d41) ?_
      refine bst (bd) ?_
      refine bst (rcv d42) ?_
      refine bst (sp2) ?_
      rfl

theorem v_loadMq {N : Nat} {h : Hs} (hS : Sk h) {nr nt : Nat} {rA tA rT : Nat → Nat} {wy gr hd : Nat → Int} {gn : Nat → Bool} {tl tw tg ls ms : Nat → Int} (hR : RRo h nr nt rA tA rT wy gr hd gn) (hT : RTq h nt tl tw tg ls ms) {r : Nat} (hr : r < nr) : fX12_load N h 29 (iI r) = some (iI (ldv (tg (rT r)) (gr r)), h) := by
  obtain ⟨-, -, ⟨f0, f1, f2, f3, f4⟩, q1, q2, q3, q4, q5⟩ := hR.2.1 r hr
  obtain ⟨⟨-, -, g3, -⟩, b1, b2', b3, b4, b5, b6, -⟩ := hT.2 (rT r) q1
  have c3 := hR.1.2.2
  have c4 := hT.1.2
  have e1 : ixb (iI (r : Int)) 40 = true := ixb_i (by omega) (by omega) (by omega)
  have e2 : (iI (r : Int)).toNatClampNeg = r := by rw [iI_cl (by omega) (by omega)]; simp
  have e3 : ixb (iI ((rT r : Nat) : Int)) 40 = true := ixb_i (by omega) (by omega) (by omega)
  have e4 : (iI ((rT r : Nat) : Int)).toNatClampNeg = rT r := by rw [iI_cl (by omega) (by omega)]; simp
  have e5 : ¬ gr r = 0 := by omega
  have e6 : iI (tg (rT r) + gr r - 1) / iI (gr r) = iI (ldv (tg (rT r)) (gr r)) := iI_div (by omega) (by omega) (by omega) (by omega)
  simp (disch := omega) [fX12_load, oR, lA, sk_29 hS, sk_32 hS, sk_38 hS, sk_39 hS, sk_102 hS, sk_108 hS, sk_109 hS, e1, e2, e3, e4, f0, f1, g3, lit, iI_eq, e5, iI_add, iI_sub, dv, e6]
theorem m_tieq {N : Nat} (hN : 100000000 ≤ N) {h : Hs} (hS : Sk h) {nr nt nd : Nat} {rA tA dA rT : Nat → Nat} {wy gr hd : Nat → Int} {gn : Nat → Bool} {tl tw tg ls ms pa ds : Nat → Int} {dr td : Nat → Option Nat} {sr dn : Nat → Int} (hz : 70 ≤ sz h) (hR : RRo h nr nt rA tA rT wy gr hd gn) (hT : RTq h nt tl tw tg ls ms) (hP : ∀ i, i < nt → aI h 33 i = iI (pa i)) (hD : RDr h nd dA ds) (hM : RTm h nr rT dr sr dn) (hL : RTl nt nd nr rT dr td) (z y : Int) (z1 : -2147483648 ≤ z) (z2 : z < 2147483648) (y1 : -2147483648 ≤ y) (y2 : y < 2147483648) :
    (¬ ((0 ≤ z ∧ z ≤ (nr : Int) - 1) ∧ 0 ≤ y ∧ y ≤ (nd : Int) - 1) → fX12_tieNow N h 29 (iI z) (iI y) = some (iI (-1), h)) ∧ (∀ r d : Nat, z = r → y = d → r < nr → d < nd → (¬ (gn r = false ∧ td (rT r) = none ∧ ldv (tg (rT r)) (gr r) ≤ hd r) → fX12_tieNow N h 29 (iI z) (iI y) = some (iI (-2), h)) ∧ ((gn r = false ∧ td (rT r) = none ∧ ldv (tg (rT r)) (gr r) ≤ hd r) → fX12_tieNow N h 29 (iI z) (iI y) = some (iI (hd r - ldv (tg (rT r)) (gr r)), tieM h r (rT r) d (pa (rT r))))) := by
  have c3 := hR.1.2.2
  have cd := hD.1.2.2
  have ct := hT.1.2
  have ir := v_isRope (N := N) hS hR.1.2.1 c3 z1 z2
  have id' := v_isDrum (N := N) hS hD.1.2.1 cd y1 y2
  refine ⟨fun hn => ?_, fun r d hz' hy hr hd' => ?_⟩
  · simp only [fX12_tieNow, fX12_tieNow_b16, fX12_tieNow_b63, lit, iI_neg]
    by_cases w : 0 ≤ z ∧ z ≤ (nr : Int) - 1
    · rw [if_pos w] at ir
      rw [if_neg (fun q => hn ⟨w, q⟩)] at id'
      refine bst (rcv (by rw [ss_29 hS])) ?_
      refine bst (ir) ?_
      refine ifn (n10) ?_
      refine bst (rcv (by rw [ss_29 hS])) ?_
      refine bst (id') ?_
      refine ifp (rfl) ?_
      rfl
    · rw [if_neg w] at ir
      refine bst (rcv (by rw [ss_29 hS])) ?_
      refine bst (ir) ?_
      refine ifp (rfl) ?_
      rfl
  · subst hz' hy
    rw [if_pos (by omega)] at ir id'
    obtain ⟨-, -, ⟨f0, f1, f2, f3, f4⟩, q1, q2, q3, q4, q5⟩ := hR.2.1 r hr
    obtain ⟨⟨g0, g1, g2, g4, g5⟩, bb⟩ := hT.2 (rT r) q1
    have g3 := hP (rT r) q1
    have tt := v_tiedM hN hS hR hM hL cd ct q1
    have lm := v_loadMq (N := N) hS hR hT hr
    have lb := ldv_b (g := tg (rT r)) (r := gr r) (by omega) (by omega)
    have m42 := (hM r hr).1
    simp only [fX12_tieNow, fX12_tieNow_b16, fX12_tieNow_b63, lit, iI_neg]
    refine ⟨fun hn => ?_, fun hy' => ?_⟩
    · cases hdr : dr r with
      | some d0 =>
        have dl := (hL.1 r d0 hr hdr).1
        rw [hdr] at m42
        simp only [od] at m42
        have w2 : (0 : Int) ≤ d0 := by omega
        refine bst (rcv (by rw [ss_29 hS])) ?_
        refine bst (ir) ?_
        refine ifn (n10) ?_
        refine bst (rcv (by rw [ss_29 hS])) ?_
        refine bst (id') ?_
        refine ifn (n10) ?_
        refine bst (sR_1216_29 hS) ?_
        refine bst (lAv (ss_42 hS) (by omega) (by omega) m42) ?_
        refine ifp ((iI_le (by omega) (by omega) (by omega) (by omega)).mpr w2) ?_
        rfl
      | none =>
        rw [hdr] at m42
        simp only [od] at m42
        have w2 : ¬ iI 0 ≤ iI (-1) := by decide
        cases hg : gn r with
        | true =>
          rw [hg] at f4
          simp only [b2, if_true] at f4
          refine bst (rcv (by rw [ss_29 hS])) ?_
          refine bst (ir) ?_
          refine ifn (n10) ?_
          refine bst (rcv (by rw [ss_29 hS])) ?_
          refine bst (id') ?_
          refine ifn (n10) ?_
          refine bst (sR_1216_29 hS) ?_
          refine bst (lAv (ss_42 hS) (by omega) (by omega) m42) ?_
          refine ifn (w2) ?_
          refine bst (sR_1218_29 hS) ?_
          refine bst (lAz (ss_44 hS) (by omega) (by omega) f4) ?_
          refine ifn (n10) ?_
          rfl
        | false =>
          rw [hg] at f4 hn
          have f4' : aI h 44 r = iI 0 := f4
          cases ht : td (rT r) with
          | some q =>
            rw [ht] at tt
            simp only [od] at tt
            have qb := (hL.2 (rT r) q q1 ht).1
            have w3 : (0 : Int) ≤ q := by omega
            refine bst (rcv (by rw [ss_29 hS])) ?_
            refine bst (ir) ?_
            refine ifn (n10) ?_
            refine bst (rcv (by rw [ss_29 hS])) ?_
            refine bst (id') ?_
            refine ifn (n10) ?_
            refine bst (sR_1216_29 hS) ?_
            refine bst (lAv (ss_42 hS) (by omega) (by omega) m42) ?_
            refine ifn (w2) ?_
            refine bst (sR_1218_29 hS) ?_
            refine bst (lAz (ss_44 hS) (by omega) (by omega) f4') ?_
            refine ifp (rfl) ?_
            refine bst (sR_1212_29 hS) ?_
            refine bst (lAv (ss_38 hS) (by omega) (by omega) f0) ?_
            refine bst (rcv (by rw [ss_29 hS])) ?_
            refine bst (tt) ?_
            refine ifp ((iI_le (by omega) (by omega) (by omega) (by omega)).mpr w3) ?_
            rfl
          | none =>
            rw [ht] at tt hn
            simp only [od] at tt
            have w3 : ¬ ldv (tg (rT r)) (gr r) ≤ hd r := fun q => hn ⟨rfl, rfl, q⟩
            refine bst (rcv (by rw [ss_29 hS])) ?_
            refine bst (ir) ?_
            refine ifn (n10) ?_
            refine bst (rcv (by rw [ss_29 hS])) ?_
            refine bst (id') ?_
            refine ifn (n10) ?_
            refine bst (sR_1216_29 hS) ?_
            refine bst (lAv (ss_42 hS) (by omega) (by omega) m42) ?_
            refine ifn (w2) ?_
            refine bst (sR_1218_29 hS) ?_
            refine bst (lAz (ss_44 hS) (by omega) (by omega) f4') ?_
            refine ifp (rfl) ?_
            refine bst (sR_1212_29 hS) ?_
            refine bst (lAv (ss_38 hS) (by omega) (by omega) f0) ?_
            refine bst (rcv (by rw [ss_29 hS])) ?_
            refine bst (tt) ?_
            refine ifn (w2) ?_
            refine bst (sR_1215_29 hS) ?_
            refine bst (lAv (ss_41 hS) (by omega) (by omega) f3) ?_
            refine bst (rcv (by rw [ss_29 hS])) ?_
            refine bst (lm) ?_
            refine ifn (fun q9 => w3 ((iI_le (by omega) (by omega) (by omega) (by omega)).mp q9)) ?_
            rfl
    · obtain ⟨hg, ht, hl⟩ := hy'
      have hdr : dr r = none := by
        cases hdr : dr r with
        | none => rfl
        | some d0 =>
          have := (hL.1 r d0 hr hdr).2
          rw [ht] at this
          cases this
      rw [hdr] at m42
      simp only [od] at m42
      rw [hg] at f4
      have f4' : aI h 44 r = iI 0 := f4
      rw [ht] at tt
      simp only [od] at tt
      have w2 : ¬ iI 0 ≤ iI (-1) := by decide
      have ke : Ke [] [36, 42, 43] [] [] h (tieM h r (rT r) d (pa (rT r))) := Kq_tieM.e
      have hR2 := hR.e hz ke (by decide) (by decide) (by decide) (by decide)
      have hT2 := hT.e hz ke (by decide) (by decide)
      have hS2 := hS.e hz ke (fun f hf => absurd hf List.not_mem_nil)
      have lm2 := v_loadMq (N := N) hS2 hR2 hT2 hr
      have f32 := (hR2.2.1 r hr).2.2.1.2.2.2.1
      have hSa : Sk (uA h 42 r (iI d)) := hS.k (Kq_uA 42 _ _)
      have hSb : Sk (uA (uA h 42 r (iI d)) 43 r (iI 0)) := hSa.k (Kq_uA 43 _ _)
      refine bst (rcv (by rw [ss_29 hS])) ?_
      refine bst (ir) ?_
      refine ifn (n10) ?_
      refine bst (rcv (by rw [ss_29 hS])) ?_
      refine bst (id') ?_
      refine ifn (n10) ?_
      refine bst (sR_1216_29 hS) ?_
      refine bst (lAv (ss_42 hS) (by omega) (by omega) m42) ?_
      refine ifn (w2) ?_
      refine bst (sR_1218_29 hS) ?_
      refine bst (lAz (ss_44 hS) (by omega) (by omega) f4') ?_
      refine ifp (rfl) ?_
      refine bst (sR_1212_29 hS) ?_
      refine bst (lAv (ss_38 hS) (by omega) (by omega) f0) ?_
      refine bst (rcv (by rw [ss_29 hS])) ?_
      refine bst (tt) ?_
      refine ifn (w2) ?_
      refine bst (sR_1215_29 hS) ?_
      refine bst (lAv (ss_41 hS) (by omega) (by omega) f3) ?_
      refine bst (rcv (by rw [ss_29 hS])) ?_
      refine bst (lm) ?_
      refine ifp ((iI_le (by omega) (by omega) (by omega) (by omega)).mpr hl) ?_
      refine bst (sR_1216_29 hS) ?_
      refine bst (sAv (ss_42 hS) (by omega) (by omega)) ?_
      refine bst (sR_1217_29 hSa) ?_
      refine bst (sAv (ss_43 hSa) (by omega) (by omega)) ?_
      refine bst (sR_1208_29 hSb) ?_
      refine bst (sR_1212_29 hSb) ?_
      refine bst (lAv (ss_38 hSb) (by omega) (by omega) (v := iI (rT r)) (by simp [HR, f0])) ?_
      refine bst (sR_1205_29 hSb) ?_
      refine bst (sR_1212_29 hSb) ?_
      refine bst (lAv (ss_38 hSb) (by omega) (by omega) (v := iI (rT r)) (by simp [HR, f0])) ?_
      refine bst (lAv (ss_33 hSb) (by omega) (by omega) (v := iI (pa (rT r))) (by simp [HR, g3])) ?_
      refine bst (sAv (ss_36 hSb) (by omega) (by omega)) ?_
      refine bst (sR_1215_29 hS2) ?_
      refine bst (lAv (ss_41 hS2) (by omega) (by omega) f32) ?_
      refine bst (rcv (h := tieM h r (rT r) d (pa (rT r))) (by rw [ss_29 hS2])) ?_
      refine bst (lm2) ?_
      rw [iI_sub]

/-! ===== a line is done ===== -/
def PCl (h : Hs) (nt nd nr : Nat) (tA dA rA rT : Nat → Nat) (tl tw tg ls ms ds wy gr hd : Nat → Int) (gn : Nat → Bool) (bd : Int) (pa : Nat → Int) (dr td : Nat → Option Nat) (sr dn cw : Nat → Int) (x y u1 u2 u3 : Int32) : Prop := (Sk h ∧ 70 ≤ sz h ∧ RTo h nt tA tl tw tg ls ms pa ∧ RDr h nd dA ds ∧ RRo h nr nt rA tA rT wy gr hd gn ∧ RTc h nt nr tA dA rA dr td sr dn) ∧ (∀ i, i < 20 → aI h 18 i = iI (cw i)) ∧ gI h 510 14 = iI bd ∧ (gI h 511 14 = x ∧ gI h 512 14 = y) ∧ gI h 700 23 = u1 ∧ gI h 701 23 = u2 ∧ gI h 702 23 = u3
def PMl (h : Hs) (nt nd nr : Nat) (tA dA rA rT : Nat → Nat) (tl tw tg ls ms ds wy gr hd : Nat → Int) (gn : Nat → Bool) (bd : Int) (pa : Nat → Int) (dr td : Nat → Option Nat) (sr dn cw : Nat → Int) (x y u1 u2 u3 : Int32) : Prop := (Sk h ∧ 70 ≤ sz h ∧ RTq h nt tl tw tg ls ms ∧ (∀ i, i < nt → aI h 33 i = iI (pa i)) ∧ RDr h nd dA ds ∧ RRo h nr nt rA tA rT wy gr hd gn ∧ RTm h nr rT dr sr dn) ∧ (∀ i, i < 20 → aI h 45 i = iI (cw i)) ∧ gI h 1220 29 = iI bd ∧ (gI h 1221 29 = x ∧ gI h 1222 29 = y) ∧ gI h 1223 29 = u1 ∧ gI h 1224 29 = u2 ∧ gI h 1225 29 = u3
def PLl (B : Int) (nt nd nr : Nat) (rT : Nat → Nat) (ls ms wy gr : Nat → Int) (pa : Nat → Int) (dr td : Nat → Option Nat) (sr dn cw : Nat → Int) : Prop := RTl nt nd nr rT dr td ∧ (∀ r, r < nr → dr r ≠ none → ls (rT r) ≤ sr r ∧ sr r ≤ ms (rT r)) ∧ (∀ r, r < nr → dr r ≠ none → pa (rT r) = sr r + wy r * (dn r).tdiv (100 * gr r)) ∧ (∀ i, i < 20 → -9999 ≤ cw i ∧ cw i ≤ 9999) ∧ ∀ r, r < nr → dr r ≠ none → -B ≤ dn r ∧ dn r ≤ B
/-- the reference's answer to a line of which the class says c -/
def lnR (c k : Int) (g : Hs → Int32 → Option (Int32 × Hs)) (h : Hs) : Option (Int32 × Hs) := if c = 0 then g h (iI (k + 1)) else if c = -5 then some (iI (-5), h) else some (iI (-1000 - k), h)
theorem v_ln {N : Nat} (hN : 100000000 ≤ N) {nr nt nd : Nat} {rA tA dA rT : Nat → Nat} {wy gr hd ds : Nat → Int} {gn : Nat → Bool} {tl tw tg ls ms : Nat → Int} {bd : Int} (b1 : 0 ≤ bd) (b2' : bd ≤ 99999) {pa : Nat → Int} {dr td : Nat → Option Nat} {sr dn cw : Nat → Int} {x y u1 u2 u3 : Int32} {B : Int} (hB0 : 0 ≤ B) (hB : B ≤ 900000000) {h : Hs} (hP : PCl h nt nd nr tA dA rA rT tl tw tg ls ms ds wy gr hd gn bd pa dr td sr dn cw x y u1 u2 u3) (hl : PLl B nt nd nr rT ls ms wy gr pa dr td sr dn cw) {k : Nat} (hk : k < 30) {b v1 v2 : Int} (hb : b = 115 ∨ b = 116 ∨ b = 117 ∨ b = 119) (w1 : -9999 ≤ v1 ∧ v1 ≤ 9999) (w2 : -9999 ≤ v2 ∧ v2 ≤ 9999) (a3 : aI h 3 k = iI b) (a4 : aI h 4 k = iI v1) (a5 : aI h 5 k = iI v2) :
    ∃ (c : Int) (pa' : Nat → Int) (dr' td' : Nat → Option Nat) (sr' dn' cw' : Nat → Int) (x' y' u1' u2' u3' : Int32) (h' : Hs), (c = 0 ∨ c = -2 ∨ c = -5) ∧ fX11_playLine N h 0 (iI k) = some (iI c, h') ∧ PCl h' nt nd nr tA dA rA rT tl tw tg ls ms ds wy gr hd gn bd pa' dr' td' sr' dn' cw' x' y' u1' u2' u3' ∧ PLl (B + 199980) nt nd nr rT ls ms wy gr pa' dr' td' sr' dn' cw' ∧ Ke [908, 700, 701, 702, 406, 407, 907, 511, 512] [18] [405, 909] [] h h' ∧ sz h' = sz h ∧
    (∀ (hm : Hs) (cn : Nat), PMl hm nt nd nr tA dA rA rT tl tw tg ls ms ds wy gr hd gn bd pa dr td sr dn cw x y u1 u2 u3 → gI hm 1239 29 = iI cn → k < cn → cn ≤ 30 → aI hm 54 k = iI b → aI hm 55 k = iI v1 → aI hm 56 k = iI v2 → ∃ hm', PMl hm' nt nd nr tA dA rA rT tl tw tg ls ms ds wy gr hd gn bd pa' dr' td' sr' dn' cw' x' y' u1' u2' u3' ∧ Ke [1221, 1222, 1223, 1224, 1225] [33, 36, 42, 43, 45] [] [] hm hm' ∧ sz hm' = sz hm ∧ ∀ g, fX12_play_b66_body N g 29 hm (iI k) = lnR c k g hm') := by
  obtain ⟨⟨hS, hz, hT, hD, hR, hC⟩, hW, hBd, ⟨hx, hy⟩, hu1, hu2, hu3⟩ := hP
  obtain ⟨hL, hsl, hA, hcw, hdB⟩ := hl
  have ct := hT.1.2.2
  have cr := hR.1.2.2
  have cd := hD.1.2.2
  have hdn : ∀ r, r < nr → dr r ≠ none → -1000000000 ≤ dn r ∧ dn r ≤ 1000000000 := fun r hr hn => by have := hdB r hr hn; omega
  have hsr : ∀ r, r < nr → dr r ≠ none → 0 ≤ sr r ∧ sr r ≤ 100 := fun r hr hn => by
    have z1 := hsl r hr hn
    have z2 := (hT.2.1 (rT r) (hR.2.1 r hr).2.2.2.1).2.2.2
    omega
  have hdB2 : ∀ r, r < nr → dr r ≠ none → -(B + 199980) ≤ dn r ∧ dn r ≤ B + 199980 := fun r hr hn => by have := hdB r hr hn; omega
  have l3 := lAv (ss_3 hS) (show k < 30 by omega) (by omega) a3
  have l4 := lAv (ss_4 hS) (show k < 30 by omega) (by omega) a4
  have l5 := lAv (ss_5 hS) (show k < 30 by omega) (by omega) a5
  have q1 : iI b = iI 116 ↔ b = 116 := iI_eq (by omega) (by omega) (by omega) (by omega)
  have q2 : iI b = iI 117 ↔ b = 117 := iI_eq (by omega) (by omega) (by omega) (by omega)
  have q3 : iI b = iI 119 ↔ b = 119 := iI_eq (by omega) (by omega) (by omega) (by omega)
  have q0 : iI b = iI 115 ↔ b = 115 := iI_eq (by omega) (by omega) (by omega) (by omega)
  have rc5 : rc 5 h (some 14) = some 14 := rcv (by rw [ss_14 hS])
  have rc10 : rc 10 h (some 22) = some 22 := rcv (by rw [ss_22 hS])
  -- a refused line
  have no : ∀ c : Int, c = -2 → fX11_playLine N h 0 (iI k) = some (iI c, h) → (∀ (hm : Hs) (cn : Nat), PMl hm nt nd nr tA dA rA rT tl tw tg ls ms ds wy gr hd gn bd pa dr td sr dn cw x y u1 u2 u3 → gI hm 1239 29 = iI cn → k < cn → cn ≤ 30 → aI hm 54 k = iI b → aI hm 55 k = iI v1 → aI hm 56 k = iI v2 → ∀ g, fX12_play_b66_body N g 29 hm (iI k) = lnR c k g hm) → ∃ (c : Int) (pa' : Nat → Int) (dr' td' : Nat → Option Nat) (sr' dn' cw' : Nat → Int) (x' y' u1' u2' u3' : Int32) (h' : Hs), (c = 0 ∨ c = -2 ∨ c = -5) ∧ fX11_playLine N h 0 (iI k) = some (iI c, h') ∧ PCl h' nt nd nr tA dA rA rT tl tw tg ls ms ds wy gr hd gn bd pa' dr' td' sr' dn' cw' x' y' u1' u2' u3' ∧ PLl (B + 199980) nt nd nr rT ls ms wy gr pa' dr' td' sr' dn' cw' ∧ Ke [908, 700, 701, 702, 406, 407, 907, 511, 512] [18] [405, 909] [] h h' ∧ sz h' = sz h ∧ (∀ (hm : Hs) (cn : Nat), PMl hm nt nd nr tA dA rA rT tl tw tg ls ms ds wy gr hd gn bd pa dr td sr dn cw x y u1 u2 u3 → gI hm 1239 29 = iI cn → k < cn → cn ≤ 30 → aI hm 54 k = iI b → aI hm 55 k = iI v1 → aI hm 56 k = iI v2 → ∃ hm', PMl hm' nt nd nr tA dA rA rT tl tw tg ls ms ds wy gr hd gn bd pa' dr' td' sr' dn' cw' x' y' u1' u2' u3' ∧ Ke [1221, 1222, 1223, 1224, 1225] [33, 36, 42, 43, 45] [] [] hm hm' ∧ sz hm' = sz hm ∧ ∀ g, fX12_play_b66_body N g 29 hm (iI k) = lnR c k g hm') := fun c hc e1 e2 => ⟨c, pa, dr, td, sr, dn, cw, x, y, u1, u2, u3, h, by omega, e1, ⟨⟨hS, hz, hT, hD, hR, hC⟩, hW, hBd, ⟨hx, hy⟩, hu1, hu2, hu3⟩, ⟨hL, hsl, hA, hcw, hdB2⟩, Ke_rf, rfl, fun hm cn p1 p2 p3 p4 p5 p6 p7 => ⟨hm, p1, Ke_rf, rfl, e2 hm cn p1 p2 p3 p4 p5 p6 p7⟩⟩
  have nR2 : ∀ g hm, lnR (-2) k g hm = some (iI (-1000 - (k : Int)), hm) := fun g hm => by
    unfold lnR
    rw [if_neg (by omega), if_neg (by omega)]
  have nR0 : ∀ g hm, lnR 0 k g hm = g hm (iI ((k : Int) + 1)) := fun g hm => by
    unfold lnR
    rw [if_pos rfl]
  have nR5 : ∀ g hm, lnR (-5) k g hm = some (iI (-5), hm) := fun g hm => by
    unfold lnR
    rw [if_neg (by omega), if_pos rfl]
  have n20 : ¬ iI (-2) = iI 0 := by decide
  have tt0 : iI 0 = iI 0 := rfl
  rcases hb with rfl | rfl | rfl | rfl
  · -- the shaft turns
    obtain ⟨d, m, hdm⟩ : ∃ d m : Int, (0 ≤ v1 ∧ d = 1 ∧ m = v1) ∨ (v1 < 0 ∧ d = -1 ∧ m = -v1) := by
      by_cases q : 0 ≤ v1
      · exact ⟨1, v1, Or.inl ⟨q, rfl, rfl⟩⟩
      · exact ⟨-1, -v1, Or.inr ⟨by omega, rfl, rfl⟩⟩
    obtain ⟨n, kk, t, o, h1, e1, st, ⟨x1, x2, x3⟩, ke1, s1, hC1, hP1, g11, g12⟩ := v_turnBy hN hS hz hT hD hR hC b1 b2' hL hdn hsr hcw hW hBd w1.1 w1.2 hdm
    have n0 := st.1
    have n1 := st.2.1
    have zb : -9999 ≤ d * n ∧ d * n ≤ 9999 := by rcases hdm with ⟨_, rfl, _⟩ | ⟨_, rfl, _⟩ <;> omega
    have hbp : ∀ i, i < nt → ls i ≤ pa i ∧ pa i ≤ ms i := fun i hi => by have := (hT.2.1 i hi).2.2.2; omega
    have am : (if iI 0 ≤ iI v1 then iI v1 else iI 0 - iI v1) = iI m := by
      rcases hdm with ⟨q, _, rfl⟩ | ⟨q, _, rfl⟩
      · rw [if_pos ((iI_le (by omega) (by omega) (by omega) (by omega)).mpr q)]
      · rw [if_neg (fun z => by have := (iI_le (by omega) (by omega) (by omega) (by omega)).mp z; omega), iI_sub, Int.zero_sub]
    have le : iI n = iI m ↔ n = m := iI_eq (by omega) (by omega) (by omega) (by omega)
    obtain ⟨c, hc, hc2⟩ : ∃ c : Int, (n = m ∧ c = 0 ∨ n < m ∧ c = -5) ∧ (c = 0 ∨ c = -2 ∨ c = -5) := by
      by_cases q : n = m
      · exact ⟨0, Or.inl ⟨q, rfl⟩, Or.inl rfl⟩
      · exact ⟨-5, Or.inr ⟨by omega, rfl⟩, Or.inr (Or.inr rfl)⟩
    have ke1w : Ke [908, 700, 701, 702, 406, 407, 907, 511, 512] [18] [405, 909] [] h h1 := ke1.w (by decide) (by decide) (by decide) (by decide)
    refine ⟨c, tpl pa wy gr sr dn ds dr td (d * n), dr, td, sr, dnz ds dn dr (d * n), cw, x + iI (d * n), y + iI n, iI kk, iI t, iI o, h1, hc2, ?_, ⟨⟨hS.e hz ke1 (by decide), by omega, hT.mv hz ke1 (by decide) (by decide) hP1 (fun i hi => stq_in hL hA hbp st hi), hD.e hz ke1 (by decide) (by decide) (by decide), hR.e hz ke1 (by decide) (by decide) (by decide) (by decide), hC1⟩, fun i hi => by rw [ke1.2.1 18 (by decide) (by omega)]; exact hW i hi, by rw [ke1.1 510 14 (by decide) (by omega)]; exact hBd, ⟨by rw [g11, hx], by rw [g12, hy]⟩, x1, x2, x3⟩, ⟨hL, hsl, fun r hr hne => tpl_A hL (d * n) hr hne, hcw, fun r hr hne => ?_⟩, ke1w, s1, ?_⟩
    · simp only [fX11_playLine, fX11_playLine_b141, lit, iI_neg]
      rcases hc with ⟨q, rfl⟩ | ⟨q, rfl⟩
      · skip
        refine bst (sR_1103_0 hS) ?_
        refine bst (sR_802_1 hS) ?_
        refine bst (l4) ?_
        refine bst (sR_1103_0 hS) ?_
        refine bst (sR_803_1 hS) ?_
        refine bst (l5) ?_
        refine bst (sR_1103_0 hS) ?_
        refine bst (sR_801_1 hS) ?_
        refine bst (l3) ?_
        refine ifn (fun z => by have := q1.mp z; omega) ?_
        refine ifn (fun z => by have := q2.mp z; omega) ?_
        refine ifn (fun z => by have := q3.mp z; omega) ?_
        refine bst (sR_1101_0 hS) ?_
        refine bst (rc10) ?_
        refine bst (e1) ?_
        rw [am]
        refine ifp (le.mpr q) ?_
        rfl
      · skip
        refine bst (sR_1103_0 hS) ?_
        refine bst (sR_802_1 hS) ?_
        refine bst (l4) ?_
        refine bst (sR_1103_0 hS) ?_
        refine bst (sR_803_1 hS) ?_
        refine bst (l5) ?_
        refine bst (sR_1103_0 hS) ?_
        refine bst (sR_801_1 hS) ?_
        refine bst (l3) ?_
        refine ifn (fun z => by have := q1.mp z; omega) ?_
        refine ifn (fun z => by have := q2.mp z; omega) ?_
        refine ifn (fun z => by have := q3.mp z; omega) ?_
        refine bst (sR_1101_0 hS) ?_
        refine bst (rc10) ?_
        refine bst (e1) ?_
        rw [am]
        refine ifn (fun z => by have := le.mp z; omega) ?_
        rfl
    · have := dnz_bd (dn := dn) hL (fun e he => (hD.2.1 e he).2.2.2) (B := 9999) zb.1 zb.2 hr hne
      have := hdB r hr hne
      omega
    · intro hm cn hPM hcn hkc hc30 m54 m55 m56
      obtain ⟨⟨mS, mz, mT, mP, mD, mR, mM⟩, mW, mB, ⟨mx, my⟩, mu1, mu2, mu3⟩ := hPM
      obtain ⟨n', k', t', o', h3, e3, st', w3, ke3, s3, hM3, hP3, g31, g32⟩ := v_turnNow hN mS mz mT mP mD mR mM b1 b2' hL hdn hsr hA (fun i hi => (show 0 ≤ pa i ∧ pa i ≤ 100 by have := (hT.2.1 i hi).2.2.2; omega)) hcw mW mB w1.1 w1.2 hdm
      obtain ⟨rfl, rfl, rfl, rfl⟩ := Stq_un (WH := tWh nt ls ms tl tw tg pa wy gr sr dn ds rT dr td nr cw bd d) (fun s k t o k' t' o' a b => Wh_un a b) st st'
      refine ⟨h3, ⟨⟨mS.e mz ke3 (by decide), by omega, mT.e mz ke3 (by decide) (by decide), hP3, mD.e mz ke3 (by decide) (by decide) (by decide), mR.e mz ke3 (by decide) (by decide) (by decide) (by decide), hM3⟩, fun i hi => by rw [ke3.2.1 45 (by decide) (by omega)]; exact mW i hi, by rw [ke3.1 1220 29 (by decide) (by omega)]; exact mB, ⟨by rw [g31, mx], by rw [g32, my]⟩, w3.1, w3.2.1, w3.2.2⟩, ke3.w (by decide) (by decide) (by decide) (by decide), s3, fun g => ?_⟩
      have c29 : (sh hm 29).1 = 12 := by rw [ss_29 mS]
      have a1 : ¬ iI (cn : Int) ≤ iI (k : Int) := fun q => by have := (iI_le (by omega) (by omega) (by omega) (by omega)).mp q; omega
      have rc12 : rc 12 hm (some 29) = some 29 := rcv (by rw [ss_29 mS])
      have m4 := lAv (ss_55 mS) (show k < 60 by omega) (by omega) m55
      have m3 := lAv (ss_54 mS) (show k < 60 by omega) (by omega) m54
      have lm : iI m ≤ iI n ↔ m ≤ n := iI_le (by omega) (by omega) (by omega) (by omega)
      have b107 : fX12_play_b107 N g 29 h3 (iI k) (iI n) (iI m) = lnR c k g h3 := by
        simp only [fX12_play_b107, fX12_play_b209, lit, iI_neg, iI_add, Option.bind_some]
        rcases hc with ⟨q, rfl⟩ | ⟨q, rfl⟩
        · rw [nR0]
          refine ifp (lm.mpr (by omega)) ?_
          rfl
        · rw [nR5]
          refine ifn (fun z => by have := lm.mp z; omega) ?_
          rfl
      simp only [fX12_play_b66_body, lit]
      rcases hdm with ⟨q, rfl, rfl⟩ | ⟨q, rfl, rfl⟩
      · have p0 : iI 0 ≤ iI m := (iI_le (by omega) (by omega) (by omega) (by omega)).mpr q
        refine bst (oIv c29 hcn) ?_
        refine ifn (a1) ?_
        refine bst (sR_1241_29 mS) ?_
        refine bst (m4) ?_
        refine bst (sR_1240_29 mS) ?_
        refine bst (m3) ?_
        refine ifp (rfl) ?_
        refine bst (rc12) ?_
        refine bst (e3) ?_
        refine ifp (p0) ?_
        exact b107
      · have p0 : ¬ iI 0 ≤ iI v1 := fun z => by have := (iI_le (by omega) (by omega) (by omega) (by omega)).mp z; omega
        rw [← iI_neg] at b107
        refine bst (oIv c29 hcn) ?_
        refine ifn (a1) ?_
        refine bst (sR_1241_29 mS) ?_
        refine bst (m4) ?_
        refine bst (sR_1240_29 mS) ?_
        refine bst (m3) ?_
        refine ifp (rfl) ?_
        refine bst (rc12) ?_
        refine bst (e3) ?_
        refine ifn (p0) ?_
        exact b107
  · -- a rope is tied
    obtain ⟨cN, cY⟩ := c_tieo (N := N) hS hz hR hT hD hC v1 v2 (by omega) (by omega) (by omega) (by omega)
    have clN : ∀ (v : Int) (hx : Hs), -2147483648 ≤ v → v < 0 → fX5_tieRope N h 14 (iI v1) (iI v2) = some (iI v, hx) → fX11_playLine N h 0 (iI k) = some (iI (-2), hx) := by
      intro v hx v0 v9 e
      have lz : iI v < iI 0 := (iI_lt (by omega) (by omega) (by omega) (by omega)).mpr v9
      simp only [fX11_playLine, fX11_playLine_b78, lit, iI_neg]
      refine bst (sR_1103_0 hS) ?_
      refine bst (sR_802_1 hS) ?_
      refine bst (l4) ?_
      refine bst (sR_1103_0 hS) ?_
      refine bst (sR_803_1 hS) ?_
      refine bst (l5) ?_
      refine bst (sR_1103_0 hS) ?_
      refine bst (sR_801_1 hS) ?_
      refine bst (l3) ?_
      refine ifp (rfl) ?_
      refine bst (sR_1100_0 hS) ?_
      refine bst (rc5) ?_
      refine bst (e) ?_
      refine ifp (lz) ?_
      rfl
    have clY : ∀ (v : Int) (hx : Hs), 0 ≤ v → v < 2147483648 → fX5_tieRope N h 14 (iI v1) (iI v2) = some (iI v, hx) → fX11_playLine N h 0 (iI k) = some (iI 0, hx) := by
      intro v hx v0 v9 e
      have lz : ¬ iI v < iI 0 := fun z => by have := (iI_lt (by omega) (by omega) (by omega) (by omega)).mp z; omega
      simp only [fX11_playLine, fX11_playLine_b78, lit]
      refine bst (sR_1103_0 hS) ?_
      refine bst (sR_802_1 hS) ?_
      refine bst (l4) ?_
      refine bst (sR_1103_0 hS) ?_
      refine bst (sR_803_1 hS) ?_
      refine bst (l5) ?_
      refine bst (sR_1103_0 hS) ?_
      refine bst (sR_801_1 hS) ?_
      refine bst (l3) ?_
      refine ifp (rfl) ?_
      refine bst (sR_1100_0 hS) ?_
      refine bst (rc5) ?_
      refine bst (e) ?_
      refine ifn (lz) ?_
      rfl
    have rfl' : ∀ (hm : Hs) (cn : Nat) (g : Hs → Int32 → Option (Int32 × Hs)) (v : Int) (hx : Hs), Sk hm → gI hm 1239 29 = iI cn → k < cn → cn ≤ 30 → aI hm 54 k = iI 116 → aI hm 55 k = iI v1 → aI hm 56 k = iI v2 → -2147483648 ≤ v → v < 2147483648 → fX12_tieNow N hm 29 (iI v1) (iI v2) = some (iI v, hx) → fX12_play_b66_body N g 29 hm (iI k) = lnR (if v < 0 then -2 else 0) k g hx := by
      intro hm cn g v hx mS hcn hkc hc30 m54 m55 m56 v0 v9 e
      have c29 : (sh hm 29).1 = 12 := by rw [ss_29 mS]
      have a1 : ¬ iI (cn : Int) ≤ iI (k : Int) := fun q => by have := (iI_le (by omega) (by omega) (by omega) (by omega)).mp q; omega
      have rc12 : rc 12 hm (some 29) = some 29 := rcv (by rw [ss_29 mS])
      have m4 := lAv (ss_55 mS) (show k < 60 by omega) (by omega) m55
      have m3 := lAv (ss_54 mS) (show k < 60 by omega) (by omega) m54
      have m5 := lAv (ss_56 mS) (show k < 60 by omega) (by omega) m56
      have lz : iI 0 ≤ iI v ↔ 0 ≤ v := iI_le (by omega) (by omega) (by omega) (by omega)
      have n65 : ¬ iI 116 = iI 115 := by decide
      simp only [fX12_play_b66_body, fX12_play_b196, fX12_play_b209, lit, iI_neg, iI_add, iI_sub, Option.bind_some]
      by_cases w : v < 0
      · rw [if_pos w, nR2]
        refine bst (oIv c29 hcn) ?_
        refine ifn (a1) ?_
        refine bst (sR_1241_29 mS) ?_
        refine bst (m4) ?_
        refine bst (sR_1240_29 mS) ?_
        refine bst (m3) ?_
        refine ifn (n65) ?_
        refine bst (sR_1240_29 mS) ?_
        refine bst (m3) ?_
        refine ifp (rfl) ?_
        refine bst (sR_1242_29 mS) ?_
        refine bst (m5) ?_
        refine bst (rc12) ?_
        refine bst (e) ?_
        refine ifn (fun z => by have := lz.mp z; omega) ?_
        refine ifn (n10) ?_
        rfl
      · rw [if_neg w, nR0]
        refine bst (oIv c29 hcn) ?_
        refine ifn (a1) ?_
        refine bst (sR_1241_29 mS) ?_
        refine bst (m4) ?_
        refine bst (sR_1240_29 mS) ?_
        refine bst (m3) ?_
        refine ifn (n65) ?_
        refine bst (sR_1240_29 mS) ?_
        refine bst (m3) ?_
        refine ifp (rfl) ?_
        refine bst (sR_1242_29 mS) ?_
        refine bst (m5) ?_
        refine bst (rc12) ?_
        refine bst (e) ?_
        refine ifp (lz.mpr (by omega)) ?_
        refine ifp (trivial) ?_
        rfl
    by_cases w : (0 ≤ v1 ∧ v1 ≤ (nr : Int) - 1) ∧ 0 ≤ v2 ∧ v2 ≤ (nd : Int) - 1
    · obtain ⟨r, hr⟩ : ∃ r : Nat, v1 = r := ⟨v1.toNat, by omega⟩
      obtain ⟨d, hd'⟩ : ∃ d : Nat, v2 = d := ⟨v2.toNat, by omega⟩
      have hrl : r < nr := by omega
      have hdl : d < nd := by omega
      obtain ⟨y0, y1⟩ := cY r d hr hd' hrl hdl
      obtain ⟨-, -, -, p1, p2, p3, p4, p5⟩ := hR.2.1 r hrl
      obtain ⟨-, -, -, pb⟩ := hT.2.1 (rT r) p1
      have lb := ldv_b (g := tg (rT r)) (r := gr r) (by omega) (by omega)
      by_cases w' : gn r = false ∧ td (rT r) = none ∧ ldv (tg (rT r)) (gr r) ≤ hd r
      · have e1 := y1 w'
        have ke1 := Ke_tieH (h := h) (ra := rA r) (ta := tA (rT r)) (da := dA d) (p := pa (rT r))
        have hC1 := hC.tie (nd := nd) (rT := rT) hT.2.2 hR.2.2 (d := d) hrl p1 (pa (rT r))
        have sz1 : sz (tieH h (rA r) (tA (rT r)) (dA d) (pa (rT r))) = sz h := rfl
        generalize tieH h (rA r) (tA (rT r)) (dA d) (pa (rT r)) = h1 at e1 ke1 hC1 sz1
        have htd : ∀ s, s < nr → updO dr r (some d) s ≠ none → s ≠ r → dr s ≠ none := fun s hs hn ne => by rw [updO_n _ _ ne] at hn; exact hn
        refine ⟨0, pa, updO dr r (some d), updO td (rT r) (some r), updO sr r (pa (rT r)), updO dn r 0, cw, x, y, u1, u2, u3, h1, Or.inl rfl, clY _ _ (by omega) (by omega) e1, ⟨⟨hS.e hz ke1 (by decide), by omega, hT.e hz ke1 (by decide) (by decide), hD.e hz ke1 (by decide) (by decide) (by decide), hR.e hz ke1 (by decide) (by decide) (by decide) (by decide), hC1⟩, fun i hi => by rw [ke1.2.1 18 (by decide) (by omega)]; exact hW i hi, by rw [ke1.1 510 14 (by decide) (by omega)]; exact hBd, ⟨by rw [ke1.1 511 14 (by decide) (by omega)]; exact hx, by rw [ke1.1 512 14 (by decide) (by omega)]; exact hy⟩, by rw [ke1.1 700 23 (by decide) (by omega)]; exact hu1, by rw [ke1.1 701 23 (by decide) (by omega)]; exact hu2, by rw [ke1.1 702 23 (by decide) (by omega)]; exact hu3⟩, ⟨hL.tie hrl hdl w'.2.1, fun s hs hn => ?_, fun s hs hn => ?_, hcw, fun s hs hn => ?_⟩, ke1.w (by decide) (by decide) (by decide) (by decide), sz1, ?_⟩
        · by_cases es : s = r
          · subst es
            rw [updO_s]
            omega
          · rw [updO_n _ _ es]
            exact hsl s hs (htd s hs hn es)
        · by_cases es : s = r
          · subst es
            rw [updO_s, updO_s]
            simp
          · rw [updO_n _ _ es, updO_n _ _ es]
            exact hA s hs (htd s hs hn es)
        · by_cases es : s = r
          · subst es
            rw [updO_s]
            omega
          · rw [updO_n _ _ es]
            exact hdB2 s hs (htd s hs hn es)
        · intro hm cn hPM hcn hkc hc30 m54 m55 m56
          obtain ⟨⟨mS, mz, mT, mP, mD, mR, mM⟩, mW, mB, ⟨mx, my⟩, mu1, mu2, mu3⟩ := hPM
          have e3 := ((m_tieq hN mS mz mR mT mP mD mM hL v1 v2 (by omega) (by omega) (by omega) (by omega)).2 r d hr hd' hrl hdl).2 w'
          have ke3 : Ke [] [36, 42, 43] [] [] hm (tieM hm r (rT r) d (pa (rT r))) := Kq_tieM.e
          have hM3 := mM.tie hL (d := d) hrl w'.2.1 (pa (rT r))
          have st := fun g => rfl' hm cn g _ _ mS hcn hkc hc30 m54 m55 m56 (by omega) (by omega) e3
          have s3 : sz (tieM hm r (rT r) d (pa (rT r))) = sz hm := rfl
          have hM3' : RTm (tieM hm r (rT r) d (pa (rT r))) nr rT (updO dr r (some d)) (updO sr r (pa (rT r))) (updO dn r 0) := hM3
          generalize tieM hm r (rT r) d (pa (rT r)) = h3 at e3 ke3 hM3' st s3
          refine ⟨h3, ⟨⟨mS.e mz ke3 (by decide), by omega, mT.e mz ke3 (by decide) (by decide), fun i hi => by rw [ke3.2.1 33 (by decide) (by omega)]; exact mP i hi, mD.e mz ke3 (by decide) (by decide) (by decide), mR.e mz ke3 (by decide) (by decide) (by decide) (by decide), hM3'⟩, fun i hi => by rw [ke3.2.1 45 (by decide) (by omega)]; exact mW i hi, by rw [ke3.1 1220 29 (by decide) (by omega)]; exact mB, ⟨by rw [ke3.1 1221 29 (by decide) (by omega)]; exact mx, by rw [ke3.1 1222 29 (by decide) (by omega)]; exact my⟩, by rw [ke3.1 1223 29 (by decide) (by omega)]; exact mu1, by rw [ke3.1 1224 29 (by decide) (by omega)]; exact mu2, by rw [ke3.1 1225 29 (by decide) (by omega)]; exact mu3⟩, ke3.w (by decide) (by decide) (by decide) (by decide), s3, fun g => ?_⟩
          have := st g
          rw [if_neg (by omega)] at this
          exact this
      · refine no (-2) rfl (clN _ _ (by omega) (by omega) (y0 w')) (fun hm cn hPM hcn hkc hc30 m54 m55 m56 g => ?_)
        obtain ⟨⟨mS, mz, mT, mP, mD, mR, mM⟩, -⟩ := hPM
        have e3 := ((m_tieq hN mS mz mR mT mP mD mM hL v1 v2 (by omega) (by omega) (by omega) (by omega)).2 r d hr hd' hrl hdl).1 w'
        exact rfl' hm cn g _ _ mS hcn hkc hc30 m54 m55 m56 (by omega) (by omega) e3
    · refine no (-2) rfl (clN _ _ (by omega) (by omega) (cN w)) (fun hm cn hPM hcn hkc hc30 m54 m55 m56 g => ?_)
      obtain ⟨⟨mS, mz, mT, mP, mD, mR, mM⟩, -⟩ := hPM
      have e3 := (m_tieq hN mS mz mR mT mP mD mM hL v1 v2 (by omega) (by omega) (by omega) (by omega)).1 w
      exact rfl' hm cn g _ _ mS hcn hkc hc30 m54 m55 m56 (by omega) (by omega) e3
  · -- a rope is untied
    have rfl' : ∀ (hm : Hs) (cn : Nat) (g : Hs → Int32 → Option (Int32 × Hs)) (v : Int) (hx : Hs), Sk hm → gI hm 1239 29 = iI cn → k < cn → cn ≤ 30 → aI hm 54 k = iI 117 → aI hm 55 k = iI v1 → -2147483648 ≤ v → v < 2147483648 → fX12_untieNow N hm 29 (iI v1) = some (iI v, hx) → fX12_play_b66_body N g 29 hm (iI k) = lnR (if v = -2000000000 then -2 else 0) k g hx := by
      intro hm cn g v hx mS hcn hkc hc30 m54 m55 v0 v9 e
      have c29 : (sh hm 29).1 = 12 := by rw [ss_29 mS]
      have a1 : ¬ iI (cn : Int) ≤ iI (k : Int) := fun q => by have := (iI_le (by omega) (by omega) (by omega) (by omega)).mp q; omega
      have rc12 : rc 12 hm (some 29) = some 29 := rcv (by rw [ss_29 mS])
      have m4 := lAv (ss_55 mS) (show k < 60 by omega) (by omega) m55
      have m3 := lAv (ss_54 mS) (show k < 60 by omega) (by omega) m54
      have lz : iI v = iI (-2000000000) ↔ v = -2000000000 := iI_eq (by omega) (by omega) (by omega) (by omega)
      have n65 : ¬ iI 117 = iI 115 := by decide
      have n66 : ¬ iI 117 = iI 116 := by decide
      simp only [fX12_play_b66_body, fX12_play_b196, fX12_play_b209, lit, iI_neg, iI_add, iI_sub, Option.bind_some]
      by_cases w : v = -2000000000
      · rw [if_pos w, nR2]
        refine bst (oIv c29 hcn) ?_
        refine ifn (a1) ?_
        refine bst (sR_1241_29 mS) ?_
        refine bst (m4) ?_
        refine bst (sR_1240_29 mS) ?_
        refine bst (m3) ?_
        refine ifn (n65) ?_
        refine bst (sR_1240_29 mS) ?_
        refine bst (m3) ?_
        refine ifn (n66) ?_
        refine bst (sR_1240_29 mS) ?_
        refine bst (m3) ?_
        refine ifp (rfl) ?_
        refine bst (rc12) ?_
        refine bst (e) ?_
        refine ifp (lz.mpr w) ?_
        refine ifn (n10) ?_
        rfl
      · rw [if_neg w, nR0]
        refine bst (oIv c29 hcn) ?_
        refine ifn (a1) ?_
        refine bst (sR_1241_29 mS) ?_
        refine bst (m4) ?_
        refine bst (sR_1240_29 mS) ?_
        refine bst (m3) ?_
        refine ifn (n65) ?_
        refine bst (sR_1240_29 mS) ?_
        refine bst (m3) ?_
        refine ifn (n66) ?_
        refine bst (sR_1240_29 mS) ?_
        refine bst (m3) ?_
        refine ifp (rfl) ?_
        refine bst (rc12) ?_
        refine bst (e) ?_
        refine ifn (fun z => w (lz.mp z)) ?_
        refine ifp (trivial) ?_
        rfl
    have n76 : ¬ iI 117 = iI 116 := by decide
    rcases c_untieo (N := N) (nd := nd) hS hR hT hC v1 (by omega) (by omega) with ⟨un, e1⟩ | ⟨r, d0, hr, hrl, hdr, e1⟩
    · refine no (-2) rfl ?_ (fun hm cn hPM hcn hkc hc30 m54 m55 m56 g => ?_)
      · simp only [fX11_playLine, fX11_playLine_b98, lit, iI_neg]
        refine bst (sR_1103_0 hS) ?_
        refine bst (sR_802_1 hS) ?_
        refine bst (l4) ?_
        refine bst (sR_1103_0 hS) ?_
        refine bst (sR_803_1 hS) ?_
        refine bst (l5) ?_
        refine bst (sR_1103_0 hS) ?_
        refine bst (sR_801_1 hS) ?_
        refine bst (l3) ?_
        refine ifn (n76) ?_
        refine ifp (rfl) ?_
        refine bst (sR_1100_0 hS) ?_
        refine bst (rc5) ?_
        refine bst (e1) ?_
        refine ifp (rfl) ?_
        rfl
      · obtain ⟨⟨mS, mz, mT, mP, mD, mR, mM⟩, -⟩ := hPM
        have e3 := (m_untie (N := N) mS mR mM hL cd v1 (by omega) (by omega)).1 un
        have := rfl' hm cn g _ _ mS hcn hkc hc30 m54 m55 (by omega) (by omega) e3
        rw [if_pos rfl] at this
        exact this
    · have hne : dr r ≠ none := by rw [hdr]; exact fun q => by cases q
      have nb := hdn r hrl hne
      have p1 := (hR.2.1 r hrl).2.2.2.1
      have nz : ¬ iI (dn r) = iI (-2000000000) := fun z => by have := (iI_eq (by omega) (by omega) (by omega) (by omega)).mp z; omega
      have hC1 := hC.loose hL hT.2.2 hR.2.2 hrl p1 (iI 0)
      have ke1 : Ke [407] [] [405, 909] [] h (uR (uI (uR h 405 (rA r) none) 407 (rA r) (iI 0)) 909 (tA (rT r)) none) := ((Ke_rf.r 405 _ _ (by decide)).u 407 _ _ (by decide)).r 909 _ _ (by decide)
      have sz1 : sz (uR (uI (uR h 405 (rA r) none) 407 (rA r) (iI 0)) 909 (tA (rT r)) none) = sz h := rfl
      generalize uR (uI (uR h 405 (rA r) none) 407 (rA r) (iI 0)) 909 (tA (rT r)) none = h1 at e1 ke1 hC1 sz1
      have htd : ∀ s, s < nr → updO dr r none s ≠ none → dr s ≠ none := fun s hs hn => by
        by_cases es : s = r
        · rw [es, updO_s] at hn; exact absurd rfl hn
        · rw [updO_n _ _ es] at hn; exact hn
      refine ⟨0, pa, updO dr r none, updO td (rT r) none, sr, dn, cw, x, y, u1, u2, u3, h1, Or.inl rfl, ?_, ⟨⟨hS.e hz ke1 (by decide), by omega, hT.e hz ke1 (by decide) (by decide), hD.e hz ke1 (by decide) (by decide) (by decide), hR.e hz ke1 (by decide) (by decide) (by decide) (by decide), hC1⟩, fun i hi => by rw [ke1.2.1 18 (by decide) (by omega)]; exact hW i hi, by rw [ke1.1 510 14 (by decide) (by omega)]; exact hBd, ⟨by rw [ke1.1 511 14 (by decide) (by omega)]; exact hx, by rw [ke1.1 512 14 (by decide) (by omega)]; exact hy⟩, by rw [ke1.1 700 23 (by decide) (by omega)]; exact hu1, by rw [ke1.1 701 23 (by decide) (by omega)]; exact hu2, by rw [ke1.1 702 23 (by decide) (by omega)]; exact hu3⟩, ⟨hL.loose hrl hdr, fun s hs hn => hsl s hs (htd s hs hn), fun s hs hn => hA s hs (htd s hs hn), hcw, fun s hs hn => hdB2 s hs (htd s hs hn)⟩, ke1.w (by decide) (by decide) (by decide) (by decide), sz1, ?_⟩
      · simp only [fX11_playLine, fX11_playLine_b98, lit, iI_neg]
        refine bst (sR_1103_0 hS) ?_
        refine bst (sR_802_1 hS) ?_
        refine bst (l4) ?_
        refine bst (sR_1103_0 hS) ?_
        refine bst (sR_803_1 hS) ?_
        refine bst (l5) ?_
        refine bst (sR_1103_0 hS) ?_
        refine bst (sR_801_1 hS) ?_
        refine bst (l3) ?_
        refine ifn (n76) ?_
        refine ifp (rfl) ?_
        refine bst (sR_1100_0 hS) ?_
        refine bst (rc5) ?_
        refine bst (e1) ?_
        refine ifn (nz) ?_
        rfl
      · intro hm cn hPM hcn hkc hc30 m54 m55 m56
        obtain ⟨⟨mS, mz, mT, mP, mD, mR, mM⟩, mW, mB, ⟨mx, my⟩, mu1, mu2, mu3⟩ := hPM
        have e3 := (m_untie (N := N) mS mR mM hL cd v1 (by omega) (by omega)).2 r d0 hr hrl hdr
        have st := fun g => rfl' hm cn g _ _ mS hcn hkc hc30 m54 m55 (by omega) (by omega) e3
        have hM3 := mM.loose hrl
        have ke3 : Ke [] [42] [] [] hm (uA hm 42 r (iI (-1))) := Ke_rf.b 42 _ _ (by decide)
        have s3 : sz (uA hm 42 r (iI (-1))) = sz hm := rfl
        generalize uA hm 42 r (iI (-1)) = h3 at e3 ke3 hM3 st s3
        refine ⟨h3, ⟨⟨mS.e mz ke3 (by decide), by omega, mT.e mz ke3 (by decide) (by decide), fun i hi => by rw [ke3.2.1 33 (by decide) (by omega)]; exact mP i hi, mD.e mz ke3 (by decide) (by decide) (by decide), mR.e mz ke3 (by decide) (by decide) (by decide) (by decide), hM3⟩, fun i hi => by rw [ke3.2.1 45 (by decide) (by omega)]; exact mW i hi, by rw [ke3.1 1220 29 (by decide) (by omega)]; exact mB, ⟨by rw [ke3.1 1221 29 (by decide) (by omega)]; exact mx, by rw [ke3.1 1222 29 (by decide) (by omega)]; exact my⟩, by rw [ke3.1 1223 29 (by decide) (by omega)]; exact mu1, by rw [ke3.1 1224 29 (by decide) (by omega)]; exact mu2, by rw [ke3.1 1225 29 (by decide) (by omega)]; exact mu3⟩, ke3.w (by decide) (by decide) (by decide) (by decide), s3, fun g => ?_⟩
        have := st g
        rw [if_neg (by omega)] at this
        exact this
  · -- a counterweight
    have n96 : ¬ iI 119 = iI 116 := by decide
    have n97 : ¬ iI 119 = iI 117 := by decide
    have rfl' : ∀ (hm : Hs) (cn : Nat) (g : Hs → Int32 → Option (Int32 × Hs)) (v : Int) (hx : Hs), Sk hm → gI hm 1239 29 = iI cn → k < cn → cn ≤ 30 → aI hm 54 k = iI 119 → aI hm 55 k = iI v1 → aI hm 56 k = iI v2 → -2147483648 ≤ v → v < 2147483648 → fX12_weighNow N hm 29 (iI v1) (iI v2) = some (iI v, hx) → fX12_play_b66_body N g 29 hm (iI k) = lnR (if v = -2000000000 then -2 else 0) k g hx := by
      intro hm cn g v hx mS hcn hkc hc30 m54 m55 m56 v0 v9 e
      have c29 : (sh hm 29).1 = 12 := by rw [ss_29 mS]
      have a1 : ¬ iI (cn : Int) ≤ iI (k : Int) := fun q => by have := (iI_le (by omega) (by omega) (by omega) (by omega)).mp q; omega
      have rc12 : rc 12 hm (some 29) = some 29 := rcv (by rw [ss_29 mS])
      have m4 := lAv (ss_55 mS) (show k < 60 by omega) (by omega) m55
      have m3 := lAv (ss_54 mS) (show k < 60 by omega) (by omega) m54
      have m5 := lAv (ss_56 mS) (show k < 60 by omega) (by omega) m56
      have lz : iI v = iI (-2000000000) ↔ v = -2000000000 := iI_eq (by omega) (by omega) (by omega) (by omega)
      have n65 : ¬ iI 119 = iI 115 := by decide
      simp only [fX12_play_b66_body, fX12_play_b196, fX12_play_b209, lit, iI_neg, iI_add, iI_sub, Option.bind_some]
      by_cases w : v = -2000000000
      · rw [if_pos w, nR2]
        refine bst (oIv c29 hcn) ?_
        refine ifn (a1) ?_
        refine bst (sR_1241_29 mS) ?_
        refine bst (m4) ?_
        refine bst (sR_1240_29 mS) ?_
        refine bst (m3) ?_
        refine ifn (n65) ?_
        refine bst (sR_1240_29 mS) ?_
        refine bst (m3) ?_
        refine ifn (n96) ?_
        refine bst (sR_1240_29 mS) ?_
        refine bst (m3) ?_
        refine ifn (n97) ?_
        refine bst (sR_1242_29 mS) ?_
        refine bst (m5) ?_
        refine bst (rc12) ?_
        refine bst (e) ?_
        refine ifp (lz.mpr w) ?_
        refine ifn (n10) ?_
        rfl
      · rw [if_neg w, nR0]
        refine bst (oIv c29 hcn) ?_
        refine ifn (a1) ?_
        refine bst (sR_1241_29 mS) ?_
        refine bst (m4) ?_
        refine bst (sR_1240_29 mS) ?_
        refine bst (m3) ?_
        refine ifn (n65) ?_
        refine bst (sR_1240_29 mS) ?_
        refine bst (m3) ?_
        refine ifn (n96) ?_
        refine bst (sR_1240_29 mS) ?_
        refine bst (m3) ?_
        refine ifn (n97) ?_
        refine bst (sR_1242_29 mS) ?_
        refine bst (m5) ?_
        refine bst (rc12) ?_
        refine bst (e) ?_
        refine ifn (fun z => w (lz.mp z)) ?_
        refine ifp (trivial) ?_
        rfl
    have iw1 := v_isW (N := N) (h := h) (x := v1) (a := 0) (b := 19) (by omega) (by omega) (by omega) (by omega) (by omega) (by omega)
    have iw2 := v_isW (N := N) (h := h) (x := v2) (a := -9999) (b := 9999) (by omega) (by omega) (by omega) (by omega) (by omega) (by omega)
    rw [if_pos w2] at iw2
    by_cases w : 0 ≤ v1 ∧ v1 ≤ 19
    · rw [if_pos w] at iw1
      obtain ⟨i, rfl⟩ : ∃ i : Nat, v1 = i := ⟨v1.toNat, by omega⟩
      have hi20 : i < 20 := by omega
      have cb := hcw i hi20
      have nz : ¬ iI (cw i) = iI (-2000000000) := fun z => by have := (iI_eq (by omega) (by omega) (by omega) (by omega)).mp z; omega
      obtain ⟨h1, eh1⟩ : ∃ h1, h1 = uA h 18 i (iI v2) := ⟨_, rfl⟩
      have ke1 : Ke [] [18] [] [] h h1 := by rw [eh1]; exact Ke_rf.b 18 _ _ (by decide)
      have sz1 : sz h1 = sz h := by rw [eh1]; rfl
      have e1 : fX5_setWeight N h 14 (iI (i : Int)) (iI v2) = some (iI (cw i), h1) := by
        simp only [fX5_setWeight, lit, iI_neg]
        refine bst (iw1) ?_
        refine ifn (n10) ?_
        refine bst (iw2) ?_
        refine ifn (n10) ?_
        refine bst (sR_503_14 hS) ?_
        refine bst (lAv (ss_18 hS) hi20 (by omega) (hW i hi20)) ?_
        refine bst (sR_503_14 hS) ?_
        refine bst (sAv (ss_18 hS) hi20 (by omega)) ?_
        rw [← eh1]
      refine ⟨0, pa, dr, td, sr, dn, updO cw i v2, x, y, u1, u2, u3, h1, Or.inl rfl, ?_, ⟨⟨hS.e hz ke1 (by decide), by omega, hT.e hz ke1 (by decide) (by decide), hD.e hz ke1 (by decide) (by decide) (by decide), hR.e hz ke1 (by decide) (by decide) (by decide) (by decide), hC.e hT.lt hR.lt ke1 (by decide) (by decide)⟩, fun j hj => ?_, by rw [ke1.1 510 14 (by decide) (by omega)]; exact hBd, ⟨by rw [ke1.1 511 14 (by decide) (by omega)]; exact hx, by rw [ke1.1 512 14 (by decide) (by omega)]; exact hy⟩, by rw [ke1.1 700 23 (by decide) (by omega)]; exact hu1, by rw [ke1.1 701 23 (by decide) (by omega)]; exact hu2, by rw [ke1.1 702 23 (by decide) (by omega)]; exact hu3⟩, ⟨hL, hsl, hA, fun j hj => ?_, hdB2⟩, ke1.w (by decide) (by decide) (by decide) (by decide), sz1, ?_⟩
      · simp only [fX11_playLine, fX11_playLine_b119, lit, iI_neg]
        refine bst (sR_1103_0 hS) ?_
        refine bst (sR_802_1 hS) ?_
        refine bst (l4) ?_
        refine bst (sR_1103_0 hS) ?_
        refine bst (sR_803_1 hS) ?_
        refine bst (l5) ?_
        refine bst (sR_1103_0 hS) ?_
        refine bst (sR_801_1 hS) ?_
        refine bst (l3) ?_
        refine ifn (n96) ?_
        refine ifn (n97) ?_
        refine ifp (rfl) ?_
        refine bst (sR_1100_0 hS) ?_
        refine bst (rc5) ?_
        refine bst (e1) ?_
        refine ifn (nz) ?_
        rfl
      · by_cases ej : j = i
        · subst ej
          rw [updO_s, eh1]
          simp [HR]
        · rw [updO_n _ _ ej, ← hW j hj, eh1]
          simp [HR, ej]
      · by_cases ej : j = i
        · subst ej
          rw [updO_s]
          exact w2
        · rw [updO_n _ _ ej]
          exact hcw j hj
      · intro hm cn hPM hcn hkc hc30 m54 m55 m56
        obtain ⟨⟨mS, mz, mT, mP, mD, mR, mM⟩, mW, mB, ⟨mx, my⟩, mu1, mu2, mu3⟩ := hPM
        have jw1 := v_inW (N := N) (h := hm) (x := i) (a := 0) (b := 19) (by omega) (by omega) (by omega) (by omega) (by omega) (by omega)
        have jw2 := v_inW (N := N) (h := hm) (x := v2) (a := -9999) (b := 9999) (by omega) (by omega) (by omega) (by omega) (by omega) (by omega)
        rw [if_pos w] at jw1
        rw [if_pos w2] at jw2
        obtain ⟨h3, eh3⟩ : ∃ h3, h3 = uA hm 45 i (iI v2) := ⟨_, rfl⟩
        have ke3 : Ke [] [45] [] [] hm h3 := by rw [eh3]; exact Ke_rf.b 45 _ _ (by decide)
        have s3 : sz h3 = sz hm := by rw [eh3]; rfl
        have e3 : fX12_weighNow N hm 29 (iI (i : Int)) (iI v2) = some (iI (cw i), h3) := by
          simp only [fX12_weighNow, lit, iI_neg]
          refine bst (jw1) ?_
          refine ifn (n10) ?_
          refine bst (jw2) ?_
          refine ifn (n10) ?_
          refine bst (sR_1219_29 mS) ?_
          refine bst (lAv (ss_45 mS) hi20 (by omega) (mW i hi20)) ?_
          refine bst (sR_1219_29 mS) ?_
          refine bst (sAv (ss_45 mS) hi20 (by omega)) ?_
          rw [← eh3]
        refine ⟨h3, ⟨⟨mS.e mz ke3 (by decide), by omega, mT.e mz ke3 (by decide) (by decide), fun i hi => by rw [ke3.2.1 33 (by decide) (by omega)]; exact mP i hi, mD.e mz ke3 (by decide) (by decide) (by decide), mR.e mz ke3 (by decide) (by decide) (by decide) (by decide), mM.e mz ke3 (by decide)⟩, fun j hj => ?_, by rw [ke3.1 1220 29 (by decide) (by omega)]; exact mB, ⟨by rw [ke3.1 1221 29 (by decide) (by omega)]; exact mx, by rw [ke3.1 1222 29 (by decide) (by omega)]; exact my⟩, by rw [ke3.1 1223 29 (by decide) (by omega)]; exact mu1, by rw [ke3.1 1224 29 (by decide) (by omega)]; exact mu2, by rw [ke3.1 1225 29 (by decide) (by omega)]; exact mu3⟩, ke3.w (by decide) (by decide) (by decide) (by decide), s3, fun g => ?_⟩
        · by_cases ej : j = i
          · subst ej
            rw [updO_s, eh3]
            simp [HR]
          · rw [updO_n _ _ ej, ← mW j hj, eh3]
            simp [HR, ej]
        · have := rfl' hm cn g _ _ mS hcn hkc hc30 m54 m55 m56 (by omega) (by omega) e3
          rw [if_neg (by omega)] at this
          exact this
    · rw [if_neg w] at iw1
      refine no (-2) rfl ?_ (fun hm cn hPM hcn hkc hc30 m54 m55 m56 g => ?_)
      · have e1 : fX5_setWeight N h 14 (iI v1) (iI v2) = some (iI (-2000000000), h) := by
          simp only [fX5_setWeight, fX5_setWeight_b23, lit, iI_neg]
          refine bst (iw1) ?_
          refine ifp (rfl) ?_
          rfl
        simp only [fX11_playLine, fX11_playLine_b119, lit, iI_neg]
        refine bst (sR_1103_0 hS) ?_
        refine bst (sR_802_1 hS) ?_
        refine bst (l4) ?_
        refine bst (sR_1103_0 hS) ?_
        refine bst (sR_803_1 hS) ?_
        refine bst (l5) ?_
        refine bst (sR_1103_0 hS) ?_
        refine bst (sR_801_1 hS) ?_
        refine bst (l3) ?_
        refine ifn (n96) ?_
        refine ifn (n97) ?_
        refine ifp (rfl) ?_
        refine bst (sR_1100_0 hS) ?_
        refine bst (rc5) ?_
        refine bst (e1) ?_
        refine ifp (rfl) ?_
        rfl
      · obtain ⟨⟨mS, -⟩, -⟩ := hPM
        have jw1 := v_inW (N := N) (h := hm) (x := v1) (a := 0) (b := 19) (by omega) (by omega) (by omega) (by omega) (by omega) (by omega)
        rw [if_neg w] at jw1
        have e3 : fX12_weighNow N hm 29 (iI v1) (iI v2) = some (iI (-2000000000), hm) := by
          simp only [fX12_weighNow, fX12_weighNow_b23, lit, iI_neg]
          refine bst (jw1) ?_
          refine ifp (rfl) ?_
          rfl
        have := rfl' hm cn g _ _ mS hcn hkc hc30 m54 m55 m56 (by omega) (by omega) e3
        rw [if_pos rfl] at this
        exact this
/-! ===== play ===== -/
def okL (c : Int × Int × Int) : Prop := (c.1 = 115 ∨ c.1 = 116 ∨ c.1 = 117 ∨ c.1 = 119) ∧ (-9999 ≤ c.2.1 ∧ c.2.1 ≤ 9999) ∧ (-9999 ≤ c.2.2 ∧ c.2.2 ≤ 9999)
theorem prs_ok {bt : Nat → Int} {L : Nat} (hL : L ≤ 120) : ∀ (f p ln : Nat) (lc : Nat → Int × Int × Int), 4 * ln ≤ p → p ≤ 120 → (∀ k, k < ln → okL (lc k)) → ((prs (pkf bt L) L f p ln lc).1 = -1 ∨ (0 ≤ (prs (pkf bt L) L f p ln lc).1 ∧ (prs (pkf bt L) L f p ln lc).1 ≤ 200)) ∧ ((prs (pkf bt L) L f p ln lc).1 = -1 → 4 * (prs (pkf bt L) L f p ln lc).2.1 ≤ L) ∧ (∀ k, k < (prs (pkf bt L) L f p ln lc).2.1 → okL ((prs (pkf bt L) L f p ln lc).2.2 k)) := by
  intro f
  induction f with
  | zero =>
    intro p ln lc h4 hp hv
    refine ⟨Or.inr ⟨?_, ?_⟩, fun q => ?_, hv⟩
    · simp only [prs]; omega
    · simp only [prs]; omega
    · simp only [prs] at q; omega
  | succ f ih =>
    intro p ln lc h4 hp hv
    have rb := rdL_b bt L p
    have ep : prs (pkf bt L) L (f + 1) p ln lc = if (rdL (pkf bt L) p).1 then (if (rdL (pkf bt L) p).2.1 < L then prs (pkf bt L) L f (rdL (pkf bt L) p).2.1 (ln + 1) (updO lc ln (rdL (pkf bt L) p).2.2) else (-1, ln + 1, updO lc ln (rdL (pkf bt L) p).2.2)) else (((rdL (pkf bt L) p).2.1 : Int), ln, lc) := rfl
    rw [ep]
    generalize rdL (pkf bt L) p = R at *
    obtain ⟨ok, q, c⟩ := R
    simp only at *
    obtain ⟨rb1, rb2, rb3⟩ := rb
    cases ok with
    | false =>
      rw [if_neg (by decide)]
      exact ⟨Or.inr ⟨by simp only; omega, by simp only; omega⟩, fun z => by simp only at z; omega, hv⟩
    | true =>
      obtain ⟨x1, x2, x3, x4, x5, x6, x7⟩ := rb3 rfl
      have hv2 : ∀ k, k < ln + 1 → okL (updO lc ln c k) := fun k hk => by
        by_cases w : k = ln
        · subst w
          rw [updO_s]
          exact ⟨x3, ⟨x4, x5⟩, ⟨x6, x7⟩⟩
        · rw [updO_n _ _ w]
          exact hv k (by omega)
      rw [if_pos rfl]
      by_cases w : q < L
      · rw [if_pos w]
        exact ih q (ln + 1) (updO lc ln c) (by omega) (by omega) hv2
      · rw [if_neg w]
        exact ⟨Or.inl rfl, fun _ => by simp only; omega, hv2⟩
theorem L_run {N : Nat} (hN : 100000000 ≤ N) {nr nt nd : Nat} {rA tA dA rT : Nat → Nat} {wy gr hd ds : Nat → Int} {gn : Nat → Bool} {tl tw tg ls ms : Nat → Int} {bd : Int} (b1 : 0 ≤ bd) (b2' : bd ≤ 99999) {cn : Nat} (hcn : cn ≤ 30) {lc : Nat → Int × Int × Int} (hlc : ∀ k, k < cn → okL (lc k)) : ∀ (e k fu : Nat) (B : Int) (pa : Nat → Int) (dr td : Nat → Option Nat) (sr dn cw : Nat → Int) (x y u1 u2 u3 : Int32) (h : Hs), 0 ≤ B → B + 199980 * e ≤ 900000000 → PCl h nt nd nr tA dA rA rT tl tw tg ls ms ds wy gr hd gn bd pa dr td sr dn cw x y u1 u2 u3 → PLl B nt nd nr rT ls ms wy gr pa dr td sr dn cw → gI h 805 1 = iI cn → (∀ j, j < cn → aI h 3 j = iI (lc j).1 ∧ aI h 4 j = iI (lc j).2.1 ∧ aI h 5 j = iI (lc j).2.2) → k + e = cn → e < fu → ∃ (a : Int32) (pa' : Nat → Int) (dr' td' : Nat → Option Nat) (sr' dn' cw' : Nat → Int) (x' y' u1' u2' u3' : Int32) (h' : Hs), fX11_play_b39 N 0 fu h (iI k) = some (a, h') ∧ PCl h' nt nd nr tA dA rA rT tl tw tg ls ms ds wy gr hd gn bd pa' dr' td' sr' dn' cw' x' y' u1' u2' u3' ∧ PLl (B + 199980 * e) nt nd nr rT ls ms wy gr pa' dr' td' sr' dn' cw' ∧ Ke [908, 700, 701, 702, 406, 407, 907, 511, 512] [18] [405, 909] [] h h' ∧ sz h' = sz h ∧ (∀ (hm : Hs) (fu' : Nat), PMl hm nt nd nr tA dA rA rT tl tw tg ls ms ds wy gr hd gn bd pa dr td sr dn cw x y u1 u2 u3 → gI hm 1239 29 = iI cn → (∀ j, j < cn → aI hm 54 j = iI (lc j).1 ∧ aI hm 55 j = iI (lc j).2.1 ∧ aI hm 56 j = iI (lc j).2.2) → e < fu' → ∃ hm', fX12_play_b66 N 29 fu' hm (iI k) = some (a, hm') ∧ PMl hm' nt nd nr tA dA rA rT tl tw tg ls ms ds wy gr hd gn bd pa' dr' td' sr' dn' cw' x' y' u1' u2' u3' ∧ Ke [1221, 1222, 1223, 1224, 1225] [33, 36, 42, 43, 45] [] [] hm hm' ∧ sz hm' = sz hm) := by
  intro e
  induction e with
  | zero =>
    intro k fu B pa dr td sr dn cw x y u1 u2 u3 h hB0 hB hP hl g5 ga hk hf
    obtain ⟨fu, rfl⟩ : ∃ m, fu = m + 1 := ⟨fu - 1, by omega⟩
    have hS := hP.1.1
    have cc : (sh h 1).1 = 8 := by rw [ss_1 hS]
    have o5 : oI 8 5 h (some 1) = some (iI cn) := oIv cc g5
    have a1 : iI (cn : Int) ≤ iI (k : Int) := (iI_le (by omega) (by omega) (by omega) (by omega)).mpr (by omega)
    refine ⟨iI cn, pa, dr, td, sr, dn, cw, x, y, u1, u2, u3, h, ?_, hP, by simpa using hl, Ke_rf, rfl, fun hm fu' hPM g9 gm hf' => ?_⟩
    · show fX11_play_b39_body N (fX11_play_b39 N 0 fu) 0 h (iI k) = _
      simp only [fX11_play_b39_body]
      refine bst (sR_1103_0 hS) ?_
      refine bst (o5) ?_
      refine ifp (a1) ?_
      refine bst (sR_1103_0 hS) ?_
      refine bst (o5) ?_
      rfl
    · obtain ⟨fu', rfl⟩ : ∃ m, fu' = m + 1 := ⟨fu' - 1, by omega⟩
      have mS := hPM.1.1
      have o9 : oI 12 39 hm (some 29) = some (iI cn) := oIv (by rw [ss_29 mS]) g9
      refine ⟨hm, ?_, hPM, Ke_rf, rfl⟩
      show fX12_play_b66_body N (fX12_play_b66 N 29 fu') 29 hm (iI k) = _
      simp only [fX12_play_b66_body]
      refine bst (o9) ?_
      refine ifp (a1) ?_
      refine bst (o9) ?_
      rfl
  | succ e ih =>
    intro k fu B pa dr td sr dn cw x y u1 u2 u3 h hB0 hB hP hl g5 ga hk hf
    obtain ⟨fu, rfl⟩ : ∃ m, fu = m + 1 := ⟨fu - 1, by omega⟩
    have hS := hP.1.1
    have hz := hP.1.2.1
    have cc : (sh h 1).1 = 8 := by rw [ss_1 hS]
    have o5 : oI 8 5 h (some 1) = some (iI cn) := oIv cc g5
    have a1 : ¬ iI (cn : Int) ≤ iI (k : Int) := fun q => by have := (iI_le (by omega) (by omega) (by omega) (by omega)).mp q; omega
    have rc11 : rc 11 h (some 0) = some 0 := rcv (by rw [ss_0 hS])
    obtain ⟨l1, l2, l3⟩ := hlc k (by omega)
    obtain ⟨m1, m2, m3⟩ := ga k (by omega)
    obtain ⟨c, pa1, dr1, td1, sr1, dn1, cw1, x1, y1, v1, v2, v3, h1, hc, e1, hP1, hl1, ke1, s1, ref⟩ := v_ln hN b1 b2' hB0 (by omega) hP hl (k := k) (by omega) l1 l2 l3 m1 m2 m3
    have eB : B + 199980 * ((e + 1 : Nat) : Int) = B + 199980 + 199980 * e := by rw [Int.natCast_add, Int.natCast_one, Int.mul_add]; omega
    have un : fX11_play_b39 N 0 (fu + 1) h (iI k) = fX11_play_b39_body N (fX11_play_b39 N 0 fu) 0 h (iI k) := rfl
    have hlw : PLl (B + 199980 + 199980 * e) nt nd nr rT ls ms wy gr pa1 dr1 td1 sr1 dn1 cw1 := ⟨hl1.1, hl1.2.1, hl1.2.2.1, hl1.2.2.2.1, fun r hr hn => by have := hl1.2.2.2.2 r hr hn; omega⟩
    rw [eB]
    by_cases c0 : c = 0
    · subst c0
      obtain ⟨a, pa2, dr2, td2, sr2, dn2, cw2, x2, y2, z1, z2, z3, h2, t1, t2, t3, t4, t5, t6⟩ := ih (k + 1) fu (B + 199980) pa1 dr1 td1 sr1 dn1 cw1 x1 y1 v1 v2 v3 h1 (by omega) (by omega) hP1 hl1 (by rw [ke1.1 805 1 (by decide) (by omega)]; exact g5) (fun j hj => by rw [ke1.2.1 3 (by decide) (by omega), ke1.2.1 4 (by decide) (by omega), ke1.2.1 5 (by decide) (by omega)]; exact ga j hj) (by omega) (by omega)
      simp only [Int.natCast_add, Int.natCast_one] at t1
      refine ⟨a, pa2, dr2, td2, sr2, dn2, cw2, x2, y2, z1, z2, z3, h2, ?_, t2, t3, ke1.tr t4, t5.trans s1, fun hm fu' hPM g9 gm hf' => ?_⟩
      · rw [un, ← t1]
        simp only [fX11_play_b39_body, lit, iI_add, Option.bind_some]
        refine bst (sR_1103_0 hS) ?_
        refine bst (o5) ?_
        refine ifn (a1) ?_
        refine bst (rc11) ?_
        refine bst (e1) ?_
        refine ifp (rfl) ?_
        rfl
      · obtain ⟨fu', rfl⟩ : ∃ m, fu' = m + 1 := ⟨fu' - 1, by omega⟩
        obtain ⟨n1, n2, n3⟩ := gm k (by omega)
        obtain ⟨hm1, r1, r2, r3, r4⟩ := ref hm cn hPM g9 (by omega) hcn n1 n2 n3
        have mz := hPM.1.2.1
        obtain ⟨hm2, s1', s2', s3', s4'⟩ := t6 hm1 fu' r1 (by rw [r2.1 1239 29 (by decide) (by omega)]; exact g9) (fun j hj => by rw [r2.2.1 54 (by decide) (by omega), r2.2.1 55 (by decide) (by omega), r2.2.1 56 (by decide) (by omega)]; exact gm j hj) (by omega)
        simp only [Int.natCast_add, Int.natCast_one] at s1'
        refine ⟨hm2, ?_, s2', r2.tr s3', s4'.trans r3⟩
        have := r4 (fX12_play_b66 N 29 fu')
        unfold lnR at this
        rw [if_pos rfl] at this
        exact this.trans s1'
    · have stop : ∀ a : Int32, fX11_play_b39 N 0 (fu + 1) h (iI k) = some (a, h1) → (∀ g hm1, lnR c k g hm1 = some (a, hm1)) → ∃ (a : Int32) (pa' : Nat → Int) (dr' td' : Nat → Option Nat) (sr' dn' cw' : Nat → Int) (x' y' u1' u2' u3' : Int32) (h' : Hs), fX11_play_b39 N 0 (fu + 1) h (iI k) = some (a, h') ∧ PCl h' nt nd nr tA dA rA rT tl tw tg ls ms ds wy gr hd gn bd pa' dr' td' sr' dn' cw' x' y' u1' u2' u3' ∧ PLl (B + 199980 + 199980 * e) nt nd nr rT ls ms wy gr pa' dr' td' sr' dn' cw' ∧ Ke [908, 700, 701, 702, 406, 407, 907, 511, 512] [18] [405, 909] [] h h' ∧ sz h' = sz h ∧ (∀ (hm : Hs) (fu' : Nat), PMl hm nt nd nr tA dA rA rT tl tw tg ls ms ds wy gr hd gn bd pa dr td sr dn cw x y u1 u2 u3 → gI hm 1239 29 = iI cn → (∀ j, j < cn → aI hm 54 j = iI (lc j).1 ∧ aI hm 55 j = iI (lc j).2.1 ∧ aI hm 56 j = iI (lc j).2.2) → e + 1 < fu' → ∃ hm', fX12_play_b66 N 29 fu' hm (iI k) = some (a, hm') ∧ PMl hm' nt nd nr tA dA rA rT tl tw tg ls ms ds wy gr hd gn bd pa' dr' td' sr' dn' cw' x' y' u1' u2' u3' ∧ Ke [1221, 1222, 1223, 1224, 1225] [33, 36, 42, 43, 45] [] [] hm hm' ∧ sz hm' = sz hm) := by
        intro a ea el
        refine ⟨a, pa1, dr1, td1, sr1, dn1, cw1, x1, y1, v1, v2, v3, h1, ea, hP1, hlw, ke1, s1, fun hm fu' hPM g9 gm hf' => ?_⟩
        obtain ⟨fu', rfl⟩ : ∃ m, fu' = m + 1 := ⟨fu' - 1, by omega⟩
        obtain ⟨n1, n2, n3⟩ := gm k (by omega)
        obtain ⟨hm1, r1, r2, r3, r4⟩ := ref hm cn hPM g9 (by omega) hcn n1 n2 n3
        exact ⟨hm1, (r4 (fX12_play_b66 N 29 fu')).trans (el _ _), r1, r2, r3⟩
      have cne : ¬ iI c = iI 0 := fun z => c0 ((iI_eq (by omega) (by omega) (by omega) (by omega)).mp z)
      have c5 : iI c = iI (-5) ↔ c = -5 := iI_eq (by omega) (by omega) (by omega) (by omega)
      by_cases w5 : c = -5
      · refine stop (iI (-5)) ?_ (fun g hm1 => by unfold lnR; rw [if_neg c0, if_pos w5])
        rw [un]
        simp only [fX11_play_b39_body, fX11_play_b76, lit, iI_neg]
        refine bst (sR_1103_0 hS) ?_
        refine bst (o5) ?_
        refine ifn (a1) ?_
        refine bst (rc11) ?_
        refine bst (e1) ?_
        refine ifn (cne) ?_
        refine ifp (c5.mpr w5) ?_
        rfl
      · refine stop (iI (-1000 - (k : Int))) ?_ (fun g hm1 => by unfold lnR; rw [if_neg c0, if_neg w5])
        rw [un]
        simp only [fX11_play_b39_body, fX11_play_b76, lit, iI_neg]
        refine bst (sR_1103_0 hS) ?_
        refine bst (o5) ?_
        refine ifn (a1) ?_
        refine bst (rc11) ?_
        refine bst (e1) ?_
        refine ifn (cne) ?_
        refine ifn (fun z => w5 (c5.mp z)) ?_
        rw [iI_sub]
