/-! ===== ties by halves, again ===== -/
theorem v_loado {N : Nat} {h : Hs} {nr nt : Nat} {rA tA rT : Nat → Nat} {wy gr hd : Nat → Int} {gn : Nat → Bool} {tl tw tg ls ms pa : Nat → Int} (hR : RRo h nr nt rA tA rT wy gr hd gn) (hT : RTo h nt tA tl tw tg ls ms pa) {r : Nat} (hr : r < nr) : fX4_load N h (rA r) = some (iI (ldv (tg (rT r)) (gr r)), h) := by
  obtain ⟨⟨-, -, -, d4⟩, ⟨f0, f1, f2, f3, f4, f8⟩, -, q1, q2, q3, q4, q5⟩ := hR.2.1 r hr
  obtain ⟨⟨-, -, -, t4⟩, ⟨-, -, -, g3, -⟩, -, b1, b2', b3, b4, b5, b6, -⟩ := hT.2.1 (rT r) q1
  have e1 : ¬ gr r = 0 := by omega
  have e2 : iI (tg (rT r) + gr r - 1) / iI (gr r) = iI (ldv (tg (rT r)) (gr r)) := iI_div (by omega) (by omega) (by omega) (by omega)
  simp (disch := omega) [fX4_load, fX11_quotientUp, fX11_quotientUp_b15, oR, oI, d4, f1, t4, g3, f3, lit, iI_eq, e1, iI_add, iI_sub, dv, e2]
theorem v_spareo {N : Nat} {h : Hs} {nr nt : Nat} {rA tA rT : Nat → Nat} {wy gr hd : Nat → Int} {gn : Nat → Bool} {tl tw tg ls ms pa : Nat → Int} (hR : RRo h nr nt rA tA rT wy gr hd gn) (hT : RTo h nt tA tl tw tg ls ms pa) {r : Nat} (hr : r < nr) : fX4_spare N h (rA r) = some (iI (hd r - ldv (tg (rT r)) (gr r)), h) := by
  have e := v_loado (N := N) hR hT hr
  obtain ⟨⟨-, -, -, d4⟩, ⟨f0, f1, f2, f3, f4, f8⟩, -⟩ := hR.2.1 r hr
  simp [fX4_spare, oI, rc, d4, f4, e, iI_sub]
theorem v_looseno {N : Nat} {h : Hs} {nr nt : Nat} {rA tA dA rT : Nat → Nat} {wy gr hd : Nat → Int} {gn : Nat → Bool} {tl tw tg ls ms pa : Nat → Int} (hR : RRo h nr nt rA tA rT wy gr hd gn) (hT : RTo h nt tA tl tw tg ls ms pa) {r : Nat} (hr : r < nr) : fX4_loosen N h (rA r) = some (uR (uI (uR h 405 (rA r) none) 407 (rA r) (iI 0)) 909 (tA (rT r)) none) := by
  obtain ⟨⟨-, -, -, d4⟩, ⟨f0, f1, f2, f3, f4, f8⟩, -, q1, -⟩ := hR.2.1 r hr
  obtain ⟨⟨-, -, -, t4⟩, -⟩ := hT.2.1 (rT r) q1
  simp [fX4_loosen, qR, qI, oR, d4, HR, f1, t4, lit]
theorem c_untieo {N : Nat} {h : Hs} (hS : Sk h) {nr nt nd : Nat} {rA tA dA rT : Nat → Nat} {wy gr hd : Nat → Int} {gn : Nat → Bool} {tl tw tg ls ms pa : Nat → Int} {dr td : Nat → Option Nat} {sr dn : Nat → Int} (hR : RRo h nr nt rA tA rT wy gr hd gn) (hT : RTo h nt tA tl tw tg ls ms pa) (hC : RTc h nt nr tA dA rA dr td sr dn) (z : Int) (z1 : -2147483648 ≤ z) (z2 : z < 2147483648) :
    (¬ (∃ r d0 : Nat, z = r ∧ r < nr ∧ dr r = some d0) ∧ fX5_untieRope N h 14 (iI z) = some (iI (-2000000000), h)) ∨ (∃ r d0 : Nat, z = r ∧ r < nr ∧ dr r = some d0 ∧ fX5_untieRope N h 14 (iI z) = some (iI (dn r), uR (uI (uR h 405 (rA r) none) 407 (rA r) (iI 0)) 909 (tA (rT r)) none)) := by
  by_cases w : 0 ≤ z ∧ z ≤ (nr : Int) - 1
  · obtain ⟨r, rfl⟩ : ∃ r : Nat, z = r := ⟨z.toNat, by omega⟩
    have hr : r < nr := by omega
    have ry := v_ropeY (N := N) hS hR hr
    obtain ⟨⟨-, -, -, d4⟩, -⟩ := hR.2.1 r hr
    obtain ⟨g1, g2⟩ := hC.1 r hr
    cases hdr : dr r with
    | none =>
      rw [hdr] at g1
      refine Or.inl ⟨?_, ?_⟩
      · rintro ⟨q, d0, hq, -, hd⟩
        have : q = r := by omega
        rw [this, hdr] at hd
        cases hd
      · simp (disch := omega) [oI, oR, qI, qZ, qR, rc, lit, iI_add, iI_sub, iI_mul, iI_neg, iI_le, iI_lt, iI_eq, v_isW, v_inW, bz, HR, Sk_rw hS, fX5_untieRope, fX5_untieRope_b17, ry, d4, g1]
    | some d0 =>
      refine Or.inr ⟨r, d0, rfl, hr, hdr, ?_⟩
      have g3 := (g2 (by rw [hdr]; exact fun q => by cases q)).2
      rw [hdr] at g1
      have lo := v_looseno (N := N) (dA := dA) hR hT hr
      simp (disch := omega) [oI, oR, qI, qZ, qR, rc, lit, iI_add, iI_sub, iI_mul, iI_neg, iI_le, iI_lt, iI_eq, v_isW, v_inW, bz, HR, Sk_rw hS, fX5_untieRope, fX5_untieRope_b17, ry, d4, g1, g3, lo]
  · have rn := v_ropeN (N := N) hS hR z1 z2 w
    refine Or.inl ⟨?_, ?_⟩
    · rintro ⟨q, d0, hq, hq2, -⟩
      omega
    · simp (disch := omega) [oI, oR, qI, qZ, qR, rc, lit, iI_add, iI_sub, iI_mul, iI_neg, iI_le, iI_lt, iI_eq, v_isW, v_inW, bz, HR, Sk_rw hS, fX5_untieRope, fX5_untieRope_b17, rn]
theorem v_bindo {N : Nat} {h : Hs} {nr nt : Nat} {rA tA rT : Nat → Nat} {wy gr hd : Nat → Int} {gn : Nat → Bool} {tl tw tg ls ms pa : Nat → Int} (hR : RRo h nr nt rA tA rT wy gr hd gn) (hT : RTo h nt tA tl tw tg ls ms pa) {r da : Nat} (hr : r < nr) : fX4_bind N h (rA r) (some da) = some (tieH h (rA r) (tA (rT r)) da (pa (rT r))) := by
  obtain ⟨⟨-, -, -, d4⟩, ⟨f0, f1, f2, f3, f4, f8⟩, -, q1, -⟩ := hR.2.1 r hr
  obtain ⟨⟨-, -, -, t4⟩, ⟨g0, g1, g2, g3, g4, g5, g7⟩, -⟩ := hT.2.1 (rT r) q1
  simp [fX4_bind, qR, qI, oR, oI, d4, HR, f1, t4, g7, lit, tieH]
theorem c_tieo {N : Nat} {h : Hs} (hS : Sk h) {nr nt nd : Nat} {rA tA dA rT : Nat → Nat} {wy gr hd : Nat → Int} {gn : Nat → Bool} {tl tw tg ls ms pa ds : Nat → Int} {dr td : Nat → Option Nat} {sr dn : Nat → Int} (hz : 70 ≤ sz h) (hR : RRo h nr nt rA tA rT wy gr hd gn) (hT : RTo h nt tA tl tw tg ls ms pa) (hD : RDr h nd dA ds) (hC : RTc h nt nr tA dA rA dr td sr dn) (z y : Int) (z1 : -2147483648 ≤ z) (z2 : z < 2147483648) (y1 : -2147483648 ≤ y) (y2 : y < 2147483648) :
    (¬ ((0 ≤ z ∧ z ≤ (nr : Int) - 1) ∧ 0 ≤ y ∧ y ≤ (nd : Int) - 1) → fX5_tieRope N h 14 (iI z) (iI y) = some (iI (-1), h)) ∧ (∀ r d : Nat, z = r → y = d → r < nr → d < nd → (¬ (gn r = false ∧ td (rT r) = none ∧ ldv (tg (rT r)) (gr r) ≤ hd r) → fX5_tieRope N h 14 (iI z) (iI y) = some (iI (-2), h)) ∧ ((gn r = false ∧ td (rT r) = none ∧ ldv (tg (rT r)) (gr r) ≤ hd r) → fX5_tieRope N h 14 (iI z) (iI y) = some (iI (hd r - ldv (tg (rT r)) (gr r)), tieH h (rA r) (tA (rT r)) (dA d) (pa (rT r))))) := by
  refine ⟨fun hn => ?_, fun r d hz' hy hr hd' => ?_⟩
  · simp only [fX5_tieRope, fX5_tieRope_b22, fX5_tieRope_b48, lit, iI_neg]
    by_cases w : 0 ≤ z ∧ z ≤ (nr : Int) - 1
    · obtain ⟨r, rfl⟩ : ∃ r : Nat, z = r := ⟨z.toNat, by omega⟩
      have ry := v_ropeY (N := N) hS hR (i := r) (by omega)
      have dn' := v_drumN (N := N) hS hD y1 y2 (fun q => hn ⟨w, q⟩)
      refine bst (rcv (by rw [ss_14 hS])) ?_
      refine bst (ry) ?_
      refine bst (rcv (by rw [ss_14 hS])) ?_
      refine bst (dn') ?_
      refine ifn (Option.some_ne_none _) ?_
      refine ifp (rfl) ?_
      rfl
    · have rn := v_ropeN (N := N) hS hR z1 z2 w
      by_cases wy' : 0 ≤ y ∧ y ≤ (nd : Int) - 1
      · obtain ⟨d, rfl⟩ : ∃ d : Nat, y = d := ⟨y.toNat, by omega⟩
        have dy := v_drumY (N := N) hS hD (i := d) (by omega)
        refine bst (rcv (by rw [ss_14 hS])) ?_
        refine bst (rn) ?_
        refine bst (rcv (by rw [ss_14 hS])) ?_
        refine bst (dy) ?_
        refine ifp (rfl) ?_
        rfl
      · have dn' := v_drumN (N := N) hS hD y1 y2 wy'
        refine bst (rcv (by rw [ss_14 hS])) ?_
        refine bst (rn) ?_
        refine bst (rcv (by rw [ss_14 hS])) ?_
        refine bst (dn') ?_
        refine ifp (rfl) ?_
        rfl
  · subst hz' hy
    have ry := v_ropeY (N := N) hS hR hr
    have dy := v_drumY (N := N) hS hD hd'
    have sp := v_spareo (N := N) hR hT hr
    obtain ⟨⟨-, -, -, d4⟩, ⟨f0, f1, f2, f3, f4, f8⟩, -, q1, q2, q3, q4, q5⟩ := hR.2.1 r hr
    obtain ⟨⟨-, -, -, t4⟩, -, -, bb⟩ := hT.2.1 (rT r) q1
    have g9 := hC.2 (rT r) q1
    have lb := ldv_b (g := tg (rT r)) (r := gr r) (by omega) (by omega)
    have b9 : -2000 ≤ hd r - ldv (tg (rT r)) (gr r) ∧ hd r - ldv (tg (rT r)) (gr r) ≤ 9999 := by omega
    have d41 : (sh h (rA r)).1 = 4 := by rw [d4]
    have t41 : (sh h (tA (rT r))).1 = 9 := by rw [t4]
    refine ⟨fun hn => ?_, fun hy' => ?_⟩
    · simp only [fX5_tieRope, fX5_tieRope_b22, fX5_tieRope_b48, lit, iI_neg]
      refine bst (rcv (by rw [ss_14 hS])) ?_
      refine bst (ry) ?_
      refine bst (rcv (by rw [ss_14 hS])) ?_
      refine bst (dy) ?_
      refine ifn (Option.some_ne_none _) ?_
      refine ifn (Option.some_ne_none _) ?_
      refine bst (oIv d41 f8) ?_
      cases hg : gn r with
      | true => exact ifn n10 rfl
      | false =>
        rw [hg] at hn
        refine ifp rfl ?_
        refine bst (oRv d41 f1) ?_
        refine bst (oRv t41 g9) ?_
        cases ht : td (rT r) with
        | some q => exact ifn (Option.some_ne_none _) rfl
        | none =>
          rw [ht] at hn
          have w3 : ¬ 0 ≤ hd r - ldv (tg (rT r)) (gr r) := fun q => hn ⟨rfl, rfl, by omega⟩
          refine ifp rfl ?_
          refine bst (rcv d41) ?_
          refine bst (sp) ?_
          refine ifn (fun q => w3 ((iI_le (by omega) (by omega) (by omega) (by omega)).mp q)) ?_
          rfl
    · obtain ⟨hg, ht, hl⟩ := hy'
      rw [hg] at f8
      rw [ht] at g9
      have bd := v_bindo (N := N) hR hT (da := dA d) hr
      have ke := Ke_tieH (h := h) (ra := rA r) (ta := tA (rT r)) (da := dA d) (p := pa (rT r))
      obtain ⟨hq, hhq⟩ : ∃ hq, hq = tieH h (rA r) (tA (rT r)) (dA d) (pa (rT r)) := ⟨_, rfl⟩
      rw [← hhq] at bd ke ⊢
      have hR2 := hR.e hz ke (by decide) (by decide) (by decide) (by decide)
      have hT2 := hT.e hz ke (by decide) (by decide)
      have sp2 := v_spareo (N := N) hR2 hT2 hr
      have d42 : (sh hq (rA r)).1 = 4 := by rw [(hR2.2.1 r hr).1.2.2.2]
      have w3 : 0 ≤ hd r - ldv (tg (rT r)) (gr r) := by omega
      simp only [fX5_tieRope, fX5_tieRope_b22, fX5_tieRope_b48, lit, iI_neg]
      refine bst (rcv (by rw [ss_14 hS])) ?_
      refine bst (ry) ?_
      refine bst (rcv (by rw [ss_14 hS])) ?_
      refine bst (dy) ?_
      refine ifn (Option.some_ne_none _) ?_
      refine ifn (Option.some_ne_none _) ?_
      refine bst (oIv d41 f8) ?_
      refine ifp (rfl) ?_
      refine bst (oRv d41 f1) ?_
      refine bst (oRv t41 g9) ?_
      refine ifp (rfl) ?_
      refine bst (rcv d41) ?_
      refine bst (sp) ?_
      refine ifp ((iI_le (by omega) (by omega) (by omega) (by omega)).mpr w3) ?_
      refine bst (rcv d41) ?_
      refine bst (bd) ?_
      refine bst (rcv d42) ?_
      refine bst (sp2) ?_
      rfl

theorem v_loadMq {N : Nat} {h : Hs} (hS : Sk h) {nr nt : Nat} {rA tA rT : Nat → Nat} {wy gr hd : Nat → Int} {gn : Nat → Bool} {tl tw tg ls ms : Nat → Int} (hR : RRo h nr nt rA tA rT wy gr hd gn) (hT : RTq h nt tl tw tg ls ms) {r : Nat} (hr : r < nr) : fX12_load N h 29 (iI r) = some (iI (ldv (tg (rT r)) (gr r)), h) := by
  obtain ⟨-, -, ⟨f0, f1, f2, f3, f4⟩, q1, q2, q3, q4, q5⟩ := hR.2.1 r hr
  obtain ⟨⟨-, -, g3, -⟩, b1, b2', b3, b4, b5, b6, -⟩ := hT.2 (rT r) q1
  have c3 := hR.1.2.2
  have c4 := hT.1.2
  have e1 : ixb (iI (r : Int)) 40 = true := ixb_i (by omega) (by omega) (by omega)
  have e2 : (iI (r : Int)).toNatClampNeg = r := by rw [iI_cl (by omega) (by omega)]; simp
  have e3 : ixb (iI ((rT r : Nat) : Int)) 40 = true := ixb_i (by omega) (by omega) (by omega)
  have e4 : (iI ((rT r : Nat) : Int)).toNatClampNeg = rT r := by rw [iI_cl (by omega) (by omega)]; simp
  have e5 : ¬ gr r = 0 := by omega
  have e6 : iI (tg (rT r) + gr r - 1) / iI (gr r) = iI (ldv (tg (rT r)) (gr r)) := iI_div (by omega) (by omega) (by omega) (by omega)
  simp (disch := omega) [fX12_load, oR, lA, Sk_rw hS, e1, e2, e3, e4, f0, f1, g3, lit, iI_eq, e5, iI_add, iI_sub, dv, e6]
theorem m_tieq {N : Nat} (hN : 100000000 ≤ N) {h : Hs} (hS : Sk h) {nr nt nd : Nat} {rA tA dA rT : Nat → Nat} {wy gr hd : Nat → Int} {gn : Nat → Bool} {tl tw tg ls ms pa ds : Nat → Int} {dr td : Nat → Option Nat} {sr dn : Nat → Int} (hz : 70 ≤ sz h) (hR : RRo h nr nt rA tA rT wy gr hd gn) (hT : RTq h nt tl tw tg ls ms) (hP : ∀ i, i < nt → aI h 33 i = iI (pa i)) (hD : RDr h nd dA ds) (hM : RTm h nr rT dr sr dn) (hL : RTl nt nd nr rT dr td) (z y : Int) (z1 : -2147483648 ≤ z) (z2 : z < 2147483648) (y1 : -2147483648 ≤ y) (y2 : y < 2147483648) :
    (¬ ((0 ≤ z ∧ z ≤ (nr : Int) - 1) ∧ 0 ≤ y ∧ y ≤ (nd : Int) - 1) → fX12_tieNow N h 29 (iI z) (iI y) = some (iI (-1), h)) ∧ (∀ r d : Nat, z = r → y = d → r < nr → d < nd → (¬ (gn r = false ∧ td (rT r) = none ∧ ldv (tg (rT r)) (gr r) ≤ hd r) → fX12_tieNow N h 29 (iI z) (iI y) = some (iI (-2), h)) ∧ ((gn r = false ∧ td (rT r) = none ∧ ldv (tg (rT r)) (gr r) ≤ hd r) → fX12_tieNow N h 29 (iI z) (iI y) = some (iI (hd r - ldv (tg (rT r)) (gr r)), tieM h r (rT r) d (pa (rT r))))) := by
  have c3 := hR.1.2.2
  have cd := hD.1.2.2
  have ct := hT.1.2
  have ir := v_isRope (N := N) hS hR.1.2.1 c3 z1 z2
  have id' := v_isDrum (N := N) hS hD.1.2.1 cd y1 y2
  refine ⟨fun hn => ?_, fun r d hz' hy hr hd' => ?_⟩
  · simp only [fX12_tieNow, fX12_tieNow_b16, fX12_tieNow_b63, lit, iI_neg]
    by_cases w : 0 ≤ z ∧ z ≤ (nr : Int) - 1
    · rw [if_pos w] at ir
      rw [if_neg (fun q => hn ⟨w, q⟩)] at id'
      refine bst (rcv (by rw [ss_29 hS])) ?_
      refine bst (ir) ?_
      refine ifn (n10) ?_
      refine bst (rcv (by rw [ss_29 hS])) ?_
      refine bst (id') ?_
      refine ifp (rfl) ?_
      rfl
    · rw [if_neg w] at ir
      refine bst (rcv (by rw [ss_29 hS])) ?_
      refine bst (ir) ?_
      refine ifp (rfl) ?_
      rfl
  · subst hz' hy
    rw [if_pos (by omega)] at ir id'
    obtain ⟨-, -, ⟨f0, f1, f2, f3, f4⟩, q1, q2, q3, q4, q5⟩ := hR.2.1 r hr
    obtain ⟨⟨g0, g1, g2, g4, g5⟩, bb⟩ := hT.2 (rT r) q1
    have g3 := hP (rT r) q1
    have tt := v_tiedM hN hS hR hM hL cd ct q1
    have lm := v_loadMq (N := N) hS hR hT hr
    have lb := ldv_b (g := tg (rT r)) (r := gr r) (by omega) (by omega)
    have m42 := (hM r hr).1
    simp only [fX12_tieNow, fX12_tieNow_b16, fX12_tieNow_b63, lit, iI_neg]
    refine ⟨fun hn => ?_, fun hy' => ?_⟩
    · cases hdr : dr r with
      | some d0 =>
        have dl := (hL.1 r d0 hr hdr).1
        rw [hdr] at m42
        simp only [od] at m42
        have w2 : (0 : Int) ≤ d0 := by omega
        refine bst (rcv (by rw [ss_29 hS])) ?_
        refine bst (ir) ?_
        refine ifn (n10) ?_
        refine bst (rcv (by rw [ss_29 hS])) ?_
        refine bst (id') ?_
        refine ifn (n10) ?_
        refine bst (sR_1216_29 hS) ?_
        refine bst (lAv (ss_42 hS) (by omega) (by omega) m42) ?_
        refine ifp ((iI_le (by omega) (by omega) (by omega) (by omega)).mpr w2) ?_
        rfl
      | none =>
        rw [hdr] at m42
        simp only [od] at m42
        have w2 : ¬ iI 0 ≤ iI (-1) := by decide
        cases hg : gn r with
        | true =>
          rw [hg] at f4
          simp only [b2, if_true] at f4
          refine bst (rcv (by rw [ss_29 hS])) ?_
          refine bst (ir) ?_
          refine ifn (n10) ?_
          refine bst (rcv (by rw [ss_29 hS])) ?_
          refine bst (id') ?_
          refine ifn (n10) ?_
          refine bst (sR_1216_29 hS) ?_
          refine bst (lAv (ss_42 hS) (by omega) (by omega) m42) ?_
          refine ifn (w2) ?_
          refine bst (sR_1218_29 hS) ?_
          refine bst (lAz (ss_44 hS) (by omega) (by omega) f4) ?_
          refine ifn (n10) ?_
          rfl
        | false =>
          rw [hg] at f4 hn
          have f4' : aI h 44 r = iI 0 := f4
          cases ht : td (rT r) with
          | some q =>
            rw [ht] at tt
            simp only [od] at tt
            have qb := (hL.2 (rT r) q q1 ht).1
            have w3 : (0 : Int) ≤ q := by omega
            refine bst (rcv (by rw [ss_29 hS])) ?_
            refine bst (ir) ?_
            refine ifn (n10) ?_
            refine bst (rcv (by rw [ss_29 hS])) ?_
            refine bst (id') ?_
            refine ifn (n10) ?_
            refine bst (sR_1216_29 hS) ?_
            refine bst (lAv (ss_42 hS) (by omega) (by omega) m42) ?_
            refine ifn (w2) ?_
            refine bst (sR_1218_29 hS) ?_
            refine bst (lAz (ss_44 hS) (by omega) (by omega) f4') ?_
            refine ifp (rfl) ?_
            refine bst (sR_1212_29 hS) ?_
            refine bst (lAv (ss_38 hS) (by omega) (by omega) f0) ?_
            refine bst (rcv (by rw [ss_29 hS])) ?_
            refine bst (tt) ?_
            refine ifp ((iI_le (by omega) (by omega) (by omega) (by omega)).mpr w3) ?_
            rfl
          | none =>
            rw [ht] at tt hn
            simp only [od] at tt
            have w3 : ¬ ldv (tg (rT r)) (gr r) ≤ hd r := fun q => hn ⟨rfl, rfl, q⟩
            refine bst (rcv (by rw [ss_29 hS])) ?_
            refine bst (ir) ?_
            refine ifn (n10) ?_
            refine bst (rcv (by rw [ss_29 hS])) ?_
            refine bst (id') ?_
            refine ifn (n10) ?_
            refine bst (sR_1216_29 hS) ?_
            refine bst (lAv (ss_42 hS) (by omega) (by omega) m42) ?_
            refine ifn (w2) ?_
            refine bst (sR_1218_29 hS) ?_
            refine bst (lAz (ss_44 hS) (by omega) (by omega) f4') ?_
            refine ifp (rfl) ?_
            refine bst (sR_1212_29 hS) ?_
            refine bst (lAv (ss_38 hS) (by omega) (by omega) f0) ?_
            refine bst (rcv (by rw [ss_29 hS])) ?_
            refine bst (tt) ?_
            refine ifn (w2) ?_
            refine bst (sR_1215_29 hS) ?_
            refine bst (lAv (ss_41 hS) (by omega) (by omega) f3) ?_
            refine bst (rcv (by rw [ss_29 hS])) ?_
            refine bst (lm) ?_
            refine ifn (fun q9 => w3 ((iI_le (by omega) (by omega) (by omega) (by omega)).mp q9)) ?_
            rfl
    · obtain ⟨hg, ht, hl⟩ := hy'
      have hdr : dr r = none := by
        cases hdr : dr r with
        | none => rfl
        | some d0 =>
          have := (hL.1 r d0 hr hdr).2
          rw [ht] at this
          cases this
      rw [hdr] at m42
      simp only [od] at m42
      rw [hg] at f4
      have f4' : aI h 44 r = iI 0 := f4
      rw [ht] at tt
      simp only [od] at tt
      have w2 : ¬ iI 0 ≤ iI (-1) := by decide
      have ke : Ke [] [36, 42, 43] [] [] h (tieM h r (rT r) d (pa (rT r))) := Kq_tieM.e
      have hR2 := hR.e hz ke (by decide) (by decide) (by decide) (by decide)
      have hT2 := hT.e hz ke (by decide) (by decide)
      have hS2 := hS.e hz ke (fun f hf => absurd hf List.not_mem_nil)
      have lm2 := v_loadMq (N := N) hS2 hR2 hT2 hr
      have f32 := (hR2.2.1 r hr).2.2.1.2.2.2.1
      have hSa : Sk (uA h 42 r (iI d)) := hS.k (Kq_uA 42 _ _)
      have hSb : Sk (uA (uA h 42 r (iI d)) 43 r (iI 0)) := hSa.k (Kq_uA 43 _ _)
      refine bst (rcv (by rw [ss_29 hS])) ?_
      refine bst (ir) ?_
      refine ifn (n10) ?_
      refine bst (rcv (by rw [ss_29 hS])) ?_
      refine bst (id') ?_
      refine ifn (n10) ?_
      refine bst (sR_1216_29 hS) ?_
      refine bst (lAv (ss_42 hS) (by omega) (by omega) m42) ?_
      refine ifn (w2) ?_
      refine bst (sR_1218_29 hS) ?_
      refine bst (lAz (ss_44 hS) (by omega) (by omega) f4') ?_
      refine ifp (rfl) ?_
      refine bst (sR_1212_29 hS) ?_
      refine bst (lAv (ss_38 hS) (by omega) (by omega) f0) ?_
      refine bst (rcv (by rw [ss_29 hS])) ?_
      refine bst (tt) ?_
      refine ifn (w2) ?_
      refine bst (sR_1215_29 hS) ?_
      refine bst (lAv (ss_41 hS) (by omega) (by omega) f3) ?_
      refine bst (rcv (by rw [ss_29 hS])) ?_
      refine bst (lm) ?_
      refine ifp ((iI_le (by omega) (by omega) (by omega) (by omega)).mpr hl) ?_
      refine bst (sR_1216_29 hS) ?_
      refine bst (sAv (ss_42 hS) (by omega) (by omega)) ?_
      refine bst (sR_1217_29 hSa) ?_
      refine bst (sAv (ss_43 hSa) (by omega) (by omega)) ?_
      refine bst (sR_1208_29 hSb) ?_
      refine bst (sR_1212_29 hSb) ?_
      refine bst (lAv (ss_38 hSb) (by omega) (by omega) (v := iI (rT r)) (by simp [HR, f0])) ?_
      refine bst (sR_1205_29 hSb) ?_
      refine bst (sR_1212_29 hSb) ?_
      refine bst (lAv (ss_38 hSb) (by omega) (by omega) (v := iI (rT r)) (by simp [HR, f0])) ?_
      refine bst (lAv (ss_33 hSb) (by omega) (by omega) (v := iI (pa (rT r))) (by simp [HR, g3])) ?_
      refine bst (sAv (ss_36 hSb) (by omega) (by omega)) ?_
      refine bst (sR_1215_29 hS2) ?_
      refine bst (lAv (ss_41 hS2) (by omega) (by omega) f32) ?_
      refine bst (rcv (h := tieM h r (rT r) d (pa (rT r))) (by rw [ss_29 hS2])) ?_
      refine bst (lm2) ?_
      rw [iI_sub]

