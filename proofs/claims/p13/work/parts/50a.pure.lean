/-! ===== tie: inner calls ===== -/
/-- the class binds rope r to drum d -/
def tieH (h : Hs) (ra ta da : Nat) (p : Int) : Hs := uR (uI (uI (uR h 405 ra (some da)) 406 ra (iI p)) 407 ra (iI 0)) 909 ta (some ra)
theorem v_bind {N : Nat} {h : Hs} {nr nt : Nat} {rA tA rT : Nat → Nat} {wy gr hd : Nat → Int} {gn : Nat → Bool} {tl tw tg ls ms pa : Nat → Int} (hR : RRo h nr nt rA tA rT wy gr hd gn) (hT : RTh h nt tA tl tw tg ls ms pa) {r da : Nat} (hr : r < nr) : fX4_bind N h (rA r) (some da) = some (tieH h (rA r) (tA (rT r)) da (pa (rT r))) := by
  obtain ⟨⟨-, -, -, d4⟩, ⟨f0, f1, f2, f3, f4, f8⟩, -, q1, -⟩ := hR.2.1 r hr
  obtain ⟨⟨-, -, -, t4⟩, ⟨g0, g1, g2, g3, g4, g5, g7⟩, -⟩ := hT.2.1 (rT r) q1
  simp [fX4_bind, qR, qI, oR, oI, d4, HR, f1, t4, g7, lit, tieH]
theorem Ke_tieH {h : Hs} {ra ta da : Nat} {p : Int} : Ke [406, 407] [] [405, 909] [] h (tieH h ra ta da p) := (((Ke_rf.r _ _ _ (by decide)).u _ _ _ (by decide)).u _ _ _ (by decide)).r _ _ _ (by decide)
theorem sz_tieH {h : Hs} {ra ta da : Nat} {p : Int} : sz (tieH h ra ta da p) = sz h := rfl
theorem RTc.tie {h : Hs} {nt nd nr : Nat} {tA dA rA rT : Nat → Nat} {dr td : Nat → Option Nat} {sr dn : Nat → Int} (hC : RTc h nt nr tA dA rA dr td sr dn) (ti : ∀ i j, i < nt → j < nt → tA i = tA j → i = j) (ri : ∀ i j, i < nr → j < nr → rA i = rA j → i = j) {r d : Nat} (hr : r < nr) (hrt : rT r < nt) (p : Int) : RTc (tieH h (rA r) (tA (rT r)) (dA d) p) nt nr tA dA rA (updO dr r (some d)) (updO td (rT r) (some r)) (updO sr r p) (updO dn r 0) := by
  obtain ⟨c1, c2⟩ := hC
  refine ⟨fun q hq => ?_, fun i hi => ?_⟩
  · by_cases e : q = r
    · subst e
      rw [updO_s, updO_s, updO_s]
      refine ⟨?_, fun _ => ⟨?_, ?_⟩⟩ <;> simp [tieH, HR]
    · have ne : ¬ rA q = rA r := fun z => e (ri q r hq hr z)
      rw [updO_n _ _ e, updO_n _ _ e, updO_n _ _ e]
      obtain ⟨g1, g2⟩ := c1 q hq
      refine ⟨?_, fun z => ?_⟩
      · simp [tieH, HR, ne, g1]
      · simp [tieH, HR, ne, g2 z]
  · by_cases e : i = rT r
    · subst e
      rw [updO_s]
      simp [tieH, HR]
    · have ne : ¬ tA i = tA (rT r) := fun z => e (ti i _ hi hrt z)
      rw [updO_n _ _ e]
      simp [tieH, HR, ne, c2 i hi]
theorem RTl.tie {nt nd nr : Nat} {rT : Nat → Nat} {dr td : Nat → Option Nat} (hL : RTl nt nd nr rT dr td) {r d : Nat} (hr : r < nr) (hd : d < nd) (ht : td (rT r) = none) : RTl nt nd nr rT (updO dr r (some d)) (updO td (rT r) (some r)) := by
  obtain ⟨l1, l2⟩ := hL
  refine ⟨fun q d' hq hd' => ?_, fun i q hi hq => ?_⟩
  · by_cases e : q = r
    · subst e
      rw [updO_s] at hd'
      cases hd'
      exact ⟨hd, updO_s _ _ _⟩
    · rw [updO_n _ _ e] at hd'
      obtain ⟨g1, g2⟩ := l1 q d' hq hd'
      refine ⟨g1, ?_⟩
      by_cases e2 : rT q = rT r
      · rw [e2, ht] at g2
        cases g2
      · rw [updO_n _ _ e2]
        exact g2
  · by_cases e : i = rT r
    · subst e
      rw [updO_s] at hq
      cases hq
      refine ⟨hr, rfl, ?_⟩
      rw [updO_s]
      exact fun z => by cases z
    · rw [updO_n _ _ e] at hq
      obtain ⟨g1, g2, g3⟩ := l2 i q hi hq
      refine ⟨g1, g2, ?_⟩
      have e2 : q ≠ r := fun z => e (by rw [← g2, z])
      rw [updO_n _ _ e2]
      exact g3
theorem RTm.tie {h : Hs} {nt nd nr : Nat} {rT : Nat → Nat} {dr td : Nat → Option Nat} {sr dn : Nat → Int} (hM : RTm h nr rT dr sr dn) (hL : RTl nt nd nr rT dr td) {r d : Nat} (hr : r < nr) (ht : td (rT r) = none) (p : Int) : RTm (uA (uA (uA h 42 r (iI d)) 43 r (iI 0)) 36 (rT r) (iI p)) nr rT (updO dr r (some d)) (updO sr r p) (updO dn r 0) := by
  intro q hq
  by_cases e : q = r
  · subst e
    rw [updO_s, updO_s, updO_s]
    refine ⟨?_, fun _ => ⟨?_, ?_⟩⟩ <;> simp [HR, od]
  · rw [updO_n _ _ e, updO_n _ _ e, updO_n _ _ e]
    obtain ⟨g1, g2⟩ := hM q hq
    refine ⟨?_, fun z => ?_⟩
    · simp [HR, e, g1]
    · obtain ⟨d0, hd0⟩ := Option.ne_none_iff_exists'.mp z
      have g3 := (hL.1 q d0 hq hd0).2
      have ne : ¬ rT q = rT r := fun z2 => by rw [z2, ht] at g3; cases g3
      simp [HR, e, ne, g2 z]
theorem c_tie {N : Nat} {h : Hs} (hS : Sk h) {nr nt nd : Nat} {rA tA dA rT : Nat → Nat} {wy gr hd : Nat → Int} {gn : Nat → Bool} {tl tw tg ls ms pa ds : Nat → Int} {dr td : Nat → Option Nat} {sr dn : Nat → Int} (hz : 70 ≤ sz h) (hR : RRo h nr nt rA tA rT wy gr hd gn) (hT : RTh h nt tA tl tw tg ls ms pa) (hD : RDr h nd dA ds) (hC : RTc h nt nr tA dA rA dr td sr dn) (z y : Int) (z1 : -2147483648 ≤ z) (z2 : z < 2147483648) (y1 : -2147483648 ≤ y) (y2 : y < 2147483648) :
    (¬ ((0 ≤ z ∧ z ≤ (nr : Int) - 1) ∧ 0 ≤ y ∧ y ≤ (nd : Int) - 1) → fX5_tieRope N h 14 (iI z) (iI y) = some (iI (-1), h)) ∧ (∀ r d : Nat, z = r → y = d → r < nr → d < nd → (¬ (gn r = false ∧ td (rT r) = none ∧ ldv (tg (rT r)) (gr r) ≤ hd r) → fX5_tieRope N h 14 (iI z) (iI y) = some (iI (-2), h)) ∧ ((gn r = false ∧ td (rT r) = none ∧ ldv (tg (rT r)) (gr r) ≤ hd r) → fX5_tieRope N h 14 (iI z) (iI y) = some (iI (hd r - ldv (tg (rT r)) (gr r)), tieH h (rA r) (tA (rT r)) (dA d) (pa (rT r))))) := by
  refine ⟨fun hn => ?_, fun r d hz' hy hr hd' => ?_⟩
  · simp only [fX5_tieRope, fX5_tieRope_b22, fX5_tieRope_b48, lit, iI_neg]
    by_cases w : 0 ≤ z ∧ z ≤ (nr : Int) - 1
    · obtain ⟨r, rfl⟩ : ∃ r : Nat, z = r := ⟨z.toNat, by omega⟩
      have ry := v_ropeY (N := N) hS hR (i := r) (by omega)
      have dn' := v_drumN (N := N) hS hD y1 y2 (fun q => hn ⟨w, q⟩)
      refine bst (rcv (by rw [ss_14 hS])) ?_
      refine bst (ry) ?_
      refine bst (rcv (by rw [ss_14 hS])) ?_
      refine bst (dn') ?_
      refine ifn (Option.some_ne_none _) ?_
      refine ifp (rfl) ?_
      rfl
    · have rn := v_ropeN (N := N) hS hR z1 z2 w
      by_cases wy' : 0 ≤ y ∧ y ≤ (nd : Int) - 1
      · obtain ⟨d, rfl⟩ : ∃ d : Nat, y = d := ⟨y.toNat, by omega⟩
        have dy := v_drumY (N := N) hS hD (i := d) (by omega)
        refine bst (rcv (by rw [ss_14 hS])) ?_
        refine bst (rn) ?_
        refine bst (rcv (by rw [ss_14 hS])) ?_
        refine bst (dy) ?_
        refine ifp (rfl) ?_
        rfl
      · have dn' := v_drumN (N := N) hS hD y1 y2 wy'
        refine bst (rcv (by rw [ss_14 hS])) ?_
        refine bst (rn) ?_
        refine bst (rcv (by rw [ss_14 hS])) ?_
        refine bst (dn') ?_
        refine ifp (rfl) ?_
        rfl
  · subst hz' hy
    have ry := v_ropeY (N := N) hS hR hr
    have dy := v_drumY (N := N) hS hD hd'
    have sp := v_spare (N := N) hR hT hr
    obtain ⟨⟨-, -, -, d4⟩, ⟨f0, f1, f2, f3, f4, f8⟩, -, q1, q2, q3, q4, q5⟩ := hR.2.1 r hr
    obtain ⟨⟨-, -, -, t4⟩, -, -, bb⟩ := hT.2.1 (rT r) q1
    have g9 := hC.2 (rT r) q1
    have lb := ldv_b (g := tg (rT r)) (r := gr r) (by omega) (by omega)
    have b9 : -2000 ≤ hd r - ldv (tg (rT r)) (gr r) ∧ hd r - ldv (tg (rT r)) (gr r) ≤ 9999 := by omega
    have d41 : (sh h (rA r)).1 = 4 := by rw [d4]
    have t41 : (sh h (tA (rT r))).1 = 9 := by rw [t4]
    refine ⟨fun hn => ?_, fun hy' => ?_⟩
    · simp only [fX5_tieRope, fX5_tieRope_b22, fX5_tieRope_b48, lit, iI_neg]
      refine bst (rcv (by rw [ss_14 hS])) ?_
      refine bst (ry) ?_
      refine bst (rcv (by rw [ss_14 hS])) ?_
      refine bst (dy) ?_
      refine ifn (Option.some_ne_none _) ?_
      refine ifn (Option.some_ne_none _) ?_
      refine bst (oIv d41 f8) ?_
      cases hg : gn r with
      | true => exact ifn n10 rfl
      | false =>
        rw [hg] at hn
        refine ifp rfl ?_
        refine bst (oRv d41 f1) ?_
        refine bst (oRv t41 g9) ?_
        cases ht : td (rT r) with
        | some q => exact ifn (Option.some_ne_none _) rfl
        | none =>
          rw [ht] at hn
          have w3 : ¬ 0 ≤ hd r - ldv (tg (rT r)) (gr r) := fun q => hn ⟨rfl, rfl, by omega⟩
          refine ifp rfl ?_
          refine bst (rcv d41) ?_
          refine bst (sp) ?_
          refine ifn (fun q => w3 ((iI_le (by omega) (by omega) (by omega) (by omega)).mp q)) ?_
          rfl
    · obtain ⟨hg, ht, hl⟩ := hy'
      rw [hg] at f8
      rw [ht] at g9
      have bd := v_bind (N := N) hR hT (da := dA d) hr
      have ke := Ke_tieH (h := h) (ra := rA r) (ta := tA (rT r)) (da := dA d) (p := pa (rT r))
      obtain ⟨hq, hhq⟩ : ∃ hq, hq = tieH h (rA r) (tA (rT r)) (dA d) (pa (rT r)) := ⟨_, rfl⟩
      rw [← hhq] at bd ke ⊢
      have hR2 := hR.e hz ke (by decide) (by decide) (by decide) (by decide)
      have hT2 := hT.e hz ke (by decide) (by decide) (by decide)
      have sp2 := v_spare (N := N) hR2 hT2 hr
      have d42 : (sh hq (rA r)).1 = 4 := by rw [(hR2.2.1 r hr).1.2.2.2]
      have w3 : 0 ≤ hd r - ldv (tg (rT r)) (gr r) := by omega
      simp only [fX5_tieRope, fX5_tieRope_b22, fX5_tieRope_b48, lit, iI_neg]
      refine bst (rcv (by rw [ss_14 hS])) ?_
      refine bst (ry) ?_
      refine bst (rcv (by rw [ss_14 hS])) ?_
      refine bst (dy) ?_
      refine ifn (Option.some_ne_none _) ?_
      refine ifn (Option.some_ne_none _) ?_
      refine bst (oIv d41 f8) ?_
      refine ifp (rfl) ?_
      refine bst (oRv d41 f1) ?_
      refine bst (oRv t41 g9) ?_
      refine ifp (rfl) ?_
      refine bst (rcv d41) ?_
      refine bst (sp) ?_
      refine ifp ((iI_le (by omega) (by omega) (by omega) (by omega)).mpr w3) ?_
      refine bst (rcv d41) ?_
      refine bst (bd) ?_
      refine bst (rcv d42) ?_
      refine bst (sp2) ?_
      rfl
