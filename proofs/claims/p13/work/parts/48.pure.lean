/-! ===== untie: inner calls ===== -/
def updO {α : Type} (f : Nat → α) (i : Nat) (v : α) : Nat → α := fun j => if j = i then v else f j
theorem updO_s {α : Type} (f : Nat → α) (i : Nat) (v : α) : updO f i v i = v := by simp [updO]
theorem updO_n {α : Type} (f : Nat → α) {i j : Nat} (v : α) (h : j ≠ i) : updO f i v j = f j := by simp [updO, h]
/-- the class loosens rope r, which is tied -/
theorem v_loosen {N : Nat} {h : Hs} {nr nt : Nat} {rA tA dA rT : Nat → Nat} {wy gr hd : Nat → Int} {gn : Nat → Bool} {tl tw tg ls ms pa : Nat → Int} (hR : RRo h nr nt rA tA rT wy gr hd gn) (hT : RTh h nt tA tl tw tg ls ms pa) {r : Nat} (hr : r < nr) : fX4_loosen N h (rA r) = some (uR (uI (uR h 405 (rA r) none) 407 (rA r) (iI 0)) 909 (tA (rT r)) none) := by
  obtain ⟨⟨-, -, -, d4⟩, ⟨f0, f1, f2, f3, f4, f8⟩, -, q1, -⟩ := hR.2.1 r hr
  obtain ⟨⟨-, -, -, t4⟩, -⟩ := hT.2.1 (rT r) q1
  simp [fX4_loosen, qR, qI, oR, d4, HR, f1, t4, lit]
theorem RTc.loose {h : Hs} {nt nd nr : Nat} {tA dA rA rT : Nat → Nat} {dr td : Nat → Option Nat} {sr dn : Nat → Int} (hC : RTc h nt nr tA dA rA dr td sr dn) (hL : RTl nt nd nr rT dr td) (ti : ∀ i j, i < nt → j < nt → tA i = tA j → i = j) (ri : ∀ i j, i < nr → j < nr → rA i = rA j → i = j) {r : Nat} (hr : r < nr) (hrt : rT r < nt) (v : Int32) : RTc (uR (uI (uR h 405 (rA r) none) 407 (rA r) v) 909 (tA (rT r)) none) nt nr tA dA rA (updO dr r none) (updO td (rT r) none) sr dn := by
  obtain ⟨c1, c2⟩ := hC
  refine ⟨fun q hq => ?_, fun i hi => ?_⟩
  · by_cases e : q = r
    · subst e
      rw [updO_s]
      refine ⟨?_, fun z => absurd rfl z⟩
      simp [HR]
    · have ne : ¬ rA q = rA r := fun z => e (ri q r hq hr z)
      rw [updO_n _ _ e]
      obtain ⟨g1, g2⟩ := c1 q hq
      refine ⟨?_, fun z => ?_⟩
      · simp [HR, ne, g1]
      · simp [HR, ne, g2 z]
  · by_cases e : i = rT r
    · subst e
      rw [updO_s]
      simp [HR]
    · have ne : ¬ tA i = tA (rT r) := fun z => e (ti i _ hi hrt z)
      rw [updO_n _ _ e]
      simp [HR, ne, c2 i hi]
theorem RTl.loose {nt nd nr : Nat} {rT : Nat → Nat} {dr td : Nat → Option Nat} (hL : RTl nt nd nr rT dr td) {r d0 : Nat} (hr : r < nr) (hd : dr r = some d0) : RTl nt nd nr rT (updO dr r none) (updO td (rT r) none) := by
  obtain ⟨l1, l2⟩ := hL
  refine ⟨fun q d hq hd' => ?_, fun i q hi hq => ?_⟩
  · by_cases e : q = r
    · subst e
      rw [updO_s] at hd'
      cases hd'
    · rw [updO_n _ _ e] at hd'
      obtain ⟨g1, g2⟩ := l1 q d hq hd'
      refine ⟨g1, ?_⟩
      by_cases e2 : rT q = rT r
      · exfalso
        have := (l1 r d0 hr hd).2
        rw [e2, this] at g2
        exact e (Option.some.inj g2).symm
      · rw [updO_n _ _ e2]
        exact g2
  · by_cases e : i = rT r
    · subst e
      rw [updO_s] at hq
      cases hq
    · rw [updO_n _ _ e] at hq
      obtain ⟨g1, g2, g3⟩ := l2 i q hi hq
      refine ⟨g1, g2, ?_⟩
      have e2 : q ≠ r := fun z => e (by rw [← g2, z])
      rw [updO_n _ _ e2]
      exact g3
theorem RTm.loose {h : Hs} {nr : Nat} {rT : Nat → Nat} {dr : Nat → Option Nat} {sr dn : Nat → Int} (hM : RTm h nr rT dr sr dn) {r : Nat} (hr : r < nr) : RTm (uA h 42 r (iI (-1))) nr rT (updO dr r none) sr dn := by
  intro q hq
  by_cases e : q = r
  · subst e
    rw [updO_s]
    refine ⟨?_, fun z => absurd rfl z⟩
    simp [HR, od]
  · rw [updO_n _ _ e]
    obtain ⟨g1, g2⟩ := hM q hq
    refine ⟨?_, fun z => ?_⟩
    · simp [HR, e, g1]
    · simp [HR, g2 z]
/-- untie, the class's inner call: VOID and nothing, or DONE and loosened -/
theorem c_untie {N : Nat} {h : Hs} (hS : Sk h) {nr nt nd : Nat} {rA tA dA rT : Nat → Nat} {wy gr hd : Nat → Int} {gn : Nat → Bool} {tl tw tg ls ms pa : Nat → Int} {dr td : Nat → Option Nat} {sr dn : Nat → Int} (hR : RRo h nr nt rA tA rT wy gr hd gn) (hT : RTh h nt tA tl tw tg ls ms pa) (hC : RTc h nt nr tA dA rA dr td sr dn) (z : Int) (z1 : -2147483648 ≤ z) (z2 : z < 2147483648) :
    (¬ (∃ r d0 : Nat, z = r ∧ r < nr ∧ dr r = some d0) ∧ fX5_untieRope N h 14 (iI z) = some (iI (-2000000000), h)) ∨ (∃ r d0 : Nat, z = r ∧ r < nr ∧ dr r = some d0 ∧ fX5_untieRope N h 14 (iI z) = some (iI (dn r), uR (uI (uR h 405 (rA r) none) 407 (rA r) (iI 0)) 909 (tA (rT r)) none)) := by
  by_cases w : 0 ≤ z ∧ z ≤ (nr : Int) - 1
  · obtain ⟨r, rfl⟩ : ∃ r : Nat, z = r := ⟨z.toNat, by omega⟩
    have hr : r < nr := by omega
    have ry := v_ropeY (N := N) hS hR hr
    obtain ⟨⟨-, -, -, d4⟩, -⟩ := hR.2.1 r hr
    obtain ⟨g1, g2⟩ := hC.1 r hr
    cases hdr : dr r with
    | none =>
      rw [hdr] at g1
      refine Or.inl ⟨?_, ?_⟩
      · rintro ⟨q, d0, hq, -, hd⟩
        have : q = r := by omega
        rw [this, hdr] at hd
        cases hd
      · simp (disch := omega) [oI, oR, qI, qZ, qR, rc, lit, iI_add, iI_sub, iI_mul, iI_neg, iI_le, iI_lt, iI_eq, v_isW, v_inW, bz, HR, Sk_rw hS, fX5_untieRope, fX5_untieRope_b17, ry, d4, g1]
    | some d0 =>
      refine Or.inr ⟨r, d0, rfl, hr, hdr, ?_⟩
      have g3 := (g2 (by rw [hdr]; exact fun q => by cases q)).2
      rw [hdr] at g1
      have lo := v_loosen (N := N) (dA := dA) hR hT hr
      simp (disch := omega) [oI, oR, qI, qZ, qR, rc, lit, iI_add, iI_sub, iI_mul, iI_neg, iI_le, iI_lt, iI_eq, v_isW, v_inW, bz, HR, Sk_rw hS, fX5_untieRope, fX5_untieRope_b17, ry, d4, g1, g3, lo]
  · have rn := v_ropeN (N := N) hS hR z1 z2 w
    refine Or.inl ⟨?_, ?_⟩
    · rintro ⟨q, d0, hq, hq2, -⟩
      omega
    · simp (disch := omega) [oI, oR, qI, qZ, qR, rc, lit, iI_add, iI_sub, iI_mul, iI_neg, iI_le, iI_lt, iI_eq, v_isW, v_inW, bz, HR, Sk_rw hS, fX5_untieRope, fX5_untieRope_b17, rn]
/-- untie, the reference's inner call -/
theorem m_untie {N : Nat} {h : Hs} (hS : Sk h) {nr nt nd : Nat} {rA tA rT : Nat → Nat} {wy gr hd : Nat → Int} {gn : Nat → Bool} {dr td : Nat → Option Nat} {sr dn : Nat → Int} (hR : RRo h nr nt rA tA rT wy gr hd gn) (hM : RTm h nr rT dr sr dn) (hL : RTl nt nd nr rT dr td) (hnd : nd ≤ 20) (z : Int) (z1 : -2147483648 ≤ z) (z2 : z < 2147483648) :
    (¬ (∃ r d0 : Nat, z = r ∧ r < nr ∧ dr r = some d0) → fX12_untieNow N h 29 (iI z) = some (iI (-2000000000), h)) ∧ (∀ r d0 : Nat, z = r → r < nr → dr r = some d0 → fX12_untieNow N h 29 (iI z) = some (iI (dn r), uA h 42 r (iI (-1)))) := by
  have c3 := hR.1.2.2
  have ir := v_isRope (N := N) hS hR.1.2.1 c3 z1 z2
  have n10 : ¬ iI 1 = iI 0 := by decide
  refine ⟨fun hn => ?_, fun r d0 hz hr hd => ?_⟩
  · by_cases w : 0 ≤ z ∧ z ≤ (nr : Int) - 1
    · obtain ⟨r, rfl⟩ : ∃ r : Nat, z = r := ⟨z.toNat, by omega⟩
      have hr : r < nr := by omega
      rw [if_pos w] at ir
      have e1 : ixb (iI (r : Int)) 40 = true := ixb_i (by omega) (by omega) (by omega)
      have e2 : (iI (r : Int)).toNatClampNeg = r := by rw [iI_cl (by omega) (by omega)]; simp
      have g1 := (hM r hr).1
      cases hdr : dr r with
      | none =>
        rw [hdr] at g1
        simp only [od] at g1
        simp (disch := omega) [oI, oR, qI, qZ, qR, rc, lit, iI_add, iI_sub, iI_mul, iI_neg, iI_le, iI_lt, iI_eq, v_isW, v_inW, bz, HR, Sk_rw hS, fX12_untieNow, fX12_untieNow_b17, ir, n10, lA, e1, e2, g1]
      | some d0 => exact absurd ⟨r, d0, rfl, hr, hdr⟩ hn
    · rw [if_neg w] at ir
      simp (disch := omega) [oI, oR, qI, qZ, qR, rc, lit, iI_add, iI_sub, iI_mul, iI_neg, iI_le, iI_lt, iI_eq, v_isW, v_inW, bz, HR, Sk_rw hS, fX12_untieNow, fX12_untieNow_b17, ir]
  · subst hz
    have w : 0 ≤ (r : Int) ∧ (r : Int) ≤ (nr : Int) - 1 := by omega
    rw [if_pos w] at ir
    have e1 : ixb (iI (r : Int)) 40 = true := ixb_i (by omega) (by omega) (by omega)
    have e2 : (iI (r : Int)).toNatClampNeg = r := by rw [iI_cl (by omega) (by omega)]; simp
    obtain ⟨g1, g2⟩ := hM r hr
    have g3 := (g2 (by rw [hd]; exact fun q => by cases q)).1
    rw [hd] at g1
    simp only [od] at g1
    have dl := (hL.1 r d0 hr hd).1
    have w2 : (0 : Int) ≤ d0 := by omega
    simp (disch := omega) [oI, oR, qI, qZ, qR, rc, lit, iI_add, iI_sub, iI_mul, iI_neg, iI_le, iI_lt, iI_eq, v_isW, v_inW, bz, HR, Sk_rw hS, fX12_untieNow, ir, n10, lA, sA, e1, e2, g1, g3, w2]
