theorem L_tiedTo {N : Nat} {h : Hs} (hS : Sk h) {nr nt nd : Nat} {rA tA dA rT : Nat → Nat} {wy gr hd : Nat → Int} {gn : Nat → Bool} {dr td : Nat → Option Nat} {sr dn : Nat → Int} (hR : RRo h nr nt rA tA rT wy gr hd gn) (hI : RTi h nt nd nr tA dA rA rT dr td sr dn) (hnd : nd ≤ 20) (hnt : nt ≤ 40) {i : Nat} (hi : i < nt) : ∀ (d j : Nat) (fu : Nat), j + d = nr → d < fu → (∀ r, r < j → rT r = i → dr r = none) → fX12_tiedTo_b2 N 29 fu h (iI i) (iI j) = some (iI (od (td i)), h) := by
  have c3 := hR.1.2.2
  have c2 := hR.1.2.1
  intro d
  induction d with
  | zero =>
    intro j fu hj hf hp
    obtain ⟨fu, rfl⟩ : ∃ k, fu = k + 1 := ⟨fu - 1, by omega⟩
    show fX12_tiedTo_b2_body N (fX12_tiedTo_b2 N 29 fu) 29 h (iI i) (iI j) = _
    have w : (nr : Int) ≤ j := by omega
    have e0 : td i = none := by
      cases ht : td i with
      | none => rfl
      | some r =>
        obtain ⟨g1, g2, g3⟩ := (hI.2 i hi).2 r ht
        exact absurd (hp r (by omega) g2) g3
    rw [e0]
    simp (disch := omega) [oI, oR, qI, qZ, qR, rc, lit, iI_add, iI_sub, iI_mul, iI_neg, iI_le, iI_lt, iI_eq, v_isW, v_inW, bz, HR, Sk_rw hS, fX12_tiedTo_b2_body, c2, w, od]
  | succ d ih =>
    intro j fu hj hf hp
    obtain ⟨fu, rfl⟩ : ∃ k, fu = k + 1 := ⟨fu - 1, by omega⟩
    show fX12_tiedTo_b2_body N (fX12_tiedTo_b2 N 29 fu) 29 h (iI i) (iI j) = _
    have w : ¬ (nr : Int) ≤ j := by omega
    have e1 : ixb (iI (j : Int)) 40 = true := ixb_i (by omega) (by omega) (by omega)
    have e2 : (iI (j : Int)).toNatClampNeg = j := by rw [iI_cl (by omega) (by omega)]; simp
    obtain ⟨-, -, ⟨m0, m1, m2, m3, m4⟩, q1, -⟩ := hR.2.1 j (by omega)
    obtain ⟨i1, i2, i3⟩ := hI.1 j (by omega)
    by_cases w1 : rT j = i
    · have w1' : ((rT j : Nat) : Int) = (i : Int) := by omega
      cases hdr : dr j with
      | none =>
        have q := ih (j + 1) fu (by omega) (by omega) (fun r hr h9 => by
          by_cases er : r = j
          · rw [er]; exact hdr
          · exact hp r (by omega) h9)
        simp only [Int.natCast_add, Int.natCast_one] at q
        rw [hdr] at i2
        simp only [od] at i2
        rw [← q]
        simp (disch := omega) [oI, oR, qI, qZ, qR, rc, lit, iI_add, iI_sub, iI_mul, iI_neg, iI_le, iI_lt, iI_eq, v_isW, v_inW, bz, HR, Sk_rw hS, fX12_tiedTo_b2_body, fX12_tiedTo_b31, lA, c2, w, e1, e2, m0, w1', i2]
      | some d0 =>
        obtain ⟨j1, -, -, -, -, j6⟩ := i3 d0 hdr
        rw [w1] at j6
        rw [hdr] at i2
        simp only [od] at i2
        have w2 : ¬ (d0 : Int) < 0 := by omega
        rw [j6]
        simp (disch := omega) [oI, oR, qI, qZ, qR, rc, lit, iI_add, iI_sub, iI_mul, iI_neg, iI_le, iI_lt, iI_eq, v_isW, v_inW, bz, HR, Sk_rw hS, fX12_tiedTo_b2_body, fX12_tiedTo_b31, lA, c2, w, e1, e2, m0, w1', i2, w2, od]
    · have w1' : ¬ ((rT j : Nat) : Int) = (i : Int) := by omega
      have q := ih (j + 1) fu (by omega) (by omega) (fun r hr h9 => by
        by_cases er : r = j
        · rw [er] at h9; exact absurd h9 w1
        · exact hp r (by omega) h9)
      simp only [Int.natCast_add, Int.natCast_one] at q
      rw [← q]
      simp (disch := omega) [oI, oR, qI, qZ, qR, rc, lit, iI_add, iI_sub, iI_mul, iI_neg, iI_le, iI_lt, iI_eq, v_isW, v_inW, bz, HR, Sk_rw hS, fX12_tiedTo_b2_body, fX12_tiedTo_b31, lA, c2, w, e1, e2, m0, w1']
theorem v_tiedTo {N : Nat} (hN : 100000000 ≤ N) {h : Hs} (hS : Sk h) {nr nt nd : Nat} {rA tA dA rT : Nat → Nat} {wy gr hd : Nat → Int} {gn : Nat → Bool} {dr td : Nat → Option Nat} {sr dn : Nat → Int} (hR : RRo h nr nt rA tA rT wy gr hd gn) (hI : RTi h nt nd nr tA dA rA rT dr td sr dn) (hnd : nd ≤ 20) (hnt : nt ≤ 40) {i : Nat} (hi : i < nt) : fX12_tiedTo N h 29 (iI i) = some (iI (od (td i)), h) := by
  have c3 := hR.1.2.2
  have q := L_tiedTo (N := N) hS hR hI hnd hnt hi nr 0 N (by omega) (by omega) (fun r hr => absurd hr (by omega))
  simp only [Int.natCast_zero] at q
  simp only [fX12_tiedTo, lit, q]
theorem t_ofThing {N : Nat} (hN : 100000000 ≤ N) {h : Hs} (hS : Sk h) {nr nt nd : Nat} {rA tA dA rT : Nat → Nat} {wy gr hd : Nat → Int} {gn : Nat → Bool} {tl tw tg ls ms pa ds : Nat → Int} {dr td : Nat → Option Nat} {sr dn : Nat → Int} (hT : RTh h nt tA tl tw tg ls ms pa) (hD : RDr h nd dA ds) (hR : RRo h nr nt rA tA rT wy gr hd gn) (hI : RTi h nt nd nr tA dA rA rT dr td sr dn) (p1 p2 : Int32) : ∃ r, fX11_ofThing N h 0 p1 p2 = some (r, h) ∧ fX12_ofThing N h 29 p1 p2 = some (r, h) := by
  obtain ⟨z, z1, z2, rfl⟩ := iI_ex p1
  obtain ⟨x, x1, x2, rfl⟩ := iI_ex p2
  have c3 := hT.1.2.2
  have ir := v_isThing (N := N) hS hT.1.2.1 c3 z1 z2
  by_cases w : 0 ≤ z ∧ z ≤ (nt : Int) - 1
  · obtain ⟨i, rfl⟩ : ∃ i : Nat, z = i := ⟨z.toNat, by omega⟩
    have hi : i < nt := by omega
    rw [if_pos w] at ir
    have ry := v_thingY (N := N) hS hT hi
    have tt := v_tiedTo hN hS hR hI hD.1.2.2 c3 hi
    have e1 : ixb (iI (i : Int)) 40 = true := ixb_i (by omega) (by omega) (by omega)
    have e2 : (iI (i : Int)).toNatClampNeg = i := by rw [iI_cl (by omega) (by omega)]; simp
    obtain ⟨⟨-, -, -, d4⟩, ⟨f0, f1, f2, f3, f4, f5, f7⟩, ⟨m0, m1, m2, m3, m4, m5⟩, -⟩ := hT.2.1 i hi
    obtain ⟨i1, i2⟩ := hI.2 i hi
    have n10 : ¬ iI 1 = iI 0 := by decide
    by_cases a0 : x = 0
    · subst a0
      refine ⟨iI (tl i), ?_, ?_⟩
      · simp (disch := omega) [oI, oR, qI, qZ, qR, rc, lit, iI_add, iI_sub, iI_mul, iI_neg, iI_le, iI_lt, iI_eq, v_isW, v_inW, bz, HR, Sk_rw hS, fX11_ofThing, fX11_ofThing_b23, ry, d4, fX9_tell, f1]
      · simp (disch := omega) [oI, oR, qI, qZ, qR, rc, lit, iI_add, iI_sub, iI_mul, iI_neg, iI_le, iI_lt, iI_eq, v_isW, v_inW, bz, HR, Sk_rw hS, fX12_ofThing, ir, lA, e1, e2, m0, n10]
    · by_cases a1 : x = 1
      · subst a1
        refine ⟨iI (tw i), ?_, ?_⟩
        · simp (disch := omega) [oI, oR, qI, qZ, qR, rc, lit, iI_add, iI_sub, iI_mul, iI_neg, iI_le, iI_lt, iI_eq, v_isW, v_inW, bz, HR, Sk_rw hS, fX11_ofThing, fX11_ofThing_b23, ry, d4, fX9_tell, f2]
        · simp (disch := omega) [oI, oR, qI, qZ, qR, rc, lit, iI_add, iI_sub, iI_mul, iI_neg, iI_le, iI_lt, iI_eq, v_isW, v_inW, bz, HR, Sk_rw hS, fX12_ofThing, ir, lA, e1, e2, m1, n10]
      · by_cases a2 : x = 2
        · subst a2
          refine ⟨iI (tg i), ?_, ?_⟩
          · simp (disch := omega) [oI, oR, qI, qZ, qR, rc, lit, iI_add, iI_sub, iI_mul, iI_neg, iI_le, iI_lt, iI_eq, v_isW, v_inW, bz, HR, Sk_rw hS, fX11_ofThing, fX11_ofThing_b23, ry, d4, fX9_tell, f3]
          · simp (disch := omega) [oI, oR, qI, qZ, qR, rc, lit, iI_add, iI_sub, iI_mul, iI_neg, iI_le, iI_lt, iI_eq, v_isW, v_inW, bz, HR, Sk_rw hS, fX12_ofThing, ir, lA, e1, e2, m2, n10]
        · by_cases a3 : x = 3
          · subst a3
            refine ⟨iI (pa i), ?_, ?_⟩
            · simp (disch := omega) [oI, oR, qI, qZ, qR, rc, lit, iI_add, iI_sub, iI_mul, iI_neg, iI_le, iI_lt, iI_eq, v_isW, v_inW, bz, HR, Sk_rw hS, fX11_ofThing, fX11_ofThing_b23, ry, d4, fX9_tell, f7]
            · simp (disch := omega) [oI, oR, qI, qZ, qR, rc, lit, iI_add, iI_sub, iI_mul, iI_neg, iI_le, iI_lt, iI_eq, v_isW, v_inW, bz, HR, Sk_rw hS, fX12_ofThing, ir, lA, e1, e2, m3, n10]
          · by_cases a4 : x = 4
            · subst a4
              refine ⟨iI (ls i), ?_, ?_⟩
              · simp (disch := omega) [oI, oR, qI, qZ, qR, rc, lit, iI_add, iI_sub, iI_mul, iI_neg, iI_le, iI_lt, iI_eq, v_isW, v_inW, bz, HR, Sk_rw hS, fX11_ofThing, fX11_ofThing_b23, ry, d4, fX9_tell, f4]
              · simp (disch := omega) [oI, oR, qI, qZ, qR, rc, lit, iI_add, iI_sub, iI_mul, iI_neg, iI_le, iI_lt, iI_eq, v_isW, v_inW, bz, HR, Sk_rw hS, fX12_ofThing, ir, lA, e1, e2, m4, n10]
            · by_cases a5 : x = 5
              · subst a5
                refine ⟨iI (ms i), ?_, ?_⟩
                · simp (disch := omega) [oI, oR, qI, qZ, qR, rc, lit, iI_add, iI_sub, iI_mul, iI_neg, iI_le, iI_lt, iI_eq, v_isW, v_inW, bz, HR, Sk_rw hS, fX11_ofThing, fX11_ofThing_b23, ry, d4, fX9_tell, f5]
                · simp (disch := omega) [oI, oR, qI, qZ, qR, rc, lit, iI_add, iI_sub, iI_mul, iI_neg, iI_le, iI_lt, iI_eq, v_isW, v_inW, bz, HR, Sk_rw hS, fX12_ofThing, ir, lA, e1, e2, m5, n10]
              · by_cases a6 : x = 6
                · subst a6
                  refine ⟨iI (od (td i)), ?_, ?_⟩
                  · cases ht : td i with
                    | none =>
                      rw [ht] at i1
                      simp (disch := omega) [oI, oR, qI, qZ, qR, rc, lit, iI_add, iI_sub, iI_mul, iI_neg, iI_le, iI_lt, iI_eq, v_isW, v_inW, bz, HR, Sk_rw hS, fX11_ofThing, fX11_ofThing_b23, ry, d4, fX9_tell, fX9_tell_b96, i1, od]
                    | some r =>
                      rw [ht] at i1
                      obtain ⟨⟨-, -, -, u4⟩, ⟨u0, -⟩, -⟩ := hR.2.1 r (i2 r ht).1
                      simp (disch := omega) [oI, oR, qI, qZ, qR, rc, lit, iI_add, iI_sub, iI_mul, iI_neg, iI_le, iI_lt, iI_eq, v_isW, v_inW, bz, HR, Sk_rw hS, fX11_ofThing, fX11_ofThing_b23, ry, d4, fX9_tell, fX9_tell_b96, i1, od, u4, u0]
                  · simp (disch := omega) [oI, oR, qI, qZ, qR, rc, lit, iI_add, iI_sub, iI_mul, iI_neg, iI_le, iI_lt, iI_eq, v_isW, v_inW, bz, HR, Sk_rw hS, fX12_ofThing, ir, tt, n10]
                · by_cases a7 : x = 7
                  · subst a7
                    cases ht : td i with
                    | none =>
                      rw [ht] at i1 tt
                      simp only [od] at tt
                      refine ⟨iI (-1), ?_, ?_⟩
                      · simp (disch := omega) [oI, oR, qI, qZ, qR, rc, lit, iI_add, iI_sub, iI_mul, iI_neg, iI_le, iI_lt, iI_eq, v_isW, v_inW, bz, HR, Sk_rw hS, fX11_ofThing, fX11_ofThing_b23, ry, d4, fX9_tell, fX9_tell_b115, i1]
                      · simp (disch := omega) [oI, oR, qI, qZ, qR, rc, lit, iI_add, iI_sub, iI_mul, iI_neg, iI_le, iI_lt, iI_eq, v_isW, v_inW, bz, HR, Sk_rw hS, fX12_ofThing, fX12_ofThing_b126, ir, tt, n10]
                    | some r =>
                      rw [ht] at i1 tt
                      simp only [od] at tt
                      obtain ⟨k1, k2, k3⟩ := i2 r ht
                      obtain ⟨⟨-, -, -, u4⟩, ⟨u0, -⟩, -⟩ := hR.2.1 r k1
                      obtain ⟨d0, hd0⟩ : ∃ d0, dr r = some d0 := Option.ne_none_iff_exists'.mp k3
                      obtain ⟨j1, j2, j3, j4, j5, j6⟩ := (hI.1 r k1).2.2 d0 hd0
                      rw [k2] at j5
                      have c9 := hR.1.2.2
                      have j7 : (0 : Int) ≤ r := by omega
                      refine ⟨iI (sr r), ?_, ?_⟩
                      · simp (disch := omega) [oI, oR, qI, qZ, qR, rc, lit, iI_add, iI_sub, iI_mul, iI_neg, iI_le, iI_lt, iI_eq, v_isW, v_inW, bz, HR, Sk_rw hS, fX11_ofThing, fX11_ofThing_b23, ry, d4, fX9_tell, fX9_tell_b115, i1, u4, j2]
                      · simp (disch := omega) [oI, oR, qI, qZ, qR, rc, lit, iI_add, iI_sub, iI_mul, iI_neg, iI_le, iI_lt, iI_eq, v_isW, v_inW, bz, HR, Sk_rw hS, fX12_ofThing, fX12_ofThing_b126, ir, tt, lA, e1, e2, n10, j5, j7]
                  · refine ⟨iI (-2), ?_, ?_⟩
                    · simp (disch := omega) [oI, oR, qI, qZ, qR, rc, lit, iI_add, iI_sub, iI_mul, iI_neg, iI_le, iI_lt, iI_eq, v_isW, v_inW, bz, HR, Sk_rw hS, fX11_ofThing, fX11_ofThing_b23, ry, d4, fX9_tell, a0, a1, a2, a3, a4, a5, a6, a7]
                    · simp (disch := omega) [oI, oR, qI, qZ, qR, rc, lit, iI_add, iI_sub, iI_mul, iI_neg, iI_le, iI_lt, iI_eq, v_isW, v_inW, bz, HR, Sk_rw hS, fX12_ofThing, ir, n10, a0, a1, a2, a3, a4, a5, a6, a7]
  · rw [if_neg w] at ir
    have rn := v_thingN (N := N) hS hT z1 z2 w
    refine ⟨iI (-2), ?_, ?_⟩
    · simp (disch := omega) [oI, oR, qI, qZ, qR, rc, lit, iI_add, iI_sub, iI_mul, iI_neg, iI_le, iI_lt, iI_eq, v_isW, v_inW, bz, HR, Sk_rw hS, fX11_ofThing, fX11_ofThing_b23, rn]
    · simp only [fX12_ofThing, rc, Sk_rw hS, if_true, Option.bind_some, ir, lit, iI_neg]
