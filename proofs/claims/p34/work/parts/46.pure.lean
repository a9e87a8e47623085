theorem L_tiedTo {N : Nat} {h : Hs} (hS : Sk h) {nr nt nd : Nat} {rA tA dA rT : Nat → Nat} {wy gr hd : Nat → Int} {gn : Nat → Bool} {dr td : Nat → Option Nat} {sr dn : Nat → Int} (hR : RRo h nr nt rA tA rT wy gr hd gn) (hI : RTi h nt nd nr tA dA rA rT dr td sr dn) (hnd : nd ≤ 20) (hnt : nt ≤ 40) {i : Nat} (hi : i < nt) : ∀ (d j : Nat) (fu : Nat), j + d = nr → d < fu → (∀ r, r < j → rT r = i → dr r = none) → fX12_tiedTo_b2 N 29 fu h (iI i) (iI j) = some (iI (od (td i)), h) := by
  have c3 := hR.1.2.2
  have c2 := hR.1.2.1
  intro d
  induction d with
  | zero =>
    intro j fu hj hf hp
    obtain ⟨fu, rfl⟩ : ∃ k, fu = k + 1 := ⟨fu - 1, by omega⟩
    show fX12_tiedTo_b2_body N (fX12_tiedTo_b2 N 29 fu) 29 h (iI i) (iI j) = _
    have w : (nr : Int) ≤ j := by omega
    have e0 : td i = none := by
      cases ht : td i with
      | none => rfl
      | some r =>
        obtain ⟨g1, g2, g3⟩ := (hI.2 i hi).2 r ht
        exact absurd (hp r (by omega) g2) g3
    rw [e0]
    simp (disch := omega) [oI, oR, qI, qZ, qR, rc, lit, iI_add, iI_sub, iI_mul, iI_neg, iI_le, iI_lt, iI_eq, v_isW, v_inW, bz, HR, sk_29 hS, sk_108 hS, sk_112 hS, fX12_tiedTo_b2_body, c2, w, od]
  | succ d ih =>
    intro j fu hj hf hp
    obtain ⟨fu, rfl⟩ : ∃ k, fu = k + 1 := ⟨fu - 1, by omega⟩
    show fX12_tiedTo_b2_body N (fX12_tiedTo_b2 N 29 fu) 29 h (iI i) (iI j) = _
    have w : ¬ (nr : Int) ≤ j := by omega
    have e1 : ixb (iI (j : Int)) 40 = true := ixb_i (by omega) (by omega) (by omega)
    have e2 : (iI (j : Int)).toNatClampNeg = j := by rw [iI_cl (by omega) (by omega)]; simp
    obtain ⟨-, -, ⟨m0, m1, m2, m3, m4⟩, q1, -⟩ := hR.2.1 j (by omega)
    obtain ⟨i1, i2, i3⟩ := hI.1 j (by omega)
    by_cases w1 : rT j = i
    · have w1' : ((rT j : Nat) : Int) = (i : Int) := by omega
      cases hdr : dr j with
      | none =>
        have q := ih (j + 1) fu (by omega) (by omega) (fun r hr h9 => by
          by_cases er : r = j
          · rw [er]; exact hdr
          · exact hp r (by omega) h9)
        simp only [Int.natCast_add, Int.natCast_one] at q
        rw [hdr] at i2
        simp only [od] at i2
        rw [← q]
        simp (disch := omega) [oI, oR, qI, qZ, qR, rc, lit, iI_add, iI_sub, iI_mul, iI_neg, iI_le, iI_lt, iI_eq, v_isW, v_inW, bz, HR, sk_29 hS, sk_38 hS, sk_42 hS, sk_108 hS, sk_112 hS, fX12_tiedTo_b2_body, fX12_tiedTo_b31, lA, c2, w, e1, e2, m0, w1', i2]
      | some d0 =>
        obtain ⟨j1, -, -, -, -, j6⟩ := i3 d0 hdr
        rw [w1] at j6
        rw [hdr] at i2
        simp only [od] at i2
        have w2 : ¬ (d0 : Int) < 0 := by omega
        rw [j6]
        simp (disch := omega) [oI, oR, qI, qZ, qR, rc, lit, iI_add, iI_sub, iI_mul, iI_neg, iI_le, iI_lt, iI_eq, v_isW, v_inW, bz, HR, sk_29 hS, sk_38 hS, sk_42 hS, sk_108 hS, sk_112 hS, fX12_tiedTo_b2_body, fX12_tiedTo_b31, lA, c2, w, e1, e2, m0, w1', i2, w2, od]
    · have w1' : ¬ ((rT j : Nat) : Int) = (i : Int) := by omega
      have q := ih (j + 1) fu (by omega) (by omega) (fun r hr h9 => by
        by_cases er : r = j
        · rw [er] at h9; exact absurd h9 w1
        · exact hp r (by omega) h9)
      simp only [Int.natCast_add, Int.natCast_one] at q
      rw [← q]
      simp (disch := omega) [oI, oR, qI, qZ, qR, rc, lit, iI_add, iI_sub, iI_mul, iI_neg, iI_le, iI_lt, iI_eq, v_isW, v_inW, bz, HR, sk_29 hS, sk_38 hS, sk_42 hS, sk_108 hS, sk_112 hS, fX12_tiedTo_b2_body, fX12_tiedTo_b31, lA, c2, w, e1, e2, m0, w1']
theorem v_tiedTo {N : Nat} (hN : 100000000 ≤ N) {h : Hs} (hS : Sk h) {nr nt nd : Nat} {rA tA dA rT : Nat → Nat} {wy gr hd : Nat → Int} {gn : Nat → Bool} {dr td : Nat → Option Nat} {sr dn : Nat → Int} (hR : RRo h nr nt rA tA rT wy gr hd gn) (hI : RTi h nt nd nr tA dA rA rT dr td sr dn) (hnd : nd ≤ 20) (hnt : nt ≤ 40) {i : Nat} (hi : i < nt) : fX12_tiedTo N h 29 (iI i) = some (iI (od (td i)), h) := by
  have c3 := hR.1.2.2
  have q := L_tiedTo (N := N) hS hR hI hnd hnt hi nr 0 N (by omega) (by omega) (fun r hr => absurd hr (by omega))
  simp only [Int.natCast_zero] at q
  simp only [fX12_tiedTo, lit, q]
theorem t_ofThing {N : Nat} (hN : 100000000 ≤ N) {h : Hs} (hS : Sk h) {nr nt nd : Nat} {rA tA dA rT : Nat → Nat} {wy gr hd : Nat → Int} {gn : Nat → Bool} {tl tw tg ls ms pa ds : Nat → Int} {dr td : Nat → Option Nat} {sr dn : Nat → Int} (hT : RTh h nt tA tl tw tg ls ms pa) (hD : RDr h nd dA ds) (hR : RRo h nr nt rA tA rT wy gr hd gn) (hI : RTi h nt nd nr tA dA rA rT dr td sr dn) (p1 p2 : Int32) : ∃ r, fX11_ofThing N h 0 p1 p2 = some (r, h) ∧ fX12_ofThing N h 29 p1 p2 = some (r, h) := by
  obtain ⟨z, z1, z2, rfl⟩ := iI_ex p1
  obtain ⟨x, x1, x2, rfl⟩ := iI_ex p2
  have c3 := hT.1.2.2
  have ir := v_isThing (N := N) hS hT.1.2.1 c3 z1 z2
  by_cases w : 0 ≤ z ∧ z ≤ (nt : Int) - 1
  · obtain ⟨i, rfl⟩ : ∃ i : Nat, z = i := ⟨z.toNat, by omega⟩
    have hi : i < nt := by omega
    rw [if_pos w] at ir
    have ry := v_thingY (N := N) hS hT hi
    have tt := v_tiedTo hN hS hR hI hD.1.2.2 c3 hi
    have e1 : ixb (iI (i : Int)) 40 = true := ixb_i (by omega) (by omega) (by omega)
    have e2 : (iI (i : Int)).toNatClampNeg = i := by rw [iI_cl (by omega) (by omega)]; simp
    obtain ⟨⟨-, -, -, d4⟩, ⟨f0, f1, f2, f3, f4, f5, f7⟩, ⟨m0, m1, m2, m3, m4, m5⟩, -⟩ := hT.2.1 i hi
    obtain ⟨i1, i2⟩ := hI.2 i hi
    have n10 : ¬ iI 1 = iI 0 := by decide
    by_cases a0 : x = 0
    · subst a0
      refine ⟨iI (tl i), ?_, ?_⟩
      · simp (disch := omega) [oI, oR, qI, qZ, qR, rc, lit, iI_add, iI_sub, iI_mul, iI_neg, iI_le, iI_lt, iI_eq, v_isW, v_inW, bz, HR, sk_0 hS, sk_14 hS, sk_94 hS, fX11_ofThing, fX11_ofThing_b23, ry, d4, fX9_tell, f1]
      · simp (disch := omega) [oI, oR, qI, qZ, qR, rc, lit, iI_add, iI_sub, iI_mul, iI_neg, iI_le, iI_lt, iI_eq, v_isW, v_inW, bz, HR, sk_29 hS, sk_30 hS, sk_100 hS, fX12_ofThing, ir, lA, e1, e2, m0, n10]
    · by_cases a1 : x = 1
      · subst a1
        refine ⟨iI (tw i), ?_, ?_⟩
        · simp (disch := omega) [oI, oR, qI, qZ, qR, rc, lit, iI_add, iI_sub, iI_mul, iI_neg, iI_le, iI_lt, iI_eq, v_isW, v_inW, bz, HR, sk_0 hS, sk_14 hS, sk_94 hS, fX11_ofThing, fX11_ofThing_b23, ry, d4, fX9_tell, f2]
        · simp (disch := omega) [oI, oR, qI, qZ, qR, rc, lit, iI_add, iI_sub, iI_mul, iI_neg, iI_le, iI_lt, iI_eq, v_isW, v_inW, bz, HR, sk_29 hS, sk_31 hS, sk_101 hS, fX12_ofThing, ir, lA, e1, e2, m1, n10]
      · by_cases a2 : x = 2
        · subst a2
          refine ⟨iI (tg i), ?_, ?_⟩
          · simp (disch := omega) [oI, oR, qI, qZ, qR, rc, lit, iI_add, iI_sub, iI_mul, iI_neg, iI_le, iI_lt, iI_eq, v_isW, v_inW, bz, HR, sk_0 hS, sk_14 hS, sk_94 hS, fX11_ofThing, fX11_ofThing_b23, ry, d4, fX9_tell, f3]
          · simp (disch := omega) [oI, oR, qI, qZ, qR, rc, lit, iI_add, iI_sub, iI_mul, iI_neg, iI_le, iI_lt, iI_eq, v_isW, v_inW, bz, HR, sk_29 hS, sk_32 hS, sk_102 hS, fX12_ofThing, ir, lA, e1, e2, m2, n10]
        · by_cases a3 : x = 3
          · subst a3
            refine ⟨iI (pa i), ?_, ?_⟩
            · simp (disch := omega) [oI, oR, qI, qZ, qR, rc, lit, iI_add, iI_sub, iI_mul, iI_neg, iI_le, iI_lt, iI_eq, v_isW, v_inW, bz, HR, sk_0 hS, sk_14 hS, sk_94 hS, fX11_ofThing, fX11_ofThing_b23, ry, d4, fX9_tell, f7]
            · simp (disch := omega) [oI, oR, qI, qZ, qR, rc, lit, iI_add, iI_sub, iI_mul, iI_neg, iI_le, iI_lt, iI_eq, v_isW, v_inW, bz, HR, sk_29 hS, sk_33 hS, sk_103 hS, fX12_ofThing, ir, lA, e1, e2, m3, n10]
          · by_cases a4 : x = 4
            · subst a4
              refine ⟨iI (ls i), ?_, ?_⟩
              · simp (disch := omega) [oI, oR, qI, qZ, qR, rc, lit, iI_add, iI_sub, iI_mul, iI_neg, iI_le, iI_lt, iI_eq, v_isW, v_inW, bz, HR, sk_0 hS, sk_14 hS, sk_94 hS, fX11_ofThing, fX11_ofThing_b23, ry, d4, fX9_tell, f4]
              · simp (disch := omega) [oI, oR, qI, qZ, qR, rc, lit, iI_add, iI_sub, iI_mul, iI_neg, iI_le, iI_lt, iI_eq, v_isW, v_inW, bz, HR, sk_29 hS, sk_34 hS, sk_104 hS, fX12_ofThing, ir, lA, e1, e2, m4, n10]
            · by_cases a5 : x = 5
              · subst a5
                refine ⟨iI (ms i), ?_, ?_⟩
                · simp (disch := omega) [oI, oR, qI, qZ, qR, rc, lit, iI_add, iI_sub, iI_mul, iI_neg, iI_le, iI_lt, iI_eq, v_isW, v_inW, bz, HR, sk_0 hS, sk_14 hS, sk_94 hS, fX11_ofThing, fX11_ofThing_b23, ry, d4, fX9_tell, f5]
                · simp (disch := omega) [oI, oR, qI, qZ, qR, rc, lit, iI_add, iI_sub, iI_mul, iI_neg, iI_le, iI_lt, iI_eq, v_isW, v_inW, bz, HR, sk_29 hS, sk_35 hS, sk_105 hS, fX12_ofThing, ir, lA, e1, e2, m5, n10]
              · by_cases a6 : x = 6
                · subst a6
                  refine ⟨iI (od (td i)), ?_, ?_⟩
                  · cases ht : td i with
                    | none =>
                      rw [ht] at i1
                      simp (disch := omega) [oI, oR, qI, qZ, qR, rc, lit, iI_add, iI_sub, iI_mul, iI_neg, iI_le, iI_lt, iI_eq, v_isW, v_inW, bz, HR, sk_0 hS, sk_14 hS, sk_94 hS, fX11_ofThing, fX11_ofThing_b23, ry, d4, fX9_tell, fX9_tell_b96, i1, od]
                    | some r =>
                      rw [ht] at i1
                      obtain ⟨⟨-, -, -, u4⟩, ⟨u0, -⟩, -⟩ := hR.2.1 r (i2 r ht).1
                      simp (disch := omega) [oI, oR, qI, qZ, qR, rc, lit, iI_add, iI_sub, iI_mul, iI_neg, iI_le, iI_lt, iI_eq, v_isW, v_inW, bz, HR, sk_0 hS, sk_14 hS, sk_94 hS, fX11_ofThing, fX11_ofThing_b23, ry, d4, fX9_tell, fX9_tell_b96, i1, od, u4, u0]
                  · simp (disch := omega) [oI, oR, qI, qZ, qR, rc, lit, iI_add, iI_sub, iI_mul, iI_neg, iI_le, iI_lt, iI_eq, v_isW, v_inW, bz, HR, sk_29 hS, fX12_ofThing, ir, tt, n10]
                · by_cases a7 : x = 7
                  · subst a7
                    cases ht : td i with
                    | none =>
                      rw [ht] at i1 tt
                      simp only [od] at tt
                      refine ⟨iI (-1), ?_, ?_⟩
                      · simp (disch := omega) [oI, oR, qI, qZ, qR, rc, lit, iI_add, iI_sub, iI_mul, iI_neg, iI_le, iI_lt, iI_eq, v_isW, v_inW, bz, HR, sk_0 hS, sk_14 hS, sk_94 hS, fX11_ofThing, fX11_ofThing_b23, ry, d4, fX9_tell, fX9_tell_b115, i1]
                      · simp (disch := omega) [oI, oR, qI, qZ, qR, rc, lit, iI_add, iI_sub, iI_mul, iI_neg, iI_le, iI_lt, iI_eq, v_isW, v_inW, bz, HR, sk_29 hS, fX12_ofThing, fX12_ofThing_b126, ir, tt, n10]
                    | some r =>
                      rw [ht] at i1 tt
                      simp only [od] at tt
                      obtain ⟨k1, k2, k3⟩ := i2 r ht
                      obtain ⟨⟨-, -, -, u4⟩, ⟨u0, -⟩, -⟩ := hR.2.1 r k1
                      obtain ⟨d0, hd0⟩ : ∃ d0, dr r = some d0 := Option.ne_none_iff_exists'.mp k3
                      obtain ⟨j1, j2, j3, j4, j5, j6⟩ := (hI.1 r k1).2.2 d0 hd0
                      rw [k2] at j5
                      have c9 := hR.1.2.2
                      have j7 : (0 : Int) ≤ r := by omega
                      refine ⟨iI (sr r), ?_, ?_⟩
                      · simp (disch := omega) [oI, oR, qI, qZ, qR, rc, lit, iI_add, iI_sub, iI_mul, iI_neg, iI_le, iI_lt, iI_eq, v_isW, v_inW, bz, HR, sk_0 hS, sk_14 hS, sk_94 hS, fX11_ofThing, fX11_ofThing_b23, ry, d4, fX9_tell, fX9_tell_b115, i1, u4, j2]
                      · simp (disch := omega) [oI, oR, qI, qZ, qR, rc, lit, iI_add, iI_sub, iI_mul, iI_neg, iI_le, iI_lt, iI_eq, v_isW, v_inW, bz, HR, sk_29 hS, sk_36 hS, sk_106 hS, fX12_ofThing, fX12_ofThing_b126, ir, tt, lA, e1, e2, n10, j5, j7]
                  · refine ⟨iI (-2), ?_, ?_⟩
                    · simp (disch := omega) [oI, oR, qI, qZ, qR, rc, lit, iI_add, iI_sub, iI_mul, iI_neg, iI_le, iI_lt, iI_eq, v_isW, v_inW, bz, HR, sk_0 hS, sk_14 hS, sk_94 hS, fX11_ofThing, fX11_ofThing_b23, ry, d4, fX9_tell, a0, a1, a2, a3, a4, a5, a6, a7]
                    · simp (disch := omega) [oI, oR, qI, qZ, qR, rc, lit, iI_add, iI_sub, iI_mul, iI_neg, iI_le, iI_lt, iI_eq, v_isW, v_inW, bz, HR, sk_29 hS, fX12_ofThing, ir, n10, a0, a1, a2, a3, a4, a5, a6, a7]
  · rw [if_neg w] at ir
    have rn := v_thingN (N := N) hS hT z1 z2 w
    refine ⟨iI (-2), ?_, ?_⟩
    · simp (disch := omega) [oI, oR, qI, qZ, qR, rc, lit, iI_add, iI_sub, iI_mul, iI_neg, iI_le, iI_lt, iI_eq, v_isW, v_inW, bz, HR, sk_0 hS, sk_14 hS, sk_94 hS, fX11_ofThing, fX11_ofThing_b23, rn]
    · simp only [fX12_ofThing, rc, sk_29 hS, if_true, Option.bind_some, ir, lit, iI_neg]
/-! ===== ties by halves: the class's, the reference's, and what holds of the names themselves ===== -/
def RTc (h : Hs) (nt nr : Nat) (tA dA rA : Nat → Nat) (dr td : Nat → Option Nat) (sr dn : Nat → Int) : Prop :=
  (∀ r, r < nr → gR h 405 (rA r) = (dr r).map dA ∧ (dr r ≠ none → gI h 406 (rA r) = iI (sr r) ∧ gI h 407 (rA r) = iI (dn r))) ∧ (∀ i, i < nt → gR h 909 (tA i) = (td i).map rA)
def RTm (h : Hs) (nr : Nat) (rT : Nat → Nat) (dr : Nat → Option Nat) (sr dn : Nat → Int) : Prop :=
  ∀ r, r < nr → aI h 42 r = iI (od (dr r)) ∧ (dr r ≠ none → aI h 43 r = iI (dn r) ∧ aI h 36 (rT r) = iI (sr r))
def RTl (nt nd nr : Nat) (rT : Nat → Nat) (dr td : Nat → Option Nat) : Prop :=
  (∀ r d, r < nr → dr r = some d → d < nd ∧ td (rT r) = some r) ∧ (∀ i r, i < nt → td i = some r → r < nr ∧ rT r = i ∧ dr r ≠ none)
theorem RTi_iff {h : Hs} {nt nd nr : Nat} {tA dA rA rT : Nat → Nat} {dr td : Nat → Option Nat} {sr dn : Nat → Int} : RTi h nt nd nr tA dA rA rT dr td sr dn ↔ RTc h nt nr tA dA rA dr td sr dn ∧ RTm h nr rT dr sr dn ∧ RTl nt nd nr rT dr td := by
  constructor
  · rintro ⟨c1, c2⟩
    refine ⟨⟨fun r hr => ⟨(c1 r hr).1, fun hn => ?_⟩, fun i hi => (c2 i hi).1⟩, fun r hr => ⟨(c1 r hr).2.1, fun hn => ?_⟩, fun r d hr hd => ?_, fun i r hi hr => (c2 i hi).2 r hr⟩
    · obtain ⟨d0, hd0⟩ := Option.ne_none_iff_exists'.mp hn
      obtain ⟨g1, g2, g3, g4, g5, g6⟩ := (c1 r hr).2.2 d0 hd0
      exact ⟨g2, g3⟩
    · obtain ⟨d0, hd0⟩ := Option.ne_none_iff_exists'.mp hn
      obtain ⟨g1, g2, g3, g4, g5, g6⟩ := (c1 r hr).2.2 d0 hd0
      exact ⟨g4, g5⟩
    · obtain ⟨g1, g2, g3, g4, g5, g6⟩ := (c1 r hr).2.2 d hd
      exact ⟨g1, g6⟩
  · rintro ⟨⟨c1, c2⟩, m1, l1, l2⟩
    refine ⟨fun r hr => ⟨(c1 r hr).1, (m1 r hr).1, fun d hd => ?_⟩, fun i hi => ⟨c2 i hi, fun r hr => l2 i r hi hr⟩⟩
    have hn : dr r ≠ none := by rw [hd]; exact fun q => by cases q
    exact ⟨(l1 r d hr hd).1, ((c1 r hr).2 hn).1, ((c1 r hr).2 hn).2, ((m1 r hr).2 hn).1, ((m1 r hr).2 hn).2, (l1 r d hr hd).2⟩
theorem RTc.e {F A FR AQ : List Nat} {h h2 : Hs} {nt nr : Nat} {tA dA rA : Nat → Nat} {dr td : Nat → Option Nat} {sr dn : Nat → Int} (hC : RTc h nt nr tA dA rA dr td sr dn) (ht : ∀ i, i < nt → tA i < sz h) (hr : ∀ r, r < nr → rA r < sz h) (k : Ke F A FR AQ h h2) (hF : ∀ f ∈ [406, 407], f ∉ F) (hR : ∀ f ∈ [405, 909], f ∉ FR) : RTc h2 nt nr tA dA rA dr td sr dn := by
  obtain ⟨c1, c2⟩ := hC
  refine ⟨fun r hr' => ?_, fun i hi => ?_⟩
  · rw [k.2.2.1 _ _ (hR 405 (by decide)) (hr r hr'), k.1 _ _ (hF 406 (by decide)) (hr r hr'), k.1 _ _ (hF 407 (by decide)) (hr r hr')]
    exact c1 r hr'
  · rw [k.2.2.1 _ _ (hR 909 (by decide)) (ht i hi)]
    exact c2 i hi
theorem RTm.e {F A FR AQ : List Nat} {h h2 : Hs} {nr : Nat} {rT : Nat → Nat} {dr : Nat → Option Nat} {sr dn : Nat → Int} (hC : RTm h nr rT dr sr dn) (hz : 70 ≤ sz h) (k : Ke F A FR AQ h h2) (hA : ∀ a ∈ [36, 42, 43], a ∉ A) : RTm h2 nr rT dr sr dn := by
  intro r hr
  rw [k.2.1 _ (hA 42 (by decide)) (by omega), k.2.1 _ (hA 43 (by decide)) (by omega), k.2.1 _ (hA 36 (by decide)) (by omega)]
  exact hC r hr
theorem L_tiedM {N : Nat} {h : Hs} (hS : Sk h) {nr nt nd : Nat} {rA tA rT : Nat → Nat} {wy gr hd : Nat → Int} {gn : Nat → Bool} {dr td : Nat → Option Nat} {sr dn : Nat → Int} (hR : RRo h nr nt rA tA rT wy gr hd gn) (hM : RTm h nr rT dr sr dn) (hL : RTl nt nd nr rT dr td) (hnd : nd ≤ 20) (hnt : nt ≤ 40) {i : Nat} (hi : i < nt) : ∀ (d j : Nat) (fu : Nat), j + d = nr → d < fu → (∀ r, r < j → rT r = i → dr r = none) → fX12_tiedTo_b2 N 29 fu h (iI i) (iI j) = some (iI (od (td i)), h) := by
  have c3 := hR.1.2.2
  have c2 := hR.1.2.1
  intro d
  induction d with
  | zero =>
    intro j fu hj hf hp
    obtain ⟨fu, rfl⟩ : ∃ k, fu = k + 1 := ⟨fu - 1, by omega⟩
    show fX12_tiedTo_b2_body N (fX12_tiedTo_b2 N 29 fu) 29 h (iI i) (iI j) = _
    have w : (nr : Int) ≤ j := by omega
    have e0 : td i = none := by
      cases ht : td i with
      | none => rfl
      | some r =>
        obtain ⟨g1, g2, g3⟩ := hL.2 i r hi ht
        exact absurd (hp r (by omega) g2) g3
    rw [e0]
    simp (disch := omega) [oI, oR, qI, qZ, qR, rc, lit, iI_add, iI_sub, iI_mul, iI_neg, iI_le, iI_lt, iI_eq, v_isW, v_inW, bz, HR, sk_29 hS, sk_108 hS, sk_112 hS, fX12_tiedTo_b2_body, c2, w, od]
  | succ d ih =>
    intro j fu hj hf hp
    obtain ⟨fu, rfl⟩ : ∃ k, fu = k + 1 := ⟨fu - 1, by omega⟩
    show fX12_tiedTo_b2_body N (fX12_tiedTo_b2 N 29 fu) 29 h (iI i) (iI j) = _
    have w : ¬ (nr : Int) ≤ j := by omega
    have e1 : ixb (iI (j : Int)) 40 = true := ixb_i (by omega) (by omega) (by omega)
    have e2 : (iI (j : Int)).toNatClampNeg = j := by rw [iI_cl (by omega) (by omega)]; simp
    obtain ⟨-, -, ⟨m0, m1, m2, m3, m4⟩, q1, -⟩ := hR.2.1 j (by omega)
    have i2 := (hM j (by omega)).1
    by_cases w1 : rT j = i
    · have w1' : ((rT j : Nat) : Int) = (i : Int) := by omega
      cases hdr : dr j with
      | none =>
        have q := ih (j + 1) fu (by omega) (by omega) (fun r hr h9 => by
          by_cases er : r = j
          · rw [er]; exact hdr
          · exact hp r (by omega) h9)
        simp only [Int.natCast_add, Int.natCast_one] at q
        rw [hdr] at i2
        simp only [od] at i2
        rw [← q]
        simp (disch := omega) [oI, oR, qI, qZ, qR, rc, lit, iI_add, iI_sub, iI_mul, iI_neg, iI_le, iI_lt, iI_eq, v_isW, v_inW, bz, HR, sk_29 hS, sk_38 hS, sk_42 hS, sk_108 hS, sk_112 hS, fX12_tiedTo_b2_body, fX12_tiedTo_b31, lA, c2, w, e1, e2, m0, w1', i2]
      | some d0 =>
        obtain ⟨j1, j6⟩ := hL.1 j d0 (by omega) hdr
        rw [w1] at j6
        rw [hdr] at i2
        simp only [od] at i2
        have w2 : ¬ (d0 : Int) < 0 := by omega
        rw [j6]
        simp (disch := omega) [oI, oR, qI, qZ, qR, rc, lit, iI_add, iI_sub, iI_mul, iI_neg, iI_le, iI_lt, iI_eq, v_isW, v_inW, bz, HR, sk_29 hS, sk_38 hS, sk_42 hS, sk_108 hS, sk_112 hS, fX12_tiedTo_b2_body, fX12_tiedTo_b31, lA, c2, w, e1, e2, m0, w1', i2, w2, od]
    · have w1' : ¬ ((rT j : Nat) : Int) = (i : Int) := by omega
      have q := ih (j + 1) fu (by omega) (by omega) (fun r hr h9 => by
        by_cases er : r = j
        · rw [er] at h9; exact absurd h9 w1
        · exact hp r (by omega) h9)
      simp only [Int.natCast_add, Int.natCast_one] at q
      rw [← q]
      simp (disch := omega) [oI, oR, qI, qZ, qR, rc, lit, iI_add, iI_sub, iI_mul, iI_neg, iI_le, iI_lt, iI_eq, v_isW, v_inW, bz, HR, sk_29 hS, sk_38 hS, sk_42 hS, sk_108 hS, sk_112 hS, fX12_tiedTo_b2_body, fX12_tiedTo_b31, lA, c2, w, e1, e2, m0, w1']
theorem v_tiedM {N : Nat} (hN : 100000000 ≤ N) {h : Hs} (hS : Sk h) {nr nt nd : Nat} {rA tA rT : Nat → Nat} {wy gr hd : Nat → Int} {gn : Nat → Bool} {dr td : Nat → Option Nat} {sr dn : Nat → Int} (hR : RRo h nr nt rA tA rT wy gr hd gn) (hM : RTm h nr rT dr sr dn) (hL : RTl nt nd nr rT dr td) (hnd : nd ≤ 20) (hnt : nt ≤ 40) {i : Nat} (hi : i < nt) : fX12_tiedTo N h 29 (iI i) = some (iI (od (td i)), h) := by
  have c3 := hR.1.2.2
  have q := L_tiedM (N := N) hS hR hM hL hnd hnt hi nr 0 N (by omega) (by omega) (fun r hr => absurd hr (by omega))
  simp only [Int.natCast_zero] at q
  simp only [fX12_tiedTo, lit, q]
theorem RTh.lt {h : Hs} {nt : Nat} {tA : Nat → Nat} {tl tw tg ls ms pa : Nat → Int} (hC : RTh h nt tA tl tw tg ls ms pa) : ∀ i, i < nt → tA i < sz h := fun i hi => (hC.2.1 i hi).1.2.2.1
theorem RRo.lt {h : Hs} {nr nt : Nat} {rA tA rT : Nat → Nat} {wy gr hd : Nat → Int} {gn : Nat → Bool} (hC : RRo h nr nt rA tA rT wy gr hd gn) : ∀ r, r < nr → rA r < sz h := fun r hr => (hC.2.1 r hr).1.2.2.1
/-! ===== untie: inner calls ===== -/
def updO {α : Type} (f : Nat → α) (i : Nat) (v : α) : Nat → α := fun j => if j = i then v else f j
theorem updO_s {α : Type} (f : Nat → α) (i : Nat) (v : α) : updO f i v i = v := by simp [updO]
theorem updO_n {α : Type} (f : Nat → α) {i j : Nat} (v : α) (h : j ≠ i) : updO f i v j = f j := by simp [updO, h]
/-- the class loosens rope r, which is tied -/
theorem v_loosen {N : Nat} {h : Hs} {nr nt : Nat} {rA tA dA rT : Nat → Nat} {wy gr hd : Nat → Int} {gn : Nat → Bool} {tl tw tg ls ms pa : Nat → Int} (hR : RRo h nr nt rA tA rT wy gr hd gn) (hT : RTh h nt tA tl tw tg ls ms pa) {r : Nat} (hr : r < nr) : fX4_loosen N h (rA r) = some (uR (uI (uR h 405 (rA r) none) 407 (rA r) (iI 0)) 909 (tA (rT r)) none) := by
  obtain ⟨⟨-, -, -, d4⟩, ⟨f0, f1, f2, f3, f4, f8⟩, -, q1, -⟩ := hR.2.1 r hr
  obtain ⟨⟨-, -, -, t4⟩, -⟩ := hT.2.1 (rT r) q1
  simp [fX4_loosen, qR, qI, oR, d4, HR, f1, t4, lit]
theorem RTc.loose {h : Hs} {nt nd nr : Nat} {tA dA rA rT : Nat → Nat} {dr td : Nat → Option Nat} {sr dn : Nat → Int} (hC : RTc h nt nr tA dA rA dr td sr dn) (hL : RTl nt nd nr rT dr td) (ti : ∀ i j, i < nt → j < nt → tA i = tA j → i = j) (ri : ∀ i j, i < nr → j < nr → rA i = rA j → i = j) {r : Nat} (hr : r < nr) (hrt : rT r < nt) (v : Int32) : RTc (uR (uI (uR h 405 (rA r) none) 407 (rA r) v) 909 (tA (rT r)) none) nt nr tA dA rA (updO dr r none) (updO td (rT r) none) sr dn := by
  obtain ⟨c1, c2⟩ := hC
  refine ⟨fun q hq => ?_, fun i hi => ?_⟩
  · by_cases e : q = r
    · subst e
      rw [updO_s]
      refine ⟨?_, fun z => absurd rfl z⟩
      simp [HR]
    · have ne : ¬ rA q = rA r := fun z => e (ri q r hq hr z)
      rw [updO_n _ _ e]
      obtain ⟨g1, g2⟩ := c1 q hq
      refine ⟨?_, fun z => ?_⟩
      · simp [HR, ne, g1]
      · simp [HR, ne, g2 z]
  · by_cases e : i = rT r
    · subst e
      rw [updO_s]
      simp [HR]
    · have ne : ¬ tA i = tA (rT r) := fun z => e (ti i _ hi hrt z)
      rw [updO_n _ _ e]
      simp [HR, ne, c2 i hi]
theorem RTl.loose {nt nd nr : Nat} {rT : Nat → Nat} {dr td : Nat → Option Nat} (hL : RTl nt nd nr rT dr td) {r d0 : Nat} (hr : r < nr) (hd : dr r = some d0) : RTl nt nd nr rT (updO dr r none) (updO td (rT r) none) := by
  obtain ⟨l1, l2⟩ := hL
  refine ⟨fun q d hq hd' => ?_, fun i q hi hq => ?_⟩
  · by_cases e : q = r
    · subst e
      rw [updO_s] at hd'
      cases hd'
    · rw [updO_n _ _ e] at hd'
      obtain ⟨g1, g2⟩ := l1 q d hq hd'
      refine ⟨g1, ?_⟩
      by_cases e2 : rT q = rT r
      · exfalso
        have := (l1 r d0 hr hd).2
        rw [e2, this] at g2
        exact e (Option.some.inj g2).symm
      · rw [updO_n _ _ e2]
        exact g2
  · by_cases e : i = rT r
    · subst e
      rw [updO_s] at hq
      cases hq
    · rw [updO_n _ _ e] at hq
      obtain ⟨g1, g2, g3⟩ := l2 i q hi hq
      refine ⟨g1, g2, ?_⟩
      have e2 : q ≠ r := fun z => e (by rw [← g2, z])
      rw [updO_n _ _ e2]
      exact g3
theorem RTm.loose {h : Hs} {nr : Nat} {rT : Nat → Nat} {dr : Nat → Option Nat} {sr dn : Nat → Int} (hM : RTm h nr rT dr sr dn) {r : Nat} (hr : r < nr) : RTm (uA h 42 r (iI (-1))) nr rT (updO dr r none) sr dn := by
  intro q hq
  by_cases e : q = r
  · subst e
    rw [updO_s]
    refine ⟨?_, fun z => absurd rfl z⟩
    simp [HR, od]
  · rw [updO_n _ _ e]
    obtain ⟨g1, g2⟩ := hM q hq
    refine ⟨?_, fun z => ?_⟩
    · simp [HR, e, g1]
    · simp [HR, g2 z]
/-- untie, the class's inner call: VOID and nothing, or DONE and loosened -/
theorem c_untie {N : Nat} {h : Hs} (hS : Sk h) {nr nt nd : Nat} {rA tA dA rT : Nat → Nat} {wy gr hd : Nat → Int} {gn : Nat → Bool} {tl tw tg ls ms pa : Nat → Int} {dr td : Nat → Option Nat} {sr dn : Nat → Int} (hR : RRo h nr nt rA tA rT wy gr hd gn) (hT : RTh h nt tA tl tw tg ls ms pa) (hC : RTc h nt nr tA dA rA dr td sr dn) (z : Int) (z1 : -2147483648 ≤ z) (z2 : z < 2147483648) :
    (¬ (∃ r d0 : Nat, z = r ∧ r < nr ∧ dr r = some d0) ∧ fX5_untieRope N h 14 (iI z) = some (iI (-2000000000), h)) ∨ (∃ r d0 : Nat, z = r ∧ r < nr ∧ dr r = some d0 ∧ fX5_untieRope N h 14 (iI z) = some (iI (dn r), uR (uI (uR h 405 (rA r) none) 407 (rA r) (iI 0)) 909 (tA (rT r)) none)) := by
  by_cases w : 0 ≤ z ∧ z ≤ (nr : Int) - 1
  · obtain ⟨r, rfl⟩ : ∃ r : Nat, z = r := ⟨z.toNat, by omega⟩
    have hr : r < nr := by omega
    have ry := v_ropeY (N := N) hS hR hr
    obtain ⟨⟨-, -, -, d4⟩, -⟩ := hR.2.1 r hr
    obtain ⟨g1, g2⟩ := hC.1 r hr
    cases hdr : dr r with
    | none =>
      rw [hdr] at g1
      refine Or.inl ⟨?_, ?_⟩
      · rintro ⟨q, d0, hq, -, hd⟩
        have : q = r := by omega
        rw [this, hdr] at hd
        cases hd
      · simp (disch := omega) [oI, oR, qI, qZ, qR, rc, lit, iI_add, iI_sub, iI_mul, iI_neg, iI_le, iI_lt, iI_eq, v_isW, v_inW, bz, HR, sk_14 hS, fX5_untieRope, fX5_untieRope_b17, ry, d4, g1]
    | some d0 =>
      refine Or.inr ⟨r, d0, rfl, hr, hdr, ?_⟩
      have g3 := (g2 (by rw [hdr]; exact fun q => by cases q)).2
      rw [hdr] at g1
      have lo := v_loosen (N := N) (dA := dA) hR hT hr
      simp (disch := omega) [oI, oR, qI, qZ, qR, rc, lit, iI_add, iI_sub, iI_mul, iI_neg, iI_le, iI_lt, iI_eq, v_isW, v_inW, bz, HR, sk_14 hS, fX5_untieRope, fX5_untieRope_b17, ry, d4, g1, g3, lo]
  · have rn := v_ropeN (N := N) hS hR z1 z2 w
    refine Or.inl ⟨?_, ?_⟩
    · rintro ⟨q, d0, hq, hq2, -⟩
      omega
    · simp (disch := omega) [oI, oR, qI, qZ, qR, rc, lit, iI_add, iI_sub, iI_mul, iI_neg, iI_le, iI_lt, iI_eq, v_isW, v_inW, bz, HR, sk_14 hS, fX5_untieRope, fX5_untieRope_b17, rn]
/-- untie, the reference's inner call -/
theorem m_untie {N : Nat} {h : Hs} (hS : Sk h) {nr nt nd : Nat} {rA tA rT : Nat → Nat} {wy gr hd : Nat → Int} {gn : Nat → Bool} {dr td : Nat → Option Nat} {sr dn : Nat → Int} (hR : RRo h nr nt rA tA rT wy gr hd gn) (hM : RTm h nr rT dr sr dn) (hL : RTl nt nd nr rT dr td) (hnd : nd ≤ 20) (z : Int) (z1 : -2147483648 ≤ z) (z2 : z < 2147483648) :
    (¬ (∃ r d0 : Nat, z = r ∧ r < nr ∧ dr r = some d0) → fX12_untieNow N h 29 (iI z) = some (iI (-2000000000), h)) ∧ (∀ r d0 : Nat, z = r → r < nr → dr r = some d0 → fX12_untieNow N h 29 (iI z) = some (iI (dn r), uA h 42 r (iI (-1)))) := by
  have c3 := hR.1.2.2
  have ir := v_isRope (N := N) hS hR.1.2.1 c3 z1 z2
  have n10 : ¬ iI 1 = iI 0 := by decide
  refine ⟨fun hn => ?_, fun r d0 hz hr hd => ?_⟩
  · by_cases w : 0 ≤ z ∧ z ≤ (nr : Int) - 1
    · obtain ⟨r, rfl⟩ : ∃ r : Nat, z = r := ⟨z.toNat, by omega⟩
      have hr : r < nr := by omega
      rw [if_pos w] at ir
      have e1 : ixb (iI (r : Int)) 40 = true := ixb_i (by omega) (by omega) (by omega)
      have e2 : (iI (r : Int)).toNatClampNeg = r := by rw [iI_cl (by omega) (by omega)]; simp
      have g1 := (hM r hr).1
      cases hdr : dr r with
      | none =>
        rw [hdr] at g1
        simp only [od] at g1
        simp (disch := omega) [oI, oR, qI, qZ, qR, rc, lit, iI_add, iI_sub, iI_mul, iI_neg, iI_le, iI_lt, iI_eq, v_isW, v_inW, bz, HR, sk_29 hS, sk_42 hS, sk_112 hS, fX12_untieNow, fX12_untieNow_b17, ir, n10, lA, e1, e2, g1]
      | some d0 => exact absurd ⟨r, d0, rfl, hr, hdr⟩ hn
    · rw [if_neg w] at ir
      simp (disch := omega) [oI, oR, qI, qZ, qR, rc, lit, iI_add, iI_sub, iI_mul, iI_neg, iI_le, iI_lt, iI_eq, v_isW, v_inW, bz, HR, sk_29 hS, fX12_untieNow, fX12_untieNow_b17, ir]
  · subst hz
    have w : 0 ≤ (r : Int) ∧ (r : Int) ≤ (nr : Int) - 1 := by omega
    rw [if_pos w] at ir
    have e1 : ixb (iI (r : Int)) 40 = true := ixb_i (by omega) (by omega) (by omega)
    have e2 : (iI (r : Int)).toNatClampNeg = r := by rw [iI_cl (by omega) (by omega)]; simp
    obtain ⟨g1, g2⟩ := hM r hr
    have g3 := (g2 (by rw [hd]; exact fun q => by cases q)).1
    rw [hd] at g1
    simp only [od] at g1
    have dl := (hL.1 r d0 hr hd).1
    have w2 : (0 : Int) ≤ d0 := by omega
    simp (disch := omega) [oI, oR, qI, qZ, qR, rc, lit, iI_add, iI_sub, iI_mul, iI_neg, iI_le, iI_lt, iI_eq, v_isW, v_inW, bz, HR, sk_29 hS, sk_42 hS, sk_43 hS, sk_112 hS, sk_113 hS, fX12_untieNow, ir, n10, lA, sA, e1, e2, g1, g3, w2]
/-! ===== evaluation step by step: one operation, one row ===== -/
theorem bst {α β : Type} {x : Option α} {a : α} {f : α → Option β} {r : Option β} (e : x = some a) (k : f a = r) : x.bind f = r := by rw [e]; exact k
theorem ifp {c : Prop} [Decidable c] {α : Type} {a b r : α} (hc : c) (k : a = r) : (if c then a else b) = r := by rw [if_pos hc]; exact k
theorem ifn {c : Prop} [Decidable c] {α : Type} {a b r : α} (hc : ¬ c) (k : b = r) : (if c then a else b) = r := by rw [if_neg hc]; exact k
theorem n10 : ¬ iI 1 = iI 0 := by decide
theorem lAv {h : Hs} {a n i : Nat} {v : Int32} (hs : sh h a = (20, n)) (hi : i < n) (hn : n < 5000) (hv : aI h a i = v) : lA 20 h (some a) (iI i) = some v := by
  have e1 : ixb (iI (i : Int)) n = true := ixb_i (by omega) (by omega) (by omega)
  have e2 : (iI (i : Int)).toNatClampNeg = i := by rw [iI_cl (by omega) (by omega)]; simp
  simp [lA, hs, e1, e2, hv]
theorem lAz {h : Hs} {a n i : Nat} {v : Int32} (hs : sh h a = (21, n)) (hi : i < n) (hn : n < 5000) (hv : aI h a i = v) : lA 21 h (some a) (iI i) = some v := by
  have e1 : ixb (iI (i : Int)) n = true := ixb_i (by omega) (by omega) (by omega)
  have e2 : (iI (i : Int)).toNatClampNeg = i := by rw [iI_cl (by omega) (by omega)]; simp
  simp [lA, hs, e1, e2, hv]
theorem lQv {h : Hs} {t a n i : Nat} {v : Option Nat} (hs : sh h a = (t, n)) (hi : i < n) (hn : n < 5000) (hv : aR h a i = v) : lQ t h (some a) (iI i) = some v := by
  have e1 : ixb (iI (i : Int)) n = true := ixb_i (by omega) (by omega) (by omega)
  have e2 : (iI (i : Int)).toNatClampNeg = i := by rw [iI_cl (by omega) (by omega)]; simp
  simp [lQ, hs, e1, e2, hv]
theorem sAv {h : Hs} {a n i : Nat} {v : Int32} (hs : sh h a = (20, n)) (hi : i < n) (hn : n < 5000) : sA h (some a) (iI i) v = some (uA h a i v) := by
  have e1 : ixb (iI (i : Int)) n = true := ixb_i (by omega) (by omega) (by omega)
  have e2 : (iI (i : Int)).toNatClampNeg = i := by rw [iI_cl (by omega) (by omega)]; simp
  simp [sA, hs, e1, e2]
theorem oIv {h : Hs} {c j a : Nat} {v : Int32} (hs : (sh h a).1 = c) (hv : gI h (100 * c + j) a = v) : oI c j h (some a) = some v := by
  simp [oI, hs, hv]
theorem oRv {h : Hs} {c j a : Nat} {v : Option Nat} (hs : (sh h a).1 = c) (hv : gR h (100 * c + j) a = v) : oR c j h (some a) = some v := by
  simp [oR, hs, hv]
theorem rcv {h : Hs} {c a : Nat} (hs : (sh h a).1 = c) : rc c h (some a) = some a := by
  simp [rc, hs]
theorem ss_0 {h : Hs} (hS : Sk h) : sh h 0 = (11, 0) := by simp only [Sk_rw hS]
theorem ss_1 {h : Hs} (hS : Sk h) : sh h 1 = (8, 0) := by simp only [Sk_rw hS]
theorem ss_2 {h : Hs} (hS : Sk h) : sh h 2 = (20, 120) := by simp only [Sk_rw hS]
theorem ss_3 {h : Hs} (hS : Sk h) : sh h 3 = (20, 30) := by simp only [Sk_rw hS]
theorem ss_4 {h : Hs} (hS : Sk h) : sh h 4 = (20, 30) := by simp only [Sk_rw hS]
theorem ss_5 {h : Hs} (hS : Sk h) : sh h 5 = (20, 30) := by simp only [Sk_rw hS]
theorem ss_6 {h : Hs} (hS : Sk h) : sh h 6 = (0, 0) := by simp only [Sk_rw hS]
theorem ss_7 {h : Hs} (hS : Sk h) : sh h 7 = (20, 60) := by simp only [Sk_rw hS]
theorem ss_8 {h : Hs} (hS : Sk h) : sh h 8 = (20, 60) := by simp only [Sk_rw hS]
theorem ss_9 {h : Hs} (hS : Sk h) : sh h 9 = (6, 0) := by simp only [Sk_rw hS]
theorem ss_10 {h : Hs} (hS : Sk h) : sh h 10 = (26, 12) := by simp only [Sk_rw hS]
theorem ss_11 {h : Hs} (hS : Sk h) : sh h 11 = (26, 6) := by simp only [Sk_rw hS]
theorem ss_12 {h : Hs} (hS : Sk h) : sh h 12 = (20, 6) := by simp only [Sk_rw hS]
theorem ss_13 {h : Hs} (hS : Sk h) : sh h 13 = (20, 4096) := by simp only [Sk_rw hS]
theorem ss_14 {h : Hs} (hS : Sk h) : sh h 14 = (5, 0) := by simp only [Sk_rw hS]
theorem ss_15 {h : Hs} (hS : Sk h) : sh h 15 = (23, 40) := by simp only [Sk_rw hS]
theorem ss_16 {h : Hs} (hS : Sk h) : sh h 16 = (24, 20) := by simp only [Sk_rw hS]
theorem ss_17 {h : Hs} (hS : Sk h) : sh h 17 = (25, 40) := by simp only [Sk_rw hS]
theorem ss_18 {h : Hs} (hS : Sk h) : sh h 18 = (20, 20) := by simp only [Sk_rw hS]
theorem ss_19 {h : Hs} (hS : Sk h) : sh h 19 = (20, 20) := by simp only [Sk_rw hS]
theorem ss_20 {h : Hs} (hS : Sk h) : sh h 20 = (20, 80) := by simp only [Sk_rw hS]
theorem ss_21 {h : Hs} (hS : Sk h) : sh h 21 = (20, 16) := by simp only [Sk_rw hS]
theorem ss_22 {h : Hs} (hS : Sk h) : sh h 22 = (10, 0) := by simp only [Sk_rw hS]
theorem ss_23 {h : Hs} (hS : Sk h) : sh h 23 = (7, 0) := by simp only [Sk_rw hS]
theorem ss_24 {h : Hs} (hS : Sk h) : sh h 24 = (7, 0) := by simp only [Sk_rw hS]
theorem ss_25 {h : Hs} (hS : Sk h) : sh h 25 = (1, 0) := by simp only [Sk_rw hS]
theorem ss_26 {h : Hs} (hS : Sk h) : sh h 26 = (20, 40) := by simp only [Sk_rw hS]
theorem ss_27 {h : Hs} (hS : Sk h) : sh h 27 = (20, 40) := by simp only [Sk_rw hS]
theorem ss_28 {h : Hs} (hS : Sk h) : sh h 28 = (20, 125) := by simp only [Sk_rw hS]
theorem ss_29 {h : Hs} (hS : Sk h) : sh h 29 = (12, 0) := by simp only [Sk_rw hS]
theorem ss_30 {h : Hs} (hS : Sk h) : sh h 30 = (20, 40) := by simp only [Sk_rw hS]
theorem ss_31 {h : Hs} (hS : Sk h) : sh h 31 = (20, 40) := by simp only [Sk_rw hS]
theorem ss_32 {h : Hs} (hS : Sk h) : sh h 32 = (20, 40) := by simp only [Sk_rw hS]
theorem ss_33 {h : Hs} (hS : Sk h) : sh h 33 = (20, 40) := by simp only [Sk_rw hS]
theorem ss_34 {h : Hs} (hS : Sk h) : sh h 34 = (20, 40) := by simp only [Sk_rw hS]
theorem ss_35 {h : Hs} (hS : Sk h) : sh h 35 = (20, 40) := by simp only [Sk_rw hS]
theorem ss_36 {h : Hs} (hS : Sk h) : sh h 36 = (20, 40) := by simp only [Sk_rw hS]
theorem ss_37 {h : Hs} (hS : Sk h) : sh h 37 = (20, 20) := by simp only [Sk_rw hS]
theorem ss_38 {h : Hs} (hS : Sk h) : sh h 38 = (20, 40) := by simp only [Sk_rw hS]
theorem ss_39 {h : Hs} (hS : Sk h) : sh h 39 = (20, 40) := by simp only [Sk_rw hS]
theorem ss_40 {h : Hs} (hS : Sk h) : sh h 40 = (20, 40) := by simp only [Sk_rw hS]
theorem ss_41 {h : Hs} (hS : Sk h) : sh h 41 = (20, 40) := by simp only [Sk_rw hS]
theorem ss_42 {h : Hs} (hS : Sk h) : sh h 42 = (20, 40) := by simp only [Sk_rw hS]
theorem ss_43 {h : Hs} (hS : Sk h) : sh h 43 = (20, 40) := by simp only [Sk_rw hS]
theorem ss_44 {h : Hs} (hS : Sk h) : sh h 44 = (21, 40) := by simp only [Sk_rw hS]
theorem ss_45 {h : Hs} (hS : Sk h) : sh h 45 = (20, 20) := by simp only [Sk_rw hS]
theorem ss_46 {h : Hs} (hS : Sk h) : sh h 46 = (20, 16) := by simp only [Sk_rw hS]
theorem ss_47 {h : Hs} (hS : Sk h) : sh h 47 = (20, 80) := by simp only [Sk_rw hS]
theorem ss_48 {h : Hs} (hS : Sk h) : sh h 48 = (20, 400) := by simp only [Sk_rw hS]
theorem ss_49 {h : Hs} (hS : Sk h) : sh h 49 = (20, 40) := by simp only [Sk_rw hS]
theorem ss_50 {h : Hs} (hS : Sk h) : sh h 50 = (20, 40) := by simp only [Sk_rw hS]
theorem ss_51 {h : Hs} (hS : Sk h) : sh h 51 = (20, 40) := by simp only [Sk_rw hS]
theorem ss_52 {h : Hs} (hS : Sk h) : sh h 52 = (20, 2197) := by simp only [Sk_rw hS]
theorem ss_53 {h : Hs} (hS : Sk h) : sh h 53 = (22, 120) := by simp only [Sk_rw hS]
theorem ss_54 {h : Hs} (hS : Sk h) : sh h 54 = (20, 60) := by simp only [Sk_rw hS]
theorem ss_55 {h : Hs} (hS : Sk h) : sh h 55 = (20, 60) := by simp only [Sk_rw hS]
theorem ss_56 {h : Hs} (hS : Sk h) : sh h 56 = (20, 60) := by simp only [Sk_rw hS]
theorem ss_57 {h : Hs} (hS : Sk h) : sh h 57 = (20, 40) := by simp only [Sk_rw hS]
theorem ss_58 {h : Hs} (hS : Sk h) : sh h 58 = (20, 40) := by simp only [Sk_rw hS]
theorem ss_59 {h : Hs} (hS : Sk h) : sh h 59 = (20, 40) := by simp only [Sk_rw hS]
theorem ss_60 {h : Hs} (hS : Sk h) : sh h 60 = (20, 40) := by simp only [Sk_rw hS]
theorem ss_61 {h : Hs} (hS : Sk h) : sh h 61 = (20, 20) := by simp only [Sk_rw hS]
theorem ss_62 {h : Hs} (hS : Sk h) : sh h 62 = (20, 60) := by simp only [Sk_rw hS]
theorem ss_63 {h : Hs} (hS : Sk h) : sh h 63 = (20, 60) := by simp only [Sk_rw hS]
theorem ss_64 {h : Hs} (hS : Sk h) : sh h 64 = (20, 12) := by simp only [Sk_rw hS]
theorem ss_65 {h : Hs} (hS : Sk h) : sh h 65 = (20, 12) := by simp only [Sk_rw hS]
theorem ss_66 {h : Hs} (hS : Sk h) : sh h 66 = (20, 6) := by simp only [Sk_rw hS]
theorem ss_67 {h : Hs} (hS : Sk h) : sh h 67 = (20, 6) := by simp only [Sk_rw hS]
theorem ss_68 {h : Hs} (hS : Sk h) : sh h 68 = (20, 6) := by simp only [Sk_rw hS]
theorem ss_69 {h : Hs} (hS : Sk h) : sh h 69 = (20, 6) := by simp only [Sk_rw hS]
theorem sR_0_6 {h : Hs} (hS : Sk h) : oR 0 0 h (some 6) = some (some 7) := oRv (by rw [ss_6 hS]) (by simp only [Sk_rw hS])
theorem sR_1_6 {h : Hs} (hS : Sk h) : oR 0 1 h (some 6) = some (some 8) := oRv (by rw [ss_6 hS]) (by simp only [Sk_rw hS])
theorem sR_100_25 {h : Hs} (hS : Sk h) : oR 1 0 h (some 25) = some (some 14) := oRv (by rw [ss_25 hS]) (by simp only [Sk_rw hS])
theorem sR_101_25 {h : Hs} (hS : Sk h) : oR 1 1 h (some 25) = some (some 26) := oRv (by rw [ss_25 hS]) (by simp only [Sk_rw hS])
theorem sR_102_25 {h : Hs} (hS : Sk h) : oR 1 2 h (some 25) = some (some 27) := oRv (by rw [ss_25 hS]) (by simp only [Sk_rw hS])
theorem sR_103_25 {h : Hs} (hS : Sk h) : oR 1 3 h (some 25) = some (some 28) := oRv (by rw [ss_25 hS]) (by simp only [Sk_rw hS])
theorem sR_500_14 {h : Hs} (hS : Sk h) : oR 5 0 h (some 14) = some (some 15) := oRv (by rw [ss_14 hS]) (by simp only [Sk_rw hS])
theorem sR_501_14 {h : Hs} (hS : Sk h) : oR 5 1 h (some 14) = some (some 16) := oRv (by rw [ss_14 hS]) (by simp only [Sk_rw hS])
theorem sR_502_14 {h : Hs} (hS : Sk h) : oR 5 2 h (some 14) = some (some 17) := oRv (by rw [ss_14 hS]) (by simp only [Sk_rw hS])
theorem sR_503_14 {h : Hs} (hS : Sk h) : oR 5 3 h (some 14) = some (some 18) := oRv (by rw [ss_14 hS]) (by simp only [Sk_rw hS])
theorem sR_504_14 {h : Hs} (hS : Sk h) : oR 5 4 h (some 14) = some (some 19) := oRv (by rw [ss_14 hS]) (by simp only [Sk_rw hS])
theorem sR_505_14 {h : Hs} (hS : Sk h) : oR 5 5 h (some 14) = some (some 20) := oRv (by rw [ss_14 hS]) (by simp only [Sk_rw hS])
theorem sR_506_14 {h : Hs} (hS : Sk h) : oR 5 6 h (some 14) = some (some 21) := oRv (by rw [ss_14 hS]) (by simp only [Sk_rw hS])
theorem sR_600_9 {h : Hs} (hS : Sk h) : oR 6 0 h (some 9) = some (some 10) := oRv (by rw [ss_9 hS]) (by simp only [Sk_rw hS])
theorem sR_601_9 {h : Hs} (hS : Sk h) : oR 6 1 h (some 9) = some (some 11) := oRv (by rw [ss_9 hS]) (by simp only [Sk_rw hS])
theorem sR_602_9 {h : Hs} (hS : Sk h) : oR 6 2 h (some 9) = some (some 12) := oRv (by rw [ss_9 hS]) (by simp only [Sk_rw hS])
theorem sR_603_9 {h : Hs} (hS : Sk h) : oR 6 3 h (some 9) = some (some 13) := oRv (by rw [ss_9 hS]) (by simp only [Sk_rw hS])
theorem sR_800_1 {h : Hs} (hS : Sk h) : oR 8 0 h (some 1) = some (some 2) := oRv (by rw [ss_1 hS]) (by simp only [Sk_rw hS])
theorem sR_801_1 {h : Hs} (hS : Sk h) : oR 8 1 h (some 1) = some (some 3) := oRv (by rw [ss_1 hS]) (by simp only [Sk_rw hS])
theorem sR_802_1 {h : Hs} (hS : Sk h) : oR 8 2 h (some 1) = some (some 4) := oRv (by rw [ss_1 hS]) (by simp only [Sk_rw hS])
theorem sR_803_1 {h : Hs} (hS : Sk h) : oR 8 3 h (some 1) = some (some 5) := oRv (by rw [ss_1 hS]) (by simp only [Sk_rw hS])
theorem sR_1000_22 {h : Hs} (hS : Sk h) : oR 10 0 h (some 22) = some (some 14) := oRv (by rw [ss_22 hS]) (by simp only [Sk_rw hS])
theorem sR_1001_22 {h : Hs} (hS : Sk h) : oR 10 1 h (some 22) = some (some 23) := oRv (by rw [ss_22 hS]) (by simp only [Sk_rw hS])
theorem sR_1002_22 {h : Hs} (hS : Sk h) : oR 10 2 h (some 22) = some (some 24) := oRv (by rw [ss_22 hS]) (by simp only [Sk_rw hS])
theorem sR_1100_0 {h : Hs} (hS : Sk h) : oR 11 0 h (some 0) = some (some 14) := oRv (by rw [ss_0 hS]) (by simp only [Sk_rw hS])
theorem sR_1101_0 {h : Hs} (hS : Sk h) : oR 11 1 h (some 0) = some (some 22) := oRv (by rw [ss_0 hS]) (by simp only [Sk_rw hS])
theorem sR_1102_0 {h : Hs} (hS : Sk h) : oR 11 2 h (some 0) = some (some 25) := oRv (by rw [ss_0 hS]) (by simp only [Sk_rw hS])
theorem sR_1103_0 {h : Hs} (hS : Sk h) : oR 11 3 h (some 0) = some (some 1) := oRv (by rw [ss_0 hS]) (by simp only [Sk_rw hS])
theorem sR_1104_0 {h : Hs} (hS : Sk h) : oR 11 4 h (some 0) = some (some 6) := oRv (by rw [ss_0 hS]) (by simp only [Sk_rw hS])
theorem sR_1105_0 {h : Hs} (hS : Sk h) : oR 11 5 h (some 0) = some (some 9) := oRv (by rw [ss_0 hS]) (by simp only [Sk_rw hS])
theorem sR_1202_29 {h : Hs} (hS : Sk h) : oR 12 2 h (some 29) = some (some 30) := oRv (by rw [ss_29 hS]) (by simp only [Sk_rw hS])
theorem sR_1203_29 {h : Hs} (hS : Sk h) : oR 12 3 h (some 29) = some (some 31) := oRv (by rw [ss_29 hS]) (by simp only [Sk_rw hS])
theorem sR_1204_29 {h : Hs} (hS : Sk h) : oR 12 4 h (some 29) = some (some 32) := oRv (by rw [ss_29 hS]) (by simp only [Sk_rw hS])
theorem sR_1205_29 {h : Hs} (hS : Sk h) : oR 12 5 h (some 29) = some (some 33) := oRv (by rw [ss_29 hS]) (by simp only [Sk_rw hS])
theorem sR_1206_29 {h : Hs} (hS : Sk h) : oR 12 6 h (some 29) = some (some 34) := oRv (by rw [ss_29 hS]) (by simp only [Sk_rw hS])
theorem sR_1207_29 {h : Hs} (hS : Sk h) : oR 12 7 h (some 29) = some (some 35) := oRv (by rw [ss_29 hS]) (by simp only [Sk_rw hS])
theorem sR_1208_29 {h : Hs} (hS : Sk h) : oR 12 8 h (some 29) = some (some 36) := oRv (by rw [ss_29 hS]) (by simp only [Sk_rw hS])
theorem sR_1210_29 {h : Hs} (hS : Sk h) : oR 12 10 h (some 29) = some (some 37) := oRv (by rw [ss_29 hS]) (by simp only [Sk_rw hS])
theorem sR_1212_29 {h : Hs} (hS : Sk h) : oR 12 12 h (some 29) = some (some 38) := oRv (by rw [ss_29 hS]) (by simp only [Sk_rw hS])
theorem sR_1213_29 {h : Hs} (hS : Sk h) : oR 12 13 h (some 29) = some (some 39) := oRv (by rw [ss_29 hS]) (by simp only [Sk_rw hS])
theorem sR_1214_29 {h : Hs} (hS : Sk h) : oR 12 14 h (some 29) = some (some 40) := oRv (by rw [ss_29 hS]) (by simp only [Sk_rw hS])
theorem sR_1215_29 {h : Hs} (hS : Sk h) : oR 12 15 h (some 29) = some (some 41) := oRv (by rw [ss_29 hS]) (by simp only [Sk_rw hS])
theorem sR_1216_29 {h : Hs} (hS : Sk h) : oR 12 16 h (some 29) = some (some 42) := oRv (by rw [ss_29 hS]) (by simp only [Sk_rw hS])
theorem sR_1217_29 {h : Hs} (hS : Sk h) : oR 12 17 h (some 29) = some (some 43) := oRv (by rw [ss_29 hS]) (by simp only [Sk_rw hS])
theorem sR_1218_29 {h : Hs} (hS : Sk h) : oR 12 18 h (some 29) = some (some 44) := oRv (by rw [ss_29 hS]) (by simp only [Sk_rw hS])
theorem sR_1219_29 {h : Hs} (hS : Sk h) : oR 12 19 h (some 29) = some (some 45) := oRv (by rw [ss_29 hS]) (by simp only [Sk_rw hS])
theorem sR_1226_29 {h : Hs} (hS : Sk h) : oR 12 26 h (some 29) = some (some 46) := oRv (by rw [ss_29 hS]) (by simp only [Sk_rw hS])
theorem sR_1227_29 {h : Hs} (hS : Sk h) : oR 12 27 h (some 29) = some (some 47) := oRv (by rw [ss_29 hS]) (by simp only [Sk_rw hS])
theorem sR_1228_29 {h : Hs} (hS : Sk h) : oR 12 28 h (some 29) = some (some 48) := oRv (by rw [ss_29 hS]) (by simp only [Sk_rw hS])
theorem sR_1231_29 {h : Hs} (hS : Sk h) : oR 12 31 h (some 29) = some (some 49) := oRv (by rw [ss_29 hS]) (by simp only [Sk_rw hS])
theorem sR_1232_29 {h : Hs} (hS : Sk h) : oR 12 32 h (some 29) = some (some 50) := oRv (by rw [ss_29 hS]) (by simp only [Sk_rw hS])
theorem sR_1233_29 {h : Hs} (hS : Sk h) : oR 12 33 h (some 29) = some (some 51) := oRv (by rw [ss_29 hS]) (by simp only [Sk_rw hS])
theorem sR_1235_29 {h : Hs} (hS : Sk h) : oR 12 35 h (some 29) = some (some 52) := oRv (by rw [ss_29 hS]) (by simp only [Sk_rw hS])
theorem sR_1236_29 {h : Hs} (hS : Sk h) : oR 12 36 h (some 29) = some (some 53) := oRv (by rw [ss_29 hS]) (by simp only [Sk_rw hS])
theorem sR_1240_29 {h : Hs} (hS : Sk h) : oR 12 40 h (some 29) = some (some 54) := oRv (by rw [ss_29 hS]) (by simp only [Sk_rw hS])
theorem sR_1241_29 {h : Hs} (hS : Sk h) : oR 12 41 h (some 29) = some (some 55) := oRv (by rw [ss_29 hS]) (by simp only [Sk_rw hS])
theorem sR_1242_29 {h : Hs} (hS : Sk h) : oR 12 42 h (some 29) = some (some 56) := oRv (by rw [ss_29 hS]) (by simp only [Sk_rw hS])
theorem sR_1244_29 {h : Hs} (hS : Sk h) : oR 12 44 h (some 29) = some (some 57) := oRv (by rw [ss_29 hS]) (by simp only [Sk_rw hS])
theorem sR_1245_29 {h : Hs} (hS : Sk h) : oR 12 45 h (some 29) = some (some 58) := oRv (by rw [ss_29 hS]) (by simp only [Sk_rw hS])
theorem sR_1246_29 {h : Hs} (hS : Sk h) : oR 12 46 h (some 29) = some (some 59) := oRv (by rw [ss_29 hS]) (by simp only [Sk_rw hS])
theorem sR_1247_29 {h : Hs} (hS : Sk h) : oR 12 47 h (some 29) = some (some 60) := oRv (by rw [ss_29 hS]) (by simp only [Sk_rw hS])
theorem sR_1248_29 {h : Hs} (hS : Sk h) : oR 12 48 h (some 29) = some (some 61) := oRv (by rw [ss_29 hS]) (by simp only [Sk_rw hS])
theorem sR_1254_29 {h : Hs} (hS : Sk h) : oR 12 54 h (some 29) = some (some 62) := oRv (by rw [ss_29 hS]) (by simp only [Sk_rw hS])
theorem sR_1255_29 {h : Hs} (hS : Sk h) : oR 12 55 h (some 29) = some (some 63) := oRv (by rw [ss_29 hS]) (by simp only [Sk_rw hS])
theorem sR_1257_29 {h : Hs} (hS : Sk h) : oR 12 57 h (some 29) = some (some 64) := oRv (by rw [ss_29 hS]) (by simp only [Sk_rw hS])
theorem sR_1258_29 {h : Hs} (hS : Sk h) : oR 12 58 h (some 29) = some (some 65) := oRv (by rw [ss_29 hS]) (by simp only [Sk_rw hS])
theorem sR_1260_29 {h : Hs} (hS : Sk h) : oR 12 60 h (some 29) = some (some 66) := oRv (by rw [ss_29 hS]) (by simp only [Sk_rw hS])
theorem sR_1261_29 {h : Hs} (hS : Sk h) : oR 12 61 h (some 29) = some (some 67) := oRv (by rw [ss_29 hS]) (by simp only [Sk_rw hS])
theorem sR_1262_29 {h : Hs} (hS : Sk h) : oR 12 62 h (some 29) = some (some 68) := oRv (by rw [ss_29 hS]) (by simp only [Sk_rw hS])
theorem sR_1264_29 {h : Hs} (hS : Sk h) : oR 12 64 h (some 29) = some (some 69) := oRv (by rw [ss_29 hS]) (by simp only [Sk_rw hS])
/-! ===== tie: inner calls ===== -/
/-- the class binds rope r to drum d -/
def tieH (h : Hs) (ra ta da : Nat) (p : Int) : Hs := uR (uI (uI (uR h 405 ra (some da)) 406 ra (iI p)) 407 ra (iI 0)) 909 ta (some ra)
theorem v_bind {N : Nat} {h : Hs} {nr nt : Nat} {rA tA rT : Nat → Nat} {wy gr hd : Nat → Int} {gn : Nat → Bool} {tl tw tg ls ms pa : Nat → Int} (hR : RRo h nr nt rA tA rT wy gr hd gn) (hT : RTh h nt tA tl tw tg ls ms pa) {r da : Nat} (hr : r < nr) : fX4_bind N h (rA r) (some da) = some (tieH h (rA r) (tA (rT r)) da (pa (rT r))) := by
  obtain ⟨⟨-, -, -, d4⟩, ⟨f0, f1, f2, f3, f4, f8⟩, -, q1, -⟩ := hR.2.1 r hr
  obtain ⟨⟨-, -, -, t4⟩, ⟨g0, g1, g2, g3, g4, g5, g7⟩, -⟩ := hT.2.1 (rT r) q1
  simp [fX4_bind, qR, qI, oR, oI, d4, HR, f1, t4, g7, lit, tieH]
theorem Ke_tieH {h : Hs} {ra ta da : Nat} {p : Int} : Ke [406, 407] [] [405, 909] [] h (tieH h ra ta da p) := (((Ke_rf.r _ _ _ (by decide)).u _ _ _ (by decide)).u _ _ _ (by decide)).r _ _ _ (by decide)
theorem sz_tieH {h : Hs} {ra ta da : Nat} {p : Int} : sz (tieH h ra ta da p) = sz h := rfl
theorem RTc.tie {h : Hs} {nt nd nr : Nat} {tA dA rA rT : Nat → Nat} {dr td : Nat → Option Nat} {sr dn : Nat → Int} (hC : RTc h nt nr tA dA rA dr td sr dn) (ti : ∀ i j, i < nt → j < nt → tA i = tA j → i = j) (ri : ∀ i j, i < nr → j < nr → rA i = rA j → i = j) {r d : Nat} (hr : r < nr) (hrt : rT r < nt) (p : Int) : RTc (tieH h (rA r) (tA (rT r)) (dA d) p) nt nr tA dA rA (updO dr r (some d)) (updO td (rT r) (some r)) (updO sr r p) (updO dn r 0) := by
  obtain ⟨c1, c2⟩ := hC
  refine ⟨fun q hq => ?_, fun i hi => ?_⟩
  · by_cases e : q = r
    · subst e
      rw [updO_s, updO_s, updO_s]
      refine ⟨?_, fun _ => ⟨?_, ?_⟩⟩ <;> simp [tieH, HR]
    · have ne : ¬ rA q = rA r := fun z => e (ri q r hq hr z)
      rw [updO_n _ _ e, updO_n _ _ e, updO_n _ _ e]
      obtain ⟨g1, g2⟩ := c1 q hq
      refine ⟨?_, fun z => ?_⟩
      · simp [tieH, HR, ne, g1]
      · simp [tieH, HR, ne, g2 z]
  · by_cases e : i = rT r
    · subst e
      rw [updO_s]
      simp [tieH, HR]
    · have ne : ¬ tA i = tA (rT r) := fun z => e (ti i _ hi hrt z)
      rw [updO_n _ _ e]
      simp [tieH, HR, ne, c2 i hi]
theorem RTl.tie {nt nd nr : Nat} {rT : Nat → Nat} {dr td : Nat → Option Nat} (hL : RTl nt nd nr rT dr td) {r d : Nat} (hr : r < nr) (hd : d < nd) (ht : td (rT r) = none) : RTl nt nd nr rT (updO dr r (some d)) (updO td (rT r) (some r)) := by
  obtain ⟨l1, l2⟩ := hL
  refine ⟨fun q d' hq hd' => ?_, fun i q hi hq => ?_⟩
  · by_cases e : q = r
    · subst e
      rw [updO_s] at hd'
      cases hd'
      exact ⟨hd, updO_s _ _ _⟩
    · rw [updO_n _ _ e] at hd'
      obtain ⟨g1, g2⟩ := l1 q d' hq hd'
      refine ⟨g1, ?_⟩
      by_cases e2 : rT q = rT r
      · rw [e2, ht] at g2
        cases g2
      · rw [updO_n _ _ e2]
        exact g2
  · by_cases e : i = rT r
    · subst e
      rw [updO_s] at hq
      cases hq
      refine ⟨hr, rfl, ?_⟩
      rw [updO_s]
      exact fun z => by cases z
    · rw [updO_n _ _ e] at hq
      obtain ⟨g1, g2, g3⟩ := l2 i q hi hq
      refine ⟨g1, g2, ?_⟩
      have e2 : q ≠ r := fun z => e (by rw [← g2, z])
      rw [updO_n _ _ e2]
      exact g3
theorem RTm.tie {h : Hs} {nt nd nr : Nat} {rT : Nat → Nat} {dr td : Nat → Option Nat} {sr dn : Nat → Int} (hM : RTm h nr rT dr sr dn) (hL : RTl nt nd nr rT dr td) {r d : Nat} (hr : r < nr) (ht : td (rT r) = none) (p : Int) : RTm (uA (uA (uA h 42 r (iI d)) 43 r (iI 0)) 36 (rT r) (iI p)) nr rT (updO dr r (some d)) (updO sr r p) (updO dn r 0) := by
  intro q hq
  by_cases e : q = r
  · subst e
    rw [updO_s, updO_s, updO_s]
    refine ⟨?_, fun _ => ⟨?_, ?_⟩⟩ <;> simp [HR, od]
  · rw [updO_n _ _ e, updO_n _ _ e, updO_n _ _ e]
    obtain ⟨g1, g2⟩ := hM q hq
    refine ⟨?_, fun z => ?_⟩
    · simp [HR, e, g1]
    · obtain ⟨d0, hd0⟩ := Option.ne_none_iff_exists'.mp z
      have g3 := (hL.1 q d0 hq hd0).2
      have ne : ¬ rT q = rT r := fun z2 => by rw [z2, ht] at g3; cases g3
      simp [HR, e, ne, g2 z]
theorem c_tie {N : Nat} {h : Hs} (hS : Sk h) {nr nt nd : Nat} {rA tA dA rT : Nat → Nat} {wy gr hd : Nat → Int} {gn : Nat → Bool} {tl tw tg ls ms pa ds : Nat → Int} {dr td : Nat → Option Nat} {sr dn : Nat → Int} (hz : 70 ≤ sz h) (hR : RRo h nr nt rA tA rT wy gr hd gn) (hT : RTh h nt tA tl tw tg ls ms pa) (hD : RDr h nd dA ds) (hC : RTc h nt nr tA dA rA dr td sr dn) (z y : Int) (z1 : -2147483648 ≤ z) (z2 : z < 2147483648) (y1 : -2147483648 ≤ y) (y2 : y < 2147483648) :
    (¬ ((0 ≤ z ∧ z ≤ (nr : Int) - 1) ∧ 0 ≤ y ∧ y ≤ (nd : Int) - 1) → fX5_tieRope N h 14 (iI z) (iI y) = some (iI (-1), h)) ∧ (∀ r d : Nat, z = r → y = d → r < nr → d < nd → (¬ (gn r = false ∧ td (rT r) = none ∧ ldv (tg (rT r)) (gr r) ≤ hd r) → fX5_tieRope N h 14 (iI z) (iI y) = some (iI (-2), h)) ∧ ((gn r = false ∧ td (rT r) = none ∧ ldv (tg (rT r)) (gr r) ≤ hd r) → fX5_tieRope N h 14 (iI z) (iI y) = some (iI (hd r - ldv (tg (rT r)) (gr r)), tieH h (rA r) (tA (rT r)) (dA d) (pa (rT r))))) := by
  refine ⟨fun hn => ?_, fun r d hz' hy hr hd' => ?_⟩
  · simp only [fX5_tieRope, fX5_tieRope_b22, fX5_tieRope_b48, lit, iI_neg]
    by_cases w : 0 ≤ z ∧ z ≤ (nr : Int) - 1
    · obtain ⟨r, rfl⟩ : ∃ r : Nat, z = r := ⟨z.toNat, by omega⟩
      have ry := v_ropeY (N := N) hS hR (i := r) (by omega)
      have dn' := v_drumN (N := N) hS hD y1 y2 (fun q => hn ⟨w, q⟩)
      refine bst (rcv (by rw [ss_14 hS])) ?_
      refine bst (ry) ?_
      refine bst (rcv (by rw [ss_14 hS])) ?_
      refine bst (dn') ?_
      refine ifn (Option.some_ne_none _) ?_
      refine ifp (rfl) ?_
      rfl
    · have rn := v_ropeN (N := N) hS hR z1 z2 w
      by_cases wy' : 0 ≤ y ∧ y ≤ (nd : Int) - 1
      · obtain ⟨d, rfl⟩ : ∃ d : Nat, y = d := ⟨y.toNat, by omega⟩
        have dy := v_drumY (N := N) hS hD (i := d) (by omega)
        refine bst (rcv (by rw [ss_14 hS])) ?_
        refine bst (rn) ?_
        refine bst (rcv (by rw [ss_14 hS])) ?_
        refine bst (dy) ?_
        refine ifp (rfl) ?_
        rfl
      · have dn' := v_drumN (N := N) hS hD y1 y2 wy'
        refine bst (rcv (by rw [ss_14 hS])) ?_
        refine bst (rn) ?_
        refine bst (rcv (by rw [ss_14 hS])) ?_
        refine bst (dn') ?_
        refine ifp (rfl) ?_
        rfl
  · subst hz' hy
    have ry := v_ropeY (N := N) hS hR hr
    have dy := v_drumY (N := N) hS hD hd'
    have sp := v_spare (N := N) hR hT hr
    obtain ⟨⟨-, -, -, d4⟩, ⟨f0, f1, f2, f3, f4, f8⟩, -, q1, q2, q3, q4, q5⟩ := hR.2.1 r hr
    obtain ⟨⟨-, -, -, t4⟩, -, -, bb⟩ := hT.2.1 (rT r) q1
    have g9 := hC.2 (rT r) q1
    have lb := ldv_b (g := tg (rT r)) (r := gr r) (by omega) (by omega)
    have b9 : -2000 ≤ hd r - ldv (tg (rT r)) (gr r) ∧ hd r - ldv (tg (rT r)) (gr r) ≤ 9999 := by omega
    have d41 : (sh h (rA r)).1 = 4 := by rw [d4]
    have t41 : (sh h (tA (rT r))).1 = 9 := by rw [t4]
    refine ⟨fun hn => ?_, fun hy' => ?_⟩
    · simp only [fX5_tieRope, fX5_tieRope_b22, fX5_tieRope_b48, lit, iI_neg]
      refine bst (rcv (by rw [ss_14 hS])) ?_
      refine bst (ry) ?_
      refine bst (rcv (by rw [ss_14 hS])) ?_
      refine bst (dy) ?_
      refine ifn (Option.some_ne_none _) ?_
      refine ifn (Option.some_ne_none _) ?_
      refine bst (oIv d41 f8) ?_
      cases hg : gn r with
      | true => exact ifn n10 rfl
      | false =>
        rw [hg] at hn
        refine ifp rfl ?_
        refine bst (oRv d41 f1) ?_
        refine bst (oRv t41 g9) ?_
        cases ht : td (rT r) with
        | some q => exact ifn (Option.some_ne_none _) rfl
        | none =>
          rw [ht] at hn
          have w3 : ¬ 0 ≤ hd r - ldv (tg (rT r)) (gr r) := fun q => hn ⟨rfl, rfl, by omega⟩
          refine ifp rfl ?_
          refine bst (rcv d41) ?_
          refine bst (sp) ?_
          refine ifn (fun q => w3 ((iI_le (by omega) (by omega) (by omega) (by omega)).mp q)) ?_
          rfl
    · obtain ⟨hg, ht, hl⟩ := hy'
      rw [hg] at f8
      rw [ht] at g9
      have bd := v_bind (N := N) hR hT (da := dA d) hr
      have ke := Ke_tieH (h := h) (ra := rA r) (ta := tA (rT r)) (da := dA d) (p := pa (rT r))
      obtain ⟨hq, hhq⟩ : ∃ hq, hq = tieH h (rA r) (tA (rT r)) (dA d) (pa (rT r)) := ⟨_, rfl⟩
      rw [← hhq] at bd ke ⊢
      have hR2 := hR.e hz ke (by decide) (by decide) (by decide) (by decide)
      have hT2 := hT.e hz ke (by decide) (by decide) (by decide)
      have sp2 := v_spare (N := N) hR2 hT2 hr
      have d42 : (sh hq (rA r)).1 = 4 := by rw [(hR2.2.1 r hr).1.2.2.2]
      have w3 : 0 ≤ hd r - ldv (tg (rT r)) (gr r) := by omega
      simp only [fX5_tieRope, fX5_tieRope_b22, fX5_tieRope_b48, lit, iI_neg]
      refine bst (rcv (by rw [ss_14 hS])) ?_
      refine bst (ry) ?_
      refine bst (rcv (by rw [ss_14 hS])) ?_
      refine bst (dy) ?_
      refine ifn (Option.some_ne_none _) ?_
      refine ifn (Option.some_ne_none _) ?_
      refine bst (oIv d41 f8) ?_
      refine ifp (rfl) ?_
      refine bst (oRv d41 f1) ?_
      refine bst (oRv t41 g9) ?_
      refine ifp (rfl) ?_
      refine bst (rcv d41) ?_
      refine bst (sp) ?_
      refine ifp ((iI_le (by omega) (by omega) (by omega) (by omega)).mpr w3) ?_
      refine bst (rcv d41) ?_
      refine bst (bd) ?_
      refine bst (rcv d42) ?_
      refine bst (sp2) ?_
      rfl
/-! ===== hold ===== -/
theorem L_isCatch {N : Nat} {h : Hs} (hS : Sk h) {l n : Nat} {cp : Nat → Int} {x : Int} (hl : l < 16) (c1 : aI h 21 l = iI n) (hn : n ≤ 5) (c2 : ∀ k, k < n → aI h 20 (5 * l + k) = iI (cp (5 * l + k)) ∧ 0 ≤ cp (5 * l + k) ∧ cp (5 * l + k) ≤ 99) (hx : -1000 ≤ x ∧ x ≤ 1000) : ∀ (d i : Nat) (fu : Nat), i + d = n → d < fu → fX5_isCatch_b2 N 14 fu h (iI l) (iI x) (iI i) = some (if hasB (fun k => decide (cp (5 * l + k) = x)) i d then iI 1 else iI 0, h) := by
  intro d
  induction d with
  | zero =>
    intro i fu hi hf
    obtain ⟨fu, rfl⟩ : ∃ k, fu = k + 1 := ⟨fu - 1, by omega⟩
    show fX5_isCatch_b2_body N (fX5_isCatch_b2 N 14 fu) 14 h (iI l) (iI x) (iI i) = _
    have w : (n : Int) ≤ i := by omega
    simp only [fX5_isCatch_b2_body, lit]
    refine bst (sR_506_14 hS) ?_
    refine bst (lAv (ss_21 hS) hl (by decide) c1) ?_
    refine ifp ((iI_le (by omega) (by omega) (by omega) (by omega)).mpr w) ?_
    rfl
  | succ d ih =>
    intro i fu hi hf
    obtain ⟨fu, rfl⟩ : ∃ k, fu = k + 1 := ⟨fu - 1, by omega⟩
    show fX5_isCatch_b2_body N (fX5_isCatch_b2 N 14 fu) 14 h (iI l) (iI x) (iI i) = _
    have w : ¬ (n : Int) ≤ i := by omega
    have e5 := c2 i (by omega)
    have e3 : iI (l : Int) * iI 5 + iI (i : Int) = iI ((5 * l + i : Nat) : Int) := by
      rw [iI_mul, iI_add]
      exact congrArg iI (by omega)
    have q := ih (i + 1) fu (by omega) (by omega)
    have e6 : iI (i : Int) + iI 1 = iI ((i + 1 : Nat) : Int) := by
      rw [iI_add]
      exact congrArg iI (by omega)
    simp only [fX5_isCatch_b2_body, lit]
    refine bst (sR_506_14 hS) ?_
    refine bst (lAv (ss_21 hS) hl (by decide) c1) ?_
    refine ifn (fun z => w ((iI_le (by omega) (by omega) (by omega) (by omega)).mp z)) ?_
    refine bst (sR_505_14 hS) ?_
    rw [e3]
    refine bst (lAv (ss_20 hS) (by omega) (by decide) e5.1) ?_
    by_cases w2 : cp (5 * l + i) = x
    · have hq : hasB (fun k => decide (cp (5 * l + k) = x)) i (d + 1) = true := by simp [hasB, w2]
      rw [hq]
      exact ifp (by rw [w2]) rfl
    · have hq : hasB (fun k => decide (cp (5 * l + k) = x)) i (d + 1) = hasB (fun k => decide (cp (5 * l + k) = x)) (i + 1) d := by simp [hasB, w2]
      rw [hq]
      refine ifn (fun z => w2 ((iI_eq (by omega) (by omega) (by omega) (by omega)).mp z)) ?_
      refine bst rfl ?_
      rw [e6]
      exact q
theorem L_isCaught {N : Nat} {h : Hs} (hS : Sk h) {l n : Nat} {cp : Nat → Int} {x : Int} (hl : l < 16) (c1 : aI h 46 l = iI n) (hn : n ≤ 5) (c2 : ∀ k, k < n → aI h 47 (5 * l + k) = iI (cp (5 * l + k)) ∧ 0 ≤ cp (5 * l + k) ∧ cp (5 * l + k) ≤ 99) (hx : -1000 ≤ x ∧ x ≤ 1000) : ∀ (d i : Nat) (fu : Nat), i + d = n → d < fu → fX12_isCaught_b2 N 29 fu h (iI l) (iI x) (iI i) = some (if hasB (fun k => decide (cp (5 * l + k) = x)) i d then iI 1 else iI 0, h) := by
  intro d
  induction d with
  | zero =>
    intro i fu hi hf
    obtain ⟨fu, rfl⟩ : ∃ k, fu = k + 1 := ⟨fu - 1, by omega⟩
    show fX12_isCaught_b2_body N (fX12_isCaught_b2 N 29 fu) 29 h (iI l) (iI x) (iI i) = _
    have w : (n : Int) ≤ i := by omega
    simp only [fX12_isCaught_b2_body, lit]
    refine bst (sR_1226_29 hS) ?_
    refine bst (lAv (ss_46 hS) hl (by decide) c1) ?_
    refine ifp ((iI_le (by omega) (by omega) (by omega) (by omega)).mpr w) ?_
    rfl
  | succ d ih =>
    intro i fu hi hf
    obtain ⟨fu, rfl⟩ : ∃ k, fu = k + 1 := ⟨fu - 1, by omega⟩
    show fX12_isCaught_b2_body N (fX12_isCaught_b2 N 29 fu) 29 h (iI l) (iI x) (iI i) = _
    have w : ¬ (n : Int) ≤ i := by omega
    have e5 := c2 i (by omega)
    have e3 : iI 5 * iI (l : Int) + iI (i : Int) = iI ((5 * l + i : Nat) : Int) := by
      rw [iI_mul, iI_add]
      exact congrArg iI (by omega)
    have q := ih (i + 1) fu (by omega) (by omega)
    have e6 : iI (i : Int) + iI 1 = iI ((i + 1 : Nat) : Int) := by
      rw [iI_add]
      exact congrArg iI (by omega)
    simp only [fX12_isCaught_b2_body, lit]
    refine bst (sR_1226_29 hS) ?_
    refine bst (lAv (ss_46 hS) hl (by decide) c1) ?_
    refine ifn (fun z => w ((iI_le (by omega) (by omega) (by omega) (by omega)).mp z)) ?_
    refine bst (sR_1227_29 hS) ?_
    rw [e3]
    refine bst (lAv (ss_47 hS) (by omega) (by decide) e5.1) ?_
    by_cases w2 : cp (5 * l + i) = x
    · have hq : hasB (fun k => decide (cp (5 * l + k) = x)) i (d + 1) = true := by simp [hasB, w2]
      rw [hq]
      exact ifp (by rw [w2]) rfl
    · have hq : hasB (fun k => decide (cp (5 * l + k) = x)) i (d + 1) = hasB (fun k => decide (cp (5 * l + k) = x)) (i + 1) d := by simp [hasB, w2]
      rw [hq]
      refine ifn (fun z => w2 ((iI_eq (by omega) (by omega) (by omega) (by omega)).mp z)) ?_
      refine bst rfl ?_
      rw [e6]
      exact q
theorem t_hold {N : Nat} (hN : 100000000 ≤ N) {h : Hs} (hS : Sk h) (hC : ICat h) (p : Int32) : ∃ r h1 h2, fX11_hold N h 0 p = some (r, h1) ∧ fX12_hold N h1 29 p = some (r, h2) ∧ ICat h2 ∧ Kq [] [20, 21, 46, 47] h h2 := by
  obtain ⟨z, z1, z2, rfl⟩ := iI_ex p
  have hC0 := hC
  obtain ⟨cc, cp, c1⟩ := hC
  have wP : fX5_isStagePlace N h (iI z) = some (if 0 ≤ z ∧ z ≤ 1599 then iI 1 else iI 0, h) := by
    simp only [fX5_isStagePlace, lit]
    refine bst (v_isW z1 z2 (by omega) (by omega) (by omega) (by omega)) ?_
    by_cases w0 : 0 ≤ z ∧ z ≤ 1599
    · rw [if_pos w0]
      rfl
    · rw [if_neg w0]
      rfl
  have wM : ∀ h' : Hs, fX12_in N h' (iI z) (iI 0) (iI 1599) = some (if 0 ≤ z ∧ z ≤ 1599 then iI 1 else iI 0, h') := fun h' => v_inW z1 z2 (by omega) (by omega) (by omega) (by omega)
  have cl : ∀ (r : Int32) (h1 : Hs), fX5_addCatch N h 14 (iI z) = some (r, h1) → fX11_hold N h 0 (iI z) = some (r, h1) := fun r h1 A => by
    simp only [fX11_hold]
    refine bst (sR_1100_0 hS) ?_
    refine bst (rcv (by rw [ss_14 hS])) ?_
    refine bst (A) ?_
    rfl
  by_cases w : 0 ≤ z ∧ z ≤ 1599
  · rw [if_pos w] at wP
    have wM' : ∀ h' : Hs, fX12_in N h' (iI z) (iI 0) (iI 1599) = some (iI 1, h') := fun h' => (wM h').trans (by rw [if_pos w])
    have d1 := iI_dv (a := z) (b := 100) (by omega) (by omega) (by omega) (by omega)
    rw [Int.tdiv_eq_ediv_of_nonneg (by omega)] at d1
    obtain ⟨l, hl⟩ : ∃ l : Nat, (l : Int) = z / 100 := ⟨(z / 100).toNat, by omega⟩
    rw [← hl] at d1
    obtain ⟨x, hx⟩ : ∃ x, x = z - (l : Int) * 100 := ⟨_, rfl⟩
    have d2 : iI z - iI (l : Int) * iI 100 = iI x := by rw [iI_mul, iI_sub, hx]
    have bl : l < 16 := by omega
    have bx : 0 ≤ x ∧ x ≤ 99 := by omega
    obtain ⟨k1, k2, k3, k4⟩ := c1 l bl
    have hc := L_isCatch (N := N) hS bl k1 k3 (fun k hk => ⟨(k4 k hk).1, (k4 k hk).2.2⟩) (x := x) (by omega) (cc l) 0 N (by omega) (by omega)
    simp only [Int.natCast_zero] at hc
    have e3 : iI (l : Int) * iI 5 + iI (cc l : Int) = iI ((5 * l + cc l : Nat) : Int) := by
      rw [iI_mul, iI_add]
      exact congrArg iI (by omega)
    have e5 : iI 5 * iI (l : Int) + iI (cc l : Int) = iI ((5 * l + cc l : Nat) : Int) := by
      rw [iI_mul, iI_add]
      exact congrArg iI (by omega)
    have e7 : iI (cc l : Int) + iI 1 = iI ((cc l : Int) + 1) := iI_add _ _
    by_cases wc : hasB (fun k => decide (cp (5 * l + k) = x)) 0 (cc l) = true
    · have hr := L_isCaught (N := N) hS bl k2 k3 (fun k hk => ⟨(k4 k hk).2.1, (k4 k hk).2.2⟩) (x := x) (by omega) (cc l) 0 N (by omega) (by omega)
      simp only [Int.natCast_zero] at hr
      rw [if_pos wc] at hc hr
      refine ⟨iI (-1), h, h, cl _ _ ?_, ?_, hC0, Kq_rf⟩
      · simp only [fX5_addCatch, fX5_isCatch, lit, iI_neg, d1, d2]
        refine bst (wP) ?_
        refine ifn (n10) ?_
        refine bst (rfl) ?_
        refine bst (rfl) ?_
        refine bst (rcv (by rw [ss_14 hS])) ?_
        refine bst (hc) ?_
        refine ifn (n10) ?_
        rfl
      · simp only [fX12_hold, fX12_hold_b26, fX12_isCaught, lit, iI_neg, d1, d2]
        refine bst (wM' h) ?_
        refine ifn (n10) ?_
        refine bst (rcv (by rw [ss_29 hS])) ?_
        refine bst (hr) ?_
        refine ifn (n10) ?_
        rfl
    · rw [if_neg wc] at hc
      by_cases w5 : cc l < 5
      · obtain ⟨h1, hh1⟩ : ∃ h1, h1 = uA (uA h 20 (5 * l + cc l) (iI x)) 21 l (iI (cc l + 1)) := ⟨_, rfl⟩
        have kk : Kq [] [20, 21, 46, 47] h h1 := by rw [hh1]; exact (Kq_rf.b _ _ _ (by decide)).b _ _ _ (by decide)
        have hS1 := hS.k kk
        have k2' : aI h1 46 l = iI (cc l) := by rw [hh1]; simp [HR, k2]
        have hr := L_isCaught (N := N) hS1 bl k2' k3 (cp := cp) (fun k hk => ⟨by rw [hh1]; simp [HR, (k4 k hk).2.1], (k4 k hk).2.2⟩) (x := x) (by omega) (cc l) 0 N (by omega) (by omega)
        simp only [Int.natCast_zero] at hr
        rw [if_neg wc] at hr
        have w8 : (cc l : Int) < 5 := by omega
        have w9 : ¬ (cc l : Int) = 5 := by omega
        refine ⟨iI (cc l + 1), h1, uA (uA h1 47 (5 * l + cc l) (iI x)) 46 l (iI (cc l + 1)), cl _ _ ?_, ?_, ⟨fun m => if m = l then cc l + 1 else cc m, fun m => if m = 5 * l + cc l then x else cp m, fun m hm => ?_⟩, (kk.b _ _ _ (by decide)).b _ _ _ (by decide)⟩
        · subst hh1
          have hSa : Sk (uA h 20 (5 * l + cc l) (iI x)) := hS.k (Kq_uA _ _ _)
          have ka : aI (uA h 20 (5 * l + cc l) (iI x)) 21 l = iI (cc l) := by simp [HR, k1]
          have kb : aI (uA (uA h 20 (5 * l + cc l) (iI x)) 21 l (iI (cc l + 1))) 21 l = iI (cc l + 1) := by simp [HR]
          simp only [fX5_addCatch, fX5_isCatch, lit, iI_neg, d1, d2]
          refine bst (wP) ?_
          refine ifn (n10) ?_
          refine bst (rfl) ?_
          refine bst (rfl) ?_
          refine bst (rcv (by rw [ss_14 hS])) ?_
          refine bst (hc) ?_
          refine ifp (rfl) ?_
          refine bst (sR_506_14 hS) ?_
          refine bst (lAv (ss_21 hS) bl (by decide) k1) ?_
          refine ifp ((iI_lt (by omega) (by omega) (by omega) (by omega)).mpr w8) ?_
          refine bst (sR_505_14 hS) ?_
          refine bst (sR_506_14 hS) ?_
          refine bst (lAv (ss_21 hS) bl (by decide) k1) ?_
          rw [e3]
          refine bst (sAv (ss_20 hS) (by omega) (by decide)) ?_
          refine bst (sR_506_14 hSa) ?_
          refine bst (lAv (ss_21 hSa) bl (by decide) ka) ?_
          rw [e7]
          refine bst (sAv (ss_21 hSa) bl (by decide)) ?_
          refine bst (sR_506_14 hS1) ?_
          refine bst (lAv (ss_21 hS1) bl (by decide) kb) ?_
          rfl
        · have hS := hS1
          have hSb : Sk (uA h1 47 (5 * l + cc l) (iI x)) := hS.k (Kq_uA _ _ _)
          have hSc : Sk (uA (uA h1 47 (5 * l + cc l) (iI x)) 46 l (iI (cc l + 1))) := hSb.k (Kq_uA _ _ _)
          have kc : aI (uA h1 47 (5 * l + cc l) (iI x)) 46 l = iI (cc l) := by simp [HR, k2']
          have kd : aI (uA (uA h1 47 (5 * l + cc l) (iI x)) 46 l (iI (cc l + 1))) 46 l = iI (cc l + 1) := by simp [HR]
          simp only [fX12_hold, fX12_hold_b26, fX12_isCaught, lit, iI_neg, d1, d2]
          refine bst (wM' h1) ?_
          refine ifn (n10) ?_
          refine bst (rcv (by rw [ss_29 hS])) ?_
          refine bst (hr) ?_
          refine ifp (rfl) ?_
          refine bst (rfl) ?_
          refine bst (sR_1226_29 hS) ?_
          refine bst (lAv (ss_46 hS) bl (by decide) k2') ?_
          refine ifn (fun q => w9 ((iI_eq (by omega) (by omega) (by omega) (by omega)).mp q)) ?_
          refine bst (sR_1227_29 hS) ?_
          refine bst (sR_1226_29 hS) ?_
          refine bst (lAv (ss_46 hS) bl (by decide) k2') ?_
          rw [e5]
          refine bst (sAv (ss_47 hS) (by omega) (by decide)) ?_
          refine bst (sR_1226_29 hSb) ?_
          refine bst (lAv (ss_46 hSb) bl (by decide) kc) ?_
          rw [e7]
          refine bst (sAv (ss_46 hSb) bl (by decide)) ?_
          refine bst (sR_1226_29 hSc) ?_
          refine bst (lAv (ss_46 hSc) bl (by decide) kd) ?_
          rfl
        · obtain ⟨m1, m2, m3, m4⟩ := c1 m hm
          by_cases em : m = l
          · subst em
            simp only [if_true]
            refine ⟨by rw [hh1]; simp [HR], by simp [HR], by omega, fun k hk => ?_⟩
            by_cases ek : k = cc m
            · subst ek
              simp only [if_true]
              rw [hh1]
              simp [HR]
              omega
            · have ek2 : ¬ 5 * m + k = 5 * m + cc m := by omega
              have := m4 k (by omega)
              simp only [ek2, if_false]
              rw [hh1]
              simp [HR, ek, this]
          · simp only [em, if_false]
            refine ⟨by rw [hh1]; simp [HR, em, m1], by rw [hh1]; simp [HR, em, m2], m3, fun k hk => ?_⟩
            have ek2 : ¬ 5 * m + k = 5 * l + cc l := by omega
            have := m4 k hk
            simp only [ek2, if_false]
            rw [hh1]
            simp [HR, ek2, this]
      · have w8 : ¬ (cc l : Int) < 5 := by omega
        have w9 : (cc l : Int) = 5 := by omega
        have hr := L_isCaught (N := N) hS bl k2 k3 (fun k hk => ⟨(k4 k hk).2.1, (k4 k hk).2.2⟩) (x := x) (by omega) (cc l) 0 N (by omega) (by omega)
        simp only [Int.natCast_zero] at hr
        rw [if_neg wc] at hr
        refine ⟨iI (-3), h, h, cl _ _ ?_, ?_, hC0, Kq_rf⟩
        · simp only [fX5_addCatch, fX5_isCatch, lit, iI_neg, d1, d2]
          refine bst (wP) ?_
          refine ifn (n10) ?_
          refine bst (rfl) ?_
          refine bst (rfl) ?_
          refine bst (rcv (by rw [ss_14 hS])) ?_
          refine bst (hc) ?_
          refine ifp (rfl) ?_
          refine bst (sR_506_14 hS) ?_
          refine bst (lAv (ss_21 hS) bl (by decide) k1) ?_
          refine ifn (fun q => w8 ((iI_lt (by omega) (by omega) (by omega) (by omega)).mp q)) ?_
          rfl
        · simp only [fX12_hold, fX12_hold_b26, fX12_isCaught, lit, iI_neg, d1, d2]
          refine bst (wM' h) ?_
          refine ifn (n10) ?_
          refine bst (rcv (by rw [ss_29 hS])) ?_
          refine bst (hr) ?_
          refine ifp (rfl) ?_
          refine bst (rfl) ?_
          refine bst (sR_1226_29 hS) ?_
          refine bst (lAv (ss_46 hS) bl (by decide) k2) ?_
          refine ifp ((by rw [w9])) ?_
          rfl
  · rw [if_neg w] at wP
    have wM' : ∀ h' : Hs, fX12_in N h' (iI z) (iI 0) (iI 1599) = some (iI 0, h') := fun h' => (wM h').trans (by rw [if_neg w])
    refine ⟨iI (-1), h, h, cl _ _ ?_, ?_, hC0, Kq_rf⟩
    · simp only [fX5_addCatch, fX5_isCatch, lit, iI_neg]
      refine bst (wP) ?_
      refine ifp (rfl) ?_
      rfl
    · simp only [fX12_hold, fX12_hold_b26, fX12_isCaught, lit, iI_neg]
      refine bst (wM' h) ?_
      refine ifp (rfl) ?_
      rfl
def tieM (h : Hs) (r t : Nat) (d : Nat) (p : Int) : Hs := uA (uA (uA h 42 r (iI d)) 43 r (iI 0)) 36 t (iI p)
theorem Kq_tieM {h : Hs} {r t d : Nat} {p : Int} : Kq [] [36, 42, 43] h (tieM h r t d p) := ((Kq_rf.b _ _ _ (by decide)).b _ _ _ (by decide)).b _ _ _ (by decide)
theorem m_tie {N : Nat} (hN : 100000000 ≤ N) {h : Hs} (hS : Sk h) {nr nt nd : Nat} {rA tA dA rT : Nat → Nat} {wy gr hd : Nat → Int} {gn : Nat → Bool} {tl tw tg ls ms pa ds : Nat → Int} {dr td : Nat → Option Nat} {sr dn : Nat → Int} (hz : 70 ≤ sz h) (hR : RRo h nr nt rA tA rT wy gr hd gn) (hT : RTh h nt tA tl tw tg ls ms pa) (hD : RDr h nd dA ds) (hM : RTm h nr rT dr sr dn) (hL : RTl nt nd nr rT dr td) (z y : Int) (z1 : -2147483648 ≤ z) (z2 : z < 2147483648) (y1 : -2147483648 ≤ y) (y2 : y < 2147483648) :
    (¬ ((0 ≤ z ∧ z ≤ (nr : Int) - 1) ∧ 0 ≤ y ∧ y ≤ (nd : Int) - 1) → fX12_tieNow N h 29 (iI z) (iI y) = some (iI (-1), h)) ∧ (∀ r d : Nat, z = r → y = d → r < nr → d < nd → (¬ (gn r = false ∧ td (rT r) = none ∧ ldv (tg (rT r)) (gr r) ≤ hd r) → fX12_tieNow N h 29 (iI z) (iI y) = some (iI (-2), h)) ∧ ((gn r = false ∧ td (rT r) = none ∧ ldv (tg (rT r)) (gr r) ≤ hd r) → fX12_tieNow N h 29 (iI z) (iI y) = some (iI (hd r - ldv (tg (rT r)) (gr r)), tieM h r (rT r) d (pa (rT r))))) := by
  have c3 := hR.1.2.2
  have cd := hD.1.2.2
  have ct := hT.1.2.2
  have ir := v_isRope (N := N) hS hR.1.2.1 c3 z1 z2
  have id' := v_isDrum (N := N) hS hD.1.2.1 cd y1 y2
  refine ⟨fun hn => ?_, fun r d hz' hy hr hd' => ?_⟩
  · simp only [fX12_tieNow, fX12_tieNow_b16, fX12_tieNow_b63, lit, iI_neg]
    by_cases w : 0 ≤ z ∧ z ≤ (nr : Int) - 1
    · rw [if_pos w] at ir
      rw [if_neg (fun q => hn ⟨w, q⟩)] at id'
      refine bst (rcv (by rw [ss_29 hS])) ?_
      refine bst (ir) ?_
      refine ifn (n10) ?_
      refine bst (rcv (by rw [ss_29 hS])) ?_
      refine bst (id') ?_
      refine ifp (rfl) ?_
      rfl
    · rw [if_neg w] at ir
      refine bst (rcv (by rw [ss_29 hS])) ?_
      refine bst (ir) ?_
      refine ifp (rfl) ?_
      rfl
  · subst hz' hy
    rw [if_pos (by omega)] at ir id'
    obtain ⟨-, -, ⟨f0, f1, f2, f3, f4⟩, q1, q2, q3, q4, q5⟩ := hR.2.1 r hr
    obtain ⟨-, -, ⟨g0, g1, g2, g3, g4, g5⟩, bb⟩ := hT.2.1 (rT r) q1
    have tt := v_tiedM hN hS hR hM hL cd ct q1
    have lm := v_loadM (N := N) hS hR hT hr
    have lb := ldv_b (g := tg (rT r)) (r := gr r) (by omega) (by omega)
    have m42 := (hM r hr).1
    simp only [fX12_tieNow, fX12_tieNow_b16, fX12_tieNow_b63, lit, iI_neg]
    refine ⟨fun hn => ?_, fun hy' => ?_⟩
    · cases hdr : dr r with
      | some d0 =>
        have dl := (hL.1 r d0 hr hdr).1
        rw [hdr] at m42
        simp only [od] at m42
        have w2 : (0 : Int) ≤ d0 := by omega
        refine bst (rcv (by rw [ss_29 hS])) ?_
        refine bst (ir) ?_
        refine ifn (n10) ?_
        refine bst (rcv (by rw [ss_29 hS])) ?_
        refine bst (id') ?_
        refine ifn (n10) ?_
        refine bst (sR_1216_29 hS) ?_
        refine bst (lAv (ss_42 hS) (by omega) (by omega) m42) ?_
        refine ifp ((iI_le (by omega) (by omega) (by omega) (by omega)).mpr w2) ?_
        rfl
      | none =>
        rw [hdr] at m42
        simp only [od] at m42
        have w2 : ¬ iI 0 ≤ iI (-1) := by decide
        cases hg : gn r with
        | true =>
          rw [hg] at f4
          simp only [b2, if_true] at f4
          refine bst (rcv (by rw [ss_29 hS])) ?_
          refine bst (ir) ?_
          refine ifn (n10) ?_
          refine bst (rcv (by rw [ss_29 hS])) ?_
          refine bst (id') ?_
          refine ifn (n10) ?_
          refine bst (sR_1216_29 hS) ?_
          refine bst (lAv (ss_42 hS) (by omega) (by omega) m42) ?_
          refine ifn (w2) ?_
          refine bst (sR_1218_29 hS) ?_
          refine bst (lAz (ss_44 hS) (by omega) (by omega) f4) ?_
          refine ifn (n10) ?_
          rfl
        | false =>
          rw [hg] at f4 hn
          have f4' : aI h 44 r = iI 0 := f4
          cases ht : td (rT r) with
          | some q =>
            rw [ht] at tt
            simp only [od] at tt
            have qb := (hL.2 (rT r) q q1 ht).1
            have w3 : (0 : Int) ≤ q := by omega
            refine bst (rcv (by rw [ss_29 hS])) ?_
            refine bst (ir) ?_
            refine ifn (n10) ?_
            refine bst (rcv (by rw [ss_29 hS])) ?_
            refine bst (id') ?_
            refine ifn (n10) ?_
            refine bst (sR_1216_29 hS) ?_
            refine bst (lAv (ss_42 hS) (by omega) (by omega) m42) ?_
            refine ifn (w2) ?_
            refine bst (sR_1218_29 hS) ?_
            refine bst (lAz (ss_44 hS) (by omega) (by omega) f4') ?_
            refine ifp (rfl) ?_
            refine bst (sR_1212_29 hS) ?_
            refine bst (lAv (ss_38 hS) (by omega) (by omega) f0) ?_
            refine bst (rcv (by rw [ss_29 hS])) ?_
            refine bst (tt) ?_
            refine ifp ((iI_le (by omega) (by omega) (by omega) (by omega)).mpr w3) ?_
            rfl
          | none =>
            rw [ht] at tt hn
            simp only [od] at tt
            have w3 : ¬ ldv (tg (rT r)) (gr r) ≤ hd r := fun q => hn ⟨rfl, rfl, q⟩
            refine bst (rcv (by rw [ss_29 hS])) ?_
            refine bst (ir) ?_
            refine ifn (n10) ?_
            refine bst (rcv (by rw [ss_29 hS])) ?_
            refine bst (id') ?_
            refine ifn (n10) ?_
            refine bst (sR_1216_29 hS) ?_
            refine bst (lAv (ss_42 hS) (by omega) (by omega) m42) ?_
            refine ifn (w2) ?_
            refine bst (sR_1218_29 hS) ?_
            refine bst (lAz (ss_44 hS) (by omega) (by omega) f4') ?_
            refine ifp (rfl) ?_
            refine bst (sR_1212_29 hS) ?_
            refine bst (lAv (ss_38 hS) (by omega) (by omega) f0) ?_
            refine bst (rcv (by rw [ss_29 hS])) ?_
            refine bst (tt) ?_
            refine ifn (w2) ?_
            refine bst (sR_1215_29 hS) ?_
            refine bst (lAv (ss_41 hS) (by omega) (by omega) f3) ?_
            refine bst (rcv (by rw [ss_29 hS])) ?_
            refine bst (lm) ?_
            refine ifn (fun q9 => w3 ((iI_le (by omega) (by omega) (by omega) (by omega)).mp q9)) ?_
            rfl
    · obtain ⟨hg, ht, hl⟩ := hy'
      have hdr : dr r = none := by
        cases hdr : dr r with
        | none => rfl
        | some d0 =>
          have := (hL.1 r d0 hr hdr).2
          rw [ht] at this
          cases this
      rw [hdr] at m42
      simp only [od] at m42
      rw [hg] at f4
      have f4' : aI h 44 r = iI 0 := f4
      rw [ht] at tt
      simp only [od] at tt
      have w2 : ¬ iI 0 ≤ iI (-1) := by decide
      have ke : Ke [] [36, 42, 43] [] [] h (tieM h r (rT r) d (pa (rT r))) := Kq_tieM.e
      have hR2 := hR.e hz ke (by decide) (by decide) (by decide) (by decide)
      have hT2 := hT.e hz ke (by decide) (by decide) (by decide)
      have hS2 := hS.e hz ke (fun f hf => absurd hf List.not_mem_nil)
      have lm2 := v_loadM (N := N) hS2 hR2 hT2 hr
      have f32 := (hR2.2.1 r hr).2.2.1.2.2.2.1
      have hSa : Sk (uA h 42 r (iI d)) := hS.k (Kq_uA 42 _ _)
      have hSb : Sk (uA (uA h 42 r (iI d)) 43 r (iI 0)) := hSa.k (Kq_uA 43 _ _)
      refine bst (rcv (by rw [ss_29 hS])) ?_
      refine bst (ir) ?_
      refine ifn (n10) ?_
      refine bst (rcv (by rw [ss_29 hS])) ?_
      refine bst (id') ?_
      refine ifn (n10) ?_
      refine bst (sR_1216_29 hS) ?_
      refine bst (lAv (ss_42 hS) (by omega) (by omega) m42) ?_
      refine ifn (w2) ?_
      refine bst (sR_1218_29 hS) ?_
      refine bst (lAz (ss_44 hS) (by omega) (by omega) f4') ?_
      refine ifp (rfl) ?_
      refine bst (sR_1212_29 hS) ?_
      refine bst (lAv (ss_38 hS) (by omega) (by omega) f0) ?_
      refine bst (rcv (by rw [ss_29 hS])) ?_
      refine bst (tt) ?_
      refine ifn (w2) ?_
      refine bst (sR_1215_29 hS) ?_
      refine bst (lAv (ss_41 hS) (by omega) (by omega) f3) ?_
      refine bst (rcv (by rw [ss_29 hS])) ?_
      refine bst (lm) ?_
      refine ifp ((iI_le (by omega) (by omega) (by omega) (by omega)).mpr hl) ?_
      refine bst (sR_1216_29 hS) ?_
      refine bst (sAv (ss_42 hS) (by omega) (by omega)) ?_
      refine bst (sR_1217_29 hSa) ?_
      refine bst (sAv (ss_43 hSa) (by omega) (by omega)) ?_
      refine bst (sR_1208_29 hSb) ?_
      refine bst (sR_1212_29 hSb) ?_
      refine bst (lAv (ss_38 hSb) (by omega) (by omega) (v := iI (rT r)) (by simp [HR, f0])) ?_
      refine bst (sR_1205_29 hSb) ?_
      refine bst (sR_1212_29 hSb) ?_
      refine bst (lAv (ss_38 hSb) (by omega) (by omega) (v := iI (rT r)) (by simp [HR, f0])) ?_
      refine bst (lAv (ss_33 hSb) (by omega) (by omega) (v := iI (pa (rT r))) (by simp [HR, g3])) ?_
      refine bst (sAv (ss_36 hSb) (by omega) (by omega)) ?_
      refine bst (sR_1215_29 hS2) ?_
      refine bst (lAv (ss_41 hS2) (by omega) (by omega) f32) ?_
      refine bst (rcv (h := tieM h r (rT r) d (pa (rT r))) (by rw [ss_29 hS2])) ?_
      refine bst (lm2) ?_
      rw [iI_sub]
/-! ===== tie and untie: the calls themselves ===== -/
theorem qZv {h : Hs} {c f a : Nat} {v : Int} (hs : (sh h a).1 = c) (hv : v = 0 ∨ v = 1) : qZ c f h (some a) (iI v) = some (uI h (100 * c + f) a (iI v)) := by
  have e : iI v = 0 ∨ iI v = 1 := by
    rcases hv with rfl | rfl
    · exact Or.inl rfl
    · exact Or.inr rfl
  simp only [qZ, hs, e, and_self, if_true]
theorem v_tieC {N : Nat} {h h1 : Hs} (hS : Sk h) (hS1 : Sk h1) {p1 p2 : Int32} {v : Int} (b1 : -2147483648 ≤ v) (b2 : v < 2147483648) (e : fX5_tieRope N h 14 p1 p2 = some (iI v, h1)) : fX11_tie N h 0 p1 p2 = some (iI v, if v < 0 then h1 else uI h1 1106 0 (iI 0)) := by
  have d0 := v_deed (N := N) hS1 (r := iI v) (z := 0) (Or.inl rfl)
  have d1 := v_deed (N := N) hS1 (r := iI v) (z := 1) (Or.inr rfl)
  rw [if_neg (by decide)] at d0
  rw [if_pos rfl] at d1
  have lt : iI v < iI 0 ↔ v < 0 := iI_lt (by omega) (by omega) (by omega) (by omega)
  have rc1 : rc 11 h1 (some 0) = some 0 := rcv (by rw [ss_0 hS1])
  have rc5 : rc 5 h (some 14) = some 14 := rcv (by rw [ss_14 hS])
  simp only [fX11_tie, fX11_tie_b21, lit]
  by_cases w : v < 0
  · rw [if_pos w]
    refine bst (sR_1100_0 hS) ?_
    refine bst (rc5) ?_
    refine bst (e) ?_
    refine ifp (lt.mpr w) ?_
    refine bst (rc1) ?_
    refine bst (d0) ?_
    rfl
  · rw [if_neg w]
    refine bst (sR_1100_0 hS) ?_
    refine bst (rc5) ?_
    refine bst (e) ?_
    refine ifn (fun q => w (lt.mp q)) ?_
    refine bst (rc1) ?_
    refine bst (d1) ?_
    rfl
theorem v_tieR {N : Nat} {h h1 : Hs} (hS : Sk h) (hS1 : Sk h1) {p1 p2 : Int32} {v c : Int} (b1 : -2147483648 ≤ v) (b2 : v < 2147483648) (hc : gI h1 1243 29 = iI c) (hc2 : c = 0 ∨ c = 1) (e : fX12_tieNow N h 29 p1 p2 = some (iI v, h1)) : fX12_tie N h 29 p1 p2 = some (iI v, uI h1 1243 29 (iI (if v < 0 then c else 0))) := by
  have le : iI 0 ≤ iI v ↔ 0 ≤ v := iI_le (by omega) (by omega) (by omega) (by omega)
  have rc1 : rc 12 h (some 29) = some 29 := rcv (by rw [ss_29 hS])
  have o1 : oI 12 43 h1 (some 29) = some (iI c) := oIv (by rw [ss_29 hS1]) hc
  have z0 : qZ 12 43 h1 (some 29) (iI 0) = some (uI h1 1243 29 (iI 0)) := qZv (v := 0) (by rw [ss_29 hS1]) (Or.inl rfl)
  have z1 : qZ 12 43 h1 (some 29) (iI 1) = some (uI h1 1243 29 (iI 1)) := qZv (v := 1) (by rw [ss_29 hS1]) (Or.inr rfl)
  simp only [fX12_tie, fX12_tie_b23, fX12_tie_b24, lit]
  rcases hc2 with rfl | rfl
  · have ez : (if v < 0 then (0 : Int) else 0) = 0 := by by_cases w : v < 0 <;> simp [w]
    rw [ez]
    refine bst (rc1) ?_
    refine bst (e) ?_
    refine bst (o1) ?_
    refine ifp (rfl) ?_
    refine bst (z0) ?_
    rfl
  · by_cases w : v < 0
    · rw [if_pos w]
      have w2 : ¬ iI 0 ≤ iI v := fun q => by have := le.mp q; omega
      refine bst (rc1) ?_
      refine bst (e) ?_
      refine bst (o1) ?_
      refine ifn (n10) ?_
      refine ifn (w2) ?_
      refine bst (z1) ?_
      rfl
    · rw [if_neg w]
      have w2 : iI 0 ≤ iI v := le.mpr (by omega)
      refine bst (rc1) ?_
      refine bst (e) ?_
      refine bst (o1) ?_
      refine ifn (n10) ?_
      refine ifp (w2) ?_
      refine bst (z0) ?_
      rfl
theorem v_untieC {N : Nat} {h h1 : Hs} (hS : Sk h) (hS1 : Sk h1) {p1 : Int32} {v : Int} (b1 : -2147483648 ≤ v) (b2 : v < 2147483648) (e : fX5_untieRope N h 14 p1 = some (iI v, h1)) : fX11_untie N h 0 p1 = some (iI v, if v = -2000000000 then h1 else uI h1 1106 0 (iI 0)) := by
  have d0 := v_deed (N := N) hS1 (r := iI v) (z := 0) (Or.inl rfl)
  have d1 := v_deed (N := N) hS1 (r := iI v) (z := 1) (Or.inr rfl)
  rw [if_neg (by decide)] at d0
  rw [if_pos rfl] at d1
  have eq : iI v = iI (-2000000000) ↔ v = -2000000000 := iI_eq (by omega) (by omega) (by omega) (by omega)
  have rc1 : rc 11 h1 (some 0) = some 0 := rcv (by rw [ss_0 hS1])
  have rc5 : rc 5 h (some 14) = some 14 := rcv (by rw [ss_14 hS])
  simp only [fX11_untie, fX11_untie_b22, lit, iI_neg]
  by_cases w : v = -2000000000
  · rw [if_pos w]
    refine bst (sR_1100_0 hS) ?_
    refine bst (rc5) ?_
    refine bst (e) ?_
    refine ifp (eq.mpr w) ?_
    refine bst (rc1) ?_
    refine bst (d0) ?_
    rfl
  · rw [if_neg w]
    refine bst (sR_1100_0 hS) ?_
    refine bst (rc5) ?_
    refine bst (e) ?_
    refine ifn (fun q => w (eq.mp q)) ?_
    refine bst (rc1) ?_
    refine bst (d1) ?_
    rfl
theorem v_untieR {N : Nat} {h h1 : Hs} (hS : Sk h) (hS1 : Sk h1) {p1 : Int32} {v c : Int} (b1 : -2147483648 ≤ v) (b2 : v < 2147483648) (hc : gI h1 1243 29 = iI c) (hc2 : c = 0 ∨ c = 1) (e : fX12_untieNow N h 29 p1 = some (iI v, h1)) : fX12_untie N h 29 p1 = some (iI v, uI h1 1243 29 (iI (if v = -2000000000 then c else 0))) := by
  have eq : iI v = iI (-2000000000) ↔ v = -2000000000 := iI_eq (by omega) (by omega) (by omega) (by omega)
  have rc1 : rc 12 h (some 29) = some 29 := rcv (by rw [ss_29 hS])
  have o1 : oI 12 43 h1 (some 29) = some (iI c) := oIv (by rw [ss_29 hS1]) hc
  have z0 : qZ 12 43 h1 (some 29) (iI 0) = some (uI h1 1243 29 (iI 0)) := qZv (v := 0) (by rw [ss_29 hS1]) (Or.inl rfl)
  have z1 : qZ 12 43 h1 (some 29) (iI 1) = some (uI h1 1243 29 (iI 1)) := qZv (v := 1) (by rw [ss_29 hS1]) (Or.inr rfl)
  simp only [fX12_untie, fX12_untie_b24, fX12_untie_b25, lit, iI_neg]
  rcases hc2 with rfl | rfl
  · have ez : (if v = -2000000000 then (0 : Int) else 0) = 0 := by by_cases w : v = -2000000000 <;> simp [w]
    rw [ez]
    refine bst (rc1) ?_
    refine bst (e) ?_
    refine bst (o1) ?_
    refine ifp (rfl) ?_
    refine bst (z0) ?_
    rfl
  · by_cases w : v = -2000000000
    · rw [if_pos w]
      refine bst (rc1) ?_
      refine bst (e) ?_
      refine bst (o1) ?_
      refine ifn (n10) ?_
      refine ifp (eq.mpr w) ?_
      refine bst (z1) ?_
      rfl
    · rw [if_neg w]
      refine bst (rc1) ?_
      refine bst (e) ?_
      refine bst (o1) ?_
      refine ifn (n10) ?_
      refine ifn (fun q => w (eq.mp q)) ?_
      refine bst (z0) ?_
      rfl
