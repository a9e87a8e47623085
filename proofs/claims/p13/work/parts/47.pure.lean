/-! ===== ties by halves: the class's, the reference's, and what holds of the names themselves ===== -/
def RTc (h : Hs) (nt nr : Nat) (tA dA rA : Nat → Nat) (dr td : Nat → Option Nat) (sr dn : Nat → Int) : Prop :=
  (∀ r, r < nr → gR h 405 (rA r) = (dr r).map dA ∧ (dr r ≠ none → gI h 406 (rA r) = iI (sr r) ∧ gI h 407 (rA r) = iI (dn r))) ∧ (∀ i, i < nt → gR h 909 (tA i) = (td i).map rA)
def RTm (h : Hs) (nr : Nat) (rT : Nat → Nat) (dr : Nat → Option Nat) (sr dn : Nat → Int) : Prop :=
  ∀ r, r < nr → aI h 42 r = iI (od (dr r)) ∧ (dr r ≠ none → aI h 43 r = iI (dn r) ∧ aI h 36 (rT r) = iI (sr r))
def RTl (nt nd nr : Nat) (rT : Nat → Nat) (dr td : Nat → Option Nat) : Prop :=
  (∀ r d, r < nr → dr r = some d → d < nd ∧ td (rT r) = some r) ∧ (∀ i r, i < nt → td i = some r → r < nr ∧ rT r = i ∧ dr r ≠ none)
theorem RTi_iff {h : Hs} {nt nd nr : Nat} {tA dA rA rT : Nat → Nat} {dr td : Nat → Option Nat} {sr dn : Nat → Int} : RTi h nt nd nr tA dA rA rT dr td sr dn ↔ RTc h nt nr tA dA rA dr td sr dn ∧ RTm h nr rT dr sr dn ∧ RTl nt nd nr rT dr td := by
  constructor
  · rintro ⟨c1, c2⟩
    refine ⟨⟨fun r hr => ⟨(c1 r hr).1, fun hn => ?_⟩, fun i hi => (c2 i hi).1⟩, fun r hr => ⟨(c1 r hr).2.1, fun hn => ?_⟩, fun r d hr hd => ?_, fun i r hi hr => (c2 i hi).2 r hr⟩
    · obtain ⟨d0, hd0⟩ := Option.ne_none_iff_exists'.mp hn
      obtain ⟨g1, g2, g3, g4, g5, g6⟩ := (c1 r hr).2.2 d0 hd0
      exact ⟨g2, g3⟩
    · obtain ⟨d0, hd0⟩ := Option.ne_none_iff_exists'.mp hn
      obtain ⟨g1, g2, g3, g4, g5, g6⟩ := (c1 r hr).2.2 d0 hd0
      exact ⟨g4, g5⟩
    · obtain ⟨g1, g2, g3, g4, g5, g6⟩ := (c1 r hr).2.2 d hd
      exact ⟨g1, g6⟩
  · rintro ⟨⟨c1, c2⟩, m1, l1, l2⟩
    refine ⟨fun r hr => ⟨(c1 r hr).1, (m1 r hr).1, fun d hd => ?_⟩, fun i hi => ⟨c2 i hi, fun r hr => l2 i r hi hr⟩⟩
    have hn : dr r ≠ none := by rw [hd]; exact fun q => by cases q
    exact ⟨(l1 r d hr hd).1, ((c1 r hr).2 hn).1, ((c1 r hr).2 hn).2, ((m1 r hr).2 hn).1, ((m1 r hr).2 hn).2, (l1 r d hr hd).2⟩
theorem RTc.e {F A FR AQ : List Nat} {h h2 : Hs} {nt nr : Nat} {tA dA rA : Nat → Nat} {dr td : Nat → Option Nat} {sr dn : Nat → Int} (hC : RTc h nt nr tA dA rA dr td sr dn) (ht : ∀ i, i < nt → tA i < sz h) (hr : ∀ r, r < nr → rA r < sz h) (k : Ke F A FR AQ h h2) (hF : ∀ f ∈ [406, 407], f ∉ F) (hR : ∀ f ∈ [405, 909], f ∉ FR) : RTc h2 nt nr tA dA rA dr td sr dn := by
  obtain ⟨c1, c2⟩ := hC
  refine ⟨fun r hr' => ?_, fun i hi => ?_⟩
  · rw [k.2.2.1 _ _ (hR 405 (by decide)) (hr r hr'), k.1 _ _ (hF 406 (by decide)) (hr r hr'), k.1 _ _ (hF 407 (by decide)) (hr r hr')]
    exact c1 r hr'
  · rw [k.2.2.1 _ _ (hR 909 (by decide)) (ht i hi)]
    exact c2 i hi
theorem RTm.e {F A FR AQ : List Nat} {h h2 : Hs} {nr : Nat} {rT : Nat → Nat} {dr : Nat → Option Nat} {sr dn : Nat → Int} (hC : RTm h nr rT dr sr dn) (hz : 70 ≤ sz h) (k : Ke F A FR AQ h h2) (hA : ∀ a ∈ [36, 42, 43], a ∉ A) : RTm h2 nr rT dr sr dn := by
  intro r hr
  rw [k.2.1 _ (hA 42 (by decide)) (by omega), k.2.1 _ (hA 43 (by decide)) (by omega), k.2.1 _ (hA 36 (by decide)) (by omega)]
  exact hC r hr
theorem L_tiedM {N : Nat} {h : Hs} (hS : Sk h) {nr nt nd : Nat} {rA tA rT : Nat → Nat} {wy gr hd : Nat → Int} {gn : Nat → Bool} {dr td : Nat → Option Nat} {sr dn : Nat → Int} (hR : RRo h nr nt rA tA rT wy gr hd gn) (hM : RTm h nr rT dr sr dn) (hL : RTl nt nd nr rT dr td) (hnd : nd ≤ 20) (hnt : nt ≤ 40) {i : Nat} (hi : i < nt) : ∀ (d j : Nat) (fu : Nat), j + d = nr → d < fu → (∀ r, r < j → rT r = i → dr r = none) → fX12_tiedTo_b2 N 29 fu h (iI i) (iI j) = some (iI (od (td i)), h) := by
  have c3 := hR.1.2.2
  have c2 := hR.1.2.1
  intro d
  induction d with
  | zero =>
    intro j fu hj hf hp
    obtain ⟨fu, rfl⟩ : ∃ k, fu = k + 1 := ⟨fu - 1, by omega⟩
    show fX12_tiedTo_b2_body N (fX12_tiedTo_b2 N 29 fu) 29 h (iI i) (iI j) = _
    have w : (nr : Int) ≤ j := by omega
    have e0 : td i = none := by
      cases ht : td i with
      | none => rfl
      | some r =>
        obtain ⟨g1, g2, g3⟩ := hL.2 i r hi ht
        exact absurd (hp r (by omega) g2) g3
    rw [e0]
    simp (disch := omega) [oI, oR, qI, qZ, qR, rc, lit, iI_add, iI_sub, iI_mul, iI_neg, iI_le, iI_lt, iI_eq, v_isW, v_inW, bz, HR, Sk_rw hS, fX12_tiedTo_b2_body, c2, w, od]
  | succ d ih =>
    intro j fu hj hf hp
    obtain ⟨fu, rfl⟩ : ∃ k, fu = k + 1 := ⟨fu - 1, by omega⟩
    show fX12_tiedTo_b2_body N (fX12_tiedTo_b2 N 29 fu) 29 h (iI i) (iI j) = _
    have w : ¬ (nr : Int) ≤ j := by omega
    have e1 : ixb (iI (j : Int)) 40 = true := ixb_i (by omega) (by omega) (by omega)
    have e2 : (iI (j : Int)).toNatClampNeg = j := by rw [iI_cl (by omega) (by omega)]; simp
    obtain ⟨-, -, ⟨m0, m1, m2, m3, m4⟩, q1, -⟩ := hR.2.1 j (by omega)
    have i2 := (hM j (by omega)).1
    by_cases w1 : rT j = i
    · have w1' : ((rT j : Nat) : Int) = (i : Int) := by omega
      cases hdr : dr j with
      | none =>
        have q := ih (j + 1) fu (by omega) (by omega) (fun r hr h9 => by
          by_cases er : r = j
          · rw [er]; exact hdr
          · exact hp r (by omega) h9)
        simp only [Int.natCast_add, Int.natCast_one] at q
        rw [hdr] at i2
        simp only [od] at i2
        rw [← q]
        simp (disch := omega) [oI, oR, qI, qZ, qR, rc, lit, iI_add, iI_sub, iI_mul, iI_neg, iI_le, iI_lt, iI_eq, v_isW, v_inW, bz, HR, Sk_rw hS, fX12_tiedTo_b2_body, fX12_tiedTo_b31, lA, c2, w, e1, e2, m0, w1', i2]
      | some d0 =>
        obtain ⟨j1, j6⟩ := hL.1 j d0 (by omega) hdr
        rw [w1] at j6
        rw [hdr] at i2
        simp only [od] at i2
        have w2 : ¬ (d0 : Int) < 0 := by omega
        rw [j6]
        simp (disch := omega) [oI, oR, qI, qZ, qR, rc, lit, iI_add, iI_sub, iI_mul, iI_neg, iI_le, iI_lt, iI_eq, v_isW, v_inW, bz, HR, Sk_rw hS, fX12_tiedTo_b2_body, fX12_tiedTo_b31, lA, c2, w, e1, e2, m0, w1', i2, w2, od]
    · have w1' : ¬ ((rT j : Nat) : Int) = (i : Int) := by omega
      have q := ih (j + 1) fu (by omega) (by omega) (fun r hr h9 => by
        by_cases er : r = j
        · rw [er] at h9; exact absurd h9 w1
        · exact hp r (by omega) h9)
      simp only [Int.natCast_add, Int.natCast_one] at q
      rw [← q]
      simp (disch := omega) [oI, oR, qI, qZ, qR, rc, lit, iI_add, iI_sub, iI_mul, iI_neg, iI_le, iI_lt, iI_eq, v_isW, v_inW, bz, HR, Sk_rw hS, fX12_tiedTo_b2_body, fX12_tiedTo_b31, lA, c2, w, e1, e2, m0, w1']
theorem v_tiedM {N : Nat} (hN : 100000000 ≤ N) {h : Hs} (hS : Sk h) {nr nt nd : Nat} {rA tA rT : Nat → Nat} {wy gr hd : Nat → Int} {gn : Nat → Bool} {dr td : Nat → Option Nat} {sr dn : Nat → Int} (hR : RRo h nr nt rA tA rT wy gr hd gn) (hM : RTm h nr rT dr sr dn) (hL : RTl nt nd nr rT dr td) (hnd : nd ≤ 20) (hnt : nt ≤ 40) {i : Nat} (hi : i < nt) : fX12_tiedTo N h 29 (iI i) = some (iI (od (td i)), h) := by
  have c3 := hR.1.2.2
  have q := L_tiedM (N := N) hS hR hM hL hnd hnt hi nr 0 N (by omega) (by omega) (fun r hr => absurd hr (by omega))
  simp only [Int.natCast_zero] at q
  simp only [fX12_tiedTo, lit, q]
theorem RTh.lt {h : Hs} {nt : Nat} {tA : Nat → Nat} {tl tw tg ls ms pa : Nat → Int} (hC : RTh h nt tA tl tw tg ls ms pa) : ∀ i, i < nt → tA i < sz h := fun i hi => (hC.2.1 i hi).1.2.2.1
theorem RRo.lt {h : Hs} {nr nt : Nat} {rA tA rT : Nat → Nat} {wy gr hd : Nat → Int} {gn : Nat → Bool} (hC : RRo h nr nt rA tA rT wy gr hd gn) : ∀ r, r < nr → rA r < sz h := fun r hr => (hC.2.1 r hr).1.2.2.1
