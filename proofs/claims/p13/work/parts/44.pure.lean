/-! ===== scenes of things, ropes, ties ===== -/
def b2 (b : Bool) : Int := if b then 1 else 0
def od (o : Option Nat) : Int := match o with
  | some d => (d : Int)
  | none => -1
def RSc (h : Hs) (nt : Nat) (tA sA : Nat → Nat) (ls ms : Nat → Int) (sc : Nat → Nat → Int) : Prop :=
  (∀ i, i < nt → (gR h 906 (tA i) = some (sA i) ∧ 70 ≤ sA i ∧ sA i < sz h ∧ sh h (sA i) = (20, 10)) ∧ ∀ s, s < 10 → aI h (sA i) s = iI (sc i s) ∧ aI h 48 (40 * s + i) = iI (sc i s) ∧ (sc i s = -1 ∨ (ls i ≤ sc i s ∧ sc i s ≤ ms i))) ∧ (∀ i j, i < nt → j < nt → sA i = sA j → i = j)
def RRo (h : Hs) (nr nt : Nat) (rA tA rT : Nat → Nat) (wy gr hd : Nat → Int) (gn : Nat → Bool) : Prop :=
  (gI h 509 14 = iI nr ∧ gI h 1211 29 = iI nr ∧ nr ≤ 40) ∧
  (∀ r, r < nr → (aR h 17 r = some (rA r) ∧ 70 ≤ rA r ∧ rA r < sz h ∧ sh h (rA r) = (4, 0)) ∧ (gI h 400 (rA r) = iI r ∧ gR h 401 (rA r) = some (tA (rT r)) ∧ gI h 402 (rA r) = iI (wy r) ∧ gI h 403 (rA r) = iI (gr r) ∧ gI h 404 (rA r) = iI (hd r) ∧ gI h 408 (rA r) = iI (b2 (gn r))) ∧ (aI h 38 r = iI (rT r) ∧ aI h 39 r = iI (gr r) ∧ aI h 40 r = iI (wy r) ∧ aI h 41 r = iI (hd r) ∧ aI h 44 r = iI (b2 (gn r))) ∧ (rT r < nt ∧ (wy r = 1 ∨ wy r = -1) ∧ 1 ≤ gr r ∧ gr r ≤ 5 ∧ 1 ≤ hd r ∧ hd r ≤ 9999)) ∧ (∀ i j, i < nr → j < nr → rA i = rA j → i = j)
def RTi (h : Hs) (nt nd nr : Nat) (tA dA rA rT : Nat → Nat) (dr td : Nat → Option Nat) (sr dn : Nat → Int) : Prop :=
  (∀ r, r < nr → gR h 405 (rA r) = (dr r).map dA ∧ aI h 42 r = iI (od (dr r)) ∧ ∀ d, dr r = some d → d < nd ∧ gI h 406 (rA r) = iI (sr r) ∧ gI h 407 (rA r) = iI (dn r) ∧ aI h 43 r = iI (dn r) ∧ aI h 36 (rT r) = iI (sr r) ∧ td (rT r) = some r) ∧
  (∀ i, i < nt → gR h 909 (tA i) = (td i).map rA ∧ ∀ r, td i = some r → r < nr ∧ rT r = i ∧ dr r ≠ none)
theorem RSc.e {F A FR AQ : List Nat} {h h2 : Hs} {nt : Nat} {tA sA : Nat → Nat} {ls ms : Nat → Int} {sc : Nat → Nat → Int} (hC : RSc h nt tA sA ls ms sc) (hz : 70 ≤ sz h) (ht : ∀ i, i < nt → tA i < sz h) (k : Ke F A FR AQ h h2) (hF : 906 ∉ FR) (hA : 48 ∉ A) (hA2 : ∀ i, i < nt → sA i ∉ A) : RSc h2 nt tA sA ls ms sc := by
  obtain ⟨c1, c2⟩ := hC
  have k6 := k.2.2.2.2.2
  refine ⟨fun i hi => ?_, c2⟩
  obtain ⟨⟨d1, d2, d3, d4⟩, d5⟩ := c1 i hi
  refine ⟨⟨by rw [k.2.2.1 _ _ hF (ht i hi)]; exact d1, d2, by omega, by rw [k.2.2.2.2.1 _ d3]; exact d4⟩, fun s hs => ?_⟩
  rw [k.2.1 _ (hA2 i hi) d3, k.2.1 _ hA (by omega)]
  exact d5 s hs
theorem RRo.e {F A FR AQ : List Nat} {h h2 : Hs} {nr nt : Nat} {rA tA rT : Nat → Nat} {wy gr hd : Nat → Int} {gn : Nat → Bool} (hC : RRo h nr nt rA tA rT wy gr hd gn) (hz : 70 ≤ sz h) (k : Ke F A FR AQ h h2) (hF : ∀ f ∈ [509, 1211, 400, 402, 403, 404, 408], f ∉ F) (hA : ∀ a ∈ [38, 39, 40, 41, 44], a ∉ A) (hR : 401 ∉ FR) (hQ : 17 ∉ AQ) : RRo h2 nr nt rA tA rT wy gr hd gn := by
  obtain ⟨⟨c1, c2, c3⟩, c4, c5⟩ := hC
  have k6 := k.2.2.2.2.2
  refine ⟨⟨by rw [k.1 _ _ (hF _ (by decide)) (by omega)]; exact c1, by rw [k.1 _ _ (hF _ (by decide)) (by omega)]; exact c2, c3⟩, fun i hi => ?_, c5⟩
  obtain ⟨⟨d1, d2, d3, d4⟩, d5, d6, d7⟩ := c4 i hi
  refine ⟨⟨by rw [k.2.2.2.1 _ hQ (by omega)]; exact d1, d2, by omega, by rw [k.2.2.2.2.1 _ d3]; exact d4⟩, ?_, ?_, d7⟩
  · rw [k.1 _ _ (hF 400 (by decide)) d3, k.2.2.1 _ _ hR d3, k.1 _ _ (hF 402 (by decide)) d3, k.1 _ _ (hF 403 (by decide)) d3, k.1 _ _ (hF 404 (by decide)) d3, k.1 _ _ (hF 408 (by decide)) d3]
    exact d5
  · rw [k.2.1 _ (hA 38 (by decide)) (by omega), k.2.1 _ (hA 39 (by decide)) (by omega), k.2.1 _ (hA 40 (by decide)) (by omega), k.2.1 _ (hA 41 (by decide)) (by omega), k.2.1 _ (hA 44 (by decide)) (by omega)]
    exact d6
theorem RTi.e {F A FR AQ : List Nat} {h h2 : Hs} {nt nd nr : Nat} {tA dA rA rT : Nat → Nat} {dr td : Nat → Option Nat} {sr dn : Nat → Int} (hC : RTi h nt nd nr tA dA rA rT dr td sr dn) (hz : 70 ≤ sz h) (ht : ∀ i, i < nt → tA i < sz h) (hr : ∀ r, r < nr → rA r < sz h) (k : Ke F A FR AQ h h2) (hF : ∀ f ∈ [406, 407], f ∉ F) (hA : ∀ a ∈ [36, 42, 43], a ∉ A) (hR : ∀ f ∈ [405, 909], f ∉ FR) : RTi h2 nt nd nr tA dA rA rT dr td sr dn := by
  obtain ⟨c1, c2⟩ := hC
  refine ⟨fun r hr' => ?_, fun i hi => ?_⟩
  · have hr2 := hr r hr'
    obtain ⟨d1, d2, d3⟩ := c1 r hr'
    refine ⟨by rw [k.2.2.1 _ _ (hR 405 (by decide)) hr2]; exact d1, by rw [k.2.1 _ (hA 42 (by decide)) (by omega)]; exact d2, fun d hd => ?_⟩
    rw [k.1 _ _ (hF 406 (by decide)) hr2, k.1 _ _ (hF 407 (by decide)) hr2, k.2.1 _ (hA 43 (by decide)) (by omega), k.2.1 _ (hA 36 (by decide)) (by omega)]
    exact d3 d hd
  · obtain ⟨d1, d2⟩ := c2 i hi
    exact ⟨by rw [k.2.2.1 _ _ (hR 909 (by decide)) (ht i hi)]; exact d1, d2⟩
/-! a number's thing, rope, drum -/
theorem v_thingY {N : Nat} {h : Hs} (hS : Sk h) {nt : Nat} {tA : Nat → Nat} {tl tw tg ls ms pa : Nat → Int} (hC : RTh h nt tA tl tw tg ls ms pa) {i : Nat} (hi : i < nt) : fX5_thingNumbered N h 14 (iI i) = some (some (tA i), h) := by
  obtain ⟨⟨c1, c2, c3⟩, c4, c5⟩ := hC
  have e1 : ixb (iI (i : Int)) 40 = true := ixb_i (by omega) (by omega) (by omega)
  have e2 : (iI (i : Int)).toNatClampNeg = i := by rw [iI_cl (by omega) (by omega)]; simp
  have w : 0 ≤ (i : Int) ∧ (i : Int) ≤ nt - 1 := by omega
  have d1 := (c4 i hi).1.1
  simp (disch := omega) [oI, oR, qI, qZ, qR, rc, lit, iI_add, iI_sub, iI_mul, iI_neg, iI_le, iI_lt, iI_eq, v_isW, v_inW, bz, HR, Sk_rw hS, fX5_thingNumbered, fX5_thingNumbered_b24, lQ, c1, w, e1, e2, d1]
theorem v_thingN {N : Nat} {h : Hs} (hS : Sk h) {nt : Nat} {tA : Nat → Nat} {tl tw tg ls ms pa : Nat → Int} (hC : RTh h nt tA tl tw tg ls ms pa) {z : Int} (z1 : -2147483648 ≤ z) (z2 : z < 2147483648) (hi : ¬ (0 ≤ z ∧ z ≤ nt - 1)) : fX5_thingNumbered N h 14 (iI z) = some (none, h) := by
  obtain ⟨⟨c1, c2, c3⟩, c4, c5⟩ := hC
  simp (disch := omega) [oI, oR, qI, qZ, qR, rc, lit, iI_add, iI_sub, iI_mul, iI_neg, iI_le, iI_lt, iI_eq, v_isW, v_inW, bz, HR, Sk_rw hS, fX5_thingNumbered, fX5_thingNumbered_b24, c1, hi]
theorem v_drumY {N : Nat} {h : Hs} (hS : Sk h) {nd : Nat} {dA : Nat → Nat} {ds : Nat → Int} (hC : RDr h nd dA ds) {i : Nat} (hi : i < nd) : fX5_drumNumbered N h 14 (iI i) = some (some (dA i), h) := by
  obtain ⟨⟨c1, c2, c3⟩, c4, c5⟩ := hC
  have e1 : ixb (iI (i : Int)) 20 = true := ixb_i (by omega) (by omega) (by omega)
  have e2 : (iI (i : Int)).toNatClampNeg = i := by rw [iI_cl (by omega) (by omega)]; simp
  have w : 0 ≤ (i : Int) ∧ (i : Int) ≤ nd - 1 := by omega
  have d1 := (c4 i hi).1.1
  simp (disch := omega) [oI, oR, qI, qZ, qR, rc, lit, iI_add, iI_sub, iI_mul, iI_neg, iI_le, iI_lt, iI_eq, v_isW, v_inW, bz, HR, Sk_rw hS, fX5_drumNumbered, fX5_drumNumbered_b24, lQ, c1, w, e1, e2, d1]
theorem v_drumN {N : Nat} {h : Hs} (hS : Sk h) {nd : Nat} {dA : Nat → Nat} {ds : Nat → Int} (hC : RDr h nd dA ds) {z : Int} (z1 : -2147483648 ≤ z) (z2 : z < 2147483648) (hi : ¬ (0 ≤ z ∧ z ≤ nd - 1)) : fX5_drumNumbered N h 14 (iI z) = some (none, h) := by
  obtain ⟨⟨c1, c2, c3⟩, c4, c5⟩ := hC
  simp (disch := omega) [oI, oR, qI, qZ, qR, rc, lit, iI_add, iI_sub, iI_mul, iI_neg, iI_le, iI_lt, iI_eq, v_isW, v_inW, bz, HR, Sk_rw hS, fX5_drumNumbered, fX5_drumNumbered_b24, c1, hi]
theorem v_ropeY {N : Nat} {h : Hs} (hS : Sk h) {nr nt : Nat} {rA tA rT : Nat → Nat} {wy gr hd : Nat → Int} {gn : Nat → Bool} (hC : RRo h nr nt rA tA rT wy gr hd gn) {i : Nat} (hi : i < nr) : fX5_ropeNumbered N h 14 (iI i) = some (some (rA i), h) := by
  obtain ⟨⟨c1, c2, c3⟩, c4, c5⟩ := hC
  have e1 : ixb (iI (i : Int)) 40 = true := ixb_i (by omega) (by omega) (by omega)
  have e2 : (iI (i : Int)).toNatClampNeg = i := by rw [iI_cl (by omega) (by omega)]; simp
  have w : 0 ≤ (i : Int) ∧ (i : Int) ≤ nr - 1 := by omega
  have d1 := (c4 i hi).1.1
  simp (disch := omega) [oI, oR, qI, qZ, qR, rc, lit, iI_add, iI_sub, iI_mul, iI_neg, iI_le, iI_lt, iI_eq, v_isW, v_inW, bz, HR, Sk_rw hS, fX5_ropeNumbered, fX5_ropeNumbered_b24, lQ, c1, w, e1, e2, d1]
theorem v_ropeN {N : Nat} {h : Hs} (hS : Sk h) {nr nt : Nat} {rA tA rT : Nat → Nat} {wy gr hd : Nat → Int} {gn : Nat → Bool} (hC : RRo h nr nt rA tA rT wy gr hd gn) {z : Int} (z1 : -2147483648 ≤ z) (z2 : z < 2147483648) (hi : ¬ (0 ≤ z ∧ z ≤ nr - 1)) : fX5_ropeNumbered N h 14 (iI z) = some (none, h) := by
  obtain ⟨⟨c1, c2, c3⟩, c4, c5⟩ := hC
  simp (disch := omega) [oI, oR, qI, qZ, qR, rc, lit, iI_add, iI_sub, iI_mul, iI_neg, iI_le, iI_lt, iI_eq, v_isW, v_inW, bz, HR, Sk_rw hS, fX5_ropeNumbered, fX5_ropeNumbered_b24, c1, hi]
theorem v_isThing {N : Nat} {h : Hs} (hS : Sk h) {nt : Nat} (c : gI h 1201 29 = iI nt) (hn : nt ≤ 40) {z : Int} (z1 : -2147483648 ≤ z) (z2 : z < 2147483648) : fX12_isThing N h 29 (iI z) = some (if 0 ≤ z ∧ z ≤ nt - 1 then iI 1 else iI 0, h) := by
  by_cases w : 0 ≤ z ∧ z ≤ (nt : Int) - 1
  · rw [if_pos w]; simp (disch := omega) [oI, oR, qI, qZ, qR, rc, lit, iI_add, iI_sub, iI_mul, iI_neg, iI_le, iI_lt, iI_eq, v_isW, v_inW, bz, HR, Sk_rw hS, fX12_isThing, c, w, zc_i1]
  · rw [if_neg w]; simp (disch := omega) [oI, oR, qI, qZ, qR, rc, lit, iI_add, iI_sub, iI_mul, iI_neg, iI_le, iI_lt, iI_eq, v_isW, v_inW, bz, HR, Sk_rw hS, fX12_isThing, c, w, zc_i0]
theorem v_isRope {N : Nat} {h : Hs} (hS : Sk h) {nr : Nat} (c : gI h 1211 29 = iI nr) (hn : nr ≤ 40) {z : Int} (z1 : -2147483648 ≤ z) (z2 : z < 2147483648) : fX12_isRope N h 29 (iI z) = some (if 0 ≤ z ∧ z ≤ nr - 1 then iI 1 else iI 0, h) := by
  by_cases w : 0 ≤ z ∧ z ≤ (nr : Int) - 1
  · rw [if_pos w]; simp (disch := omega) [oI, oR, qI, qZ, qR, rc, lit, iI_add, iI_sub, iI_mul, iI_neg, iI_le, iI_lt, iI_eq, v_isW, v_inW, bz, HR, Sk_rw hS, fX12_isRope, c, w, zc_i1]
  · rw [if_neg w]; simp (disch := omega) [oI, oR, qI, qZ, qR, rc, lit, iI_add, iI_sub, iI_mul, iI_neg, iI_le, iI_lt, iI_eq, v_isW, v_inW, bz, HR, Sk_rw hS, fX12_isRope, c, w, zc_i0]
theorem v_isDrum {N : Nat} {h : Hs} (hS : Sk h) {nd : Nat} (c : gI h 1209 29 = iI nd) (hn : nd ≤ 20) {z : Int} (z1 : -2147483648 ≤ z) (z2 : z < 2147483648) : fX12_isDrum N h 29 (iI z) = some (if 0 ≤ z ∧ z ≤ nd - 1 then iI 1 else iI 0, h) := by
  by_cases w : 0 ≤ z ∧ z ≤ (nd : Int) - 1
  · rw [if_pos w]; simp (disch := omega) [oI, oR, qI, qZ, qR, rc, lit, iI_add, iI_sub, iI_mul, iI_neg, iI_le, iI_lt, iI_eq, v_isW, v_inW, bz, HR, Sk_rw hS, fX12_isDrum, c, w, zc_i1]
  · rw [if_neg w]; simp (disch := omega) [oI, oR, qI, qZ, qR, rc, lit, iI_add, iI_sub, iI_mul, iI_neg, iI_le, iI_lt, iI_eq, v_isW, v_inW, bz, HR, Sk_rw hS, fX12_isDrum, c, w, zc_i0]
