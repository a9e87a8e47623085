/-! ===== the chance to go back, over a call that may take it away; more drums ===== -/
theorem VKept.n {F A FR AQ : List Nat} {h h2 : Hs} {w w' : Int} {nt nd nr : Nat} {tA dA rA rT : Nat → Nat} {ls ms wy gr : Nat → Int} (hV : VKept h w nt nd nr tA dA rA rT ls ms wy gr) (hn : ICn h h2) (hw : w ≤ w') (hz : 70 ≤ sz h) (ht : ∀ i, i < nt → tA i < sz h) (hr : ∀ r, r < nr → rA r < sz h) (k : Ke F A FR AQ h h2) (hF : ∀ f ∈ [910, 410, 411, 513, 514, 1249, 1250], f ∉ F) (hA : ∀ a ∈ [19, 57, 58, 59, 60, 61], a ∉ A) (hR : ∀ f ∈ [911, 409], f ∉ FR) : VKept h2 w' nt nd nr tA dA rA rT ls ms wy gr := by
  intro q
  obtain ⟨c, c1, c2, c3⟩ := hn
  have q1 : gI h 1106 0 = iI 1 := by
    rcases c3 with rfl | c3
    · exact absurd (c1.symm.trans q) (by decide)
    · exact c3.2
  obtain ⟨pk, dk, tk, sk, nk, ck, v1, v2, v3, v4, v5⟩ := hV q1
  refine ⟨pk, dk, tk, sk, nk, ck, v1.e hz ht hr k (fun f hf => hF f ?_) (hA 19 (by decide)) hR, v2.e hz k (fun a ha => hA a ?_), v3, v4.e hz k (fun f hf => hF f ?_), fun r x1 x2 => by have := v5 r x1 x2; omega⟩
  · revert f; decide
  · revert a; decide
  · revert f; decide
theorem RTi.d {h : Hs} {nt nd nd' nr : Nat} {tA dA dA' rA rT : Nat → Nat} {dr td : Nat → Option Nat} {sr dn : Nat → Int} (hI : RTi h nt nd nr tA dA rA rT dr td sr dn) (hn : nd ≤ nd') (hd : ∀ i, i < nd → dA' i = dA i) : RTi h nt nd' nr tA dA' rA rT dr td sr dn := by
  obtain ⟨c1, c2⟩ := hI
  refine ⟨fun r hr => ?_, c2⟩
  obtain ⟨d1, d2, d3⟩ := c1 r hr
  refine ⟨?_, d2, fun d hd' => ?_⟩
  · rw [d1]
    cases hq : dr r with
    | none => rfl
    | some d =>
      show some (dA d) = some (dA' d)
      rw [hd d (d3 d hq).1]
  · obtain ⟨g1, g2⟩ := d3 d hd'
    exact ⟨by omega, g2⟩
theorem RKc.d {h : Hs} {nt nd nr : Nat} {tA dA dA' rA rT : Nat → Nat} {pk : Nat → Int} {dk tk : Nat → Option Nat} {sk nk ck : Nat → Int} (hC : RKc h nt nr tA dA rA pk dk tk sk nk ck) (hL : RTl nt nd nr rT dk tk) (hd : ∀ i, i < nd → dA' i = dA i) : RKc h nt nr tA dA' rA pk dk tk sk nk ck := by
  obtain ⟨c1, c2, c3⟩ := hC
  refine ⟨c1, fun r hr => ⟨?_, (c2 r hr).2⟩, c3⟩
  rw [(c2 r hr).1]
  cases hq : dk r with
  | none => rfl
  | some d =>
    show some (dA d) = some (dA' d)
    rw [hd d (hL.1 r d hr hq).1]
theorem VKept.d {h : Hs} {w : Int} {nt nd nd' nr : Nat} {tA dA dA' rA rT : Nat → Nat} {ls ms wy gr : Nat → Int} (hV : VKept h w nt nd nr tA dA rA rT ls ms wy gr) (hn : nd ≤ nd') (hd : ∀ i, i < nd → dA' i = dA i) : VKept h w nt nd' nr tA dA' rA rT ls ms wy gr := by
  intro q
  obtain ⟨pk, dk, tk, sk, nk, ck, v1, v2, ⟨l1, l2, l3, l4⟩, v4, v5⟩ := hV q
  exact ⟨pk, dk, tk, sk, nk, ck, v1.d l4 hd, v2, ⟨l1, l2, l3, fun r d x1 x2 => ⟨by have := (l4.1 r d x1 x2).1; omega, (l4.1 r d x1 x2).2⟩, l4.2⟩, v4, v5⟩
theorem VKept.z {h : Hs} {w : Int} {nt nd nr : Nat} {tA dA rA rT : Nat → Nat} {ls ms wy gr : Nat → Int} (hz : gI h 1106 0 = iI 0) : VKept h w nt nd nr tA dA rA rT ls ms wy gr := fun q => absurd (hz.symm.trans q) (by decide)
