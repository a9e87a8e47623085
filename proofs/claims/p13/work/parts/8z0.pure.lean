/-! ===== what a call doesn't touch ===== -/
theorem VCore.e {F A FR AQ : List Nat} {h h2 : Hs} {w : Int} {nt nd nr : Nat} {tA dA rA sA rT : Nat → Nat} {tl tw tg ls ms pa ds wy gr hd : Nat → Int} {gn : Nat → Bool} {sc : Nat → Nat → Int} {dr td : Nat → Option Nat} {sr dn : Nat → Int} (hV : VCore h w nt nd nr tA dA rA sA rT tl tw tg ls ms pa ds wy gr hd gn sc dr td sr dn) (k : Ke F A FR AQ h h2) (hS2 : Sk h2) (hF : ∀ f ∈ FTh ++ [508, 1209, 200, 201, 509, 1211, 400, 402, 403, 404, 408, 406, 407], f ∉ F) (hA : ∀ a ∈ ATh ++ [48, 37, 38, 39, 40, 41, 44, 36, 42, 43], a ∉ A) (hA7 : ∀ a ∈ A, a < 70) (hR : ∀ f ∈ [401, 405, 909, 906], f ∉ FR) (hQ : ∀ a ∈ [15, 16, 17], a ∉ AQ) : VCore h2 w nt nd nr tA dA rA sA rT tl tw tg ls ms pa ds wy gr hd gn sc dr td sr dn := by
  obtain ⟨⟨hS, hz⟩, hT, hC, hD, hO, hI, r1, r2, r3, r4⟩ := hV
  have k6 := k.2.2.2.2.2
  refine ⟨⟨hS2, by omega⟩, hT.e hz k (fun f hf => hF f (List.mem_append_left _ hf)) (fun a ha => hA a (List.mem_append_left _ ha)) (hQ 15 (by decide)), hC.e hz hT.lt k (hR 906 (by decide)) (hA 48 (by decide)) (fun i hi z => by have := hA7 _ z; have := (hC.1 i hi).1.2.1; omega), hD.e hz k (fun f hf => hF f ?_) (hA 37 (by decide)) (hQ 16 (by decide)), hO.e hz k (fun f hf => hF f ?_) (fun a ha => hA a ?_) (hR 401 (by decide)) (hQ 17 (by decide)), hI.e hz hT.lt hO.lt k (fun f hf => hF f ?_) (fun a ha => hA a ?_) (fun f hf => hR f ?_), r1, r2, ?_, r4⟩
  · revert f; decide
  · revert f; decide
  · revert a; decide
  · revert f; decide
  · revert a; decide
  · revert f; decide
  · intro r h1 h3
    rw [k.2.1 44 (hA 44 (by decide)) (by omega)]
    exact r3 r h1 h3
theorem VKept.e {F A FR AQ : List Nat} {h h2 : Hs} {w : Int} {nt nd nr : Nat} {tA dA rA rT : Nat → Nat} {ls ms wy gr : Nat → Int} (hV : VKept h w nt nd nr tA dA rA rT ls ms wy gr) (hz : 70 ≤ sz h) (ht : ∀ i, i < nt → tA i < sz h) (hr : ∀ r, r < nr → rA r < sz h) (k : Ke F A FR AQ h h2) (hF : ∀ f ∈ [1106, 910, 410, 411, 513, 514, 1249, 1250], f ∉ F) (hA : ∀ a ∈ [19, 57, 58, 59, 60, 61], a ∉ A) (hR : ∀ f ∈ [911, 409], f ∉ FR) : VKept h2 w nt nd nr tA dA rA rT ls ms wy gr := by
  intro q
  rw [k.1 1106 0 (hF _ (by decide)) (by omega)] at q
  obtain ⟨pk, dk, tk, sk, nk, ck, v1, v2, v3, v4, v5⟩ := hV q
  refine ⟨pk, dk, tk, sk, nk, ck, v1.e hz ht hr k (fun f hf => hF f ?_) (hA 19 (by decide)) hR, v2.e hz k (fun a ha => hA a ?_), v3, v4.e hz k (fun f hf => hF f ?_), v5⟩
  · revert f; decide
  · revert a; decide
  · revert f; decide
