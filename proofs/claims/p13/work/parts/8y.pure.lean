/-! ===== what a change told stays ===== -/
theorem RChg.e {F A FR AQ : List Nat} {h h2 : Hs} {nt na : Nat} {as no : Bool} {cr cd wk : Nat → Int} (hC : RChg h nt na as no cr cd wk) (hz : 70 ≤ sz h) (k : Ke F A FR AQ h h2) (hF : ∀ f ∈ [104, 105, 106, 107, 108, 1229, 1230, 1234], f ∉ F) (hA : ∀ a ∈ [26, 27, 49, 50, 51], a ∉ A) : RChg h2 nt na as no cr cd wk := by
  unfold RChg
  rw [k.1 104 25 (hF _ (by decide)) (by omega), k.1 105 25 (hF _ (by decide)) (by omega), k.1 106 25 (hF _ (by decide)) (by omega), k.1 107 25 (hF _ (by decide)) (by omega), k.1 108 25 (hF _ (by decide)) (by omega), k.1 1229 29 (hF _ (by decide)) (by omega), k.1 1230 29 (hF _ (by decide)) (by omega), k.1 1234 29 (hF _ (by decide)) (by omega), k.2.1 26 (hA _ (by decide)) (by omega), k.2.1 27 (hA _ (by decide)) (by omega), k.2.1 49 (hA _ (by decide)) (by omega), k.2.1 50 (hA _ (by decide)) (by omega), k.2.1 51 (hA _ (by decide)) (by omega)]
  exact hC
theorem RChg.up {h : Hs} {nt nt' na : Nat} {as no : Bool} {cr cd wk : Nat → Int} (hC : RChg h nt na as no cr cd wk) (hn : nt ≤ nt') : RChg h nt' na as no cr cd wk := by
  obtain ⟨c1, c2⟩ := hC
  refine ⟨c1, fun z => ?_⟩
  obtain ⟨⟨d1, d2, d3, d4⟩, d5⟩ := c2 z
  exact ⟨⟨d1, d2, d3, by omega⟩, d5⟩
