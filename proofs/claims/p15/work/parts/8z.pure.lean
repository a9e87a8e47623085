/-! ===== what holds between the calls ===== -/
def VCore (h : Hs) (w : Int) (nt nd nr : Nat) (tA dA rA sA rT : Nat → Nat) (tl tw tg ls ms pa ds wy gr hd : Nat → Int) (gn : Nat → Bool) (sc : Nat → Nat → Int) (dr td : Nat → Option Nat) (sr dn : Nat → Int) : Prop := (Sk h ∧ 70 ≤ sz h) ∧ RTh h nt tA tl tw tg ls ms pa ∧ RSc h nt tA sA ls ms sc ∧ RDr h nd dA ds ∧ RRo h nr nt rA tA rT wy gr hd gn ∧ RTi h nt nd nr tA dA rA rT dr td sr dn ∧ (∀ r, r < nr → dr r ≠ none → ls (rT r) ≤ sr r ∧ sr r ≤ ms (rT r)) ∧ (∀ r, r < nr → dr r ≠ none → pa (rT r) = sr r + wy r * (dn r).tdiv (100 * gr r)) ∧ (∀ r, nr ≤ r → r < 40 → aI h 44 r = iI 0) ∧ ∀ r, r < nr → dr r ≠ none → -(20 * w) ≤ dn r ∧ dn r ≤ 20 * w
def VKept (h : Hs) (w : Int) (nt nd nr : Nat) (tA dA rA rT : Nat → Nat) (ls ms wy gr : Nat → Int) : Prop := gI h 1106 0 = iI 1 → ∃ (pk : Nat → Int) (dk tk : Nat → Option Nat) (sk nk ck : Nat → Int), RKc h nt nr tA dA rA pk dk tk sk nk ck ∧ RKm h nt nr rT pk dk sk nk ck ∧ RKl nt nd nr rT wy gr ls ms pk dk tk sk nk ck ∧ RKs h ∧ ∀ r, r < nr → dk r ≠ none → -(20 * w) ≤ nk r ∧ nk r ≤ 20 * w
def VSmall (h : Hs) : Prop := ICnt h ∧ IBnd h ∧ ICan h ∧ ICat h ∧ ICand h ∧ IStk h ∧ IStp h ∧ RSh h
def Inv (k : Nat) (h : Hs) : Prop := ∃ (w : Int) (L : Nat) (bt : Nat → Int) (nt nd nr na : Nat) (tA dA rA sA rT : Nat → Nat) (tl tw tg ls ms pa ds wy gr hd : Nat → Int) (gn : Nat → Bool) (sc : Nat → Nat → Int) (dr td : Nat → Option Nat) (sr dn cr cd wk : Nat → Int) (as no : Bool), (0 ≤ w ∧ 4 * w + 9999 * L ≤ 39996 * k) ∧ VCore h w nt nd nr tA dA rA sA rT tl tw tg ls ms pa ds wy gr hd gn sc dr td sr dn ∧ VKept h w nt nd nr tA dA rA rT ls ms wy gr ∧ VSmall h ∧ RTape h L bt ∧ RChg h nt na as no cr cd wk
theorem Inv.up {k : Nat} {h : Hs} (hI : Inv k h) : Inv (k + 1) h := by
  obtain ⟨w, L, bt, nt, nd, nr, na, tA, dA, rA, sA, rT, tl, tw, tg, ls, ms, pa, ds, wy, gr, hd, gn, sc, dr, td, sr, dn, cr, cd, wk, as, no, ⟨g1, g2⟩, rest⟩ := hI
  exact ⟨w, L, bt, nt, nd, nr, na, tA, dA, rA, sA, rT, tl, tw, tg, ls, ms, pa, ds, wy, gr, hd, gn, sc, dr, td, sr, dn, cr, cd, wk, as, no, ⟨g1, by omega⟩, rest⟩
theorem Inv.mk {k : Nat} {h : Hs} (w : Int) (L : Nat) (bt : Nat → Int) (nt nd nr na : Nat) (tA dA rA sA rT : Nat → Nat) (tl tw tg ls ms pa ds wy gr hd : Nat → Int) (gn : Nat → Bool) (sc : Nat → Nat → Int) (dr td : Nat → Option Nat) (sr dn cr cd wk : Nat → Int) (as no : Bool) (c1 : (0 ≤ w ∧ 4 * w + 9999 * L ≤ 39996 * k)) (c2 : VCore h w nt nd nr tA dA rA sA rT tl tw tg ls ms pa ds wy gr hd gn sc dr td sr dn) (c3 : VKept h w nt nd nr tA dA rA rT ls ms wy gr) (c4 : VSmall h) (c5 : RTape h L bt) (c6 : RChg h nt na as no cr cd wk) : Inv k h := ⟨w, L, bt, nt, nd, nr, na, tA, dA, rA, sA, rT, tl, tw, tg, ls, ms, pa, ds, wy, gr, hd, gn, sc, dr, td, sr, dn, cr, cd, wk, as, no, c1, c2, c3, c4, c5, c6⟩
theorem Inv.el {k : Nat} {h : Hs} {P : Prop} (hI : Inv k h) (f : ∀ (w : Int) (L : Nat) (bt : Nat → Int) (nt nd nr na : Nat) (tA dA rA sA rT : Nat → Nat) (tl tw tg ls ms pa ds wy gr hd : Nat → Int) (gn : Nat → Bool) (sc : Nat → Nat → Int) (dr td : Nat → Option Nat) (sr dn cr cd wk : Nat → Int) (as no : Bool), (0 ≤ w ∧ 4 * w + 9999 * L ≤ 39996 * k) → VCore h w nt nd nr tA dA rA sA rT tl tw tg ls ms pa ds wy gr hd gn sc dr td sr dn → VKept h w nt nd nr tA dA rA rT ls ms wy gr → VSmall h → RTape h L bt → RChg h nt na as no cr cd wk → P) : P := by
  obtain ⟨w, L, bt, nt, nd, nr, na, tA, dA, rA, sA, rT, tl, tw, tg, ls, ms, pa, ds, wy, gr, hd, gn, sc, dr, td, sr, dn, cr, cd, wk, as, no, c1, c2, c3, c4, c5, c6⟩ := hI
  exact f w L bt nt nd nr na tA dA rA sA rT tl tw tg ls ms pa ds wy gr hd gn sc dr td sr dn cr cd wk as no c1 c2 c3 c4 c5 c6
/-! ===== what a call doesn't touch ===== -/
theorem VCore.e {F A FR AQ : List Nat} {h h2 : Hs} {w : Int} {nt nd nr : Nat} {tA dA rA sA rT : Nat → Nat} {tl tw tg ls ms pa ds wy gr hd : Nat → Int} {gn : Nat → Bool} {sc : Nat → Nat → Int} {dr td : Nat → Option Nat} {sr dn : Nat → Int} (hV : VCore h w nt nd nr tA dA rA sA rT tl tw tg ls ms pa ds wy gr hd gn sc dr td sr dn) (k : Ke F A FR AQ h h2) (hS2 : Sk h2) (hF : ∀ f ∈ FTh ++ [508, 1209, 200, 201, 509, 1211, 400, 402, 403, 404, 408, 406, 407], f ∉ F) (hA : ∀ a ∈ ATh ++ [48, 37, 38, 39, 40, 41, 44, 36, 42, 43], a ∉ A) (hA7 : ∀ a ∈ A, a < 70) (hR : ∀ f ∈ [401, 405, 909, 906], f ∉ FR) (hQ : ∀ a ∈ [15, 16, 17], a ∉ AQ) : VCore h2 w nt nd nr tA dA rA sA rT tl tw tg ls ms pa ds wy gr hd gn sc dr td sr dn := by
  obtain ⟨⟨hS, hz⟩, hT, hC, hD, hO, hI, r1, r2, r3, r4⟩ := hV
  have k6 := k.2.2.2.2.2
  refine ⟨⟨hS2, by omega⟩, hT.e hz k (fun f hf => hF f (List.mem_append_left _ hf)) (fun a ha => hA a (List.mem_append_left _ ha)) (hQ 15 (by decide)), hC.e hz hT.lt k (hR 906 (by decide)) (hA 48 (by decide)) (fun i hi z => by have := hA7 _ z; have := (hC.1 i hi).1.2.1; omega), hD.e hz k (fun f hf => hF f ?_) (hA 37 (by decide)) (hQ 16 (by decide)), hO.e hz k (fun f hf => hF f ?_) (fun a ha => hA a ?_) (hR 401 (by decide)) (hQ 17 (by decide)), hI.e hz hT.lt hO.lt k (fun f hf => hF f ?_) (fun a ha => hA a ?_) (fun f hf => hR f ?_), r1, r2, ?_, r4⟩
  · revert f; decide
  · revert f; decide
  · revert a; decide
  · revert f; decide
  · revert a; decide
  · revert f; decide
  · intro r h1 h3
    rw [k.2.1 44 (hA 44 (by decide)) (by omega)]
    exact r3 r h1 h3
theorem VKept.e {F A FR AQ : List Nat} {h h2 : Hs} {w : Int} {nt nd nr : Nat} {tA dA rA rT : Nat → Nat} {ls ms wy gr : Nat → Int} (hV : VKept h w nt nd nr tA dA rA rT ls ms wy gr) (hz : 70 ≤ sz h) (ht : ∀ i, i < nt → tA i < sz h) (hr : ∀ r, r < nr → rA r < sz h) (k : Ke F A FR AQ h h2) (hF : ∀ f ∈ [1106, 910, 410, 411, 513, 514, 1249, 1250], f ∉ F) (hA : ∀ a ∈ [19, 57, 58, 59, 60, 61], a ∉ A) (hR : ∀ f ∈ [911, 409], f ∉ FR) : VKept h2 w nt nd nr tA dA rA rT ls ms wy gr := by
  intro q
  rw [k.1 1106 0 (hF _ (by decide)) (by omega)] at q
  obtain ⟨pk, dk, tk, sk, nk, ck, v1, v2, v3, v4, v5⟩ := hV q
  refine ⟨pk, dk, tk, sk, nk, ck, v1.e hz ht hr k (fun f hf => hF f ?_) (hA 19 (by decide)) hR, v2.e hz k (fun a ha => hA a ?_), v3, v4.e hz k (fun f hf => hF f ?_), v5⟩
  · revert f; decide
  · revert a; decide
  · revert f; decide
/-! ===== the calls keep Inv ===== -/
theorem i_paint {N : Nat} (hN : 100000000 ≤ N) {k : Nat} {h : Hs} (hI : Inv k h) : ∃ r h1 h2, fX11_paint N h 0 = some (r, h1) ∧ fX12_paint N h1 29 = some (r, h2) ∧ Inv (k + 1) h2 := by
  have hU := hI.up
  obtain ⟨w, L, bt, nt, nd, nr, na, tA, dA, rA, sA, rT, tl, tw, tg, ls, ms, pa, ds, wy, gr, hd, gn, sc, dr, td, sr, dn, cr, cd, wk, as, no, gg, vc, vk, ⟨s1, s2, s3, s4, s5, s6, s7, s8⟩, tp, cg⟩ := hU
  obtain ⟨hS, hz⟩ := vc.1
  obtain ⟨a, h1, h2, e1, e2, q1, q2, q3⟩ := t_paint (N := N) hN hS hz s6
  refine ⟨a, h1, h2, e1, e2, w, L, bt, nt, nd, nr, na, tA, dA, rA, sA, rT, tl, tw, tg, ls, ms, pa, ds, wy, gr, hd, gn, sc, dr, td, sr, dn, cr, cd, wk, as, no, gg, vc.e q2 (hS.e hz q2 (by decide +kernel)) (by decide +kernel) (by decide +kernel) (by decide +kernel) (by decide +kernel) (by decide +kernel), vk.e hz vc.2.1.lt vc.2.2.2.2.1.lt q2 (by decide +kernel) (by decide +kernel) (by decide +kernel), ⟨s1.e hz q2 (by decide +kernel) (by decide +kernel), ?_, s3.e hz q2 (by decide +kernel) (by decide +kernel), s4.e hz q2 (by decide +kernel), s5.e hz q2 (by decide +kernel) (by decide +kernel), q1, s7.e hz q2 (by decide +kernel), s8.e hz q2 (by decide +kernel)⟩, tp.e hz q2 (by decide +kernel) (by decide +kernel) (by decide +kernel) (by decide +kernel), cg.e hz q2 (by decide +kernel) (by decide +kernel)⟩
  obtain ⟨b, b1, b2', b3⟩ := s2
  exact ⟨b, (q2.1 510 14 (by decide +kernel) (by omega)).trans b1, (q2.1 1220 29 (by decide +kernel) (by omega)).trans b2', b3⟩
theorem i_back {N : Nat} (hN : 100000000 ≤ N) {k : Nat} {h : Hs} (hI : Inv k h) : ∃ r h1 h2, fX11_back N h 0 = some (r, h1) ∧ fX12_back N h1 29 = some (r, h2) ∧ Inv (k + 1) h2 := by
  have hU := hI.up
  obtain ⟨w, L, bt, nt, nd, nr, na, tA, dA, rA, sA, rT, tl, tw, tg, ls, ms, pa, ds, wy, gr, hd, gn, sc, dr, td, sr, dn, cr, cd, wk, as, no, gg, vc, vk, ⟨s1, s2, s3, s4, s5, s6, s7, s8⟩, tp, cg⟩ := id hU
  obtain ⟨⟨hS, hz⟩, hT, hC, hD, hO, hTi, r1, r2, r3, r4⟩ := vc
  obtain ⟨pk, dk, tk, sk, nk, ck, hK⟩ : ∃ (pk : Nat → Int) (dk tk : Nat → Option Nat) (sk nk ck : Nat → Int), gI h 1106 0 = iI 1 → RKc h nt nr tA dA rA pk dk tk sk nk ck ∧ RKm h nt nr rT pk dk sk nk ck ∧ RKl nt nd nr rT wy gr ls ms pk dk tk sk nk ck ∧ RKs h ∧ ∀ r, r < nr → dk r ≠ none → -(20 * w) ≤ nk r ∧ nk r ≤ 20 * w := by
    by_cases q : gI h 1106 0 = iI 1
    · obtain ⟨pk, dk, tk, sk, nk, ck, z⟩ := vk q
      exact ⟨pk, dk, tk, sk, nk, ck, fun _ => z⟩
    · exact ⟨pa, dr, td, sr, dn, dn, fun z => absurd z q⟩
  obtain ⟨a, h1, h2, e1, e2, q⟩ := t_back (N := N) hN hS hz hT hO s3 (fun z => ⟨(hK z).1, (hK z).2.1, (hK z).2.2.1, (hK z).2.2.2.1⟩)
  refine ⟨a, h1, h2, e1, e2, ?_⟩
  rcases q with rfl | ⟨c1, c0, cn, hT2, hI2, hW2, hE2, q2, q3⟩
  · exact hU
  · obtain ⟨z1, z2, z3, z4, z5⟩ := hK c1
    have hS2 := hS.e hz q2 (by decide +kernel)
    have hA7 : ∀ a ∈ [18, 33, 36, 42, 43, 45], a < 70 := by decide +kernel
    refine ⟨w, L, bt, nt, nd, nr, na, tA, dA, rA, sA, rT, tl, tw, tg, ls, ms, pk, ds, wy, gr, hd, gn, sc, dk, tk, sk, nk, cr, cd, wk, as, no, gg, ⟨⟨hS2, by omega⟩, hT2, hC.e hz hT.lt q2 (by decide +kernel) (by decide +kernel) (fun i hi z => by have := (hC.1 i hi).1.2.1; have := hA7 _ z; omega), hD.e hz q2 (by decide +kernel) (by decide +kernel) (by decide +kernel), hO.e hz q2 (by decide +kernel) (by decide +kernel) (by decide +kernel) (by decide +kernel), hI2, fun r hr hn => (z3.2.1 r hr hn).2, fun r hr hn => (z3.2.1 r hr hn).1, fun r x1 x2 => by rw [q2.2.1 44 (by decide +kernel) (by omega)]; exact r3 r x1 x2, z5⟩, (fun z => absurd (c0.symm.trans z) (by decide +kernel)), ⟨⟨ck, fun i hi => ⟨(hW2 i hi).1, (hW2 i hi).2, z3.2.2.1 i hi⟩⟩, ?_, cn, s4.e hz q2 (by decide +kernel), s5.e hz q2 (by decide +kernel) (by decide +kernel), s6.e hz q2 (by decide +kernel) (by decide +kernel) (by decide +kernel), s7.e hz q2 (by decide +kernel), hE2⟩, tp.e hz q2 (by decide +kernel) (by decide +kernel) (by decide +kernel) (by decide +kernel), cg.e hz q2 (by decide +kernel) (by decide +kernel)⟩
    obtain ⟨b, b1, b2', b3⟩ := s2
    exact ⟨b, (q2.1 510 14 (by decide +kernel) (by omega)).trans b1, (q2.1 1220 29 (by decide +kernel) (by omega)).trans b2', b3⟩
/-! ===== the calls that touch only small things keep Inv ===== -/
theorem i_ofThing {N : Nat} (hN : 100000000 ≤ N) {k : Nat} {h : Hs} (hI : Inv k h) (p1 p2 : Int32) : ∃ r h1 h2, fX11_ofThing N h 0 p1 p2 = some (r, h1) ∧ fX12_ofThing N h1 29 p1 p2 = some (r, h2) ∧ Inv (k + 1) h2 := by
  have hU := hI.up
  refine hU.el ?_
  intro w L bt nt nd nr na tA dA rA sA rT tl tw tg ls ms pa ds wy gr hd gn sc dr td sr dn cr cd wk as no gg vc vk sm tp cg
  obtain ⟨s1, s2, s3, s4, s5, s6, s7, s8⟩ := sm
  obtain ⟨⟨hS, hz⟩, hT, hC, hD, hO, hTi, r1, r2, r3, r4⟩ := id vc
  obtain ⟨a, e1, e2⟩ := t_ofThing (N := N) hN hS hT hD hO hTi p1 p2
  exact ⟨a, h, h, e1, e2, hU⟩
theorem i_on {N : Nat} (hN : 100000000 ≤ N) {k : Nat} {h : Hs} (hI : Inv k h) (p1 : Int32) : ∃ r h1 h2, fX11_on N h 0 p1 = some (r, h1) ∧ fX12_on N h1 29 p1 = some (r, h2) ∧ Inv (k + 1) h2 := by
  have hU := hI.up
  refine hU.el ?_
  intro w L bt nt nd nr na tA dA rA sA rT tl tw tg ls ms pa ds wy gr hd gn sc dr td sr dn cr cd wk as no gg vc vk sm tp cg
  obtain ⟨s1, s2, s3, s4, s5, s6, s7, s8⟩ := sm
  obtain ⟨⟨hS, hz⟩, hT, hC, hD, hO, hTi, r1, r2, r3, r4⟩ := id vc
  obtain ⟨a, e1, e2⟩ := t_on (N := N) hN hS hT p1
  exact ⟨a, h, h, e1, e2, hU⟩
theorem i_ofRope {N : Nat} (hN : 100000000 ≤ N) {k : Nat} {h : Hs} (hI : Inv k h) (p1 p2 : Int32) : ∃ r h1 h2, fX11_ofRope N h 0 p1 p2 = some (r, h1) ∧ fX12_ofRope N h1 29 p1 p2 = some (r, h2) ∧ Inv (k + 1) h2 := by
  have hU := hI.up
  refine hU.el ?_
  intro w L bt nt nd nr na tA dA rA sA rT tl tw tg ls ms pa ds wy gr hd gn sc dr td sr dn cr cd wk as no gg vc vk sm tp cg
  obtain ⟨s1, s2, s3, s4, s5, s6, s7, s8⟩ := sm
  obtain ⟨⟨hS, hz⟩, hT, hC, hD, hO, hTi, r1, r2, r3, r4⟩ := id vc
  obtain ⟨a, e1, e2⟩ := t_ofRope (N := N) hS hT hD hO hTi p1 p2
  exact ⟨a, h, h, e1, e2, hU⟩
theorem i_stopped {N : Nat} (hN : 100000000 ≤ N) {k : Nat} {h : Hs} (hI : Inv k h) (p1 : Int32) : ∃ r h1 h2, fX11_stopped N h 0 p1 = some (r, h1) ∧ fX12_stopped N h1 29 p1 = some (r, h2) ∧ Inv (k + 1) h2 := by
  have hU := hI.up
  refine hU.el ?_
  intro w L bt nt nd nr na tA dA rA sA rT tl tw tg ls ms pa ds wy gr hd gn sc dr td sr dn cr cd wk as no gg vc vk sm tp cg
  obtain ⟨s1, s2, s3, s4, s5, s6, s7, s8⟩ := sm
  obtain ⟨⟨hS, hz⟩, hT, hC, hD, hO, hTi, r1, r2, r3, r4⟩ := id vc
  obtain ⟨a, e1, e2⟩ := t_stopped (N := N) hS s7 p1
  exact ⟨a, h, h, e1, e2, hU⟩
theorem i_told {N : Nat} (hN : 100000000 ≤ N) {k : Nat} {h : Hs} (hI : Inv k h) (p1 p2 : Int32) : ∃ r h1 h2, fX11_told N h 0 p1 p2 = some (r, h1) ∧ fX12_told N h1 29 p1 p2 = some (r, h2) ∧ Inv (k + 1) h2 := by
  have hU := hI.up
  refine hU.el ?_
  intro w L bt nt nd nr na tA dA rA sA rT tl tw tg ls ms pa ds wy gr hd gn sc dr td sr dn cr cd wk as no gg vc vk sm tp cg
  obtain ⟨s1, s2, s3, s4, s5, s6, s7, s8⟩ := sm
  obtain ⟨⟨hS, hz⟩, hT, hC, hD, hO, hTi, r1, r2, r3, r4⟩ := id vc
  obtain ⟨a, e1, e2⟩ := t_told (N := N) hS hT cg p1 p2
  exact ⟨a, h, h, e1, e2, hU⟩
theorem i_work {N : Nat} (hN : 100000000 ≤ N) {k : Nat} {h : Hs} (hI : Inv k h) (p1 : Int32) : ∃ r h1 h2, fX11_work N h 0 p1 = some (r, h1) ∧ fX12_work N h1 29 p1 = some (r, h2) ∧ Inv (k + 1) h2 := by
  have hU := hI.up
  refine hU.el ?_
  intro w L bt nt nd nr na tA dA rA sA rT tl tw tg ls ms pa ds wy gr hd gn sc dr td sr dn cr cd wk as no gg vc vk sm tp cg
  obtain ⟨s1, s2, s3, s4, s5, s6, s7, s8⟩ := sm
  obtain ⟨⟨hS, hz⟩, hT, hC, hD, hO, hTi, r1, r2, r3, r4⟩ := id vc
  obtain ⟨a, e1, e2⟩ := t_work (N := N) hN hS hT.1.2.2 cg p1
  exact ⟨a, h, h, e1, e2, hU⟩
theorem i_given {N : Nat} (hN : 100000000 ≤ N) {k : Nat} {h : Hs} (hI : Inv k h) (p1 : Int32) : ∃ r h1 h2, fX11_given N h 0 p1 = some (r, h1) ∧ fX12_given N h1 29 p1 = some (r, h2) ∧ Inv (k + 1) h2 := by
  have hU := hI.up
  refine hU.el ?_
  intro w L bt nt nd nr na tA dA rA sA rT tl tw tg ls ms pa ds wy gr hd gn sc dr td sr dn cr cd wk as no gg vc vk sm tp cg
  obtain ⟨s1, s2, s3, s4, s5, s6, s7, s8⟩ := sm
  obtain ⟨⟨hS, hz⟩, hT, hC, hD, hO, hTi, r1, r2, r3, r4⟩ := id vc
  obtain ⟨a, e1, e2⟩ := t_given (N := N) hS s6 p1
  exact ⟨a, h, h, e1, e2, hU⟩
theorem i_count {N : Nat} (hN : 100000000 ≤ N) {k : Nat} {h : Hs} (hI : Inv k h) (p1 : Int32) : ∃ r h1 h2, fX11_count N h 0 p1 = some (r, h1) ∧ fX12_count N h1 29 p1 = some (r, h2) ∧ Inv (k + 1) h2 := by
  have hU := hI.up
  refine hU.el ?_
  intro w L bt nt nd nr na tA dA rA sA rT tl tw tg ls ms pa ds wy gr hd gn sc dr td sr dn cr cd wk as no gg vc vk sm tp cg
  obtain ⟨s1, s2, s3, s4, s5, s6, s7, s8⟩ := sm
  obtain ⟨⟨hS, hz⟩, hT, hC, hD, hO, hTi, r1, r2, r3, r4⟩ := id vc
  obtain ⟨a, e1, e2⟩ := t_count (N := N) hN hS hT hD hO hTi s5 s6 tp s8.1 rfl s8.2 rfl p1
  exact ⟨a, h, h, e1, e2, hU⟩
theorem i_candle {N : Nat} (hN : 100000000 ≤ N) {k : Nat} {h : Hs} (hI : Inv k h) (p1 : Int32) : ∃ r h1 h2, fX11_candle N h 0 p1 = some (r, h1) ∧ fX12_candle N h1 29 p1 = some (r, h2) ∧ Inv (k + 1) h2 := by
  have hU := hI.up
  refine hU.el ?_
  intro w L bt nt nd nr na tA dA rA sA rT tl tw tg ls ms pa ds wy gr hd gn sc dr td sr dn cr cd wk as no gg vc vk sm tp cg
  obtain ⟨s1, s2, s3, s4, s5, s6, s7, s8⟩ := sm
  obtain ⟨⟨hS, hz⟩, hT, hC, hD, hO, hTi, r1, r2, r3, r4⟩ := id vc
  obtain ⟨a, h1, h2, e1, e2, q1, qk⟩ := t_candle (N := N) hS s5 p1
  have q2 : Ke FCand ACand [] [] h h2 := qk.e
  refine ⟨a, h1, h2, e1, e2, Inv.mk (w) (L) (bt) (nt) (nd) (nr) (na) (tA) (dA) (rA) (sA) (rT) (tl) (tw) (tg) (ls) (ms) (pa) (ds) (wy) (gr) (hd) (gn) (sc) (dr) (td) (sr) (dn) (cr) (cd) (wk) (as) (no) gg (vc.e q2 (hS.e hz q2 (by decide +kernel)) (by decide +kernel) (by decide +kernel) (by decide +kernel) (by decide +kernel) (by decide +kernel)) (vk.e hz vc.2.1.lt vc.2.2.2.2.1.lt q2 (by decide +kernel) (by decide +kernel) (by decide +kernel)) ⟨s1.e hz q2 (by decide +kernel) (by decide +kernel), s2.e hz q2 (by decide +kernel) (by decide +kernel), s3.e hz q2 (by decide +kernel) (by decide +kernel), s4.e hz q2 (by decide +kernel), q1, s6.e hz q2 (by decide +kernel) (by decide +kernel) (by decide +kernel), s7.e hz q2 (by decide +kernel), s8.e hz q2 (by decide +kernel)⟩ (tp.e hz q2 (by decide +kernel) (by decide +kernel) (by decide +kernel) (by decide +kernel)) (cg.e hz q2 (by decide +kernel) (by decide +kernel))⟩
theorem i_minutes {N : Nat} (hN : 100000000 ≤ N) {k : Nat} {h : Hs} (hI : Inv k h) (p1 : Int32) : ∃ r h1 h2, fX11_minutes N h 0 p1 = some (r, h1) ∧ fX12_minutes N h1 29 p1 = some (r, h2) ∧ Inv (k + 1) h2 := by
  have hU := hI.up
  refine hU.el ?_
  intro w L bt nt nd nr na tA dA rA sA rT tl tw tg ls ms pa ds wy gr hd gn sc dr td sr dn cr cd wk as no gg vc vk sm tp cg
  obtain ⟨s1, s2, s3, s4, s5, s6, s7, s8⟩ := sm
  obtain ⟨⟨hS, hz⟩, hT, hC, hD, hO, hTi, r1, r2, r3, r4⟩ := id vc
  obtain ⟨a, h1, h2, e1, e2, q1, qk⟩ := t_minutes (N := N) hS s5 p1
  have q2 : Ke FCand ACand [] [] h h2 := qk.e
  refine ⟨a, h1, h2, e1, e2, Inv.mk (w) (L) (bt) (nt) (nd) (nr) (na) (tA) (dA) (rA) (sA) (rT) (tl) (tw) (tg) (ls) (ms) (pa) (ds) (wy) (gr) (hd) (gn) (sc) (dr) (td) (sr) (dn) (cr) (cd) (wk) (as) (no) gg (vc.e q2 (hS.e hz q2 (by decide +kernel)) (by decide +kernel) (by decide +kernel) (by decide +kernel) (by decide +kernel) (by decide +kernel)) (vk.e hz vc.2.1.lt vc.2.2.2.2.1.lt q2 (by decide +kernel) (by decide +kernel) (by decide +kernel)) ⟨s1.e hz q2 (by decide +kernel) (by decide +kernel), s2.e hz q2 (by decide +kernel) (by decide +kernel), s3.e hz q2 (by decide +kernel) (by decide +kernel), s4.e hz q2 (by decide +kernel), q1, s6.e hz q2 (by decide +kernel) (by decide +kernel) (by decide +kernel), s7.e hz q2 (by decide +kernel), s8.e hz q2 (by decide +kernel)⟩ (tp.e hz q2 (by decide +kernel) (by decide +kernel) (by decide +kernel) (by decide +kernel)) (cg.e hz q2 (by decide +kernel) (by decide +kernel))⟩
theorem i_trim {N : Nat} (hN : 100000000 ≤ N) {k : Nat} {h : Hs} (hI : Inv k h) (p1 : Int32) : ∃ r h1 h2, fX11_trim N h 0 p1 = some (r, h1) ∧ fX12_trim N h1 29 p1 = some (r, h2) ∧ Inv (k + 1) h2 := by
  have hU := hI.up
  refine hU.el ?_
  intro w L bt nt nd nr na tA dA rA sA rT tl tw tg ls ms pa ds wy gr hd gn sc dr td sr dn cr cd wk as no gg vc vk sm tp cg
  obtain ⟨s1, s2, s3, s4, s5, s6, s7, s8⟩ := sm
  obtain ⟨⟨hS, hz⟩, hT, hC, hD, hO, hTi, r1, r2, r3, r4⟩ := id vc
  obtain ⟨a, h1, h2, e1, e2, q1, qk⟩ := t_trim (N := N) hN hS s5 p1
  have q2 : Ke FCand ACand [] [] h h2 := qk.e
  refine ⟨a, h1, h2, e1, e2, Inv.mk (w) (L) (bt) (nt) (nd) (nr) (na) (tA) (dA) (rA) (sA) (rT) (tl) (tw) (tg) (ls) (ms) (pa) (ds) (wy) (gr) (hd) (gn) (sc) (dr) (td) (sr) (dn) (cr) (cd) (wk) (as) (no) gg (vc.e q2 (hS.e hz q2 (by decide +kernel)) (by decide +kernel) (by decide +kernel) (by decide +kernel) (by decide +kernel) (by decide +kernel)) (vk.e hz vc.2.1.lt vc.2.2.2.2.1.lt q2 (by decide +kernel) (by decide +kernel) (by decide +kernel)) ⟨s1.e hz q2 (by decide +kernel) (by decide +kernel), s2.e hz q2 (by decide +kernel) (by decide +kernel), s3.e hz q2 (by decide +kernel) (by decide +kernel), s4.e hz q2 (by decide +kernel), q1, s6.e hz q2 (by decide +kernel) (by decide +kernel) (by decide +kernel), s7.e hz q2 (by decide +kernel), s8.e hz q2 (by decide +kernel)⟩ (tp.e hz q2 (by decide +kernel) (by decide +kernel) (by decide +kernel) (by decide +kernel)) (cg.e hz q2 (by decide +kernel) (by decide +kernel))⟩
theorem i_light {N : Nat} (hN : 100000000 ≤ N) {k : Nat} {h : Hs} (hI : Inv k h) (p1 : Int32) : ∃ r h1 h2, fX11_light N h 0 p1 = some (r, h1) ∧ fX12_light N h1 29 p1 = some (r, h2) ∧ Inv (k + 1) h2 := by
  have hU := hI.up
  refine hU.el ?_
  intro w L bt nt nd nr na tA dA rA sA rT tl tw tg ls ms pa ds wy gr hd gn sc dr td sr dn cr cd wk as no gg vc vk sm tp cg
  obtain ⟨s1, s2, s3, s4, s5, s6, s7, s8⟩ := sm
  obtain ⟨⟨hS, hz⟩, hT, hC, hD, hO, hTi, r1, r2, r3, r4⟩ := id vc
  obtain ⟨a, h1, h2, e1, e2, q1, qk⟩ := t_light (N := N) hN hS s5 p1
  have q2 : Ke FCand ACand [] [] h h2 := qk.e
  refine ⟨a, h1, h2, e1, e2, Inv.mk (w) (L) (bt) (nt) (nd) (nr) (na) (tA) (dA) (rA) (sA) (rT) (tl) (tw) (tg) (ls) (ms) (pa) (ds) (wy) (gr) (hd) (gn) (sc) (dr) (td) (sr) (dn) (cr) (cd) (wk) (as) (no) gg (vc.e q2 (hS.e hz q2 (by decide +kernel)) (by decide +kernel) (by decide +kernel) (by decide +kernel) (by decide +kernel) (by decide +kernel)) (vk.e hz vc.2.1.lt vc.2.2.2.2.1.lt q2 (by decide +kernel) (by decide +kernel) (by decide +kernel)) ⟨s1.e hz q2 (by decide +kernel) (by decide +kernel), s2.e hz q2 (by decide +kernel) (by decide +kernel), s3.e hz q2 (by decide +kernel) (by decide +kernel), s4.e hz q2 (by decide +kernel), q1, s6.e hz q2 (by decide +kernel) (by decide +kernel) (by decide +kernel), s7.e hz q2 (by decide +kernel), s8.e hz q2 (by decide +kernel)⟩ (tp.e hz q2 (by decide +kernel) (by decide +kernel) (by decide +kernel) (by decide +kernel)) (cg.e hz q2 (by decide +kernel) (by decide +kernel))⟩
theorem i_flat {N : Nat} (hN : 100000000 ≤ N) {k : Nat} {h : Hs} (hI : Inv k h) (p1 p2 : Int32) : ∃ r h1 h2, fX11_flat N h 0 p1 p2 = some (r, h1) ∧ fX12_flat N h1 29 p1 p2 = some (r, h2) ∧ Inv (k + 1) h2 := by
  have hU := hI.up
  refine hU.el ?_
  intro w L bt nt nd nr na tA dA rA sA rT tl tw tg ls ms pa ds wy gr hd gn sc dr td sr dn cr cd wk as no gg vc vk sm tp cg
  obtain ⟨s1, s2, s3, s4, s5, s6, s7, s8⟩ := sm
  obtain ⟨⟨hS, hz⟩, hT, hC, hD, hO, hTi, r1, r2, r3, r4⟩ := id vc
  obtain ⟨a, h1, h2, e1, e2, q1, qk⟩ := t_flat (N := N) hS hz s6 p1 p2
  have q2 := qk
  refine ⟨a, h1, h2, e1, e2, Inv.mk (w) (L) (bt) (nt) (nd) (nr) (na) (tA) (dA) (rA) (sA) (rT) (tl) (tw) (tg) (ls) (ms) (pa) (ds) (wy) (gr) (hd) (gn) (sc) (dr) (td) (sr) (dn) (cr) (cd) (wk) (as) (no) gg (vc.e q2 (hS.e hz q2 (by decide +kernel)) (by decide +kernel) (by decide +kernel) (by decide +kernel) (by decide +kernel) (by decide +kernel)) (vk.e hz vc.2.1.lt vc.2.2.2.2.1.lt q2 (by decide +kernel) (by decide +kernel) (by decide +kernel)) ⟨s1.e hz q2 (by decide +kernel) (by decide +kernel), s2.e hz q2 (by decide +kernel) (by decide +kernel), s3.e hz q2 (by decide +kernel) (by decide +kernel), s4.e hz q2 (by decide +kernel), s5.e hz q2 (by decide +kernel) (by decide +kernel), q1, s7.e hz q2 (by decide +kernel), s8.e hz q2 (by decide +kernel)⟩ (tp.e hz q2 (by decide +kernel) (by decide +kernel) (by decide +kernel) (by decide +kernel)) (cg.e hz q2 (by decide +kernel) (by decide +kernel))⟩
theorem i_want {N : Nat} (hN : 100000000 ≤ N) {k : Nat} {h : Hs} (hI : Inv k h) (p1 p2 : Int32) : ∃ r h1 h2, fX11_want N h 0 p1 p2 = some (r, h1) ∧ fX12_want N h1 29 p1 p2 = some (r, h2) ∧ Inv (k + 1) h2 := by
  have hU := hI.up
  refine hU.el ?_
  intro w L bt nt nd nr na tA dA rA sA rT tl tw tg ls ms pa ds wy gr hd gn sc dr td sr dn cr cd wk as no gg vc vk sm tp cg
  obtain ⟨s1, s2, s3, s4, s5, s6, s7, s8⟩ := sm
  obtain ⟨⟨hS, hz⟩, hT, hC, hD, hO, hTi, r1, r2, r3, r4⟩ := id vc
  obtain ⟨a, h1, h2, e1, e2, q1, qk⟩ := t_want (N := N) hS hz s6 p1 p2
  have q2 := qk
  refine ⟨a, h1, h2, e1, e2, Inv.mk (w) (L) (bt) (nt) (nd) (nr) (na) (tA) (dA) (rA) (sA) (rT) (tl) (tw) (tg) (ls) (ms) (pa) (ds) (wy) (gr) (hd) (gn) (sc) (dr) (td) (sr) (dn) (cr) (cd) (wk) (as) (no) gg (vc.e q2 (hS.e hz q2 (by decide +kernel)) (by decide +kernel) (by decide +kernel) (by decide +kernel) (by decide +kernel) (by decide +kernel)) (vk.e hz vc.2.1.lt vc.2.2.2.2.1.lt q2 (by decide +kernel) (by decide +kernel) (by decide +kernel)) ⟨s1.e hz q2 (by decide +kernel) (by decide +kernel), s2.e hz q2 (by decide +kernel) (by decide +kernel), s3.e hz q2 (by decide +kernel) (by decide +kernel), s4.e hz q2 (by decide +kernel), s5.e hz q2 (by decide +kernel) (by decide +kernel), q1, s7.e hz q2 (by decide +kernel), s8.e hz q2 (by decide +kernel)⟩ (tp.e hz q2 (by decide +kernel) (by decide +kernel) (by decide +kernel) (by decide +kernel)) (cg.e hz q2 (by decide +kernel) (by decide +kernel))⟩
theorem i_bound {N : Nat} (hN : 100000000 ≤ N) {k : Nat} {h : Hs} (hI : Inv k h) (p1 : Int32) : ∃ r h1 h2, fX11_bound N h 0 p1 = some (r, h1) ∧ fX12_bound N h1 29 p1 = some (r, h2) ∧ Inv (k + 1) h2 := by
  have hU := hI.up
  refine hU.el ?_
  intro w L bt nt nd nr na tA dA rA sA rT tl tw tg ls ms pa ds wy gr hd gn sc dr td sr dn cr cd wk as no gg vc vk sm tp cg
  obtain ⟨s1, s2, s3, s4, s5, s6, s7, s8⟩ := sm
  obtain ⟨⟨hS, hz⟩, hT, hC, hD, hO, hTi, r1, r2, r3, r4⟩ := id vc
  obtain ⟨a, h1, h2, e1, e2, q1, qk⟩ := t_bound (N := N) hS s2 p1
  have q2 : Ke [510, 1220] [] [] [] h h2 := qk.e
  refine ⟨a, h1, h2, e1, e2, Inv.mk (w) (L) (bt) (nt) (nd) (nr) (na) (tA) (dA) (rA) (sA) (rT) (tl) (tw) (tg) (ls) (ms) (pa) (ds) (wy) (gr) (hd) (gn) (sc) (dr) (td) (sr) (dn) (cr) (cd) (wk) (as) (no) gg (vc.e q2 (hS.e hz q2 (by decide +kernel)) (by decide +kernel) (by decide +kernel) (by decide +kernel) (by decide +kernel) (by decide +kernel)) (vk.e hz vc.2.1.lt vc.2.2.2.2.1.lt q2 (by decide +kernel) (by decide +kernel) (by decide +kernel)) ⟨s1.e hz q2 (by decide +kernel) (by decide +kernel), q1, s3.e hz q2 (by decide +kernel) (by decide +kernel), s4.e hz q2 (by decide +kernel), s5.e hz q2 (by decide +kernel) (by decide +kernel), s6.e hz q2 (by decide +kernel) (by decide +kernel) (by decide +kernel), s7.e hz q2 (by decide +kernel), s8.e hz q2 (by decide +kernel)⟩ (tp.e hz q2 (by decide +kernel) (by decide +kernel) (by decide +kernel) (by decide +kernel)) (cg.e hz q2 (by decide +kernel) (by decide +kernel))⟩
theorem i_hold {N : Nat} (hN : 100000000 ≤ N) {k : Nat} {h : Hs} (hI : Inv k h) (p1 : Int32) : ∃ r h1 h2, fX11_hold N h 0 p1 = some (r, h1) ∧ fX12_hold N h1 29 p1 = some (r, h2) ∧ Inv (k + 1) h2 := by
  have hU := hI.up
  refine hU.el ?_
  intro w L bt nt nd nr na tA dA rA sA rT tl tw tg ls ms pa ds wy gr hd gn sc dr td sr dn cr cd wk as no gg vc vk sm tp cg
  obtain ⟨s1, s2, s3, s4, s5, s6, s7, s8⟩ := sm
  obtain ⟨⟨hS, hz⟩, hT, hC, hD, hO, hTi, r1, r2, r3, r4⟩ := id vc
  obtain ⟨a, h1, h2, e1, e2, q1, qk⟩ := t_hold (N := N) hN hS s4 p1
  have q2 : Ke [] [20, 21, 46, 47] [] [] h h2 := qk.e
  refine ⟨a, h1, h2, e1, e2, Inv.mk (w) (L) (bt) (nt) (nd) (nr) (na) (tA) (dA) (rA) (sA) (rT) (tl) (tw) (tg) (ls) (ms) (pa) (ds) (wy) (gr) (hd) (gn) (sc) (dr) (td) (sr) (dn) (cr) (cd) (wk) (as) (no) gg (vc.e q2 (hS.e hz q2 (by decide +kernel)) (by decide +kernel) (by decide +kernel) (by decide +kernel) (by decide +kernel) (by decide +kernel)) (vk.e hz vc.2.1.lt vc.2.2.2.2.1.lt q2 (by decide +kernel) (by decide +kernel) (by decide +kernel)) ⟨s1.e hz q2 (by decide +kernel) (by decide +kernel), s2.e hz q2 (by decide +kernel) (by decide +kernel), s3.e hz q2 (by decide +kernel) (by decide +kernel), q1, s5.e hz q2 (by decide +kernel) (by decide +kernel), s6.e hz q2 (by decide +kernel) (by decide +kernel) (by decide +kernel), s7.e hz q2 (by decide +kernel), s8.e hz q2 (by decide +kernel)⟩ (tp.e hz q2 (by decide +kernel) (by decide +kernel) (by decide +kernel) (by decide +kernel)) (cg.e hz q2 (by decide +kernel) (by decide +kernel))⟩
theorem i_men {N : Nat} (hN : 100000000 ≤ N) {k : Nat} {h : Hs} (hI : Inv k h) (p1 : Int32) : ∃ r r' h1 h2, fX11_men N h 0 p1 = some (r, h1) ∧ fX12_men N h1 29 p1 = some (r', h2) ∧ Inv (k + 1) h2 := by
  have hU := hI.up
  refine hU.el ?_
  intro w L bt nt nd nr na tA dA rA sA rT tl tw tg ls ms pa ds wy gr hd gn sc dr td sr dn cr cd wk as no gg vc vk sm tp cg
  obtain ⟨s1, s2, s3, s4, s5, s6, s7, s8⟩ := sm
  obtain ⟨⟨hS, hz⟩, hT, hC, hD, hO, hTi, r1, r2, r3, r4⟩ := id vc
  obtain ⟨a, a', h1, h2, e1, e2, q2, q3⟩ := t_men0 (N := N) hN hS hz hT.1.2.2 cg p1
  refine ⟨a, a', h1, h2, e1, e2, Inv.mk (w) (L) (bt) (nt) (nd) (nr) (na) (tA) (dA) (rA) (sA) (rT) (tl) (tw) (tg) (ls) (ms) (pa) (ds) (wy) (gr) (hd) (gn) (sc) (dr) (td) (sr) (dn) (cr) (cd) (wk) (as) (no) gg (vc.e q2 (hS.e hz q2 (by decide +kernel)) (by decide +kernel) (by decide +kernel) (by decide +kernel) (by decide +kernel) (by decide +kernel)) (vk.e hz vc.2.1.lt vc.2.2.2.2.1.lt q2 (by decide +kernel) (by decide +kernel) (by decide +kernel)) ⟨s1.e hz q2 (by decide +kernel) (by decide +kernel), s2.e hz q2 (by decide +kernel) (by decide +kernel), s3.e hz q2 (by decide +kernel) (by decide +kernel), s4.e hz q2 (by decide +kernel), s5.e hz q2 (by decide +kernel) (by decide +kernel), s6.e hz q2 (by decide +kernel) (by decide +kernel) (by decide +kernel), s7.e hz q2 (by decide +kernel), s8.e hz q2 (by decide +kernel)⟩ (tp.e hz q2 (by decide +kernel) (by decide +kernel) (by decide +kernel) (by decide +kernel)) (cg.e hz q2 (by decide +kernel) (by decide +kernel))⟩
theorem i_pull {N : Nat} (hN : 100000000 ≤ N) {k : Nat} {h : Hs} (hk : k ≤ 1000) (hI : Inv k h) : ∃ r h1 h2, fX11_pull N h 0 = some (r, h1) ∧ fX12_pull N h1 29 = some (r, h2) ∧ Inv (k + 1) h2 := by
  have hU := hI.up
  refine hU.el ?_
  intro w L bt nt nd nr na tA dA rA sA rT tl tw tg ls ms pa ds wy gr hd gn sc dr td sr dn cr cd wk as no gg vc vk sm tp cg
  obtain ⟨s1, s2, s3, s4, s5, s6, s7, s8⟩ := sm
  obtain ⟨⟨hS, hz⟩, hT, hC, hD, hO, hTi, r1, r2, r3, r4⟩ := id vc
  have hdn : ∀ r, r < nr → dr r ≠ none → -1000000000 ≤ dn r ∧ dn r ≤ 1000000000 := fun r x1 x2 => by have := r4 r x1 x2; omega
  obtain ⟨a, h1, e1, e2, q2, q3⟩ := t_pull (N := N) hN hS hz hT hD hO hTi s1 hdn r2
  refine ⟨a, h1, h1, e1, e2, Inv.mk (w) (L) (bt) (nt) (nd) (nr) (na) (tA) (dA) (rA) (sA) (rT) (tl) (tw) (tg) (ls) (ms) (pa) (ds) (wy) (gr) (hd) (gn) (sc) (dr) (td) (sr) (dn) (cr) (cd) (wk) (as) (no) gg (vc.e q2 (hS.e hz q2 (by decide +kernel)) (by decide +kernel) (by decide +kernel) (by decide +kernel) (by decide +kernel) (by decide +kernel)) (vk.e hz vc.2.1.lt vc.2.2.2.2.1.lt q2 (by decide +kernel) (by decide +kernel) (by decide +kernel)) ⟨s1.e hz q2 (by decide +kernel) (by decide +kernel), s2.e hz q2 (by decide +kernel) (by decide +kernel), s3.e hz q2 (by decide +kernel) (by decide +kernel), s4.e hz q2 (by decide +kernel), s5.e hz q2 (by decide +kernel) (by decide +kernel), s6.e hz q2 (by decide +kernel) (by decide +kernel) (by decide +kernel), s7.e hz q2 (by decide +kernel), s8.e hz q2 (by decide +kernel)⟩ (tp.e hz q2 (by decide +kernel) (by decide +kernel) (by decide +kernel) (by decide +kernel)) (cg.e hz q2 (by decide +kernel) (by decide +kernel))⟩
theorem i_change {N : Nat} (hN : 100000000 ≤ N) {k : Nat} {h : Hs} (hk : k ≤ 1000) (hI : Inv k h) (p1 p2 : Int32) : ∃ r h1 h2, fX11_change N h 0 p1 p2 = some (r, h1) ∧ fX12_change N h1 29 p1 p2 = some (r, h2) ∧ Inv (k + 1) h2 := by
  have hU := hI.up
  refine hU.el ?_
  intro w L bt nt nd nr na tA dA rA sA rT tl tw tg ls ms pa ds wy gr hd gn sc dr td sr dn cr cd wk as no gg vc vk sm tp cg
  obtain ⟨s1, s2, s3, s4, s5, s6, s7, s8⟩ := sm
  obtain ⟨⟨hS, hz⟩, hT, hC, hD, hO, hTi, r1, r2, r3, r4⟩ := id vc
  have hdn : ∀ r, r < nr → dr r ≠ none → -1000000000 ≤ dn r ∧ dn r ≤ 1000000000 := fun r x1 x2 => by have := r4 r x1 x2; omega
  obtain ⟨a, h1, h2, na', as', no', cr', cd', wk', e1, e2, q1, q2, q3⟩ := t_change (N := N) hN hS hz hT hD hO hTi hC hdn cg p1 p2
  refine ⟨a, h1, h2, e1, e2, Inv.mk (w) (L) (bt) (nt) (nd) (nr) (na') (tA) (dA) (rA) (sA) (rT) (tl) (tw) (tg) (ls) (ms) (pa) (ds) (wy) (gr) (hd) (gn) (sc) (dr) (td) (sr) (dn) (cr') (cd') (wk') (as') (no') gg (vc.e q2 (hS.e hz q2 (by decide +kernel)) (by decide +kernel) (by decide +kernel) (by decide +kernel) (by decide +kernel) (by decide +kernel)) (vk.e hz vc.2.1.lt vc.2.2.2.2.1.lt q2 (by decide +kernel) (by decide +kernel) (by decide +kernel)) ⟨s1.e hz q2 (by decide +kernel) (by decide +kernel), s2.e hz q2 (by decide +kernel) (by decide +kernel), s3.e hz q2 (by decide +kernel) (by decide +kernel), s4.e hz q2 (by decide +kernel), s5.e hz q2 (by decide +kernel) (by decide +kernel), s6.e hz q2 (by decide +kernel) (by decide +kernel) (by decide +kernel), s7.e hz q2 (by decide +kernel), s8.e hz q2 (by decide +kernel)⟩ (tp.e hz q2 (by decide +kernel) (by decide +kernel) (by decide +kernel) (by decide +kernel)) (q1)⟩
theorem i_feed {N : Nat} (hN : 100000000 ≤ N) {k : Nat} {h : Hs} (hI : Inv k h) (p1 p2 : Int32) : ∃ r h1 h2, fX11_feed N h 0 p1 p2 = some (r, h1) ∧ fX12_feed N h1 29 p1 p2 = some (r, h2) ∧ Inv (k + 1) h2 := by
  refine hI.el ?_
  intro w L bt nt nd nr na tA dA rA sA rT tl tw tg ls ms pa ds wy gr hd gn sc dr td sr dn cr cd wk as no gg vc vk sm tp cg
  obtain ⟨s1, s2, s3, s4, s5, s6, s7, s8⟩ := sm
  obtain ⟨⟨hS, hz⟩, hT, hC, hD, hO, hTi, r1, r2, r3, r4⟩ := id vc
  obtain ⟨a, h1, h2, L', bt', e1, e2, q1, q4, qk⟩ := t_feed (N := N) hN hS tp p1 p2
  have q2 : Ke [804, 1237] [2, 53] [] [] h h2 := qk.e
  refine ⟨a, h1, h2, e1, e2, Inv.mk (w) (L') (bt') (nt) (nd) (nr) (na) (tA) (dA) (rA) (sA) (rT) (tl) (tw) (tg) (ls) (ms) (pa) (ds) (wy) (gr) (hd) (gn) (sc) (dr) (td) (sr) (dn) (cr) (cd) (wk) (as) (no) ⟨gg.1, by have := gg.2; omega⟩ (vc.e q2 (hS.e hz q2 (by decide +kernel)) (by decide +kernel) (by decide +kernel) (by decide +kernel) (by decide +kernel) (by decide +kernel)) (vk.e hz vc.2.1.lt vc.2.2.2.2.1.lt q2 (by decide +kernel) (by decide +kernel) (by decide +kernel)) ⟨s1.e hz q2 (by decide +kernel) (by decide +kernel), s2.e hz q2 (by decide +kernel) (by decide +kernel), s3.e hz q2 (by decide +kernel) (by decide +kernel), s4.e hz q2 (by decide +kernel), s5.e hz q2 (by decide +kernel) (by decide +kernel), s6.e hz q2 (by decide +kernel) (by decide +kernel) (by decide +kernel), s7.e hz q2 (by decide +kernel), s8.e hz q2 (by decide +kernel)⟩ (q1) (cg.e hz q2 (by decide +kernel) (by decide +kernel))⟩
/-! ===== the chance to go back, over a call that may take it away; more drums ===== -/
theorem VKept.n {F A FR AQ : List Nat} {h h2 : Hs} {w w' : Int} {nt nd nr : Nat} {tA dA rA rT : Nat → Nat} {ls ms wy gr : Nat → Int} (hV : VKept h w nt nd nr tA dA rA rT ls ms wy gr) (hn : ICn h h2) (hw : w ≤ w') (hz : 70 ≤ sz h) (ht : ∀ i, i < nt → tA i < sz h) (hr : ∀ r, r < nr → rA r < sz h) (k : Ke F A FR AQ h h2) (hF : ∀ f ∈ [910, 410, 411, 513, 514, 1249, 1250], f ∉ F) (hA : ∀ a ∈ [19, 57, 58, 59, 60, 61], a ∉ A) (hR : ∀ f ∈ [911, 409], f ∉ FR) : VKept h2 w' nt nd nr tA dA rA rT ls ms wy gr := by
  intro q
  obtain ⟨c, c1, c2, c3⟩ := hn
  have q1 : gI h 1106 0 = iI 1 := by
    rcases c3 with rfl | c3
    · exact absurd (c1.symm.trans q) (by decide)
    · exact c3.2
  obtain ⟨pk, dk, tk, sk, nk, ck, v1, v2, v3, v4, v5⟩ := hV q1
  refine ⟨pk, dk, tk, sk, nk, ck, v1.e hz ht hr k (fun f hf => hF f ?_) (hA 19 (by decide)) hR, v2.e hz k (fun a ha => hA a ?_), v3, v4.e hz k (fun f hf => hF f ?_), fun r x1 x2 => by have := v5 r x1 x2; omega⟩
  · revert f; decide
  · revert a; decide
  · revert f; decide
theorem RTi.d {h : Hs} {nt nd nd' nr : Nat} {tA dA dA' rA rT : Nat → Nat} {dr td : Nat → Option Nat} {sr dn : Nat → Int} (hI : RTi h nt nd nr tA dA rA rT dr td sr dn) (hn : nd ≤ nd') (hd : ∀ i, i < nd → dA' i = dA i) : RTi h nt nd' nr tA dA' rA rT dr td sr dn := by
  obtain ⟨c1, c2⟩ := hI
  refine ⟨fun r hr => ?_, c2⟩
  obtain ⟨d1, d2, d3⟩ := c1 r hr
  refine ⟨?_, d2, fun d hd' => ?_⟩
  · rw [d1]
    cases hq : dr r with
    | none => rfl
    | some d =>
      show some (dA d) = some (dA' d)
      rw [hd d (d3 d hq).1]
  · obtain ⟨g1, g2⟩ := d3 d hd'
    exact ⟨by omega, g2⟩
theorem RKc.d {h : Hs} {nt nd nr : Nat} {tA dA dA' rA rT : Nat → Nat} {pk : Nat → Int} {dk tk : Nat → Option Nat} {sk nk ck : Nat → Int} (hC : RKc h nt nr tA dA rA pk dk tk sk nk ck) (hL : RTl nt nd nr rT dk tk) (hd : ∀ i, i < nd → dA' i = dA i) : RKc h nt nr tA dA' rA pk dk tk sk nk ck := by
  obtain ⟨c1, c2, c3⟩ := hC
  refine ⟨c1, fun r hr => ⟨?_, (c2 r hr).2⟩, c3⟩
  rw [(c2 r hr).1]
  cases hq : dk r with
  | none => rfl
  | some d =>
    show some (dA d) = some (dA' d)
    rw [hd d (hL.1 r d hr hq).1]
theorem VKept.d {h : Hs} {w : Int} {nt nd nd' nr : Nat} {tA dA dA' rA rT : Nat → Nat} {ls ms wy gr : Nat → Int} (hV : VKept h w nt nd nr tA dA rA rT ls ms wy gr) (hn : nd ≤ nd') (hd : ∀ i, i < nd → dA' i = dA i) : VKept h w nt nd' nr tA dA' rA rT ls ms wy gr := by
  intro q
  obtain ⟨pk, dk, tk, sk, nk, ck, v1, v2, ⟨l1, l2, l3, l4⟩, v4, v5⟩ := hV q
  exact ⟨pk, dk, tk, sk, nk, ck, v1.d l4 hd, v2, ⟨l1, l2, l3, fun r d x1 x2 => ⟨by have := (l4.1 r d x1 x2).1; omega, (l4.1 r d x1 x2).2⟩, l4.2⟩, v4, v5⟩
theorem VKept.z {h : Hs} {w : Int} {nt nd nr : Nat} {tA dA rA rT : Nat → Nat} {ls ms wy gr : Nat → Int} (hz : gI h 1106 0 = iI 0) : VKept h w nt nd nr tA dA rA rT ls ms wy gr := fun q => absurd (hz.symm.trans q) (by decide)
/-! ===== the calls that change the stage keep Inv ===== -/
theorem i_weight {N : Nat} (hN : 100000000 ≤ N) {k : Nat} {h : Hs} (hI : Inv k h) (p1 p2 : Int32) : ∃ r h1 h2, fX11_weight N h 0 p1 p2 = some (r, h1) ∧ fX12_weight N h1 29 p1 p2 = some (r, h2) ∧ Inv (k + 1) h2 := by
  have hU := hI.up
  refine hI.el ?_
  intro w L bt nt nd nr na tA dA rA sA rT tl tw tg ls ms pa ds wy gr hd gn sc dr td sr dn cr cd wk as no gg vc vk sm tp cg
  obtain ⟨s1, s2, s3, s4, s5, s6, s7, s8⟩ := sm
  obtain ⟨⟨hS, hz⟩, hT, hC, hD, hO, hTi, r1, r2, r3, r4⟩ := id vc
  obtain ⟨a, h1, h2, e1, e2, q1, q0, qk⟩ := t_weight (N := N) hS s1 s3 p1 p2
  have q2 : Ke [1106, 1243] [18, 45] [] [] h h2 := qk.e
  have k6 := q2.2.2.2.2.2
  have hA7 : ∀ a ∈ ([18, 45] : List Nat), a < 70 := by decide +kernel
  exact ⟨a, h1, h2, e1, e2, Inv.mk (w) (L) (bt) (nt) (nd) (nr) (na) (tA) (dA) (rA) (sA) (rT) (tl) (tw) (tg) (ls) (ms) (pa) (ds) (wy) (gr) (hd) (gn) (sc) (dr) (td) (sr) (dn) (cr) (cd) (wk) (as) (no) (⟨gg.1, by have := gg.2; omega⟩) ⟨⟨hS.e hz q2 (by decide +kernel), by omega⟩, (hT.e hz q2 (by decide +kernel) (by decide +kernel) (by decide +kernel)), (hC.e hz hT.lt q2 (by decide +kernel) (by decide +kernel) (fun i hi z => by have := hA7 _ z; have := (hC.1 i hi).1.2.1; omega)), (hD.e hz q2 (by decide +kernel) (by decide +kernel) (by decide +kernel)), (hO.e hz q2 (by decide +kernel) (by decide +kernel) (by decide +kernel) (by decide +kernel)), (hTi.e hz hT.lt hO.lt q2 (by decide +kernel) (by decide +kernel) (by decide +kernel)), (r1), (r2), (fun r x1 x2 => by rw [q2.2.1 44 (by decide +kernel) (by omega)]; exact r3 r x1 x2), (r4)⟩ (vk.n q0 (Int.le_refl w) hz hT.lt hO.lt q2 (by decide +kernel) (by decide +kernel) (by decide +kernel)) ⟨q1, s2.e hz q2 (by decide +kernel) (by decide +kernel), q0.can, s4.e hz q2 (by decide +kernel), s5.e hz q2 (by decide +kernel) (by decide +kernel), s6.e hz q2 (by decide +kernel) (by decide +kernel) (by decide +kernel), s7.e hz q2 (by decide +kernel), s8.e hz q2 (by decide +kernel)⟩ (tp.e hz q2 (by decide +kernel) (by decide +kernel) (by decide +kernel) (by decide +kernel)) (cg.e hz q2 (by decide +kernel) (by decide +kernel))⟩
theorem i_drum {N : Nat} (hN : 100000000 ≤ N) {k : Nat} {h : Hs} (hI : Inv k h) (p1 : Int32) : ∃ r h1 h2, fX11_drum N h 0 p1 = some (r, h1) ∧ fX12_drum N h1 29 p1 = some (r, h2) ∧ Inv (k + 1) h2 := by
  have hU := hI.up
  refine hI.el ?_
  intro w L bt nt nd nr na tA dA rA sA rT tl tw tg ls ms pa ds wy gr hd gn sc dr td sr dn cr cd wk as no gg vc vk sm tp cg
  obtain ⟨s1, s2, s3, s4, s5, s6, s7, s8⟩ := sm
  obtain ⟨⟨hS, hz⟩, hT, hC, hD, hO, hTi, r1, r2, r3, r4⟩ := id vc
  obtain ⟨a, h1, h2, nd', dA', ds', e1, e2, q1, n1, n2, q0, q2, q3⟩ := t_drum (N := N) hS hz hD s3 p1
  have k6 := q2.2.2.2.2.2
  have hA7 : ∀ a ∈ ([37] : List Nat), a < 70 := by decide +kernel
  exact ⟨a, h1, h2, e1, e2, Inv.mk (w) (L) (bt) (nt) (nd') (nr) (na) (tA) (dA') (rA) (sA) (rT) (tl) (tw) (tg) (ls) (ms) (pa) (ds') (wy) (gr) (hd) (gn) (sc) (dr) (td) (sr) (dn) (cr) (cd) (wk) (as) (no) (⟨gg.1, by have := gg.2; omega⟩) ⟨⟨hS.e hz q2 (by decide +kernel), by omega⟩, (hT.e hz q2 (by decide +kernel) (by decide +kernel) (by decide +kernel)), (hC.e hz hT.lt q2 (by decide +kernel) (by decide +kernel) (fun i hi z => by have := hA7 _ z; have := (hC.1 i hi).1.2.1; omega)), (q1), (hO.e hz q2 (by decide +kernel) (by decide +kernel) (by decide +kernel) (by decide +kernel)), ((hTi.e hz hT.lt hO.lt q2 (by decide +kernel) (by decide +kernel) (by decide +kernel)).d n1 (fun i hi => (n2 i hi).1)), (r1), (r2), (fun r x1 x2 => by rw [q2.2.1 44 (by decide +kernel) (by omega)]; exact r3 r x1 x2), (r4)⟩ ((vk.n q0 (Int.le_refl w) hz hT.lt hO.lt q2 (by decide +kernel) (by decide +kernel) (by decide +kernel)).d n1 (fun i hi => (n2 i hi).1)) ⟨s1.e hz q2 (by decide +kernel) (by decide +kernel), s2.e hz q2 (by decide +kernel) (by decide +kernel), q0.can, s4.e hz q2 (by decide +kernel), s5.e hz q2 (by decide +kernel) (by decide +kernel), s6.e hz q2 (by decide +kernel) (by decide +kernel) (by decide +kernel), s7.e hz q2 (by decide +kernel), s8.e hz q2 (by decide +kernel)⟩ (tp.e hz q2 (by decide +kernel) (by decide +kernel) (by decide +kernel) (by decide +kernel)) (cg.e hz q2 (by decide +kernel) (by decide +kernel))⟩
theorem i_tie {N : Nat} (hN : 100000000 ≤ N) {k : Nat} {h : Hs} (hI : Inv k h) (p1 p2 : Int32) : ∃ r h1 h2, fX11_tie N h 0 p1 p2 = some (r, h1) ∧ fX12_tie N h1 29 p1 p2 = some (r, h2) ∧ Inv (k + 1) h2 := by
  have hU := hI.up
  refine hI.el ?_
  intro w L bt nt nd nr na tA dA rA sA rT tl tw tg ls ms pa ds wy gr hd gn sc dr td sr dn cr cd wk as no gg vc vk sm tp cg
  obtain ⟨s1, s2, s3, s4, s5, s6, s7, s8⟩ := sm
  obtain ⟨⟨hS, hz⟩, hT, hC, hD, hO, hTi, r1, r2, r3, r4⟩ := id vc
  obtain ⟨a, h1, h2, dr', td', sr', dn', e1, e2, q1, q0, q2, q3, qc⟩ := t_tie (N := N) hN hS hz hT hD hO hTi s3 p1 p2
  have ky : ∀ r, r < nr → dr' r ≠ none → (ls (rT r) ≤ sr' r ∧ sr' r ≤ ms (rT r)) ∧ pa (rT r) = sr' r + wy r * (dn' r).tdiv (100 * gr r) ∧ -(20 * w) ≤ dn' r ∧ dn' r ≤ 20 * w := by
    rcases qc with ⟨rfl, rfl, rfl, rfl⟩ | ⟨r0, d0, z1, z2, z3, z4, rfl, rfl, rfl, rfl⟩
    · exact fun r x1 x2 => ⟨r1 r x1 x2, r2 r x1 x2, r4 r x1 x2⟩
    · intro r x1 x2
      by_cases x3 : r = r0
      · subst x3
        have bb := (hT.2.1 (rT r) (hO.2.1 r x1).2.2.2.1).2.2.2
        rw [updO_s, updO_s, Int.zero_tdiv]
        omega
      · rw [updO_n _ _ x3] at x2
        rw [updO_n _ _ x3, updO_n _ _ x3]
        exact ⟨r1 r x1 x2, r2 r x1 x2, r4 r x1 x2⟩
  have k6 := q2.2.2.2.2.2
  have hA7 : ∀ a ∈ ([36, 42, 43] : List Nat), a < 70 := by decide +kernel
  exact ⟨a, h1, h2, e1, e2, Inv.mk (w) (L) (bt) (nt) (nd) (nr) (na) (tA) (dA) (rA) (sA) (rT) (tl) (tw) (tg) (ls) (ms) (pa) (ds) (wy) (gr) (hd) (gn) (sc) (dr') (td') (sr') (dn') (cr) (cd) (wk) (as) (no) (⟨gg.1, by have := gg.2; omega⟩) ⟨⟨hS.e hz q2 (by decide +kernel), by omega⟩, (hT.e hz q2 (by decide +kernel) (by decide +kernel) (by decide +kernel)), (hC.e hz hT.lt q2 (by decide +kernel) (by decide +kernel) (fun i hi z => by have := hA7 _ z; have := (hC.1 i hi).1.2.1; omega)), (hD.e hz q2 (by decide +kernel) (by decide +kernel) (by decide +kernel)), (hO.e hz q2 (by decide +kernel) (by decide +kernel) (by decide +kernel) (by decide +kernel)), (q1), (fun r x1 x2 => (ky r x1 x2).1), (fun r x1 x2 => (ky r x1 x2).2.1), (fun r x1 x2 => by rw [q2.2.1 44 (by decide +kernel) (by omega)]; exact r3 r x1 x2), (fun r x1 x2 => (ky r x1 x2).2.2)⟩ (vk.n q0 (Int.le_refl w) hz hT.lt hO.lt q2 (by decide +kernel) (by decide +kernel) (by decide +kernel)) ⟨s1.e hz q2 (by decide +kernel) (by decide +kernel), s2.e hz q2 (by decide +kernel) (by decide +kernel), q0.can, s4.e hz q2 (by decide +kernel), s5.e hz q2 (by decide +kernel) (by decide +kernel), s6.e hz q2 (by decide +kernel) (by decide +kernel) (by decide +kernel), s7.e hz q2 (by decide +kernel), s8.e hz q2 (by decide +kernel)⟩ (tp.e hz q2 (by decide +kernel) (by decide +kernel) (by decide +kernel) (by decide +kernel)) (cg.e hz q2 (by decide +kernel) (by decide +kernel))⟩
theorem i_untie {N : Nat} (hN : 100000000 ≤ N) {k : Nat} {h : Hs} (hk : k ≤ 1000) (hI : Inv k h) (p1 : Int32) : ∃ r h1 h2, fX11_untie N h 0 p1 = some (r, h1) ∧ fX12_untie N h1 29 p1 = some (r, h2) ∧ Inv (k + 1) h2 := by
  have hU := hI.up
  refine hI.el ?_
  intro w L bt nt nd nr na tA dA rA sA rT tl tw tg ls ms pa ds wy gr hd gn sc dr td sr dn cr cd wk as no gg vc vk sm tp cg
  obtain ⟨s1, s2, s3, s4, s5, s6, s7, s8⟩ := sm
  obtain ⟨⟨hS, hz⟩, hT, hC, hD, hO, hTi, r1, r2, r3, r4⟩ := id vc
  have hdn : ∀ r, r < nr → dr r ≠ none → -1000000000 ≤ dn r ∧ dn r ≤ 1000000000 := fun r x1 x2 => by have := r4 r x1 x2; omega
  obtain ⟨a, h1, h2, dr', td', e1, e2, q1, q0, q2, q3, qc⟩ := t_untie (N := N) hS hz hT hD.1.2.2 hO hTi s3 hdn p1
  have ky : ∀ r, r < nr → dr' r ≠ none → dr r ≠ none := by
    rcases qc with ⟨rfl, rfl⟩ | ⟨r0, d0, z1, z2, rfl, rfl⟩
    · exact fun r x1 x2 => x2
    · intro r x1 x2
      by_cases x3 : r = r0
      · subst x3
        exact absurd (updO_s _ _ _) x2
      · rw [updO_n _ _ x3] at x2
        exact x2
  have k6 := q2.2.2.2.2.2
  have hA7 : ∀ a ∈ ([42] : List Nat), a < 70 := by decide +kernel
  exact ⟨a, h1, h2, e1, e2, Inv.mk (w) (L) (bt) (nt) (nd) (nr) (na) (tA) (dA) (rA) (sA) (rT) (tl) (tw) (tg) (ls) (ms) (pa) (ds) (wy) (gr) (hd) (gn) (sc) (dr') (td') (sr) (dn) (cr) (cd) (wk) (as) (no) (⟨gg.1, by have := gg.2; omega⟩) ⟨⟨hS.e hz q2 (by decide +kernel), by omega⟩, (hT.e hz q2 (by decide +kernel) (by decide +kernel) (by decide +kernel)), (hC.e hz hT.lt q2 (by decide +kernel) (by decide +kernel) (fun i hi z => by have := hA7 _ z; have := (hC.1 i hi).1.2.1; omega)), (hD.e hz q2 (by decide +kernel) (by decide +kernel) (by decide +kernel)), (hO.e hz q2 (by decide +kernel) (by decide +kernel) (by decide +kernel) (by decide +kernel)), (q1), (fun r x1 x2 => r1 r x1 (ky r x1 x2)), (fun r x1 x2 => r2 r x1 (ky r x1 x2)), (fun r x1 x2 => by rw [q2.2.1 44 (by decide +kernel) (by omega)]; exact r3 r x1 x2), (fun r x1 x2 => r4 r x1 (ky r x1 x2))⟩ (vk.n q0 (Int.le_refl w) hz hT.lt hO.lt q2 (by decide +kernel) (by decide +kernel) (by decide +kernel)) ⟨s1.e hz q2 (by decide +kernel) (by decide +kernel), s2.e hz q2 (by decide +kernel) (by decide +kernel), q0.can, s4.e hz q2 (by decide +kernel), s5.e hz q2 (by decide +kernel) (by decide +kernel), s6.e hz q2 (by decide +kernel) (by decide +kernel) (by decide +kernel), s7.e hz q2 (by decide +kernel), s8.e hz q2 (by decide +kernel)⟩ (tp.e hz q2 (by decide +kernel) (by decide +kernel) (by decide +kernel) (by decide +kernel)) (cg.e hz q2 (by decide +kernel) (by decide +kernel))⟩
theorem i_rope {N : Nat} (hN : 100000000 ≤ N) {k : Nat} {h : Hs} (hI : Inv k h) (p1 p2 p3 : Int32) : ∃ r h1 h2, fX11_rope N h 0 p1 p2 p3 = some (r, h1) ∧ fX12_rope N h1 29 p1 p2 p3 = some (r, h2) ∧ Inv (k + 1) h2 := by
  have hU := hI.up
  refine hI.el ?_
  intro w L bt nt nd nr na tA dA rA sA rT tl tw tg ls ms pa ds wy gr hd gn sc dr td sr dn cr cd wk as no gg vc vk sm tp cg
  obtain ⟨s1, s2, s3, s4, s5, s6, s7, s8⟩ := sm
  obtain ⟨⟨hS, hz⟩, hT, hC, hD, hO, hTi, r1, r2, r3, r4⟩ := id vc
  obtain ⟨a, h1, h2, e1, e2, q1, q2, q3, qc⟩ := t_rope (N := N) hS hz hT hO hTi s3 r3 p1 p2 p3
  rcases qc with rfl | ⟨i0, w0, g0, x0, z1, z2, z3, z4, z5, z6⟩
  · exact ⟨a, h1, _, e1, e2, hU⟩
  have ky : ∀ r, r < nr + 1 → updO dr nr none r ≠ none → r < nr ∧ r ≠ nr ∧ dr r ≠ none := by
    intro r x1 x2
    by_cases x3 : r = nr
    · subst x3
      exact absurd (updO_s _ _ _) x2
    · rw [updO_n _ _ x3] at x2
      exact ⟨by omega, x3, x2⟩
  have k6 := q2.2.2.2.2.2
  have hA7 : ∀ a ∈ ([38, 39, 40, 41, 42] : List Nat), a < 70 := by decide +kernel
  exact ⟨a, h1, h2, e1, e2, Inv.mk (w) (L) (bt) (nt) (nd) (nr + 1) (na) (tA) (dA) (updO rA nr (sz h)) (sA) (updO rT nr i0) (tl) (tw) (tg) (ls) (ms) (pa) (ds) (updO wy nr w0) (updO gr nr g0) (updO hd nr x0) (updO gn nr false) (sc) (updO dr nr none) (td) (sr) (dn) (cr) (cd) (wk) (as) (no) (⟨gg.1, by have := gg.2; omega⟩) ⟨⟨hS.e hz q2 (by decide +kernel), by omega⟩, (hT.e hz q2 (by decide +kernel) (by decide +kernel) (by decide +kernel)), (hC.e hz hT.lt q2 (by decide +kernel) (by decide +kernel) (fun i hi z => by have := hA7 _ z; have := (hC.1 i hi).1.2.1; omega)), (hD.e hz q2 (by decide +kernel) (by decide +kernel) (by decide +kernel)), (z4), (z5), (fun r x1 x2 => by obtain ⟨y1, y2, y3⟩ := ky r x1 x2; simp only [updO_n _ _ y2]; exact r1 r y1 y3), (fun r x1 x2 => by obtain ⟨y1, y2, y3⟩ := ky r x1 x2; simp only [updO_n _ _ y2]; exact r2 r y1 y3), (z6), (fun r x1 x2 => r4 r (ky r x1 x2).1 (ky r x1 x2).2.2)⟩ (VKept.z z2) ⟨s1.e hz q2 (by decide +kernel) (by decide +kernel), s2.e hz q2 (by decide +kernel) (by decide +kernel), q1, s4.e hz q2 (by decide +kernel), s5.e hz q2 (by decide +kernel) (by decide +kernel), s6.e hz q2 (by decide +kernel) (by decide +kernel) (by decide +kernel), s7.e hz q2 (by decide +kernel), s8.e hz q2 (by decide +kernel)⟩ (tp.e hz q2 (by decide +kernel) (by decide +kernel) (by decide +kernel) (by decide +kernel)) (cg.e hz q2 (by decide +kernel) (by decide +kernel))⟩
theorem i_thing {N : Nat} (hN : 100000000 ≤ N) {k : Nat} {h : Hs} (hI : Inv k h) (p1 p2 p3 p4 : Int32) : ∃ r h1 h2, fX11_thing N h 0 p1 p2 p3 p4 = some (r, h1) ∧ fX12_thing N h1 29 p1 p2 p3 p4 = some (r, h2) ∧ Inv (k + 1) h2 := by
  have hU := hI.up
  refine hI.el ?_
  intro w L bt nt nd nr na tA dA rA sA rT tl tw tg ls ms pa ds wy gr hd gn sc dr td sr dn cr cd wk as no gg vc vk sm tp cg
  obtain ⟨s1, s2, s3, s4, s5, s6, s7, s8⟩ := sm
  obtain ⟨⟨hS, hz⟩, hT, hC, hD, hO, hTi, r1, r2, r3, r4⟩ := id vc
  obtain ⟨a, h1, h2, e1, e2, q1, q2, q3, qc⟩ := t_thing (N := N) hN hS hz hT hC hO hTi s3 p1 p2 p3 p4
  rcases qc with rfl | ⟨l0, x0, w0, lo, hi, g0, z1, z2, z3, z4, z5, z6, z7⟩
  · exact ⟨a, h1, _, e1, e2, hU⟩
  have ky : ∀ r, r < nr → rT r ≠ nt := fun r x1 => by have := (hO.2.1 r x1).2.2.2.1; omega
  have k6 := q2.2.2.2.2.2
  exact ⟨a, h1, h2, e1, e2, Inv.mk (w) (L) (bt) (nt + 1) (nd) (nr) (na) (updO tA nt (sz h)) (dA) (rA) (updO sA nt (sz h + 1)) (rT) (updO tl nt l0) (updO tw nt w0) (updO tg nt g0) (updO ls nt lo) (updO ms nt hi) (updO pa nt x0) (ds) (wy) (gr) (hd) (gn) (updO sc nt (fun _ => -1)) (dr) (updO td nt none) (sr) (dn) (cr) (cd) (wk) (as) (no) (⟨gg.1, by have := gg.2; omega⟩) ⟨⟨hS.e hz q2 (by decide +kernel), by omega⟩, (z4), (z5), (hD.e hz q2 (by decide +kernel) (by decide +kernel) (by decide +kernel)), (z6), (z7), (fun r x1 x2 => by simp only [updO_n _ _ (ky r x1)]; exact r1 r x1 x2), (fun r x1 x2 => by simp only [updO_n _ _ (ky r x1)]; exact r2 r x1 x2), (fun r x1 x2 => by rw [q2.2.1 44 (by decide +kernel) (by omega)]; exact r3 r x1 x2), (r4)⟩ (VKept.z z2) ⟨s1.e hz q2 (by decide +kernel) (by decide +kernel), s2.e hz q2 (by decide +kernel) (by decide +kernel), q1, s4.e hz q2 (by decide +kernel), s5.e hz q2 (by decide +kernel) (by decide +kernel), s6.e hz q2 (by decide +kernel) (by decide +kernel) (by decide +kernel), s7.e hz q2 (by decide +kernel), s8.e hz q2 (by decide +kernel)⟩ (tp.e hz q2 (by decide +kernel) (by decide +kernel) (by decide +kernel) (by decide +kernel)) ((cg.e hz q2 (by decide +kernel) (by decide +kernel)).up (by omega))⟩
theorem i_turn {N : Nat} (hN : 100000000 ≤ N) {k : Nat} {h : Hs} (hk : k ≤ 1000) (hI : Inv k h) (p1 : Int32) : ∃ r h1 h2, fX11_turn N h 0 p1 = some (r, h1) ∧ fX12_turn N h1 29 p1 = some (r, h2) ∧ Inv (k + 1) h2 := by
  have hU := hI.up
  refine hI.el ?_
  intro w L bt nt nd nr na tA dA rA sA rT tl tw tg ls ms pa ds wy gr hd gn sc dr td sr dn cr cd wk as no gg vc vk sm tp cg
  obtain ⟨s1, s2, s3, s4, s5, s6, s7, s8⟩ := sm
  obtain ⟨⟨hS, hz⟩, hT, hC, hD, hO, hTi, r1, r2, r3, r4⟩ := id vc
  have hdn : ∀ r, r < nr → dr r ≠ none → -1000000000 ≤ dn r ∧ dn r ≤ 1000000000 := fun r x1 x2 => by have := r4 r x1 x2; omega
  have hsr : ∀ r, r < nr → dr r ≠ none → 0 ≤ sr r ∧ sr r ≤ 100 := fun r x1 x2 => by have b1 := r1 r x1 x2; have b2' := (hT.2.1 (rT r) (hO.2.1 r x1).2.2.2.1).2.2.2; omega
  obtain ⟨a, h1, h2, pa', dn', e1, e2, q1, q4, q5, q6, q7, q0, q8, q2, q3⟩ := t_turn (N := N) hN hS hz hT hD hO hTi s1 s2 s8 s7 s3 hdn hsr r2 p1
  have k6 := q2.2.2.2.2.2
  have hA7 : ∀ a ∈ ([33, 43] : List Nat), a < 70 := by decide +kernel
  exact ⟨a, h1, h2, e1, e2, Inv.mk (w + 9999) (L) (bt) (nt) (nd) (nr) (na) (tA) (dA) (rA) (sA) (rT) (tl) (tw) (tg) (ls) (ms) (pa') (ds) (wy) (gr) (hd) (gn) (sc) (dr) (td) (sr) (dn') (cr) (cd) (wk) (as) (no) (⟨by omega, by have := gg.2; omega⟩) ⟨⟨hS.e hz q2 (by decide +kernel), by omega⟩, (q1), (hC.e hz hT.lt q2 (by decide +kernel) (by decide +kernel) (fun i hi z => by have := hA7 _ z; have := (hC.1 i hi).1.2.1; omega)), (hD.e hz q2 (by decide +kernel) (by decide +kernel) (by decide +kernel)), (hO.e hz q2 (by decide +kernel) (by decide +kernel) (by decide +kernel) (by decide +kernel)), (q4), (r1), (q5), (fun r x1 x2 => by rw [q2.2.1 44 (by decide +kernel) (by omega)]; exact r3 r x1 x2), (fun r x1 x2 => by have b1 := r4 r x1 x2; have b2' := q6 r x1 x2; omega)⟩ (vk.n q0 (show w ≤ w + 9999 by omega) hz hT.lt hO.lt q2 (by decide +kernel) (by decide +kernel) (by decide +kernel)) ⟨s1.e hz q2 (by decide +kernel) (by decide +kernel), s2.e hz q2 (by decide +kernel) (by decide +kernel), q0.can, s4.e hz q2 (by decide +kernel), s5.e hz q2 (by decide +kernel) (by decide +kernel), s6.e hz q2 (by decide +kernel) (by decide +kernel) (by decide +kernel), q7, q8⟩ (tp.e hz q2 (by decide +kernel) (by decide +kernel) (by decide +kernel) (by decide +kernel)) (cg.e hz q2 (by decide +kernel) (by decide +kernel))⟩
theorem i_free {N : Nat} (hN : 100000000 ≤ N) {k : Nat} {h : Hs} (hk : k ≤ 1000) (hI : Inv k h) (p1 : Int32) : ∃ r h1 h2, fX11_free N h 0 p1 = some (r, h1) ∧ fX12_free N h1 29 p1 = some (r, h2) ∧ Inv (k + 1) h2 := by
  have hU := hI.up
  refine hI.el ?_
  intro w L bt nt nd nr na tA dA rA sA rT tl tw tg ls ms pa ds wy gr hd gn sc dr td sr dn cr cd wk as no gg vc vk sm tp cg
  obtain ⟨s1, s2, s3, s4, s5, s6, s7, s8⟩ := sm
  obtain ⟨⟨hS, hz⟩, hT, hC, hD, hO, hTi, r1, r2, r3, r4⟩ := id vc
  have hdn : ∀ r, r < nr → dr r ≠ none → -1000000000 ≤ dn r ∧ dn r ≤ 1000000000 := fun r x1 x2 => by have := r4 r x1 x2; omega
  have hsr : ∀ r, r < nr → dr r ≠ none → 0 ≤ sr r ∧ sr r ≤ 100 := fun r x1 x2 => by have b1 := r1 r x1 x2; have b2' := (hT.2.1 (rT r) (hO.2.1 r x1).2.2.2.1).2.2.2; omega
  obtain ⟨a, h1, h2, e1, e2, q1, q4, q7, q8, q2, q3⟩ := t_free (N := N) hN hS hz hT hD hO hTi s1 s2 s8 s7 hdn hsr r2 p1
  have k6 := q2.2.2.2.2.2
  have hA7 : ∀ a ∈ ([33, 43] : List Nat), a < 70 := by decide +kernel
  exact ⟨a, h1, h2, e1, e2, Inv.mk (w) (L) (bt) (nt) (nd) (nr) (na) (tA) (dA) (rA) (sA) (rT) (tl) (tw) (tg) (ls) (ms) (pa) (ds) (wy) (gr) (hd) (gn) (sc) (dr) (td) (sr) (dn) (cr) (cd) (wk) (as) (no) (⟨gg.1, by have := gg.2; omega⟩) ⟨⟨hS.e hz q2 (by decide +kernel), by omega⟩, (q1), (hC.e hz hT.lt q2 (by decide +kernel) (by decide +kernel) (fun i hi z => by have := hA7 _ z; have := (hC.1 i hi).1.2.1; omega)), (hD.e hz q2 (by decide +kernel) (by decide +kernel) (by decide +kernel)), (hO.e hz q2 (by decide +kernel) (by decide +kernel) (by decide +kernel) (by decide +kernel)), (q4), (r1), (r2), (fun r x1 x2 => by rw [q2.2.1 44 (by decide +kernel) (by omega)]; exact r3 r x1 x2), (r4)⟩ (vk.e hz hT.lt hO.lt q2 (by decide +kernel) (by decide +kernel) (by decide +kernel)) ⟨s1.e hz q2 (by decide +kernel) (by decide +kernel), s2.e hz q2 (by decide +kernel) (by decide +kernel), s3.e hz q2 (by decide +kernel) (by decide +kernel), s4.e hz q2 (by decide +kernel), s5.e hz q2 (by decide +kernel) (by decide +kernel), s6.e hz q2 (by decide +kernel) (by decide +kernel) (by decide +kernel), q7, q8⟩ (tp.e hz q2 (by decide +kernel) (by decide +kernel) (by decide +kernel) (by decide +kernel)) (cg.e hz q2 (by decide +kernel) (by decide +kernel))⟩
theorem i_snap {N : Nat} (hN : 100000000 ≤ N) {k : Nat} {h : Hs} (hk : k ≤ 1000) (hI : Inv k h) (p1 : Int32) : ∃ r h1 h2, fX11_snap N h 0 p1 = some (r, h1) ∧ fX12_snap N h1 29 p1 = some (r, h2) ∧ Inv (k + 1) h2 := by
  have hU := hI.up
  refine hI.el ?_
  intro w L bt nt nd nr na tA dA rA sA rT tl tw tg ls ms pa ds wy gr hd gn sc dr td sr dn cr cd wk as no gg vc vk sm tp cg
  obtain ⟨s1, s2, s3, s4, s5, s6, s7, s8⟩ := sm
  obtain ⟨⟨hS, hz⟩, hT, hC, hD, hO, hTi, r1, r2, r3, r4⟩ := id vc
  have hdn : ∀ r, r < nr → dr r ≠ none → -1000000000 ≤ dn r ∧ dn r ≤ 1000000000 := fun r x1 x2 => by have := r4 r x1 x2; omega
  obtain ⟨cc, cp, hcp⟩ := id s4
  obtain ⟨a, h1, h2, pa', gn', dr', td', e1, e2, q1, q4, q5, q0, q6, q7, q2, q3⟩ := t_snap (N := N) (ds := ds) (cc := cc) (cp := cp) hN hS hz hT hD.1.2.2 hO hTi hcp s3 r3 hdn r1 r2 p1
  have k6 := q2.2.2.2.2.2
  have hA7 : ∀ a ∈ ([33, 42, 44] : List Nat), a < 70 := by decide +kernel
  exact ⟨a, h1, h2, e1, e2, Inv.mk (w) (L) (bt) (nt) (nd) (nr) (na) (tA) (dA) (rA) (sA) (rT) (tl) (tw) (tg) (ls) (ms) (pa') (ds) (wy) (gr) (hd) (gn') (sc) (dr') (td') (sr) (dn) (cr) (cd) (wk) (as) (no) (⟨gg.1, by have := gg.2; omega⟩) ⟨⟨hS.e hz q2 (by decide +kernel), by omega⟩, (q1), (hC.e hz hT.lt q2 (by decide +kernel) (by decide +kernel) (fun i hi z => by have := hA7 _ z; have := (hC.1 i hi).1.2.1; omega)), (hD.e hz q2 (by decide +kernel) (by decide +kernel) (by decide +kernel)), (q4), (q5), (fun r x1 x2 => r1 r x1 (q7 r x1 x2).1), (fun r x1 x2 => (q7 r x1 x2).2.trans (r2 r x1 (q7 r x1 x2).1)), (q6), (fun r x1 x2 => r4 r x1 (q7 r x1 x2).1)⟩ (vk.n q0 (Int.le_refl w) hz hT.lt hO.lt q2 (by decide +kernel) (by decide +kernel) (by decide +kernel)) ⟨s1.e hz q2 (by decide +kernel) (by decide +kernel), s2.e hz q2 (by decide +kernel) (by decide +kernel), q0.can, s4.e hz q2 (by decide +kernel), s5.e hz q2 (by decide +kernel) (by decide +kernel), s6.e hz q2 (by decide +kernel) (by decide +kernel) (by decide +kernel), s7.e hz q2 (by decide +kernel), s8.e hz q2 (by decide +kernel)⟩ (tp.e hz q2 (by decide +kernel) (by decide +kernel) (by decide +kernel) (by decide +kernel)) (cg.e hz q2 (by decide +kernel) (by decide +kernel))⟩
theorem i_scene {N : Nat} (hN : 100000000 ≤ N) {k : Nat} {h : Hs} (hI : Inv k h) (p1 p2 p3 : Int32) : ∃ r h1 h2, fX11_scene N h 0 p1 p2 p3 = some (r, h1) ∧ fX12_scene N h1 29 p1 p2 p3 = some (r, h2) ∧ Inv (k + 1) h2 := by
  have hU := hI.up
  refine hI.el ?_
  intro w L bt nt nd nr na tA dA rA sA rT tl tw tg ls ms pa ds wy gr hd gn sc dr td sr dn cr cd wk as no gg vc vk sm tp cg
  obtain ⟨s1, s2, s3, s4, s5, s6, s7, s8⟩ := sm
  obtain ⟨⟨hS, hz⟩, hT, hC, hD, hO, hTi, r1, r2, r3, r4⟩ := id vc
  obtain ⟨a, h1, h2, A, sc', e1, e2, q1, qk, qA⟩ := t_scene (N := N) hS hz hT hC p1 p2 p3
  have q2 : Ke [] A [] [] h h2 := qk.e
  have nL : ∀ X : List Nat, (∀ a ∈ X, a ≠ 48 ∧ a < 70) → ∀ a ∈ X, a ∉ A := fun X hX a ha z => by have b1 := qA a z; have b2' := hX a ha; omega
  have nA : ∀ a : Nat, (a ≠ 48 ∧ a < 70) → a ∉ A := fun a ha z => by have b1 := qA a z; omega
  have k6 := q2.2.2.2.2.2
  exact ⟨a, h1, h2, e1, e2, Inv.mk (w) (L) (bt) (nt) (nd) (nr) (na) (tA) (dA) (rA) (sA) (rT) (tl) (tw) (tg) (ls) (ms) (pa) (ds) (wy) (gr) (hd) (gn) (sc') (dr) (td) (sr) (dn) (cr) (cd) (wk) (as) (no) (⟨gg.1, by have := gg.2; omega⟩) ⟨⟨hS.e hz q2 (by decide +kernel), by omega⟩, (hT.e hz q2 (by decide +kernel) (nL _ (by decide +kernel)) (by decide +kernel)), (q1), (hD.e hz q2 (by decide +kernel) (nA _ (by decide +kernel)) (by decide +kernel)), (hO.e hz q2 (by decide +kernel) (nL _ (by decide +kernel)) (by decide +kernel) (by decide +kernel)), (hTi.e hz hT.lt hO.lt q2 (by decide +kernel) (nL _ (by decide +kernel)) (by decide +kernel)), (r1), (r2), (fun r x1 x2 => by rw [q2.2.1 44 (nA 44 (by decide +kernel)) (by omega)]; exact r3 r x1 x2), (r4)⟩ (vk.e hz hT.lt hO.lt q2 (by decide +kernel) (nL _ (by decide +kernel)) (by decide +kernel)) ⟨s1.e hz q2 (nA _ (by decide +kernel)) (nA _ (by decide +kernel)), s2.e hz q2 (by decide +kernel) (by decide +kernel), s3.e hz q2 (by decide +kernel) (by decide +kernel), s4.e hz q2 (nL _ (by decide +kernel)), s5.e hz q2 (by decide +kernel) (nL _ (by decide +kernel)), s6.e hz q2 (by decide +kernel) (nL _ (by decide +kernel)) (by decide +kernel), s7.e hz q2 (by decide +kernel), s8.e hz q2 (by decide +kernel)⟩ (tp.e hz q2 (by decide +kernel) (by decide +kernel) (nA _ (by decide +kernel)) (nA _ (by decide +kernel))) (cg.e hz q2 (by decide +kernel) (nL _ (by decide +kernel)))⟩
theorem i_play {N : Nat} (hN : 100000000 ≤ N) {k : Nat} {h : Hs} (hk : k ≤ 1000) (hI : Inv k h) : ∃ r h1 h2, fX11_play N h 0 = some (r, h1) ∧ fX12_play N h1 29 = some (r, h2) ∧ Inv (k + 1) h2 := by
  have hU := hI.up
  refine hI.el ?_
  intro w L bt nt nd nr na tA dA rA sA rT tl tw tg ls ms pa ds wy gr hd gn sc dr td sr dn cr cd wk as no gg vc vk sm tp cg
  obtain ⟨s1, s2, s3, s4, s5, s6, s7, s8⟩ := sm
  obtain ⟨⟨hS, hz⟩, hT, hC, hD, hO, hTi, r1, r2, r3, r4⟩ := id vc
  have hdn : ∀ r, r < nr → dr r ≠ none → -1000000000 ≤ dn r ∧ dn r ≤ 1000000000 := fun r x1 x2 => by have := r4 r x1 x2; omega
  obtain ⟨cw, hW⟩ := id s1
  obtain ⟨a, h1, h2, e1, e2, q1, q3, qc⟩ := t_play (N := N) (B := 20 * w) hN hS hz hT hD hO hTi hW s2 s8 s7 tp (by omega) (by omega) r4 r1 r2
  rcases qc with q2 | ⟨n, pa', dr', td', sr', dn', cw', z1, z2, z3, z4, z5, z6, z7, z8, z9, ⟨y1, y2⟩, y3, y4, y5, y6, q2⟩
  · skip
    have k6 := q2.2.2.2.2.2
    have hA7 : ∀ a ∈ (PlA : List Nat), a < 70 := by decide +kernel
    exact ⟨a, h1, h2, e1, e2, Inv.mk (w) (0) (bt) (nt) (nd) (nr) (na) (tA) (dA) (rA) (sA) (rT) (tl) (tw) (tg) (ls) (ms) (pa) (ds) (wy) (gr) (hd) (gn) (sc) (dr) (td) (sr) (dn) (cr) (cd) (wk) (as) (no) (⟨gg.1, by have := gg.2; omega⟩) ⟨⟨hS.e hz q2 (by decide +kernel), by omega⟩, (hT.e hz q2 (by decide +kernel) (by decide +kernel) (by decide +kernel)), (hC.e hz hT.lt q2 (by decide +kernel) (by decide +kernel) (fun i hi z => by have := hA7 _ z; have := (hC.1 i hi).1.2.1; omega)), (hD.e hz q2 (by decide +kernel) (by decide +kernel) (by decide +kernel)), (hO.e hz q2 (by decide +kernel) (by decide +kernel) (by decide +kernel) (by decide +kernel)), (hTi.e hz hT.lt hO.lt q2 (by decide +kernel) (by decide +kernel) (by decide +kernel)), (r1), (r2), (fun r x1 x2 => by rw [q2.2.1 44 (by decide +kernel) (by omega)]; exact r3 r x1 x2), (r4)⟩ (vk.e hz hT.lt hO.lt q2 (by decide +kernel) (by decide +kernel) (by decide +kernel)) ⟨s1.e hz q2 (by decide +kernel) (by decide +kernel), s2.e hz q2 (by decide +kernel) (by decide +kernel), s3.e hz q2 (by decide +kernel) (by decide +kernel), s4.e hz q2 (by decide +kernel), s5.e hz q2 (by decide +kernel) (by decide +kernel), s6.e hz q2 (by decide +kernel) (by decide +kernel) (by decide +kernel), s7.e hz q2 (by decide +kernel), s8.e hz q2 (by decide +kernel)⟩ (q1) (cg.e hz q2 (by decide +kernel) (by decide +kernel))⟩
  · skip
    have k6 := q2.2.2.2.2.2
    have hA7 : ∀ a ∈ (PlB : List Nat), a < 70 := by decide +kernel
    exact ⟨a, h1, h2, e1, e2, Inv.mk (w + 9999 * n) (0) (bt) (nt) (nd) (nr) (na) (tA) (dA) (rA) (sA) (rT) (tl) (tw) (tg) (ls) (ms) (pa') (ds) (wy) (gr) (hd) (gn) (sc) (dr') (td') (sr') (dn') (cr) (cd) (wk) (as) (no) (⟨by omega, by have := gg.2; omega⟩) ⟨⟨hS.e hz q2 (by decide +kernel), by omega⟩, (z2), (hC.e hz hT.lt q2 (by decide +kernel) (by decide +kernel) (fun i hi z => by have := hA7 _ z; have := (hC.1 i hi).1.2.1; omega)), (hD.e hz q2 (by decide +kernel) (by decide +kernel) (by decide +kernel)), (hO.e hz q2 (by decide +kernel) (by decide +kernel) (by decide +kernel) (by decide +kernel)), (z3), (z5), (z6), (fun r x1 x2 => by rw [q2.2.1 44 (by decide +kernel) (by omega)]; exact r3 r x1 x2), (fun r x1 x2 => by have b1 := z7 r x1 x2; omega)⟩ ((fun _ => ⟨pa, dr, td, sr, dn, cw, y3, y4, y5, y6, fun r x1 x2 => by have b1 := r4 r x1 x2; omega⟩)) ⟨⟨cw', z4⟩, s2.e hz q2 (by decide +kernel) (by decide +kernel), ⟨1, y1, y2, Or.inr rfl⟩, s4.e hz q2 (by decide +kernel), s5.e hz q2 (by decide +kernel) (by decide +kernel), s6.e hz q2 (by decide +kernel) (by decide +kernel) (by decide +kernel), z8, z9⟩ (q1) (cg.e hz q2 (by decide +kernel) (by decide +kernel))⟩
/-! ===== Inv of the fresh objects ===== -/
theorem I_F1 : Inv 0 hF1 := ⟨0, 0, zI, 0, 0, 0, 0, zN, zN, zN, zN, zN, zI, zI, zI, zI, zI, zI, zI, zI, zI, zI, fun _ => false, fun _ _ => 0, zO, zO, zI, zI, zI, zI, zI, false, false, ⟨by omega, by omega⟩, ⟨⟨Sk_F1, F_z⟩, FZ_F1.th, F_sc, FZ_F1.dr, FZ_F1.ro, F_ti, fun r hr => absurd hr (Nat.not_lt_zero r), fun r hr => absurd hr (Nat.not_lt_zero r), F_gone, fun r hr => absurd hr (Nat.not_lt_zero r)⟩, VKept.z (by decide +kernel), ⟨F_cnt, F_bnd, F_can, F_cat, F_cand, F_stk, F_stp, ⟨F_sh.1.trans F_sh.2.1.symm, F_sh.2.2.1.trans F_sh.2.2.2.symm⟩⟩, F_tape, F_chg⟩
