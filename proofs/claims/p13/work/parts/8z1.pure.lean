/-! ===== the calls keep Inv ===== -/
theorem i_paint {N : Nat} (hN : 100000000 ≤ N) {k : Nat} {h : Hs} (hI : Inv k h) : ∃ r h1 h2, fX11_paint N h 0 = some (r, h1) ∧ fX12_paint N h1 29 = some (r, h2) ∧ Inv (k + 1) h2 := by
  have hU := hI.up
  obtain ⟨w, L, bt, nt, nd, nr, na, tA, dA, rA, sA, rT, tl, tw, tg, ls, ms, pa, ds, wy, gr, hd, gn, sc, dr, td, sr, dn, cr, cd, wk, as, no, gg, vc, vk, ⟨s1, s2, s3, s4, s5, s6, s7, s8⟩, tp, cg⟩ := hU
  obtain ⟨hS, hz⟩ := vc.1
  obtain ⟨a, h1, h2, e1, e2, q1, q2, q3⟩ := t_paint (N := N) hN hS hz s6
  refine ⟨a, h1, h2, e1, e2, w, L, bt, nt, nd, nr, na, tA, dA, rA, sA, rT, tl, tw, tg, ls, ms, pa, ds, wy, gr, hd, gn, sc, dr, td, sr, dn, cr, cd, wk, as, no, gg, vc.e q2 (hS.e hz q2 (by decide +kernel)) (by decide +kernel) (by decide +kernel) (by decide +kernel) (by decide +kernel) (by decide +kernel), vk.e hz vc.2.1.lt vc.2.2.2.2.1.lt q2 (by decide +kernel) (by decide +kernel) (by decide +kernel), ⟨s1.e hz q2 (by decide +kernel) (by decide +kernel), ?_, s3.e hz q2 (by decide +kernel) (by decide +kernel), s4.e hz q2 (by decide +kernel), s5.e hz q2 (by decide +kernel) (by decide +kernel), q1, s7.e hz q2 (by decide +kernel), s8.e hz q2 (by decide +kernel)⟩, tp.e hz q2 (by decide +kernel) (by decide +kernel) (by decide +kernel) (by decide +kernel), cg.e hz q2 (by decide +kernel) (by decide +kernel)⟩
  obtain ⟨b, b1, b2', b3⟩ := s2
  exact ⟨b, (q2.1 510 14 (by decide +kernel) (by omega)).trans b1, (q2.1 1220 29 (by decide +kernel) (by omega)).trans b2', b3⟩
theorem i_back {N : Nat} (hN : 100000000 ≤ N) {k : Nat} {h : Hs} (hI : Inv k h) : ∃ r h1 h2, fX11_back N h 0 = some (r, h1) ∧ fX12_back N h1 29 = some (r, h2) ∧ Inv (k + 1) h2 := by
  have hU := hI.up
  obtain ⟨w, L, bt, nt, nd, nr, na, tA, dA, rA, sA, rT, tl, tw, tg, ls, ms, pa, ds, wy, gr, hd, gn, sc, dr, td, sr, dn, cr, cd, wk, as, no, gg, vc, vk, ⟨s1, s2, s3, s4, s5, s6, s7, s8⟩, tp, cg⟩ := id hU
  obtain ⟨⟨hS, hz⟩, hT, hC, hD, hO, hTi, r1, r2, r3, r4⟩ := vc
  obtain ⟨pk, dk, tk, sk, nk, ck, hK⟩ : ∃ (pk : Nat → Int) (dk tk : Nat → Option Nat) (sk nk ck : Nat → Int), gI h 1106 0 = iI 1 → RKc h nt nr tA dA rA pk dk tk sk nk ck ∧ RKm h nt nr rT pk dk sk nk ck ∧ RKl nt nd nr rT wy gr ls ms pk dk tk sk nk ck ∧ RKs h ∧ ∀ r, r < nr → dk r ≠ none → -(20 * w) ≤ nk r ∧ nk r ≤ 20 * w := by
    by_cases q : gI h 1106 0 = iI 1
    · obtain ⟨pk, dk, tk, sk, nk, ck, z⟩ := vk q
      exact ⟨pk, dk, tk, sk, nk, ck, fun _ => z⟩
    · exact ⟨pa, dr, td, sr, dn, dn, fun z => absurd z q⟩
  obtain ⟨a, h1, h2, e1, e2, q⟩ := t_back (N := N) hN hS hz hT hO s3 (fun z => ⟨(hK z).1, (hK z).2.1, (hK z).2.2.1, (hK z).2.2.2.1⟩)
  refine ⟨a, h1, h2, e1, e2, ?_⟩
  rcases q with rfl | ⟨c1, c0, cn, hT2, hI2, hW2, hE2, q2, q3⟩
  · exact hU
  · obtain ⟨z1, z2, z3, z4, z5⟩ := hK c1
    have hS2 := hS.e hz q2 (by decide +kernel)
    have hA7 : ∀ a ∈ [18, 33, 36, 42, 43, 45], a < 70 := by decide +kernel
    refine ⟨w, L, bt, nt, nd, nr, na, tA, dA, rA, sA, rT, tl, tw, tg, ls, ms, pk, ds, wy, gr, hd, gn, sc, dk, tk, sk, nk, cr, cd, wk, as, no, gg, ⟨⟨hS2, by omega⟩, hT2, hC.e hz hT.lt q2 (by decide +kernel) (by decide +kernel) (fun i hi z => by have := (hC.1 i hi).1.2.1; have := hA7 _ z; omega), hD.e hz q2 (by decide +kernel) (by decide +kernel) (by decide +kernel), hO.e hz q2 (by decide +kernel) (by decide +kernel) (by decide +kernel) (by decide +kernel), hI2, fun r hr hn => (z3.2.1 r hr hn).2, fun r hr hn => (z3.2.1 r hr hn).1, fun r x1 x2 => by rw [q2.2.1 44 (by decide +kernel) (by omega)]; exact r3 r x1 x2, z5⟩, (fun z => absurd (c0.symm.trans z) (by decide +kernel)), ⟨⟨ck, fun i hi => ⟨(hW2 i hi).1, (hW2 i hi).2, z3.2.2.1 i hi⟩⟩, ?_, cn, s4.e hz q2 (by decide +kernel), s5.e hz q2 (by decide +kernel) (by decide +kernel), s6.e hz q2 (by decide +kernel) (by decide +kernel) (by decide +kernel), s7.e hz q2 (by decide +kernel), hE2⟩, tp.e hz q2 (by decide +kernel) (by decide +kernel) (by decide +kernel) (by decide +kernel), cg.e hz q2 (by decide +kernel) (by decide +kernel)⟩
    obtain ⟨b, b1, b2', b3⟩ := s2
    exact ⟨b, (q2.1 510 14 (by decide +kernel) (by omega)).trans b1, (q2.1 1220 29 (by decide +kernel) (by omega)).trans b2', b3⟩
