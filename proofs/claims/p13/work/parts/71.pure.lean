/-! ===== the pull ===== -/
def sumF (f : Nat → Int) (i : Nat) : Nat → Int
  | 0 => 0
  | d + 1 => f i + sumF f (i + 1) d
theorem sumF_z (f : Nat → Int) (i : Nat) : sumF f i 0 = 0 := rfl
theorem sumF_congr {f g : Nat → Int} : ∀ (d i : Nat), (∀ j, i ≤ j → j < i + d → f j = g j) → sumF f i d = sumF g i d
  | 0, _, _ => rfl
  | d + 1, i, q => by
    rw [sumF, sumF, q i (by omega) (by omega), sumF_congr d (i + 1) (fun j h1 h2 => q j (by omega) (by omega))]
/-- what rope r pulls where its thing stands at p -/
def tq (wy gr sr tg ds : Nat → Int) (rT : Nat → Nat) (dr : Nat → Option Nat) (r : Nat) (p : Int) : Int := match dr r with
  | none => 0
  | some d => wy r * (tg (rT r) * ds d).tdiv (gr r) + tg (rT r) * (p - sr r)
theorem tgds {a b : Int} (a1 : 0 ≤ a) (a2 : a ≤ 999) (b1 : 1 ≤ b) (b2 : b ≤ 20) : 0 ≤ a * b ∧ a * b ≤ 19980 := by
  constructor
  · exact Int.mul_nonneg a1 (by omega)
  · have := Int.mul_le_mul_of_nonneg_left b2 a1
    omega
theorem v_pullAt {N : Nat} {h : Hs} {nr nt nd : Nat} {rA tA dA rT : Nat → Nat} {wy gr hd ds : Nat → Int} {gn : Nat → Bool} {tl tw tg ls ms pa : Nat → Int} {dr td : Nat → Option Nat} {sr dn : Nat → Int} (hT : RTh h nt tA tl tw tg ls ms pa) (hD : RDr h nd dA ds) (hR : RRo h nr nt rA tA rT wy gr hd gn) (hC : RTc h nt nr tA dA rA dr td sr dn) (hL : RTl nt nd nr rT dr td) {r : Nat} (hr : r < nr) {p : Int} : fX4_pullAt N h (rA r) (iI p) = some (iI (tq wy gr sr tg ds rT dr r p), h) := by
  obtain ⟨⟨-, -, -, d4⟩, ⟨f0, f1, f2, f3, f4, f8⟩, -, q1, q2, q3, q4, q5⟩ := hR.2.1 r hr
  obtain ⟨⟨-, -, -, t4⟩, ⟨g0, g1, g2, g3, g4, g5, g7⟩, -, bb⟩ := hT.2.1 (rT r) q1
  obtain ⟨c1, c2⟩ := hC.1 r hr
  simp only [fX4_pullAt, lit]
  cases hdr : dr r with
  | none =>
    rw [hdr] at c1
    refine bst (oRv (by rw [d4]) c1) ?_
    refine ifp (rfl) ?_
    simp [tq, hdr]
  | some d =>
    have hdl := (hL.1 r d hr hdr).1
    obtain ⟨⟨-, -, -, e4⟩, ⟨-, e1⟩, -, e5, e6⟩ := hD.2.1 d hdl
    have c3 := (c2 (by rw [hdr]; exact fun q => by cases q)).1
    rw [hdr] at c1
    have bd := tgds (a := tg (rT r)) (b := ds d) (by omega) (by omega) e5 e6
    have o5 : oR 4 5 h (some (rA r)) = some (some (dA d)) := oRv (by rw [d4]) c1
    have vq := v_quot (N := N) (h := h) (a := tg (rT r) * ds d) (b := gr r) (by omega) (by omega) (by omega) (by omega)
    have em : iI (tg (rT r)) * iI (ds d) = iI (tg (rT r) * ds d) := by rw [iI_mul]
    refine bst (o5) ?_
    refine ifn (fun q => by cases q) ?_
    refine bst (oIv (by rw [d4]) f2) ?_
    refine bst (oRv (by rw [d4]) f1) ?_
    refine bst (oIv (by rw [t4]) g3) ?_
    refine bst (o5) ?_
    refine bst (oIv (by rw [e4]) e1) ?_
    refine bst (oIv (by rw [d4]) f3) ?_
    rw [em]
    refine bst (vq) ?_
    refine bst (oRv (by rw [d4]) f1) ?_
    refine bst (oIv (by rw [t4]) g3) ?_
    refine bst (oIv (by rw [d4]) c3) ?_
    simp only [iI_mul, iI_sub, iI_add, tq, hdr]
theorem L_trialW {N : Nat} {h : Hs} (hS : Sk h) {cw : Nat → Int} (hW : ∀ i, i < 20 → aI h 18 i = iI (cw i)) : ∀ (d i : Nat) (c : Int) (fu : Nat), i + d = 20 → d < fu → fX5_trialPull_b44 N 14 fu h (iI c) (iI i) = some (iI (c + sumF cw i d), h) := by
  intro d
  induction d with
  | zero =>
    intro i c fu hi hf
    obtain ⟨fu, rfl⟩ : ∃ m, fu = m + 1 := ⟨fu - 1, by omega⟩
    show fX5_trialPull_b44_body N (fX5_trialPull_b44 N 14 fu) 14 h (iI c) (iI i) = _
    have a1 : iI 20 ≤ iI (i : Int) := (iI_le (by omega) (by omega) (by omega) (by omega)).mpr (by omega)
    simp only [fX5_trialPull_b44_body, lit]
    refine ifp (a1) ?_
    simp [sumF]
  | succ d ih =>
    intro i c fu hi hf
    obtain ⟨fu, rfl⟩ : ∃ m, fu = m + 1 := ⟨fu - 1, by omega⟩
    show fX5_trialPull_b44_body N (fX5_trialPull_b44 N 14 fu) 14 h (iI c) (iI i) = _
    have a1 : ¬ iI 20 ≤ iI (i : Int) := fun q => by have := (iI_le (by omega) (by omega) (by omega) (by omega)).mp q; omega
    have e := ih (i + 1) (c + cw i) fu (by omega) (by omega)
    simp only [Int.natCast_add, Int.natCast_one] at e
    have e1 : iI (i : Int) + iI 1 = iI ((i : Int) + 1) := by rw [iI_add]
    have e2 : iI c + iI (cw i) = iI (c + cw i) := by rw [iI_add]
    simp only [fX5_trialPull_b44_body, lit, Option.bind_some]
    refine ifn (a1) ?_
    refine bst (sR_503_14 hS) ?_
    refine bst (lAv (ss_18 hS) (by omega) (by omega) (hW i (by omega))) ?_
    rw [e1, e2, e]
    simp only [sumF, Int.add_assoc]
theorem L_trial {N : Nat} (hN : 100000000 ≤ N) {h : Hs} (hS : Sk h) {nr nt nd : Nat} {rA tA dA rT : Nat → Nat} {wy gr hd ds : Nat → Int} {gn : Nat → Bool} {tl tw tg ls ms pa : Nat → Int} {dr td : Nat → Option Nat} {sr dn : Nat → Int} (hT : RTh h nt tA tl tw tg ls ms pa) (hD : RDr h nd dA ds) (hR : RRo h nr nt rA tA rT wy gr hd gn) (hC : RTc h nt nr tA dA rA dr td sr dn) (hL : RTl nt nd nr rT dr td) {cw tp : Nat → Int} (hW : ∀ i, i < 20 → aI h 18 i = iI (cw i)) (hP : ∀ i, i < nt → gI h 908 (tA i) = iI (tp i)) : ∀ (d i : Nat) (c : Int) (fu : Nat), i + d = nr → d < fu → fX5_trialPull_b4 N 14 fu h (iI c) (iI i) = some (iI (c + sumF (fun r => tq wy gr sr tg ds rT dr r (tp (rT r))) i d + sumF cw 0 20), h) := by
  have c3 := hR.1.2.2
  have o9 : oI 5 9 h (some 14) = some (iI nr) := oIv (by rw [ss_14 hS]) hR.1.1
  intro d
  induction d with
  | zero =>
    intro i c fu hi hf
    obtain ⟨fu, rfl⟩ : ∃ m, fu = m + 1 := ⟨fu - 1, by omega⟩
    show fX5_trialPull_b4_body N (fX5_trialPull_b4 N 14 fu) 14 h (iI c) (iI i) = _
    have a1 : iI (nr : Int) ≤ iI (i : Int) := (iI_le (by omega) (by omega) (by omega) (by omega)).mpr (by omega)
    have lw := L_trialW (N := N) hS hW 20 0 c N (by omega) (by omega)
    simp only [fX5_trialPull_b4_body, lit]
    refine bst (o9) ?_
    refine ifp (a1) ?_
    rw [sumF_z, Int.add_zero]
    exact lw
  | succ d ih =>
    intro i c fu hi hf
    obtain ⟨fu, rfl⟩ : ∃ m, fu = m + 1 := ⟨fu - 1, by omega⟩
    show fX5_trialPull_b4_body N (fX5_trialPull_b4 N 14 fu) 14 h (iI c) (iI i) = _
    have a1 : ¬ iI (nr : Int) ≤ iI (i : Int) := fun q => by have := (iI_le (by omega) (by omega) (by omega) (by omega)).mp q; omega
    obtain ⟨⟨d1, d2, d3, d4⟩, ⟨f0, f1, -⟩, -, q1, -⟩ := hR.2.1 i (by omega)
    obtain ⟨⟨-, -, -, t4⟩, -⟩ := hT.2.1 (rT i) q1
    have pu := v_pullAt (N := N) hT hD hR hC hL (r := i) (by omega) (p := tp (rT i))
    have e := ih (i + 1) (c + tq wy gr sr tg ds rT dr i (tp (rT i))) fu (by omega) (by omega)
    simp only [Int.natCast_add, Int.natCast_one] at e
    have e1 : iI (i : Int) + iI 1 = iI ((i : Int) + 1) := by rw [iI_add]
    have e2 : iI c + iI (tq wy gr sr tg ds rT dr i (tp (rT i))) = iI (c + tq wy gr sr tg ds rT dr i (tp (rT i))) := by rw [iI_add]
    have lq : lQ 25 h (some 17) (iI i) = some (some (rA i)) := lQv (ss_17 hS) (by omega) (by omega) d1
    have rc4 : rc 4 h (some (rA i)) = some (rA i) := rcv (by rw [d4])
    simp only [fX5_trialPull_b4_body, lit, Option.bind_some]
    refine bst (o9) ?_
    refine ifn (a1) ?_
    refine bst (sR_502_14 hS) ?_
    refine bst (lq) ?_
    refine bst (sR_502_14 hS) ?_
    refine bst (lq) ?_
    refine bst (oRv (by rw [d4]) f1) ?_
    refine bst (oIv (by rw [t4]) (hP _ q1)) ?_
    refine bst (rc4) ?_
    refine bst (pu) ?_
    rw [e1, e2, e]
    simp only [sumF, Int.add_assoc]
theorem L_pullMr {N : Nat} {h : Hs} (hS : Sk h) {nr nt nd : Nat} {rA tA dA rT : Nat → Nat} {wy gr hd ds : Nat → Int} {gn : Nat → Bool} {tl tw tg ls ms pa : Nat → Int} {dr td : Nat → Option Nat} {sr dn : Nat → Int} (hT : RTh h nt tA tl tw tg ls ms pa) (hD : RDr h nd dA ds) (hR : RRo h nr nt rA tA rT wy gr hd gn) (hM : RTm h nr rT dr sr dn) (hL : RTl nt nd nr rT dr td) : ∀ (d i : Nat) (c : Int) (fu : Nat), i + d = nr → d < fu → fX12_pull_b27 N 29 fu h (iI c) (iI i) = some (iI (c + sumF (fun r => tq wy gr sr tg ds rT dr r (pa (rT r))) i d), h) := by
  have c3 := hR.1.2.2
  have ct := hT.1.2.2
  have cd := hD.1.2.2
  have o9 : oI 12 11 h (some 29) = some (iI nr) := oIv (by rw [ss_29 hS]) hR.1.2.1
  intro d
  induction d with
  | zero =>
    intro i c fu hi hf
    obtain ⟨fu, rfl⟩ : ∃ m, fu = m + 1 := ⟨fu - 1, by omega⟩
    show fX12_pull_b27_body N (fX12_pull_b27 N 29 fu) 29 h (iI c) (iI i) = _
    have a1 : iI (nr : Int) ≤ iI (i : Int) := (iI_le (by omega) (by omega) (by omega) (by omega)).mpr (by omega)
    simp only [fX12_pull_b27_body, lit]
    refine bst (o9) ?_
    refine ifp (a1) ?_
    rw [sumF_z, Int.add_zero]
  | succ d ih =>
    intro i c fu hi hf
    obtain ⟨fu, rfl⟩ : ∃ m, fu = m + 1 := ⟨fu - 1, by omega⟩
    show fX12_pull_b27_body N (fX12_pull_b27 N 29 fu) 29 h (iI c) (iI i) = _
    have a1 : ¬ iI (nr : Int) ≤ iI (i : Int) := fun q => by have := (iI_le (by omega) (by omega) (by omega) (by omega)).mp q; omega
    obtain ⟨-, -, ⟨f0, f1, f2, f3, f4⟩, q1, q2, q3, q4, q5⟩ := hR.2.1 i (by omega)
    obtain ⟨-, -, ⟨g0, g1, g2, g3, g4, g5⟩, bb⟩ := hT.2.1 (rT i) q1
    obtain ⟨m1, m2⟩ := hM i (by omega)
    have e := fun c' => ih (i + 1) c' fu (by omega) (by omega)
    simp only [Int.natCast_add, Int.natCast_one] at e
    have e1 : iI (i : Int) + iI 1 = iI ((i : Int) + 1) := by rw [iI_add]
    simp only [fX12_pull_b27_body, fX12_pull_b110, lit, e1, Option.bind_some]
    cases hdr : dr i with
    | none =>
      rw [hdr] at m1
      simp only [od] at m1
      have w2 : ¬ iI 0 ≤ iI (-1) := by decide
      refine bst (o9) ?_
      refine ifn (a1) ?_
      refine bst (sR_1216_29 hS) ?_
      refine bst (lAv (ss_42 hS) (by omega) (by omega) m1) ?_
      refine ifn (w2) ?_
      rw [e]
      have t0 : tq wy gr sr tg ds rT dr i (pa (rT i)) = 0 := by simp [tq, hdr]
      rw [sumF, t0, Int.zero_add]
    | some k =>
      have hkl := (hL.1 i k (by omega) hdr).1
      obtain ⟨-, -, e0, e5, e6⟩ := hD.2.1 k hkl
      have m3 := (m2 (by rw [hdr]; exact fun q => by cases q)).2
      rw [hdr] at m1
      simp only [od] at m1
      have w2 : iI 0 ≤ iI (k : Int) := (iI_le (by omega) (by omega) (by omega) (by omega)).mpr (by omega)
      have bd := tgds (a := tg (rT i)) (b := ds k) (by omega) (by omega) e5 e6
      have em : iI (tg (rT i)) * iI (ds k) = iI (tg (rT i) * ds k) := by rw [iI_mul]
      have dq : dv (iI (tg (rT i) * ds k)) (iI (gr i)) = some (iI ((tg (rT i) * ds k).tdiv (gr i))) := by
        have vq := v_quot (N := N) (h := h) (a := tg (rT i) * ds k) (b := gr i) (by omega) (by omega) (by omega) (by omega)
        have ne : ¬ iI (gr i) = iI 0 := fun q => by have := (iI_eq (by omega) (by omega) (by omega) (by omega)).mp q; omega
        simp only [fX11_quotient, fX11_quotient_b11, lit] at vq
        rw [if_neg ne] at vq
        cases hq : dv (iI (tg (rT i) * ds k)) (iI (gr i)) with
        | none =>
          rw [hq] at vq
          cases vq
        | some v =>
          rw [hq] at vq
          have vq2 : some (v, h) = some (iI ((tg (rT i) * ds k).tdiv (gr i)), h) := vq
          rw [(Prod.mk.inj (Option.some.inj vq2)).1]
      have lt := lAv (ss_38 hS) (show i < 40 by omega) (by omega) f0
      have lg := lAv (ss_32 hS) (show rT i < 40 by omega) (by omega) g2
      refine bst (o9) ?_
      refine ifn (a1) ?_
      refine bst (sR_1216_29 hS) ?_
      refine bst (lAv (ss_42 hS) (by omega) (by omega) m1) ?_
      refine ifp (w2) ?_
      refine bst (sR_1212_29 hS) ?_
      refine bst (lt) ?_
      refine bst (sR_1204_29 hS) ?_
      refine bst (lg) ?_
      refine bst (sR_1210_29 hS) ?_
      refine bst (sR_1216_29 hS) ?_
      refine bst (lAv (ss_42 hS) (by omega) (by omega) m1) ?_
      refine bst (lAv (ss_37 hS) (by omega) (by omega) e0) ?_
      refine bst (sR_1213_29 hS) ?_
      refine bst (lAv (ss_39 hS) (by omega) (by omega) f1) ?_
      rw [em]
      refine bst (dq) ?_
      refine bst (sR_1214_29 hS) ?_
      refine bst (lAv (ss_40 hS) (by omega) (by omega) f2) ?_
      refine bst (sR_1204_29 hS) ?_
      refine bst (lg) ?_
      refine bst (sR_1205_29 hS) ?_
      refine bst (lAv (ss_33 hS) (by omega) (by omega) g3) ?_
      refine bst (sR_1208_29 hS) ?_
      refine bst (lAv (ss_36 hS) (by omega) (by omega) m3) ?_
      simp only [iI_mul, iI_sub, iI_add]
      rw [e]
      have t0 : tq wy gr sr tg ds rT dr i (pa (rT i)) = (tg (rT i) * ds k).tdiv (gr i) * wy i + tg (rT i) * (pa (rT i) - sr i) := by
        simp only [tq, hdr]
        rw [Int.mul_comm (wy i)]
      rw [sumF, t0]
      simp only [Int.add_assoc]
