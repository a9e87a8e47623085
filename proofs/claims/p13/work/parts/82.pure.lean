/-! ===== turning, the reference: what stops it ===== -/
theorem L_pullMrq {N : Nat} {h : Hs} (hS : Sk h) {nr nt nd : Nat} {rA tA dA rT : Nat → Nat} {wy gr hd ds : Nat → Int} {gn : Nat → Bool} {tl tw tg ls ms P : Nat → Int} {dr td : Nat → Option Nat} {sr dn : Nat → Int} (hT : RTq h nt tl tw tg ls ms) (hP : ∀ i, i < nt → aI h 33 i = iI (P i)) (hD : RDr h nd dA ds) (hR : RRo h nr nt rA tA rT wy gr hd gn) (hM : RTm h nr rT dr sr dn) (hL : RTl nt nd nr rT dr td) : ∀ (d i : Nat) (c : Int) (fu : Nat), i + d = nr → d < fu → fX12_pull_b27 N 29 fu h (iI c) (iI i) = some (iI (c + sumF (fun r => tq wy gr sr tg ds rT dr r (P (rT r))) i d), h) := by
  have c3 := hR.1.2.2
  have ct := hT.1.2
  have cd := hD.1.2.2
  have o9 : oI 12 11 h (some 29) = some (iI nr) := oIv (by rw [ss_29 hS]) hR.1.2.1
  intro d
  induction d with
  | zero =>
    intro i c fu hi hf
    obtain ⟨fu, rfl⟩ : ∃ m, fu = m + 1 := ⟨fu - 1, by omega⟩
    show fX12_pull_b27_body N (fX12_pull_b27 N 29 fu) 29 h (iI c) (iI i) = _
    have a1 : iI (nr : Int) ≤ iI (i : Int) := (iI_le (by omega) (by omega) (by omega) (by omega)).mpr (by omega)
    simp only [fX12_pull_b27_body, lit]
    refine bst (o9) ?_
    refine ifp (a1) ?_
    rw [sumF_z, Int.add_zero]
  | succ d ih =>
    intro i c fu hi hf
    obtain ⟨fu, rfl⟩ : ∃ m, fu = m + 1 := ⟨fu - 1, by omega⟩
    show fX12_pull_b27_body N (fX12_pull_b27 N 29 fu) 29 h (iI c) (iI i) = _
    have a1 : ¬ iI (nr : Int) ≤ iI (i : Int) := fun q => by have := (iI_le (by omega) (by omega) (by omega) (by omega)).mp q; omega
    obtain ⟨-, -, ⟨f0, f1, f2, f3, f4⟩, q1, q2, q3, q4, q5⟩ := hR.2.1 i (by omega)
    obtain ⟨⟨g0, g1, g2, g4, g5⟩, bb⟩ := hT.2 (rT i) q1
    have g3 := hP (rT i) q1
    obtain ⟨m1, m2⟩ := hM i (by omega)
    have e := fun c' => ih (i + 1) c' fu (by omega) (by omega)
    simp only [Int.natCast_add, Int.natCast_one] at e
    have e1 : iI (i : Int) + iI 1 = iI ((i : Int) + 1) := by rw [iI_add]
    simp only [fX12_pull_b27_body, fX12_pull_b110, lit, e1, Option.bind_some]
    cases hdr : dr i with
    | none =>
      rw [hdr] at m1
      simp only [od] at m1
      have w2 : ¬ iI 0 ≤ iI (-1) := by decide
      refine bst (o9) ?_
      refine ifn (a1) ?_
      refine bst (sR_1216_29 hS) ?_
      refine bst (lAv (ss_42 hS) (by omega) (by omega) m1) ?_
      refine ifn (w2) ?_
      rw [e]
      have t0 : tq wy gr sr tg ds rT dr i (P (rT i)) = 0 := by simp [tq, hdr]
      rw [sumF, t0, Int.zero_add]
    | some k =>
      have hkl := (hL.1 i k (by omega) hdr).1
      obtain ⟨-, -, e0, e5, e6⟩ := hD.2.1 k hkl
      have m3 := (m2 (by rw [hdr]; exact fun q => by cases q)).2
      rw [hdr] at m1
      simp only [od] at m1
      have w2 : iI 0 ≤ iI (k : Int) := (iI_le (by omega) (by omega) (by omega) (by omega)).mpr (by omega)
      have bd := tgds (a := tg (rT i)) (b := ds k) (by omega) (by omega) e5 e6
      have em : iI (tg (rT i)) * iI (ds k) = iI (tg (rT i) * ds k) := by rw [iI_mul]
      have dq : dv (iI (tg (rT i) * ds k)) (iI (gr i)) = some (iI ((tg (rT i) * ds k).tdiv (gr i))) := by
        have vq := v_quot (N := N) (h := h) (a := tg (rT i) * ds k) (b := gr i) (by omega) (by omega) (by omega) (by omega)
        have ne : ¬ iI (gr i) = iI 0 := fun q => by have := (iI_eq (by omega) (by omega) (by omega) (by omega)).mp q; omega
        simp only [fX11_quotient, fX11_quotient_b11, lit] at vq
        rw [if_neg ne] at vq
        cases hq : dv (iI (tg (rT i) * ds k)) (iI (gr i)) with
        | none =>
          rw [hq] at vq
          cases vq
        | some v =>
          rw [hq] at vq
          have vq2 : some (v, h) = some (iI ((tg (rT i) * ds k).tdiv (gr i)), h) := vq
          rw [(Prod.mk.inj (Option.some.inj vq2)).1]
      have lt := lAv (ss_38 hS) (show i < 40 by omega) (by omega) f0
      have lg := lAv (ss_32 hS) (show rT i < 40 by omega) (by omega) g2
      refine bst (o9) ?_
      refine ifn (a1) ?_
      refine bst (sR_1216_29 hS) ?_
      refine bst (lAv (ss_42 hS) (by omega) (by omega) m1) ?_
      refine ifp (w2) ?_
      refine bst (sR_1212_29 hS) ?_
      refine bst (lt) ?_
      refine bst (sR_1204_29 hS) ?_
      refine bst (lg) ?_
      refine bst (sR_1210_29 hS) ?_
      refine bst (sR_1216_29 hS) ?_
      refine bst (lAv (ss_42 hS) (by omega) (by omega) m1) ?_
      refine bst (lAv (ss_37 hS) (by omega) (by omega) e0) ?_
      refine bst (sR_1213_29 hS) ?_
      refine bst (lAv (ss_39 hS) (by omega) (by omega) f1) ?_
      rw [em]
      refine bst (dq) ?_
      refine bst (sR_1214_29 hS) ?_
      refine bst (lAv (ss_40 hS) (by omega) (by omega) f2) ?_
      refine bst (sR_1204_29 hS) ?_
      refine bst (lg) ?_
      refine bst (sR_1205_29 hS) ?_
      refine bst (lAv (ss_33 hS) (by omega) (by omega) g3) ?_
      refine bst (sR_1208_29 hS) ?_
      refine bst (lAv (ss_36 hS) (by omega) (by omega) m3) ?_
      simp only [iI_mul, iI_sub, iI_add]
      rw [e]
      have t0 : tq wy gr sr tg ds rT dr i (P (rT i)) = (tg (rT i) * ds k).tdiv (gr i) * wy i + tg (rT i) * (P (rT i) - sr i) := by
        simp only [tq, hdr]
        rw [Int.mul_comm (wy i)]
      rw [sumF, t0]
      simp only [Int.add_assoc]

theorem L_pullMwq {N : Nat} (hN : 100000000 ≤ N) {h : Hs} (hS : Sk h) {nr nt nd : Nat} {rA tA dA rT : Nat → Nat} {wy gr hd ds : Nat → Int} {gn : Nat → Bool} {tl tw tg ls ms P : Nat → Int} {dr td : Nat → Option Nat} {sr dn : Nat → Int} (hT : RTq h nt tl tw tg ls ms) (hP : ∀ i, i < nt → aI h 33 i = iI (P i)) (hD : RDr h nd dA ds) (hR : RRo h nr nt rA tA rT wy gr hd gn) (hM : RTm h nr rT dr sr dn) (hL : RTl nt nd nr rT dr td) {cw : Nat → Int} (hW : ∀ i, i < 20 → aI h 45 i = iI (cw i)) : ∀ (d i : Nat) (c : Int) (fu : Nat), i + d = 20 → d < fu → fX12_pull_b4 N 29 fu h (iI c) (iI i) = some (iI (c + sumF cw i d + sumF (fun r => tq wy gr sr tg ds rT dr r (P (rT r))) 0 nr), h) := by
  have c3 := hR.1.2.2
  intro d
  induction d with
  | zero =>
    intro i c fu hi hf
    obtain ⟨fu, rfl⟩ : ∃ m, fu = m + 1 := ⟨fu - 1, by omega⟩
    show fX12_pull_b4_body N (fX12_pull_b4 N 29 fu) 29 h (iI c) (iI i) = _
    have a1 : iI 20 ≤ iI (i : Int) := (iI_le (by omega) (by omega) (by omega) (by omega)).mpr (by omega)
    have lr := L_pullMrq (N := N) hS hT hP hD hR hM hL nr 0 c N (by omega) (by omega)
    simp only [fX12_pull_b4_body, lit]
    refine ifp (a1) ?_
    rw [sumF_z, Int.add_zero]
    exact lr
  | succ d ih =>
    intro i c fu hi hf
    obtain ⟨fu, rfl⟩ : ∃ m, fu = m + 1 := ⟨fu - 1, by omega⟩
    show fX12_pull_b4_body N (fX12_pull_b4 N 29 fu) 29 h (iI c) (iI i) = _
    have a1 : ¬ iI 20 ≤ iI (i : Int) := fun q => by have := (iI_le (by omega) (by omega) (by omega) (by omega)).mp q; omega
    have e := ih (i + 1) (c + cw i) fu (by omega) (by omega)
    simp only [Int.natCast_add, Int.natCast_one] at e
    have e1 : iI (i : Int) + iI 1 = iI ((i : Int) + 1) := by rw [iI_add]
    have e2 : iI c + iI (cw i) = iI (c + cw i) := by rw [iI_add]
    simp only [fX12_pull_b4_body, lit, Option.bind_some]
    refine ifn (a1) ?_
    refine bst (sR_1219_29 hS) ?_
    refine bst (lAv (ss_45 hS) (by omega) (by omega) (hW i (by omega))) ?_
    rw [e1, e2, e]
    have es : sumF cw i (d + 1) = cw i + sumF cw (i + 1) d := rfl
    rw [es, ← Int.add_assoc]
def HitX (tl tw P : Nat → Int) (x : Int) (t o : Nat) : Prop := tl t = tl o ∧ x < P o + tw o ∧ P o < x + tw t
theorem v_meets {N : Nat} {h : Hs} (hS : Sk h) {nt : Nat} {tl tw tg ls ms P : Nat → Int} (hT : RTq h nt tl tw tg ls ms) (hP : ∀ i, i < nt → aI h 33 i = iI (P i)) (hb : ∀ i, i < nt → 0 ≤ P i ∧ P i ≤ 100) {x : Int} (x1 : -1000 ≤ x) (x2 : x ≤ 1000) {t o : Nat} (ht : t < nt) (ho : o < nt) : ((o ≠ t ∧ HitX tl tw P x t o) → fX12_meets N h 29 (iI t) (iI x) (iI o) = some (iI 1, h)) ∧ (¬ (o ≠ t ∧ HitX tl tw P x t o) → fX12_meets N h 29 (iI t) (iI x) (iI o) = some (iI 0, h)) := by
  have ct := hT.1.2
  obtain ⟨⟨g0, g1, g2, g4, g5⟩, bb⟩ := hT.2 t ht
  obtain ⟨⟨k0, k1, k2, k4, k5⟩, cc⟩ := hT.2 o ho
  have po := hb o ho
  have eo : iI (t : Int) = iI (o : Int) ↔ (t : Int) = o := iI_eq (by omega) (by omega) (by omega) (by omega)
  have le : iI (tl t) = iI (tl o) ↔ tl t = tl o := iI_eq (by omega) (by omega) (by omega) (by omega)
  have u5 : iI (P o + tw o) ≤ iI x ↔ P o + tw o ≤ x := iI_le (by omega) (by omega) (by omega) (by omega)
  have u6 : iI (x + tw t) ≤ iI (P o) ↔ x + tw t ≤ P o := iI_le (by omega) (by omega) (by omega) (by omega)
  have l0 := lAv (ss_30 hS) (show t < 40 by omega) (by omega) g0
  have l0' := lAv (ss_30 hS) (show o < 40 by omega) (by omega) k0
  have l1 := lAv (ss_31 hS) (show t < 40 by omega) (by omega) g1
  have l1' := lAv (ss_31 hS) (show o < 40 by omega) (by omega) k1
  have l3 := lAv (ss_33 hS) (show o < 40 by omega) (by omega) (hP o ho)
  simp only [fX12_meets, fX12_meets_b58, fX12_meets_b59, lit]
  constructor
  · rintro ⟨q0, q1, q2, q3⟩
    have n0 : ¬ iI (t : Int) = iI (o : Int) := fun z => q0 (by have := eo.mp z; omega)
    refine ifn (n0) ?_
    refine bst (sR_1202_29 hS) ?_
    refine bst (l0) ?_
    refine bst (sR_1202_29 hS) ?_
    refine bst (l0') ?_
    refine ifp (le.mpr q1) ?_
    refine bst (sR_1205_29 hS) ?_
    refine bst (l3) ?_
    refine bst (sR_1203_29 hS) ?_
    refine bst (l1') ?_
    rw [iI_add]
    refine ifn (fun z => by have := u5.mp z; omega) ?_
    refine bst (sR_1205_29 hS) ?_
    refine bst (l3) ?_
    refine bst (sR_1203_29 hS) ?_
    refine bst (l1) ?_
    rw [iI_add]
    refine ifn (fun z => by have := u6.mp z; omega) ?_
    refine bst (zc_i1) ?_
    rfl
  · intro q
    by_cases q0 : t = o
    · have n0 : iI (t : Int) = iI (o : Int) := eo.mpr (by omega)
      refine ifp (n0) ?_
      refine bst (zc_i0) ?_
      rfl
    have n0 : ¬ iI (t : Int) = iI (o : Int) := fun z => q0 (by have := eo.mp z; omega)
    by_cases q1 : tl t = tl o
    · by_cases q2 : P o + tw o ≤ x
      · skip
        refine ifn (n0) ?_
        refine bst (sR_1202_29 hS) ?_
        refine bst (l0) ?_
        refine bst (sR_1202_29 hS) ?_
        refine bst (l0') ?_
        refine ifp (le.mpr q1) ?_
        refine bst (sR_1205_29 hS) ?_
        refine bst (l3) ?_
        refine bst (sR_1203_29 hS) ?_
        refine bst (l1') ?_
        rw [iI_add]
        refine ifp (u5.mpr q2) ?_
        refine bst (zc_i0) ?_
        rfl
      · have q3 : x + tw t ≤ P o := Int.not_lt.mp fun w => q ⟨fun z => q0 z.symm, q1, by omega, w⟩
        refine ifn (n0) ?_
        refine bst (sR_1202_29 hS) ?_
        refine bst (l0) ?_
        refine bst (sR_1202_29 hS) ?_
        refine bst (l0') ?_
        refine ifp (le.mpr q1) ?_
        refine bst (sR_1205_29 hS) ?_
        refine bst (l3) ?_
        refine bst (sR_1203_29 hS) ?_
        refine bst (l1') ?_
        rw [iI_add]
        refine ifn (fun z => q2 (u5.mp z)) ?_
        refine bst (sR_1205_29 hS) ?_
        refine bst (l3) ?_
        refine bst (sR_1203_29 hS) ?_
        refine bst (l1) ?_
        rw [iI_add]
        refine ifp (u6.mpr q3) ?_
        refine bst (zc_i0) ?_
        rfl
    · skip
      refine ifn (n0) ?_
      refine bst (sR_1202_29 hS) ?_
      refine bst (l0) ?_
      refine bst (sR_1202_29 hS) ?_
      refine bst (l0') ?_
      refine ifn (fun z => q1 (le.mp z)) ?_
      refine bst (zc_i0) ?_
      rfl
theorem L_other {N : Nat} {h : Hs} (hS : Sk h) {nt : Nat} {tl tw tg ls ms P : Nat → Int} (hT : RTq h nt tl tw tg ls ms) (hP : ∀ i, i < nt → aI h 33 i = iI (P i)) (hb : ∀ i, i < nt → 0 ≤ P i ∧ P i ≤ 100) {x : Int} (x1 : -1000 ≤ x) (x2 : x ≤ 1000) {t : Nat} (ht : t < nt) : ∀ (d o fu : Nat), o + d = nt → d < fu → (∀ o', o' < o → o' ≠ t → ¬ HitX tl tw P x t o') → (∃ o0 : Nat, o0 < nt ∧ o0 ≠ t ∧ HitX tl tw P x t o0 ∧ (∀ o', o' < o0 → o' ≠ t → ¬ HitX tl tw P x t o') ∧ fX12_other_b2 N 29 fu h (iI t) (iI x) (iI o) = some (iI o0, h)) ∨ ((∀ o', o' < nt → o' ≠ t → ¬ HitX tl tw P x t o') ∧ fX12_other_b2 N 29 fu h (iI t) (iI x) (iI o) = some (iI (-1), h)) := by
  have ct := hT.1.2
  have o1 : oI 12 1 h (some 29) = some (iI nt) := oIv (by rw [ss_29 hS]) hT.1.1
  have rc12 : rc 12 h (some 29) = some 29 := rcv (by rw [ss_29 hS])
  intro d
  induction d with
  | zero =>
    intro o fu ho hf hp
    obtain ⟨fu, rfl⟩ : ∃ m, fu = m + 1 := ⟨fu - 1, by omega⟩
    refine Or.inr ⟨fun o' h1 h2 => hp o' (by omega) h2, ?_⟩
    show fX12_other_b2_body N (fX12_other_b2 N 29 fu) 29 h (iI t) (iI x) (iI o) = _
    have a1 : iI (nt : Int) ≤ iI (o : Int) := (iI_le (by omega) (by omega) (by omega) (by omega)).mpr (by omega)
    simp only [fX12_other_b2_body, lit, iI_neg]
    refine bst (o1) ?_
    refine ifp (a1) ?_
    rfl
  | succ d ih =>
    intro o fu ho hf hp
    obtain ⟨fu, rfl⟩ : ∃ m, fu = m + 1 := ⟨fu - 1, by omega⟩
    have a1 : ¬ iI (nt : Int) ≤ iI (o : Int) := fun q => by have := (iI_le (by omega) (by omega) (by omega) (by omega)).mp q; omega
    obtain ⟨v1, v0⟩ := v_meets (N := N) hS hT hP hb x1 x2 ht (show o < nt by omega)
    by_cases q : o ≠ t ∧ HitX tl tw P x t o
    · refine Or.inl ⟨o, by omega, q.1, q.2, hp, ?_⟩
      show fX12_other_b2_body N (fX12_other_b2 N 29 fu) 29 h (iI t) (iI x) (iI o) = _
      simp only [fX12_other_b2_body, lit]
      refine bst (o1) ?_
      refine ifn (a1) ?_
      refine bst (rc12) ?_
      refine bst (v1 q) ?_
      refine ifn (n10) ?_
      rfl
    · have e := ih (o + 1) fu (by omega) (by omega) (fun o' h1 h2 => by
        by_cases eo : o' = o
        · rw [eo] at h2 ⊢; exact fun z => q ⟨h2, z⟩
        · exact hp o' (by omega) h2)
      simp only [Int.natCast_add, Int.natCast_one] at e
      have st : fX12_other_b2 N 29 (fu + 1) h (iI t) (iI x) (iI o) = fX12_other_b2 N 29 fu h (iI t) (iI x) (iI ((o : Int) + 1)) := by
        show fX12_other_b2_body N (fX12_other_b2 N 29 fu) 29 h (iI t) (iI x) (iI o) = _
        simp only [fX12_other_b2_body, lit, iI_add, Option.bind_some]
        refine bst (o1) ?_
        refine ifn (a1) ?_
        refine bst (rc12) ?_
        refine bst (v0 q) ?_
        refine ifp (rfl) ?_
        rfl
      rw [st]
      exact e
theorem v_other {N : Nat} (hN : 100000000 ≤ N) {h : Hs} (hS : Sk h) {nt : Nat} {tl tw tg ls ms P : Nat → Int} (hT : RTq h nt tl tw tg ls ms) (hP : ∀ i, i < nt → aI h 33 i = iI (P i)) (hb : ∀ i, i < nt → 0 ≤ P i ∧ P i ≤ 100) {x : Int} (x1 : -1000 ≤ x) (x2 : x ≤ 1000) {t : Nat} (ht : t < nt) : (∃ o0 : Nat, o0 < nt ∧ o0 ≠ t ∧ HitX tl tw P x t o0 ∧ (∀ o', o' < o0 → o' ≠ t → ¬ HitX tl tw P x t o') ∧ fX12_other N h 29 (iI t) (iI x) = some (iI o0, h)) ∨ ((∀ o', o' < nt → o' ≠ t → ¬ HitX tl tw P x t o') ∧ fX12_other N h 29 (iI t) (iI x) = some (iI (-1), h)) := by
  have ct := hT.1.2
  exact L_other (N := N) hS hT hP hb x1 x2 ht nt 0 N (by omega) (by omega) (fun o' h1 => by omega)
theorem L_findB {N : Nat} {h : Hs} (hS : Sk h) {nt : Nat} {tl tw tg ls ms P : Nat → Int} (hT : RTq h nt tl tw tg ls ms) (hP : ∀ i, i < nt → aI h 33 i = iI (P i)) (hb : ∀ i, i < nt → -2000000000 ≤ P i ∧ P i ≤ 2000000000) : ∀ (d i fu : Nat), i + d = nt → d < fu → (∀ j, j < i → ¬ Bey ls ms P j) → (∃ j : Nat, j < nt ∧ Bey ls ms P j ∧ (∀ j', j' < j → ¬ Bey ls ms P j') ∧ fX12_find_b17 N 29 fu h (iI i) = some (uI (uI h 1223 29 (iI 1)) 1224 29 (iI j))) ∨ ((∀ j, j < nt → ¬ Bey ls ms P j) ∧ fX12_find_b17 N 29 fu h (iI i) = fX12_find_b71 N 29 N h (iI 0)) := by
  have ct := hT.1.2
  have o1 : oI 12 1 h (some 29) = some (iI nt) := oIv (by rw [ss_29 hS]) hT.1.1
  intro d
  induction d with
  | zero =>
    intro i fu hi hf hp
    obtain ⟨fu, rfl⟩ : ∃ m, fu = m + 1 := ⟨fu - 1, by omega⟩
    refine Or.inr ⟨fun j hj => hp j (by omega), ?_⟩
    show fX12_find_b17_body N (fX12_find_b17 N 29 fu) 29 h (iI i) = _
    have a1 : iI (nt : Int) ≤ iI (i : Int) := (iI_le (by omega) (by omega) (by omega) (by omega)).mpr (by omega)
    simp only [fX12_find_b17_body, lit]
    refine bst (o1) ?_
    refine ifp (a1) ?_
    rfl
  | succ d ih =>
    intro i fu hi hf hp
    obtain ⟨fu, rfl⟩ : ∃ m, fu = m + 1 := ⟨fu - 1, by omega⟩
    have a1 : ¬ iI (nt : Int) ≤ iI (i : Int) := fun q => by have := (iI_le (by omega) (by omega) (by omega) (by omega)).mp q; omega
    obtain ⟨⟨g0, g1, g2, g4, g5⟩, bb⟩ := hT.2 i (by omega)
    have pb := hb i (by omega)
    have w := v_inW (N := N) (h := h) (x := P i) (a := ls i) (b := ms i) (by omega) (by omega) (by omega) (by omega) (by omega) (by omega)
    have l3 := lAv (ss_33 hS) (show i < 40 by omega) (by omega) (hP i (by omega))
    have l4 := lAv (ss_34 hS) (show i < 40 by omega) (by omega) g4
    have l5 := lAv (ss_35 hS) (show i < 40 by omega) (by omega) g5
    by_cases q : ls i ≤ P i ∧ P i ≤ ms i
    · have e := ih (i + 1) fu (by omega) (by omega) (fun j hj => by
        by_cases ej : j = i
        · rw [ej]; exact fun z => z q
        · exact hp j (by omega))
      rw [if_pos q] at w
      simp only [Int.natCast_add, Int.natCast_one] at e
      have st : fX12_find_b17 N 29 (fu + 1) h (iI i) = fX12_find_b17 N 29 fu h (iI ((i : Int) + 1)) := by
        show fX12_find_b17_body N (fX12_find_b17 N 29 fu) 29 h (iI i) = _
        simp only [fX12_find_b17_body, lit, iI_add, Option.bind_some]
        refine bst (o1) ?_
        refine ifn (a1) ?_
        refine bst (sR_1205_29 hS) ?_
        refine bst (l3) ?_
        refine bst (sR_1206_29 hS) ?_
        refine bst (l4) ?_
        refine bst (sR_1207_29 hS) ?_
        refine bst (l5) ?_
        refine bst (w) ?_
        refine ifn (n10) ?_
        rfl
      rw [st]
      exact e
    · rw [if_neg q] at w
      refine Or.inl ⟨i, by omega, q, hp, ?_⟩
      show fX12_find_b17_body N (fX12_find_b17 N 29 fu) 29 h (iI i) = _
      simp only [fX12_find_b17_body, lit]
      refine bst (o1) ?_
      refine ifn (a1) ?_
      refine bst (sR_1205_29 hS) ?_
      refine bst (l3) ?_
      refine bst (sR_1206_29 hS) ?_
      refine bst (l4) ?_
      refine bst (sR_1207_29 hS) ?_
      refine bst (l5) ?_
      refine bst (w) ?_
      refine ifp (rfl) ?_
      refine bst (qIv (by rw [ss_29 hS])) ?_
      refine bst (qIv (by rw [sh_uI, ss_29 hS])) ?_
      rfl
theorem L_findH {N : Nat} (hN : 100000000 ≤ N) {h : Hs} (hS : Sk h) (hz : 70 ≤ sz h) {nr nt nd : Nat} {rA tA dA rT : Nat → Nat} {wy gr hd ds : Nat → Int} {gn : Nat → Bool} {tl tw tg ls ms P : Nat → Int} {dr td : Nat → Option Nat} {sr dn : Nat → Int} (hT : RTq h nt tl tw tg ls ms) (hP : ∀ i, i < nt → aI h 33 i = iI (P i)) (hb : ∀ i, i < nt → 0 ≤ P i ∧ P i ≤ 100) (hD : RDr h nd dA ds) (hR : RRo h nr nt rA tA rT wy gr hd gn) (hM : RTm h nr rT dr sr dn) (hL : RTl nt nd nr rT dr td) {cw : Nat → Int} {bd : Int} (b1 : 0 ≤ bd) (b2 : bd ≤ 99999) (hW : ∀ i, i < 20 → aI h 45 i = iI (cw i)) (hB : gI h 1220 29 = iI bd) (p1 : -5000000 ≤ tpu wy gr sr tg ds rT dr nr cw P) (p2 : tpu wy gr sr tg ds rT dr nr cw P ≤ 5000000) (w4 : gI h 1224 29 = iI (-1)) (w5 : gI h 1225 29 = iI (-1)) (nb : ∀ j, j < nt → ¬ Bey ls ms P j) : ∀ (d i fu : Nat), i + d = nt → d < fu → (∀ i' j', i' < i → j' < nt → j' ≠ i' → ¬ Hit tl tw P i' j') → ∃ (k t o : Int) (h' : Hs), fX12_find_b71 N 29 fu h (iI i) = some h' ∧ Wh nt ls ms tl tw P (tpu wy gr sr tg ds rT dr nr cw P) bd k t o ∧ (gI h' 1223 29 = iI k ∧ gI h' 1224 29 = iI t ∧ gI h' 1225 29 = iI o) ∧ Ke [1223, 1224, 1225] [] [] [] h h' ∧ sz h' = sz h := by
  have ct := hT.1.2
  have o1 : oI 12 1 h (some 29) = some (iI nt) := oIv (by rw [ss_29 hS]) hT.1.1
  have rc12 : rc 12 h (some 29) = some 29 := rcv (by rw [ss_29 hS])
  have c29 : (sh h 29).1 = 12 := by rw [ss_29 hS]
  intro d
  induction d with
  | zero =>
    intro i fu hi hf hp
    obtain ⟨fu, rfl⟩ : ∃ m, fu = m + 1 := ⟨fu - 1, by omega⟩
    have a1 : iI (nt : Int) ≤ iI (i : Int) := (iI_le (by omega) (by omega) (by omega) (by omega)).mpr (by omega)
    have nh : ∀ i j, i < j → j < nt → ¬ Hit tl tw P i j := fun i' j' h1 h2 => hp i' j' (by omega) h2 (by omega)
    have lm := L_pullMwq hN hS hT hP hD hR hM hL hW 20 0 0 N (by omega) (by omega)
    rw [Int.zero_add, Int.add_comm] at lm
    have pu : fX12_pull N h 29 = some (iI (tpu wy gr sr tg ds rT dr nr cw P), h) := lm
    have o20 : oI 12 20 h (some 29) = some (iI bd) := oIv c29 hB
    have l1 : iI bd < iI (tpu wy gr sr tg ds rT dr nr cw P) ↔ bd < tpu wy gr sr tg ds rT dr nr cw P := iI_lt (by omega) (by omega) (by omega) (by omega)
    have l2 : iI (-bd) ≤ iI (tpu wy gr sr tg ds rT dr nr cw P) ↔ -bd ≤ tpu wy gr sr tg ds rT dr nr cw P := iI_le (by omega) (by omega) (by omega) (by omega)
    by_cases q1 : bd < tpu wy gr sr tg ds rT dr nr cw P
    · refine ⟨3, -1, -1, uI h 1223 29 (iI 3), ?_, Or.inr ⟨nb, Or.inr ⟨nh, rfl, rfl, Or.inl ⟨rfl, Or.inl q1⟩⟩⟩, ⟨by simp [HR], by simp [HR, w4], by simp [HR, w5]⟩, Ke_rf.u 1223 29 _ (by decide), rfl⟩
      show fX12_find_b71_body N (fX12_find_b71 N 29 fu) 29 h (iI i) = _
      simp only [fX12_find_b71_body, fX12_find_b151, fX12_find_b156, lit, iI_neg]
      refine bst (o1) ?_
      refine ifp (a1) ?_
      refine bst (rc12) ?_
      refine bst (pu) ?_
      refine bst (o20) ?_
      refine ifp (l1.mpr q1) ?_
      refine bst (qIv c29) ?_
      rfl
    · by_cases q2 : -bd ≤ tpu wy gr sr tg ds rT dr nr cw P
      · refine ⟨0, -1, -1, uI h 1223 29 (iI 0), ?_, Or.inr ⟨nb, Or.inr ⟨nh, rfl, rfl, Or.inr ⟨rfl, q2, by omega⟩⟩⟩, ⟨by simp [HR], by simp [HR, w4], by simp [HR, w5]⟩, Ke_rf.u 1223 29 _ (by decide), rfl⟩
        show fX12_find_b71_body N (fX12_find_b71 N 29 fu) 29 h (iI i) = _
        simp only [fX12_find_b71_body, fX12_find_b151, fX12_find_b156, lit]
        refine bst (o1) ?_
        refine ifp (a1) ?_
        refine bst (rc12) ?_
        refine bst (pu) ?_
        refine bst (o20) ?_
        refine ifn (fun z => q1 (l1.mp z)) ?_
        refine bst (o20) ?_
        rw [iI_neg]
        refine ifp (l2.mpr q2) ?_
        refine bst (qIv c29) ?_
        rfl
      · refine ⟨3, -1, -1, uI h 1223 29 (iI 3), ?_, Or.inr ⟨nb, Or.inr ⟨nh, rfl, rfl, Or.inl ⟨rfl, Or.inr (by omega)⟩⟩⟩, ⟨by simp [HR], by simp [HR, w4], by simp [HR, w5]⟩, Ke_rf.u 1223 29 _ (by decide), rfl⟩
        show fX12_find_b71_body N (fX12_find_b71 N 29 fu) 29 h (iI i) = _
        simp only [fX12_find_b71_body, fX12_find_b151, fX12_find_b156, lit]
        refine bst (o1) ?_
        refine ifp (a1) ?_
        refine bst (rc12) ?_
        refine bst (pu) ?_
        refine bst (o20) ?_
        refine ifn (fun z => q1 (l1.mp z)) ?_
        refine bst (o20) ?_
        rw [iI_neg]
        refine ifn (fun z => q2 (l2.mp z)) ?_
        refine bst (qIv c29) ?_
        rfl
  | succ d ih =>
    intro i fu hi hf hp
    obtain ⟨fu, rfl⟩ : ∃ m, fu = m + 1 := ⟨fu - 1, by omega⟩
    have a1 : ¬ iI (nt : Int) ≤ iI (i : Int) := fun q => by have := (iI_le (by omega) (by omega) (by omega) (by omega)).mp q; omega
    have bi := hb i (by omega)
    have l3 := lAv (ss_33 hS) (show i < 40 by omega) (by omega) (hP i (by omega))
    rcases v_other (N := N) hN hS hT hP hb (x := P i) (by omega) (by omega) (t := i) (by omega) with ⟨o0, e1, e2, e3, e4, e5⟩ | ⟨e1, e2⟩
    · have hlt : i < o0 := by
        rcases Nat.lt_trichotomy i o0 with w | w | w
        · exact w
        · exact absurd w.symm e2
        · exact absurd (Hit.sy (tl := tl) (tw := tw) (P := P) (i := i) (j := o0) e3) (hp o0 i w (by omega) (by omega))
      obtain ⟨h2, eh2⟩ : ∃ h2, h2 = uI (uI h 1223 29 (iI 2)) 1224 29 (iI i) := ⟨_, rfl⟩
      have ke : Ke [1223, 1224] [] [] [] h h2 := by rw [eh2]; exact (Ke_rf.u 1223 29 _ (by decide)).u 1224 29 _ (by decide)
      have hS2 := hS.e hz ke (by decide)
      have hP2 : ∀ i, i < nt → aI h2 33 i = iI (P i) := fun i hi => by rw [ke.2.1 33 (by decide) (by omega)]; exact hP i hi
      have hT2 := hT.e hz ke (by decide) (by decide)
      have l32 := lAv (ss_33 hS2) (show i < 40 by omega) (by omega) (hP2 i (by omega))
      have e5' : fX12_other N h2 29 (iI i) (iI (P i)) = some (iI o0, h2) := by
        rcases v_other (N := N) hN hS2 hT2 hP2 hb (x := P i) (by omega) (by omega) (t := i) (by omega) with ⟨o1', f1, f2, f3, f4, f5⟩ | ⟨f1, f2⟩
        · have : o1' = o0 := by
            rcases Nat.lt_trichotomy o1' o0 with w | w | w
            · exact absurd f3 (e4 o1' w f2)
            · exact w
            · exact absurd e3 (f4 o0 w e2)
          rw [this] at f5
          exact f5
        · exact absurd e3 (f1 o0 e1 e2)
      have w0 : iI 0 ≤ iI (o0 : Int) := (iI_le (by omega) (by omega) (by omega) (by omega)).mpr (by omega)
      refine ⟨2, i, o0, uI h2 1225 29 (iI o0), ?_, Or.inr ⟨nb, Or.inl ⟨i, o0, hlt, e1, e3, fun i' j' h1 h2 h3 => hp i' j' h1 h3 (by omega), fun j' h1 h2 => e4 j' h2 (by omega), rfl, rfl, rfl⟩⟩, ⟨by rw [eh2]; simp [HR], by rw [eh2]; simp [HR], by simp [HR]⟩, (ke.w (by decide) (by decide) (by decide) (by decide)).u 1225 29 _ (by decide), by rw [eh2]; rfl⟩
      show fX12_find_b71_body N (fX12_find_b71 N 29 fu) 29 h (iI i) = _
      simp only [fX12_find_b71_body, lit]
      refine bst (o1) ?_
      refine ifn (a1) ?_
      refine bst (sR_1205_29 hS) ?_
      refine bst (l3) ?_
      refine bst (rc12) ?_
      refine bst (e5) ?_
      refine ifp (w0) ?_
      refine bst (qIv c29) ?_
      refine bst (qIv (by rw [sh_uI]; exact c29)) ?_
      rw [← eh2]
      refine bst (sR_1205_29 hS2) ?_
      refine bst (l32) ?_
      refine bst (rcv (by rw [ss_29 hS2])) ?_
      refine bst (e5') ?_
      refine bst (qIv (by rw [ss_29 hS2])) ?_
      rfl
    · have w0 : ¬ iI 0 ≤ iI (-1) := by decide
      obtain ⟨k, t, o, h', r1, r2⟩ := ih (i + 1) fu (by omega) (by omega) (fun i' j' h1 h2 h3 => by
        by_cases ei : i' = i
        · rw [ei] at h3 ⊢
          exact e1 j' h2 h3
        · exact hp i' j' (by omega) h2 h3)
      simp only [Int.natCast_add, Int.natCast_one] at r1
      refine ⟨k, t, o, h', ?_, r2⟩
      show fX12_find_b71_body N (fX12_find_b71 N 29 fu) 29 h (iI i) = _
      simp only [fX12_find_b71_body, lit, iI_add, Option.bind_some]
      refine bst (o1) ?_
      refine ifn (a1) ?_
      refine bst (sR_1205_29 hS) ?_
      refine bst (l3) ?_
      refine bst (rc12) ?_
      refine bst (e2) ?_
      refine ifn (w0) ?_
      exact r1
theorem v_find {N : Nat} (hN : 100000000 ≤ N) {h : Hs} (hS : Sk h) (hz : 70 ≤ sz h) {nr nt nd : Nat} {rA tA dA rT : Nat → Nat} {wy gr hd ds : Nat → Int} {gn : Nat → Bool} {tl tw tg ls ms P : Nat → Int} {dr td : Nat → Option Nat} {sr dn : Nat → Int} (hT : RTq h nt tl tw tg ls ms) (hP : ∀ i, i < nt → aI h 33 i = iI (P i)) (hb : ∀ i, i < nt → -2000000000 ≤ P i ∧ P i ≤ 2000000000) (hD : RDr h nd dA ds) (hR : RRo h nr nt rA tA rT wy gr hd gn) (hM : RTm h nr rT dr sr dn) (hL : RTl nt nd nr rT dr td) {cw : Nat → Int} {bd : Int} (b1 : 0 ≤ bd) (b2 : bd ≤ 99999) (hW : ∀ i, i < 20 → aI h 45 i = iI (cw i)) (hB : gI h 1220 29 = iI bd) (hpu : (∀ i, i < nt → 0 ≤ P i ∧ P i ≤ 100) → -5000000 ≤ tpu wy gr sr tg ds rT dr nr cw P ∧ tpu wy gr sr tg ds rT dr nr cw P ≤ 5000000) : ∃ (k t o : Int) (h' : Hs), fX12_find N h 29 = some h' ∧ Wh nt ls ms tl tw P (tpu wy gr sr tg ds rT dr nr cw P) bd k t o ∧ (gI h' 1223 29 = iI k ∧ gI h' 1224 29 = iI t ∧ gI h' 1225 29 = iI o) ∧ Ke [1223, 1224, 1225] [] [] [] h h' ∧ sz h' = sz h := by
  have ct := hT.1.2
  obtain ⟨h3, eh3⟩ : ∃ h3, h3 = uI (uI (uI h 1223 29 (iI 0)) 1224 29 (iI (-1))) 1225 29 (iI (-1)) := ⟨_, rfl⟩
  have ke : Ke [1223, 1224, 1225] [] [] [] h h3 := by rw [eh3]; exact ((Ke_rf.u 1223 29 _ (by decide)).u 1224 29 _ (by decide)).u 1225 29 _ (by decide)
  have s3 : sz h3 = sz h := by rw [eh3]; rfl
  have hS3 := hS.e hz ke (by decide)
  have hP3 : ∀ i, i < nt → aI h3 33 i = iI (P i) := fun i hi => by rw [ke.2.1 33 (by decide) (by omega)]; exact hP i hi
  have hT3 := hT.e hz ke (by decide) (by decide)
  have g4 : gI h3 1224 29 = iI (-1) := by rw [eh3]; simp [HR]
  have g5 : gI h3 1225 29 = iI (-1) := by rw [eh3]; simp [HR]
  have c29 : (sh h 29).1 = 12 := by rw [ss_29 hS]
  have st : fX12_find N h 29 = fX12_find_b17 N 29 N h3 (iI 0) := by
    simp only [fX12_find, lit, iI_neg]
    refine bst (qIv c29) ?_
    refine bst (qIv (by rw [sh_uI]; exact c29)) ?_
    refine bst (qIv (by rw [sh_uI, sh_uI]; exact c29)) ?_
    rw [← eh3]
  rcases L_findB (N := N) hS3 hT3 hP3 hb nt 0 N (by omega) (by omega) (fun j hj => absurd hj (by omega)) with ⟨j, j1, j2, j3, e1⟩ | ⟨nb, e1⟩
  · refine ⟨1, j, -1, _, st.trans e1, Or.inl ⟨j, j1, j2, j3, rfl, rfl, rfl⟩, ⟨by simp [HR], by simp [HR], by simp [HR, g5]⟩, (ke.u 1223 29 _ (by decide)).u 1224 29 _ (by decide), s3⟩
  · have hin : ∀ i, i < nt → 0 ≤ P i ∧ P i ≤ 100 := fun i hi => by
      have z1 := Decidable.not_not.mp (nb i hi)
      have z2 := (hT.2 i hi).2
      omega
    obtain ⟨p1, p2⟩ := hpu hin
    obtain ⟨k, t, o, h', r1, r2, r3, r4, r5⟩ := L_findH (N := N) hN hS3 (by omega) hT3 hP3 hin (hD.e hz ke (by decide) (by decide) (by decide)) (hR.e hz ke (by decide) (by decide) (by decide) (by decide)) (hM.e hz ke (by decide)) hL b1 b2 (fun i hi => by rw [ke.2.1 45 (by decide) (by omega)]; exact hW i hi) (by rw [ke.1 1220 29 (by decide) (by omega)]; exact hB) p1 p2 g4 g5 nb nt 0 N (by omega) (by omega) (fun i' j' h1 => by omega)
    exact ⟨k, t, o, h', st.trans (e1.trans r1), r2, r3, ke.tr r4, r5.trans s3⟩
