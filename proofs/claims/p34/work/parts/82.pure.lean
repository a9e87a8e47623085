/-! ===== turning, the reference: what stops it ===== -/
theorem L_pullMrq {N : Nat} {h : Hs} (hS : Sk h) {nr nt nd : Nat} {rA tA dA rT : Nat → Nat} {wy gr hd ds : Nat → Int} {gn : Nat → Bool} {tl tw tg ls ms P : Nat → Int} {dr td : Nat → Option Nat} {sr dn : Nat → Int} (hT : RTq h nt tl tw tg ls ms) (hP : ∀ i, i < nt → aI h 33 i = iI (P i)) (hD : RDr h nd dA ds) (hR : RRo h nr nt rA tA rT wy gr hd gn) (hM : RTm h nr rT dr sr dn) (hL : RTl nt nd nr rT dr td) : ∀ (d i : Nat) (c : Int) (fu : Nat), i + d = nr → d < fu → fX12_pull_b27 N 29 fu h (iI c) (iI i) = some (iI (c + sumF (fun r => tq wy gr sr tg ds rT dr r (P (rT r))) i d), h) := by
  have c3 := hR.1.2.2
  have ct := hT.1.2
  have cd := hD.1.2.2
  have o9 : oI 12 11 h (some 29) = some (iI nr) := oIv (by rw [ss_29 hS]) hR.1.2.1
  intro d
  induction d with
  | zero =>
    intro i c fu hi hf
    obtain ⟨fu, rfl⟩ : ∃ m, fu = m + 1 := ⟨fu - 1, by omega⟩
    show fX12_pull_b27_body N (fX12_pull_b27 N 29 fu) 29 h (iI c) (iI i) = _
    have a1 : iI (nr : Int) ≤ iI (i : Int) := (iI_le (by omega) (by omega) (by omega) (by omega)).mpr (by omega)
    simp only [fX12_pull_b27_body, lit]
    refine bst (o9) ?_
    refine ifp (a1) ?_
    rw [sumF_z, Int.add_zero]
  | succ d ih =>
    intro i c fu hi hf
    obtain ⟨fu, rfl⟩ : ∃ m, fu = m + 1 := ⟨fu - 1, by omega⟩
    show fX12_pull_b27_body N (fX12_pull_b27 N 29 fu) 29 h (iI c) (iI i) = _
    have a1 : ¬ iI (nr : Int) ≤ iI (i : Int) := fun q => by have := (iI_le (by omega) (by omega) (by omega) (by omega)).mp q; omega
    obtain ⟨-, -, ⟨f0, f1, f2, f3, f4⟩, q1, q2, q3, q4, q5⟩ := hR.2.1 i (by omega)
    obtain ⟨⟨g0, g1, g2, g4, g5⟩, bb⟩ := hT.2 (rT i) q1
    have g3 := hP (rT i) q1
    obtain ⟨m1, m2⟩ := hM i (by omega)
    have e := fun c' => ih (i + 1) c' fu (by omega) (by omega)
    simp only [Int.natCast_add, Int.natCast_one] at e
    have e1 : iI (i : Int) + iI 1 = iI ((i : Int) + 1) := by rw [iI_add]
    simp only [fX12_pull_b27_body, fX12_pull_b110, lit, e1, Option.bind_some]
    cases hdr : dr i with
    | none =>
      rw [hdr] at m1
      simp only [od] at m1
      have w2 : ¬ iI 0 ≤ iI (-1) := by decide
      refine bst (o9) ?_
      refine ifn (a1) ?_
      refine bst (sR_1216_29 hS) ?_
      refine bst (lAv (ss_42 hS) (by omega) (by omega) m1) ?_
      refine ifn (w2) ?_
      rw [e]
      have t0 : tq wy gr sr tg ds rT dr i (P (rT i)) = 0 := by simp [tq, hdr]
      rw [sumF, t0, Int.zero_add]
    | some k =>
      have hkl := (hL.1 i k (by omega) hdr).1
      obtain ⟨-, -, e0, e5, e6⟩ := hD.2.1 k hkl
      have m3 := (m2 (by rw [hdr]; exact fun q => by cases q)).2
      rw [hdr] at m1
      simp only [od] at m1
      have w2 : iI 0 ≤ iI (k : Int) := (iI_le (by omega) (by omega) (by omega) (by omega)).mpr (by omega)
      have bd := tgds (a := tg (rT i)) (b := ds k) (by omega) (by omega) e5 e6
      have em : iI (tg (rT i)) * iI (ds k) = iI (tg (rT i) * ds k) := by rw [iI_mul]
      have dq : dv (iI (tg (rT i) * ds k)) (iI (gr i)) = some (iI ((tg (rT i) * ds k).tdiv (gr i))) := by
        have vq := v_quot (N := N) (h := h) (a := tg (rT i) * ds k) (b := gr i) (by omega) (by omega) (by omega) (by omega)
        have ne : ¬ iI (gr i) = iI 0 := fun q => by have := (iI_eq (by omega) (by omega) (by omega) (by omega)).mp q; omega
        simp only [fX11_quotient, fX11_quotient_b11, lit] at vq
        rw [if_neg ne] at vq
        cases hq : dv (iI (tg (rT i) * ds k)) (iI (gr i)) with
        | none =>
          rw [hq] at vq
          cases vq
        | some v =>
          rw [hq] at vq
          have vq2 : some (v, h) = some (iI ((tg (rT i) * ds k).tdiv (gr i)), h) := vq
          rw [(Prod.mk.inj (Option.some.inj vq2)).1]
      have lt := lAv (ss_38 hS) (show i < 40 by omega) (by omega) f0
      have lg := lAv (ss_32 hS) (show rT i < 40 by omega) (by omega) g2
      refine bst (o9) ?_
      refine ifn (a1) ?_
      refine bst (sR_1216_29 hS) ?_
      refine bst (lAv (ss_42 hS) (by omega) (by omega) m1) ?_
      refine ifp (w2) ?_
      refine bst (sR_1212_29 hS) ?_
      refine bst (lt) ?_
      refine bst (sR_1204_29 hS) ?_
      refine bst (lg) ?_
      refine bst (sR_1210_29 hS) ?_
      refine bst (sR_1216_29 hS) ?_
      refine bst (lAv (ss_42 hS) (by omega) (by omega) m1) ?_
      refine bst (lAv (ss_37 hS) (by omega) (by omega) e0) ?_
      refine bst (sR_1213_29 hS) ?_
      refine bst (lAv (ss_39 hS) (by omega) (by omega) f1) ?_
      rw [em]
      refine bst (dq) ?_
      refine bst (sR_1214_29 hS) ?_
      refine bst (lAv (ss_40 hS) (by omega) (by omega) f2) ?_
      refine bst (sR_1204_29 hS) ?_
      refine bst (lg) ?_
      refine bst (sR_1205_29 hS) ?_
      refine bst (lAv (ss_33 hS) (by omega) (by omega) g3) ?_
      refine bst (sR_1208_29 hS) ?_
      refine bst (lAv (ss_36 hS) (by omega) (by omega) m3) ?_
      simp only [iI_mul, iI_sub, iI_add]
      rw [e]
      have t0 : tq wy gr sr tg ds rT dr i (P (rT i)) = (tg (rT i) * ds k).tdiv (gr i) * wy i + tg (rT i) * (P (rT i) - sr i) := by
        simp only [tq, hdr]
        rw [Int.mul_comm (wy i)]
      rw [sumF, t0]
      simp only [Int.add_assoc]

theorem L_pullMwq {N : Nat} (hN : 100000000 ≤ N) {h : Hs} (hS : Sk h) {nr nt nd : Nat} {rA tA dA rT : Nat → Nat} {wy gr hd ds : Nat → Int} {gn : Nat → Bool} {tl tw tg ls ms P : Nat → Int} {dr td : Nat → Option Nat} {sr dn : Nat → Int} (hT : RTq h nt tl tw tg ls ms) (hP : ∀ i, i < nt → aI h 33 i = iI (P i)) (hD : RDr h nd dA ds) (hR : RRo h nr nt rA tA rT wy gr hd gn) (hM : RTm h nr rT dr sr dn) (hL : RTl nt nd nr rT dr td) {cw : Nat → Int} (hW : ∀ i, i < 20 → aI h 45 i = iI (cw i)) : ∀ (d i : Nat) (c : Int) (fu : Nat), i + d = 20 → d < fu → fX12_pull_b4 N 29 fu h (iI c) (iI i) = some (iI (c + sumF cw i d + sumF (fun r => tq wy gr sr tg ds rT dr r (P (rT r))) 0 nr), h) := by
  have c3 := hR.1.2.2
  intro d
  induction d with
  | zero =>
    intro i c fu hi hf
    obtain ⟨fu, rfl⟩ : ∃ m, fu = m + 1 := ⟨fu - 1, by omega⟩
    show fX12_pull_b4_body N (fX12_pull_b4 N 29 fu) 29 h (iI c) (iI i) = _
    have a1 : iI 20 ≤ iI (i : Int) := (iI_le (by omega) (by omega) (by omega) (by omega)).mpr (by omega)
    have lr := L_pullMrq (N := N) hS hT hP hD hR hM hL nr 0 c N (by omega) (by omega)
    simp only [fX12_pull_b4_body, lit]
    refine ifp (a1) ?_
    rw [sumF_z, Int.add_zero]
    exact lr
  | succ d ih =>
    intro i c fu hi hf
    obtain ⟨fu, rfl⟩ : ∃ m, fu = m + 1 := ⟨fu - 1, by omega⟩
    show fX12_pull_b4_body N (fX12_pull_b4 N 29 fu) 29 h (iI c) (iI i) = _
    have a1 : ¬ iI 20 ≤ iI (i : Int) := fun q => by have := (iI_le (by omega) (by omega) (by omega) (by omega)).mp q; omega
    have e := ih (i + 1) (c + cw i) fu (by omega) (by omega)
    simp only [Int.natCast_add, Int.natCast_one] at e
    have e1 : iI (i : Int) + iI 1 = iI ((i : Int) + 1) := by rw [iI_add]
    have e2 : iI c + iI (cw i) = iI (c + cw i) := by rw [iI_add]
    simp only [fX12_pull_b4_body, lit, Option.bind_some]
    refine ifn (a1) ?_
    refine bst (sR_1219_29 hS) ?_
    refine bst (lAv (ss_45 hS) (by omega) (by omega) (hW i (by omega))) ?_
    rw [e1, e2, e]
    have es : sumF cw i (d + 1) = cw i + sumF cw (i + 1) d := rfl
    rw [es, ← Int.add_assoc]
def HitX (tl tw P : Nat → Int) (x : Int) (t o : Nat) : Prop := tl t = tl o ∧ x < P o + tw o ∧ P o < x + tw t
theorem v_meets {N : Nat} {h : Hs} (hS : Sk h) {nt : Nat} {tl tw tg ls ms P : Nat → Int} (hT : RTq h nt tl tw tg ls ms) (hP : ∀ i, i < nt → aI h 33 i = iI (P i)) (hb : ∀ i, i < nt → 0 ≤ P i ∧ P i ≤ 100) {x : Int} (x1 : -1000 ≤ x) (x2 : x ≤ 1000) {t o : Nat} (ht : t < nt) (ho : o < nt) : ((o ≠ t ∧ HitX tl tw P x t o) → fX12_meets N h 29 (iI t) (iI x) (iI o) = some (iI 1, h)) ∧ (¬ (o ≠ t ∧ HitX tl tw P x t o) → fX12_meets N h 29 (iI t) (iI x) (iI o) = some (iI 0, h)) := by
  have ct := hT.1.2
  obtain ⟨⟨g0, g1, g2, g4, g5⟩, bb⟩ := hT.2 t ht
  obtain ⟨⟨k0, k1, k2, k4, k5⟩, cc⟩ := hT.2 o ho
  have po := hb o ho
  have eo : iI (t : Int) = iI (o : Int) ↔ (t : Int) = o := iI_eq (by omega) (by omega) (by omega) (by omega)
  have le : iI (tl t) = iI (tl o) ↔ tl t = tl o := iI_eq (by omega) (by omega) (by omega) (by omega)
  have u5 : iI (P o + tw o) ≤ iI x ↔ P o + tw o ≤ x := iI_le (by omega) (by omega) (by omega) (by omega)
  have u6 : iI (x + tw t) ≤ iI (P o) ↔ x + tw t ≤ P o := iI_le (by omega) (by omega) (by omega) (by omega)
  have l0 := lAv (ss_30 hS) (show t < 40 by omega) (by omega) g0
  have l0' := lAv (ss_30 hS) (show o < 40 by omega) (by omega) k0
  have l1 := lAv (ss_31 hS) (show t < 40 by omega) (by omega) g1
  have l1' := lAv (ss_31 hS) (show o < 40 by omega) (by omega) k1
  have l3 := lAv (ss_33 hS) (show o < 40 by omega) (by omega) (hP o ho)
  simp only [fX12_meets, fX12_meets_b58, fX12_meets_b59, lit]
  constructor
  · rintro ⟨q0, q1, q2, q3⟩
    have n0 : ¬ iI (t : Int) = iI (o : Int) := fun z => q0 (by have := eo.mp z; omega)
    refine ifn (n0) ?_
    refine bst (sR_1202_29 hS) ?_
    refine bst (l0) ?_
    refine bst (sR_1202_29 hS) ?_
    refine bst (l0') ?_
    refine ifp (le.mpr q1) ?_
    refine bst (sR_1205_29 hS) ?_
    refine bst (l3) ?_
    refine bst (sR_1203_29 hS) ?_
    refine bst (l1') ?_
    rw [iI_add]
    refine ifn (fun z => by have := u5.mp z; omega) ?_
    refine bst (sR_1205_29 hS) ?_
    refine bst (l3) ?_
    refine bst (sR_1203_29 hS) ?_
    refine bst (l1) ?_
    rw [iI_add]
    refine ifn (fun z => by have := u6.mp z; omega) ?_
    refine bst (zc_i1) ?_
    rfl
  · intro q
    by_cases q0 : t = o
    · have n0 : iI (t : Int) = iI (o : Int) := eo.mpr (by omega)
      refine ifp (n0) ?_
      refine bst (zc_i0) ?_
      rfl
    have n0 : ¬ iI (t : Int) = iI (o : Int) := fun z => q0 (by have := eo.mp z; omega)
    by_cases q1 : tl t = tl o
    · by_cases q2 : P o + tw o ≤ x
      · skip
        refine ifn (n0) ?_
        refine bst (sR_1202_29 hS) ?_
        refine bst (l0) ?_
        refine bst (sR_1202_29 hS) ?_
        refine bst (l0') ?_
        refine ifp (le.mpr q1) ?_
        refine bst (sR_1205_29 hS) ?_
        refine bst (l3) ?_
        refine bst (sR_1203_29 hS) ?_
        refine bst (l1') ?_
        rw [iI_add]
        refine ifp (u5.mpr q2) ?_
        refine bst (zc_i0) ?_
        rfl
      · have q3 : x + tw t ≤ P o := Int.not_lt.mp fun w => q ⟨fun z => q0 z.symm, q1, by omega, w⟩
        refine ifn (n0) ?_
        refine bst (sR_1202_29 hS) ?_
        refine bst (l0) ?_
        refine bst (sR_1202_29 hS) ?_
        refine bst (l0') ?_
        refine ifp (le.mpr q1) ?_
        refine bst (sR_1205_29 hS) ?_
        refine bst (l3) ?_
        refine bst (sR_1203_29 hS) ?_
        refine bst (l1') ?_
        rw [iI_add]
        refine ifn (fun z => q2 (u5.mp z)) ?_
        refine bst (sR_1205_29 hS) ?_
        refine bst (l3) ?_
        refine bst (sR_1203_29 hS) ?_
        refine bst (l1) ?_
        rw [iI_add]
        refine ifp (u6.mpr q3) ?_
        refine bst (zc_i0) ?_
        rfl
    · skip
      refine ifn (n0) ?_
      refine bst (sR_1202_29 hS) ?_
      refine bst (l0) ?_
      refine bst (sR_1202_29 hS) ?_
      refine bst (l0') ?_
      refine ifn (fun z => q1 (le.mp z)) ?_
      refine bst (zc_i0) ?_
      rfl
theorem L_other {N : Nat} {h : Hs} (hS : Sk h) {nt : Nat} {tl tw tg ls ms P : Nat → Int} (hT : RTq h nt tl tw tg ls ms) (hP : ∀ i, i < nt → aI h 33 i = iI (P i)) (hb : ∀ i, i < nt → 0 ≤ P i ∧ P i ≤ 100) {x : Int} (x1 : -1000 ≤ x) (x2 : x ≤ 1000) {t : Nat} (ht : t < nt) : ∀ (d o fu : Nat), o + d = nt → d < fu → (∀ o', o' < o → o' ≠ t → ¬ HitX tl tw P x t o') → (∃ o0 : Nat, o0 < nt ∧ o0 ≠ t ∧ HitX tl tw P x t o0 ∧ (∀ o', o' < o0 → o' ≠ t → ¬ HitX tl tw P x t o') ∧ fX12_other_b2 N 29 fu h (iI t) (iI x) (iI o) = some (iI o0, h)) ∨ ((∀ o', o' < nt → o' ≠ t → ¬ HitX tl tw P x t o') ∧ fX12_other_b2 N 29 fu h (iI t) (iI x) (iI o) = some (iI (-1), h)) := by
  have ct := hT.1.2
  have o1 : oI 12 1 h (some 29) = some (iI nt) := oIv (by rw [ss_29 hS]) hT.1.1
  have rc12 : rc 12 h (some 29) = some 29 := rcv (by rw [ss_29 hS])
  intro d
  induction d with
  | zero =>
    intro o fu ho hf hp
    obtain ⟨fu, rfl⟩ : ∃ m, fu = m + 1 := ⟨fu - 1, by omega⟩
    refine Or.inr ⟨fun o' h1 h2 => hp o' (by omega) h2, ?_⟩
    show fX12_other_b2_body N (fX12_other_b2 N 29 fu) 29 h (iI t) (iI x) (iI o) = _
    have a1 : iI (nt : Int) ≤ iI (o : Int) := (iI_le (by omega) (by omega) (by omega) (by omega)).mpr (by omega)
    simp only [fX12_other_b2_body, lit, iI_neg]
    refine bst (o1) ?_
    refine ifp (a1) ?_
    rfl
  | succ d ih =>
    intro o fu ho hf hp
    obtain ⟨fu, rfl⟩ : ∃ m, fu = m + 1 := ⟨fu - 1, by omega⟩
    have a1 : ¬ iI (nt : Int) ≤ iI (o : Int) := fun q => by have := (iI_le (by omega) (by omega) (by omega) (by omega)).mp q; omega
    obtain ⟨v1, v0⟩ := v_meets (N := N) hS hT hP hb x1 x2 ht (show o < nt by omega)
    by_cases q : o ≠ t ∧ HitX tl tw P x t o
    · refine Or.inl ⟨o, by omega, q.1, q.2, hp, ?_⟩
      show fX12_other_b2_body N (fX12_other_b2 N 29 fu) 29 h (iI t) (iI x) (iI o) = _
      simp only [fX12_other_b2_body, lit]
      refine bst (o1) ?_
      refine ifn (a1) ?_
      refine bst (rc12) ?_
      refine bst (v1 q) ?_
      refine ifn (n10) ?_
      rfl
    · have e := ih (o + 1) fu (by omega) (by omega) (fun o' h1 h2 => by
        by_cases eo : o' = o
        · rw [eo] at h2 ⊢; exact fun z => q ⟨h2, z⟩
        · exact hp o' (by omega) h2)
      simp only [Int.natCast_add, Int.natCast_one] at e
      have st : fX12_other_b2 N 29 (fu + 1) h (iI t) (iI x) (iI o) = fX12_other_b2 N 29 fu h (iI t) (iI x) (iI ((o : Int) + 1)) := by
        show fX12_other_b2_body N (fX12_other_b2 N 29 fu) 29 h (iI t) (iI x) (iI o) = _
        simp only [fX12_other_b2_body, lit, iI_add, Option.bind_some]
        refine bst (o1) ?_
        refine ifn (a1) ?_
        refine bst (rc12) ?_
        refine bst (v0 q) ?_
        refine ifp (rfl) ?_
        rfl
      rw [st]
      exact e
theorem v_other {N : Nat} (hN : 100000000 ≤ N) {h : Hs} (hS : Sk h) {nt : Nat} {tl tw tg ls ms P : Nat → Int} (hT : RTq h nt tl tw tg ls ms) (hP : ∀ i, i < nt → aI h 33 i = iI (P i)) (hb : ∀ i, i < nt → 0 ≤ P i ∧ P i ≤ 100) {x : Int} (x1 : -1000 ≤ x) (x2 : x ≤ 1000) {t : Nat} (ht : t < nt) : (∃ o0 : Nat, o0 < nt ∧ o0 ≠ t ∧ HitX tl tw P x t o0 ∧ (∀ o', o' < o0 → o' ≠ t → ¬ HitX tl tw P x t o') ∧ fX12_other N h 29 (iI t) (iI x) = some (iI o0, h)) ∨ ((∀ o', o' < nt → o' ≠ t → ¬ HitX tl tw P x t o') ∧ fX12_other N h 29 (iI t) (iI x) = some (iI (-1), h)) := by
  have ct := hT.1.2
  exact L_other (N := N) hS hT hP hb x1 x2 ht nt 0 N (by omega) (by omega) (fun o' h1 => by omega)
theorem L_findB {N : Nat} {h : Hs} (hS : Sk h) {nt : Nat} {tl tw tg ls ms P : Nat → Int} (hT : RTq h nt tl tw tg ls ms) (hP : ∀ i, i < nt → aI h 33 i = iI (P i)) (hb : ∀ i, i < nt → -2000000000 ≤ P i ∧ P i ≤ 2000000000) : ∀ (d i fu : Nat), i + d = nt → d < fu → (∀ j, j < i → ¬ Bey ls ms P j) → (∃ j : Nat, j < nt ∧ Bey ls ms P j ∧ (∀ j', j' < j → ¬ Bey ls ms P j') ∧ fX12_find_b17 N 29 fu h (iI i) = some (uI (uI h 1223 29 (iI 1)) 1224 29 (iI j))) ∨ ((∀ j, j < nt → ¬ Bey ls ms P j) ∧ fX12_find_b17 N 29 fu h (iI i) = fX12_find_b71 N 29 N h (iI 0)) := by
  have ct := hT.1.2
  have o1 : oI 12 1 h (some 29) = some (iI nt) := oIv (by rw [ss_29 hS]) hT.1.1
  intro d
  induction d with
  | zero =>
    intro i fu hi hf hp
    obtain ⟨fu, rfl⟩ : ∃ m, fu = m + 1 := ⟨fu - 1, by omega⟩
    refine Or.inr ⟨fun j hj => hp j (by omega), ?_⟩
    show fX12_find_b17_body N (fX12_find_b17 N 29 fu) 29 h (iI i) = _
    have a1 : iI (nt : Int) ≤ iI (i : Int) := (iI_le (by omega) (by omega) (by omega) (by omega)).mpr (by omega)
    simp only [fX12_find_b17_body, lit]
    refine bst (o1) ?_
    refine ifp (a1) ?_
    rfl
  | succ d ih =>
    intro i fu hi hf hp
    obtain ⟨fu, rfl⟩ : ∃ m, fu = m + 1 := ⟨fu - 1, by omega⟩
    have a1 : ¬ iI (nt : Int) ≤ iI (i : Int) := fun q => by have := (iI_le (by omega) (by omega) (by omega) (by omega)).mp q; omega
    obtain ⟨⟨g0, g1, g2, g4, g5⟩, bb⟩ := hT.2 i (by omega)
    have pb := hb i (by omega)
    have w := v_inW (N := N) (h := h) (x := P i) (a := ls i) (b := ms i) (by omega) (by omega) (by omega) (by omega) (by omega) (by omega)
    have l3 := lAv (ss_33 hS) (show i < 40 by omega) (by omega) (hP i (by omega))
    have l4 := lAv (ss_34 hS) (show i < 40 by omega) (by omega) g4
    have l5 := lAv (ss_35 hS) (show i < 40 by omega) (by omega) g5
    by_cases q : ls i ≤ P i ∧ P i ≤ ms i
    · have e := ih (i + 1) fu (by omega) (by omega) (fun j hj => by
        by_cases ej : j = i
        · rw [ej]; exact fun z => z q
        · exact hp j (by omega))
      rw [if_pos q] at w
      simp only [Int.natCast_add, Int.natCast_one] at e
      have st : fX12_find_b17 N 29 (fu + 1) h (iI i) = fX12_find_b17 N 29 fu h (iI ((i : Int) + 1)) := by
        show fX12_find_b17_body N (fX12_find_b17 N 29 fu) 29 h (iI i) = _
        simp only [fX12_find_b17_body, lit, iI_add, Option.bind_some]
        refine bst (o1) ?_
        refine ifn (a1) ?_
        refine bst (sR_1205_29 hS) ?_
        refine bst (l3) ?_
        refine bst (sR_1206_29 hS) ?_
        refine bst (l4) ?_
        refine bst (sR_1207_29 hS) ?_
        refine bst (l5) ?_
        refine bst (w) ?_
        refine ifn (n10) ?_
        rfl
      rw [st]
      exact e
    · rw [if_neg q] at w
      refine Or.inl ⟨i, by omega, q, hp, ?_⟩
      show fX12_find_b17_body N (fX12_find_b17 N 29 fu) 29 h (iI i) = _
      simp only [fX12_find_b17_body, lit]
      refine bst (o1) ?_
      refine ifn (a1) ?_
      refine bst (sR_1205_29 hS) ?_
      refine bst (l3) ?_
      refine bst (sR_1206_29 hS) ?_
      refine bst (l4) ?_
      refine bst (sR_1207_29 hS) ?_
      refine bst (l5) ?_
      refine bst (w) ?_
      refine ifp (rfl) ?_
      refine bst (qIv (by rw [ss_29 hS])) ?_
      refine bst (qIv (by rw [sh_uI, ss_29 hS])) ?_
      rfl
theorem L_findH {N : Nat} (hN : 100000000 ≤ N) {h : Hs} (hS : Sk h) (hz : 70 ≤ sz h) {nr nt nd : Nat} {rA tA dA rT : Nat → Nat} {wy gr hd ds : Nat → Int} {gn : Nat → Bool} {tl tw tg ls ms P : Nat → Int} {dr td : Nat → Option Nat} {sr dn : Nat → Int} (hT : RTq h nt tl tw tg ls ms) (hP : ∀ i, i < nt → aI h 33 i = iI (P i)) (hb : ∀ i, i < nt → 0 ≤ P i ∧ P i ≤ 100) (hD : RDr h nd dA ds) (hR : RRo h nr nt rA tA rT wy gr hd gn) (hM : RTm h nr rT dr sr dn) (hL : RTl nt nd nr rT dr td) {cw : Nat → Int} {bd : Int} (b1 : 0 ≤ bd) (b2 : bd ≤ 99999) (hW : ∀ i, i < 20 → aI h 45 i = iI (cw i)) (hB : gI h 1220 29 = iI bd) (p1 : -5000000 ≤ tpu wy gr sr tg ds rT dr nr cw P) (p2 : tpu wy gr sr tg ds rT dr nr cw P ≤ 5000000) (w4 : gI h 1224 29 = iI (-1)) (w5 : gI h 1225 29 = iI (-1)) (nb : ∀ j, j < nt → ¬ Bey ls ms P j) : ∀ (d i fu : Nat), i + d = nt → d < fu → (∀ i' j', i' < i → j' < nt → j' ≠ i' → ¬ Hit tl tw P i' j') → ∃ (k t o : Int) (h' : Hs), fX12_find_b71 N 29 fu h (iI i) = some h' ∧ Wh nt ls ms tl tw P (tpu wy gr sr tg ds rT dr nr cw P) bd k t o ∧ (gI h' 1223 29 = iI k ∧ gI h' 1224 29 = iI t ∧ gI h' 1225 29 = iI o) ∧ Ke [1223, 1224, 1225] [] [] [] h h' ∧ sz h' = sz h := by
  have ct := hT.1.2
  have o1 : oI 12 1 h (some 29) = some (iI nt) := oIv (by rw [ss_29 hS]) hT.1.1
  have rc12 : rc 12 h (some 29) = some 29 := rcv (by rw [ss_29 hS])
  have c29 : (sh h 29).1 = 12 := by rw [ss_29 hS]
  intro d
  induction d with
  | zero =>
    intro i fu hi hf hp
    obtain ⟨fu, rfl⟩ : ∃ m, fu = m + 1 := ⟨fu - 1, by omega⟩
    have a1 : iI (nt : Int) ≤ iI (i : Int) := (iI_le (by omega) (by omega) (by omega) (by omega)).mpr (by omega)
    have nh : ∀ i j, i < j → j < nt → ¬ Hit tl tw P i j := fun i' j' h1 h2 => hp i' j' (by omega) h2 (by omega)
    have lm := L_pullMwq hN hS hT hP hD hR hM hL hW 20 0 0 N (by omega) (by omega)
    rw [Int.zero_add, Int.add_comm] at lm
    have pu : fX12_pull N h 29 = some (iI (tpu wy gr sr tg ds rT dr nr cw P), h) := lm
    have o20 : oI 12 20 h (some 29) = some (iI bd) := oIv c29 hB
    have l1 : iI bd < iI (tpu wy gr sr tg ds rT dr nr cw P) ↔ bd < tpu wy gr sr tg ds rT dr nr cw P := iI_lt (by omega) (by omega) (by omega) (by omega)
    have l2 : iI (-bd) ≤ iI (tpu wy gr sr tg ds rT dr nr cw P) ↔ -bd ≤ tpu wy gr sr tg ds rT dr nr cw P := iI_le (by omega) (by omega) (by omega) (by omega)
    by_cases q1 : bd < tpu wy gr sr tg ds rT dr nr cw P
    · refine ⟨3, -1, -1, uI h 1223 29 (iI 3), ?_, Or.inr ⟨nb, Or.inr ⟨nh, rfl, rfl, Or.inl ⟨rfl, Or.inl q1⟩⟩⟩, ⟨by simp [HR], by simp [HR, w4], by simp [HR, w5]⟩, Ke_rf.u 1223 29 _ (by decide), rfl⟩
      show fX12_find_b71_body N (fX12_find_b71 N 29 fu) 29 h (iI i) = _
      simp only [fX12_find_b71_body, fX12_find_b151, fX12_find_b156, lit, iI_neg]
      refine bst (o1) ?_
      refine ifp (a1) ?_
      refine bst (rc12) ?_
      refine bst (pu) ?_
      refine bst (o20) ?_
      refine ifp (l1.mpr q1) ?_
      refine bst (qIv c29) ?_
      rfl
    · by_cases q2 : -bd ≤ tpu wy gr sr tg ds rT dr nr cw P
      · refine ⟨0, -1, -1, uI h 1223 29 (iI 0), ?_, Or.inr ⟨nb, Or.inr ⟨nh, rfl, rfl, Or.inr ⟨rfl, q2, by omega⟩⟩⟩, ⟨by simp [HR], by simp [HR, w4], by simp [HR, w5]⟩, Ke_rf.u 1223 29 _ (by decide), rfl⟩
        show fX12_find_b71_body N (fX12_find_b71 N 29 fu) 29 h (iI i) = _
        simp only [fX12_find_b71_body, fX12_find_b151, fX12_find_b156, lit]
        refine bst (o1) ?_
        refine ifp (a1) ?_
        refine bst (rc12) ?_
        refine bst (pu) ?_
        refine bst (o20) ?_
        refine ifn (fun z => q1 (l1.mp z)) ?_
        refine bst (o20) ?_
        rw [iI_neg]
        refine ifp (l2.mpr q2) ?_
        refine bst (qIv c29) ?_
        rfl
      · refine ⟨3, -1, -1, uI h 1223 29 (iI 3), ?_, Or.inr ⟨nb, Or.inr ⟨nh, rfl, rfl, Or.inl ⟨rfl, Or.inr (by omega)⟩⟩⟩, ⟨by simp [HR], by simp [HR, w4], by simp [HR, w5]⟩, Ke_rf.u 1223 29 _ (by decide), rfl⟩
        show fX12_find_b71_body N (fX12_find_b71 N 29 fu) 29 h (iI i) = _
        simp only [fX12_find_b71_body, fX12_find_b151, fX12_find_b156, lit]
        refine bst (o1) ?_
        refine ifp (a1) ?_
        refine bst (rc12) ?_
        refine bst (pu) ?_
        refine bst (o20) ?_
        refine ifn (fun z => q1 (l1.mp z)) ?_
        refine bst (o20) ?_
        rw [iI_neg]
        refine ifn (fun z => q2 (l2.mp z)) ?_
        refine bst (qIv c29) ?_
        rfl
  | succ d ih =>
    intro i fu hi hf hp
    obtain ⟨fu, rfl⟩ : ∃ m, fu = m + 1 := ⟨fu - 1, by omega⟩
    have a1 : ¬ iI (nt : Int) ≤ iI (i : Int) := fun q => by have := (iI_le (by omega) (by omega) (by omega) (by omega)).mp q; omega
    have bi := hb i (by omega)
    have l3 := lAv (ss_33 hS) (show i < 40 by omega) (by omega) (hP i (by omega))
    rcases v_other (N := N) hN hS hT hP hb (x := P i) (by omega) (by omega) (t := i) (by omega) with ⟨o0, e1, e2, e3, e4, e5⟩ | ⟨e1, e2⟩
    · have hlt : i < o0 := by
        rcases Nat.lt_trichotomy i o0 with w | w | w
        · exact w
        · exact absurd w.symm e2
        · exact absurd (Hit.sy (tl := tl) (tw := tw) (P := P) (i := i) (j := o0) e3) (hp o0 i w (by omega) (by omega))
      obtain ⟨h2, eh2⟩ : ∃ h2, h2 = uI (uI h 1223 29 (iI 2)) 1224 29 (iI i) := ⟨_, rfl⟩
      have ke : Ke [1223, 1224] [] [] [] h h2 := by rw [eh2]; exact (Ke_rf.u 1223 29 _ (by decide)).u 1224 29 _ (by decide)
      have hS2 := hS.e hz ke (by decide)
      have hP2 : ∀ i, i < nt → aI h2 33 i = iI (P i) := fun i hi => by rw [ke.2.1 33 (by decide) (by omega)]; exact hP i hi
      have hT2 := hT.e hz ke (by decide) (by decide)
      have l32 := lAv (ss_33 hS2) (show i < 40 by omega) (by omega) (hP2 i (by omega))
      have e5' : fX12_other N h2 29 (iI i) (iI (P i)) = some (iI o0, h2) := by
        rcases v_other (N := N) hN hS2 hT2 hP2 hb (x := P i) (by omega) (by omega) (t := i) (by omega) with ⟨o1', f1, f2, f3, f4, f5⟩ | ⟨f1, f2⟩
        · have : o1' = o0 := by
            rcases Nat.lt_trichotomy o1' o0 with w | w | w
            · exact absurd f3 (e4 o1' w f2)
            · exact w
            · exact absurd e3 (f4 o0 w e2)
          rw [this] at f5
          exact f5
        · exact absurd e3 (f1 o0 e1 e2)
      have w0 : iI 0 ≤ iI (o0 : Int) := (iI_le (by omega) (by omega) (by omega) (by omega)).mpr (by omega)
      refine ⟨2, i, o0, uI h2 1225 29 (iI o0), ?_, Or.inr ⟨nb, Or.inl ⟨i, o0, hlt, e1, e3, fun i' j' h1 h2 h3 => hp i' j' h1 h3 (by omega), fun j' h1 h2 => e4 j' h2 (by omega), rfl, rfl, rfl⟩⟩, ⟨by rw [eh2]; simp [HR], by rw [eh2]; simp [HR], by simp [HR]⟩, (ke.w (by decide) (by decide) (by decide) (by decide)).u 1225 29 _ (by decide), by rw [eh2]; rfl⟩
      show fX12_find_b71_body N (fX12_find_b71 N 29 fu) 29 h (iI i) = _
      simp only [fX12_find_b71_body, lit]
      refine bst (o1) ?_
      refine ifn (a1) ?_
      refine bst (sR_1205_29 hS) ?_
      refine bst (l3) ?_
      refine bst (rc12) ?_
      refine bst (e5) ?_
      refine ifp (w0) ?_
      refine bst (qIv c29) ?_
      refine bst (qIv (by rw [sh_uI]; exact c29)) ?_
      rw [← eh2]
      refine bst (sR_1205_29 hS2) ?_
      refine bst (l32) ?_
      refine bst (rcv (by rw [ss_29 hS2])) ?_
      refine bst (e5') ?_
      refine bst (qIv (by rw [ss_29 hS2])) ?_
      rfl
    · have w0 : ¬ iI 0 ≤ iI (-1) := by decide
      obtain ⟨k, t, o, h', r1, r2⟩ := ih (i + 1) fu (by omega) (by omega) (fun i' j' h1 h2 h3 => by
        by_cases ei : i' = i
        · rw [ei] at h3 ⊢
          exact e1 j' h2 h3
        · exact hp i' j' (by omega) h2 h3)
      simp only [Int.natCast_add, Int.natCast_one] at r1
      refine ⟨k, t, o, h', ?_, r2⟩
      show fX12_find_b71_body N (fX12_find_b71 N 29 fu) 29 h (iI i) = _
      simp only [fX12_find_b71_body, lit, iI_add, Option.bind_some]
      refine bst (o1) ?_
      refine ifn (a1) ?_
      refine bst (sR_1205_29 hS) ?_
      refine bst (l3) ?_
      refine bst (rc12) ?_
      refine bst (e2) ?_
      refine ifn (w0) ?_
      exact r1
theorem v_find {N : Nat} (hN : 100000000 ≤ N) {h : Hs} (hS : Sk h) (hz : 70 ≤ sz h) {nr nt nd : Nat} {rA tA dA rT : Nat → Nat} {wy gr hd ds : Nat → Int} {gn : Nat → Bool} {tl tw tg ls ms P : Nat → Int} {dr td : Nat → Option Nat} {sr dn : Nat → Int} (hT : RTq h nt tl tw tg ls ms) (hP : ∀ i, i < nt → aI h 33 i = iI (P i)) (hb : ∀ i, i < nt → -2000000000 ≤ P i ∧ P i ≤ 2000000000) (hD : RDr h nd dA ds) (hR : RRo h nr nt rA tA rT wy gr hd gn) (hM : RTm h nr rT dr sr dn) (hL : RTl nt nd nr rT dr td) {cw : Nat → Int} {bd : Int} (b1 : 0 ≤ bd) (b2 : bd ≤ 99999) (hW : ∀ i, i < 20 → aI h 45 i = iI (cw i)) (hB : gI h 1220 29 = iI bd) (hpu : (∀ i, i < nt → 0 ≤ P i ∧ P i ≤ 100) → -5000000 ≤ tpu wy gr sr tg ds rT dr nr cw P ∧ tpu wy gr sr tg ds rT dr nr cw P ≤ 5000000) : ∃ (k t o : Int) (h' : Hs), fX12_find N h 29 = some h' ∧ Wh nt ls ms tl tw P (tpu wy gr sr tg ds rT dr nr cw P) bd k t o ∧ (gI h' 1223 29 = iI k ∧ gI h' 1224 29 = iI t ∧ gI h' 1225 29 = iI o) ∧ Ke [1223, 1224, 1225] [] [] [] h h' ∧ sz h' = sz h := by
  have ct := hT.1.2
  obtain ⟨h3, eh3⟩ : ∃ h3, h3 = uI (uI (uI h 1223 29 (iI 0)) 1224 29 (iI (-1))) 1225 29 (iI (-1)) := ⟨_, rfl⟩
  have ke : Ke [1223, 1224, 1225] [] [] [] h h3 := by rw [eh3]; exact ((Ke_rf.u 1223 29 _ (by decide)).u 1224 29 _ (by decide)).u 1225 29 _ (by decide)
  have s3 : sz h3 = sz h := by rw [eh3]; rfl
  have hS3 := hS.e hz ke (by decide)
  have hP3 : ∀ i, i < nt → aI h3 33 i = iI (P i) := fun i hi => by rw [ke.2.1 33 (by decide) (by omega)]; exact hP i hi
  have hT3 := hT.e hz ke (by decide) (by decide)
  have g4 : gI h3 1224 29 = iI (-1) := by rw [eh3]; simp [HR]
  have g5 : gI h3 1225 29 = iI (-1) := by rw [eh3]; simp [HR]
  have c29 : (sh h 29).1 = 12 := by rw [ss_29 hS]
  have st : fX12_find N h 29 = fX12_find_b17 N 29 N h3 (iI 0) := by
    simp only [fX12_find, lit, iI_neg]
    refine bst (qIv c29) ?_
    refine bst (qIv (by rw [sh_uI]; exact c29)) ?_
    refine bst (qIv (by rw [sh_uI, sh_uI]; exact c29)) ?_
    rw [← eh3]
  rcases L_findB (N := N) hS3 hT3 hP3 hb nt 0 N (by omega) (by omega) (fun j hj => absurd hj (by omega)) with ⟨j, j1, j2, j3, e1⟩ | ⟨nb, e1⟩
  · refine ⟨1, j, -1, _, st.trans e1, Or.inl ⟨j, j1, j2, j3, rfl, rfl, rfl⟩, ⟨by simp [HR], by simp [HR], by simp [HR, g5]⟩, (ke.u 1223 29 _ (by decide)).u 1224 29 _ (by decide), s3⟩
  · have hin : ∀ i, i < nt → 0 ≤ P i ∧ P i ≤ 100 := fun i hi => by
      have z1 := Decidable.not_not.mp (nb i hi)
      have z2 := (hT.2 i hi).2
      omega
    obtain ⟨p1, p2⟩ := hpu hin
    obtain ⟨k, t, o, h', r1, r2, r3, r4, r5⟩ := L_findH (N := N) hN hS3 (by omega) hT3 hP3 hin (hD.e hz ke (by decide) (by decide) (by decide)) (hR.e hz ke (by decide) (by decide) (by decide) (by decide)) (hM.e hz ke (by decide)) hL b1 b2 (fun i hi => by rw [ke.2.1 45 (by decide) (by omega)]; exact hW i hi) (by rw [ke.1 1220 29 (by decide) (by omega)]; exact hB) p1 p2 g4 g5 nb nt 0 N (by omega) (by omega) (fun i' j' h1 => by omega)
    exact ⟨k, t, o, h', st.trans (e1.trans r1), r2, r3, ke.tr r4, r5.trans s3⟩
/-! ===== turning, the reference: the steps ===== -/
theorem tpu_bdq {nr nt nd : Nat} {h : Hs} {rA tA dA rT : Nat → Nat} {wy gr hd ds : Nat → Int} {gn : Nat → Bool} {tl tw tg ls ms : Nat → Int} {dr td : Nat → Option Nat} {sr : Nat → Int} (hT : RTq h nt tl tw tg ls ms) (hD : RDr h nd dA ds) (hR : RRo h nr nt rA tA rT wy gr hd gn) (hL : RTl nt nd nr rT dr td) (hsr : ∀ r, r < nr → dr r ≠ none → 0 ≤ sr r ∧ sr r ≤ 100) {cw P : Nat → Int} (hcw : ∀ i, i < 20 → -9999 ≤ cw i ∧ cw i ≤ 9999) (hb : ∀ i, i < nt → 0 ≤ P i ∧ P i ≤ 100) : -5000000 ≤ tpu wy gr sr tg ds rT dr nr cw P ∧ tpu wy gr sr tg ds rT dr nr cw P ≤ 5000000 := by
  have c3 := hR.1.2.2
  have h1 := sumF_bd (f := fun r => tq wy gr sr tg ds rT dr r (P (rT r))) (B := 120000) nr 0 (fun r _ hr => by
    obtain ⟨-, -, -, q1, q2, q3, q4, q5⟩ := hR.2.1 r (by omega)
    obtain ⟨-, bb⟩ := hT.2 (rT r) q1
    exact tq_bd q2 q3 (by omega) (by omega) (fun e he => (hD.2.1 e (hL.1 r e (by omega) he).1).2.2.2) (hsr r (by omega)) (hb _ q1).1 (hb _ q1).2)
  have h2 := sumF_bd (f := cw) (B := 9999) 20 0 (fun j _ hj => hcw j (by omega))
  unfold tpu
  omega
theorem L_tnM {N : Nat} (hN : 100000000 ≤ N) {nr nt nd : Nat} {rA tA dA rT : Nat → Nat} {wy gr hd ds : Nat → Int} {gn : Nat → Bool} {tl tw tg ls ms pa : Nat → Int} {dr td : Nat → Option Nat} {sr dn : Nat → Int} {cw : Nat → Int} {bd : Int} (b1 : 0 ≤ bd) (b2 : bd ≤ 99999) (hL : RTl nt nd nr rT dr td) (hdn : ∀ r, r < nr → dr r ≠ none → -1000000000 ≤ dn r ∧ dn r ≤ 1000000000) (hsr : ∀ r, r < nr → dr r ≠ none → 0 ≤ sr r ∧ sr r ≤ 100) (hp : ∀ i, i < nt → 0 ≤ pa i ∧ pa i ≤ 100) (hcw : ∀ i, i < 20 → -9999 ≤ cw i ∧ cw i ≤ 9999) {d : Int} (hd1 : d = 1 ∨ d = -1) {m : Int} (m0 : 0 ≤ m) (hm : m ≤ 9999) : ∀ (q : Nat) (c : Int) (fu : Nat) (h : Hs), Sk h → 70 ≤ sz h → RTq h nt tl tw tg ls ms → RDr h nd dA ds → RRo h nr nt rA tA rT wy gr hd gn → RTm h nr rT dr sr (dnz ds dn dr (d * c)) → (∀ i, i < nt → aI h 33 i = iI (tpl pa wy gr sr dn ds dr td (d * c) i)) → (∀ i, i < 20 → aI h 45 i = iI (cw i)) → gI h 1220 29 = iI bd → (gI h 1223 29 = iI 0 ∧ gI h 1224 29 = iI (-1) ∧ gI h 1225 29 = iI (-1)) → 0 ≤ c → c ≤ m → m - c ≤ q → q < fu → (∀ s, 1 ≤ s → s ≤ c → tWh nt ls ms tl tw tg pa wy gr sr dn ds rT dr td nr cw bd d s 0 (-1) (-1)) → ∃ (n k t o : Int) (h' : Hs), fX12_turnNow_b39 N 29 fu h (iI d) (iI m) (iI c) = some (iI n, h') ∧ Stq m (tWh nt ls ms tl tw tg pa wy gr sr dn ds rT dr td nr cw bd d) n k t o ∧ (gI h' 1223 29 = iI k ∧ gI h' 1224 29 = iI t ∧ gI h' 1225 29 = iI o) ∧ Ke [1221, 1222, 1223, 1224, 1225] [33, 43] [] [] h h' ∧ sz h' = sz h ∧ RTm h' nr rT dr sr (dnz ds dn dr (d * n)) ∧ (∀ i, i < nt → aI h' 33 i = iI (tpl pa wy gr sr dn ds dr td (d * n) i)) ∧ gI h' 1221 29 = gI h 1221 29 + iI (d * (n - c)) ∧ gI h' 1222 29 = gI h 1222 29 + iI (n - c) := by
  have stop : ∀ (c : Int) (fu : Nat) (h : Hs), c = m → fX12_turnNow_b39 N 29 (fu + 1) h (iI d) (iI m) (iI c) = some (iI m, h) := by
    intro c fu h hc
    show fX12_turnNow_b39_body N (fX12_turnNow_b39 N 29 fu) 29 h (iI d) (iI m) (iI c) = _
    simp only [fX12_turnNow_b39_body]
    refine ifp ((by rw [hc]; exact Int32.le_refl _)) ?_
    rfl
  have z0 : ∀ x : Int32, x = x + iI 0 := fun x => by
    obtain ⟨a, -, -, rfl⟩ := iI_ex x
    rw [iI_add, Int.add_zero]
  intro q
  induction q with
  | zero =>
    intro c fu h hS hz hT hD hR hM hP hW hB hA c1 c2 hq hf hok
    obtain ⟨fu, rfl⟩ : ∃ m, fu = m + 1 := ⟨fu - 1, by omega⟩
    have ec : c = m := by omega
    subst ec
    refine ⟨c, 0, -1, -1, h, stop c fu h rfl, ⟨m0, Int.le_refl c, fun s' h1 h2 => hok s' h1 h2, Or.inl ⟨rfl, rfl, rfl, rfl⟩⟩, hA, Ke_rf, rfl, hM, hP, ?_, ?_⟩
    · rw [Int.sub_self, Int.mul_zero]; exact z0 _
    · rw [Int.sub_self]; exact z0 _
  | succ q ih =>
    intro c fu h hS hz hT hD hR hM hP hW hB hA c1 c2 hq hf hok
    obtain ⟨fu, rfl⟩ : ∃ m, fu = m + 1 := ⟨fu - 1, by omega⟩
    by_cases ec : c = m
    · subst ec
      refine ⟨c, 0, -1, -1, h, stop c fu h rfl, ⟨m0, Int.le_refl c, fun s' h1 h2 => hok s' h1 h2, Or.inl ⟨rfl, rfl, rfl, rfl⟩⟩, hA, Ke_rf, rfl, hM, hP, ?_, ?_⟩
      · rw [Int.sub_self, Int.mul_zero]; exact z0 _
      · rw [Int.sub_self]; exact z0 _
    have ct := hT.1.2
    have a1 : ¬ iI m ≤ iI c := fun w => by have := (iI_le (by omega) (by omega) (by omega) (by omega)).mp w; omega
    have zb : -100000 ≤ d * (c + 1) ∧ d * (c + 1) ≤ 100000 := by rcases hd1 with rfl | rfl <;> omega
    have zb0 : -100000 ≤ d * c ∧ d * c ≤ 100000 := by rcases hd1 with rfl | rfl <;> omega
    have ed : d = d * (c + 1) - d * c := by rw [Int.mul_add, Int.mul_one]; omega
    obtain ⟨h1, e1, ke1, s1, hM1, hP1⟩ := v_plM (N := N) hN hS hz hD hR hL ct (z := d * c) zb.1 zb.2 ed hdn hM hP
    have hS1 := hS.e hz ke1 (by decide)
    have hT1 := hT.e hz ke1 (by decide) (by decide)
    have hD1 := hD.e hz ke1 (by decide) (by decide) (by decide)
    have hR1 := hR.e hz ke1 (by decide) (by decide) (by decide) (by decide)
    have hbd := fun i hi => tpl_bd (i := i) hL (fun r hr => (hR.2.1 r hr).2.2.2.2.1) (fun r hr => (hR.2.1 r hr).2.2.2.2.2.1) (fun e he => (hD.2.1 e he).2.2.2) hdn hsr hp zb.1 zb.2 hi
    obtain ⟨k, t, o, h2, e2, wh, ww, ke2, s2⟩ := v_find (N := N) hN hS1 (by omega) hT1 hP1 hbd hD1 hR1 hM1 hL b1 b2 (fun i hi => by rw [ke1.2.1 45 (by decide) (by omega)]; exact hW i hi) (by rw [ke1.1 1220 29 (by decide) (by omega)]; exact hB) (fun hin => tpu_bdq hT1 hD1 hR1 hL hsr hcw hin)
    have ke12 : Ke [1221, 1222, 1223, 1224, 1225] [33, 43] [] [] h h2 := (ke1.w (by decide) (by decide) (by decide) (by decide)).tr (ke2.w (by decide) (by decide) (by decide) (by decide))
    have hS2 := hS.e hz ke12 (by decide)
    have hT2 := hT.e hz ke12 (by decide) (by decide)
    have hD2 := hD.e hz ke12 (by decide) (by decide) (by decide)
    have hR2 := hR.e hz ke12 (by decide) (by decide) (by decide) (by decide)
    have hM2 := hM1.e (by omega) ke2 (by decide)
    have hP2 : ∀ i, i < nt → aI h2 33 i = iI (tpl pa wy gr sr dn ds dr td (d * (c + 1)) i) := fun i hi => by rw [ke2.2.1 33 (by decide) (by omega)]; exact hP1 i hi
    have rc0 : rc 12 h (some 29) = some 29 := rcv (by rw [ss_29 hS])
    have rc1 : rc 12 h1 (some 29) = some 29 := rcv (by rw [ss_29 hS1])
    have rc2 : rc 12 h2 (some 29) = some 29 := rcv (by rw [ss_29 hS2])
    have c29 : (sh h2 29).1 = 12 := by rw [ss_29 hS2]
    have o23 : oI 12 23 h2 (some 29) = some (iI k) := oIv c29 ww.1
    have kb : 0 ≤ k ∧ k ≤ 3 := by
      rcases wh with ⟨i, -, -, -, w, -⟩ | ⟨a0, ⟨i, j, -, -, -, -, -, w, -⟩ | ⟨a1, -, -, ⟨w, -⟩ | ⟨w, -⟩⟩⟩ <;> omega
    have lk : iI k ≤ iI 0 ↔ k ≤ 0 := iI_le (by omega) (by omega) (by omega) (by omega)
    have g21 : gI h2 1221 29 = gI h 1221 29 := by rw [ke2.1 1221 29 (by decide) (by omega), ke1.1 1221 29 (by decide) (by omega)]
    have g22 : gI h2 1222 29 = gI h 1222 29 := by rw [ke2.1 1222 29 (by decide) (by omega), ke1.1 1222 29 (by decide) (by omega)]
    by_cases hk : k = 0
    · subst hk
      have tt : t = -1 ∧ o = -1 := by
        rcases wh with ⟨i, -, -, -, w, -⟩ | ⟨a0, ⟨i, j, -, -, -, -, -, w, -⟩ | ⟨a1, w1, w2, -⟩⟩
        · omega
        · omega
        · exact ⟨w1, w2⟩
      obtain ⟨rfl, rfl⟩ := tt
      obtain ⟨h3, eh3⟩ : ∃ h3, h3 = uI (uI h2 1221 29 (gI h 1221 29 + iI d)) 1222 29 (gI h 1222 29 + iI 1) := ⟨_, rfl⟩
      have ke3 : Ke [1221, 1222] [] [] [] h2 h3 := by rw [eh3]; exact (Ke_rf.u 1221 29 _ (by decide)).u 1222 29 _ (by decide)
      have ke : Ke [1221, 1222, 1223, 1224, 1225] [33, 43] [] [] h h3 := ke12.tr (ke3.w (by decide) (by decide) (by decide) (by decide))
      have s3 : sz h3 = sz h := by rw [eh3]; exact s2.trans s1
      have hz2 : 70 ≤ sz h2 := by omega
      obtain ⟨n, k', t', o', h', r1, r2, r3, r4, r5, r6, r7, r8, r9⟩ := ih (c + 1) fu h3 (hS.e hz ke (by decide)) (by omega) (hT.e hz ke (by decide) (by decide)) (hD.e hz ke (by decide) (by decide) (by decide)) (hR.e hz ke (by decide) (by decide) (by decide) (by decide)) (hM2.e hz2 ke3 (by decide)) (fun i hi => by rw [ke3.2.1 33 (by decide) (by omega)]; exact hP2 i hi) (fun i hi => by rw [ke.2.1 45 (by decide) (by omega)]; exact hW i hi) (by rw [ke.1 1220 29 (by decide) (by omega)]; exact hB) ⟨by rw [ke3.1 1223 29 (by decide) (by omega)]; exact ww.1, by rw [ke3.1 1224 29 (by decide) (by omega)]; exact ww.2.1, by rw [ke3.1 1225 29 (by decide) (by omega)]; exact ww.2.2⟩ (by omega) (by omega) (by omega) (by omega) (fun s h1 h2 => by
        by_cases es : s = c + 1
        · rw [es]; exact wh
        · exact hok s h1 (by omega))
      have g31 : gI h3 1221 29 = gI h 1221 29 + iI d := by rw [eh3]; simp [HR]
      have g32 : gI h3 1222 29 = gI h 1222 29 + iI 1 := by rw [eh3]; simp [HR]
      have g2b : gI (uI h2 1221 29 (gI h 1221 29 + iI d)) 1222 29 = gI h 1222 29 := by simp [HR, g22]
      refine ⟨n, k', t', o', h', ?_, r2, r3, ke.tr r4, r5.trans s3, r6, r7, ?_, ?_⟩
      · show fX12_turnNow_b39_body N (fX12_turnNow_b39 N 29 fu) 29 h (iI d) (iI m) (iI c) = _
        simp only [fX12_turnNow_b39_body, lit, iI_add, Option.bind_some]
        refine ifn (a1) ?_
        refine bst (rc0) ?_
        refine bst (e1) ?_
        refine bst (rc1) ?_
        refine bst (e2) ?_
        refine bst (o23) ?_
        refine ifp (lk.mpr (by omega)) ?_
        refine bst (oIv c29 g21) ?_
        refine bst (qIv c29) ?_
        refine bst (oIv (by rw [sh_uI]; exact c29) g2b) ?_
        refine bst (qIv (by rw [sh_uI]; exact c29)) ?_
        rw [← eh3]
        exact r1
      · rw [r8, g31]
        obtain ⟨x, -, -, ex⟩ := iI_ex (gI h 1221 29)
        rw [ex, iI_add, iI_add, iI_add]
        congr 1
        have e9 : d * (n - c) = d + d * (n - (c + 1)) := by
          rw [show n - c = 1 + (n - (c + 1)) by omega, Int.mul_add, Int.mul_one]
        omega
      · rw [r9, g32]
        obtain ⟨x, -, -, ex⟩ := iI_ex (gI h 1222 29)
        rw [ex, iI_add, iI_add, iI_add]
        congr 1
        omega
    · have ed2 : -d = d * c - d * (c + 1) := by rw [Int.mul_add, Int.mul_one]; omega
      obtain ⟨h3, e3, ke3, s3, hM3, hP3⟩ := v_plM (N := N) hN hS2 (by omega) hD2 hR2 hL ct (z := d * (c + 1)) zb0.1 zb0.2 ed2 hdn hM2 hP2
      rw [← iI_neg] at e3
      have ke : Ke [1221, 1222, 1223, 1224, 1225] [33, 43] [] [] h h3 := ke12.tr (ke3.w (by decide) (by decide) (by decide) (by decide))
      refine ⟨c, k, t, o, h3, ?_, ⟨c1, c2, hok, Or.inr ⟨by omega, wh, hk⟩⟩, ⟨by rw [ke3.1 1223 29 (by decide) (by omega)]; exact ww.1, by rw [ke3.1 1224 29 (by decide) (by omega)]; exact ww.2.1, by rw [ke3.1 1225 29 (by decide) (by omega)]; exact ww.2.2⟩, ke, by omega, hM3, hP3, ?_, ?_⟩
      · show fX12_turnNow_b39_body N (fX12_turnNow_b39 N 29 fu) 29 h (iI d) (iI m) (iI c) = _
        simp only [fX12_turnNow_b39_body, lit]
        refine ifn (a1) ?_
        refine bst (rc0) ?_
        refine bst (e1) ?_
        refine bst (rc1) ?_
        refine bst (e2) ?_
        refine bst (o23) ?_
        refine ifn (fun w => by have := lk.mp w; omega) ?_
        refine bst (rc2) ?_
        refine bst (e3) ?_
        rfl
      · rw [ke3.1 1221 29 (by decide) (by omega), g21, Int.sub_self, Int.mul_zero]; exact z0 _
      · rw [ke3.1 1222 29 (by decide) (by omega), g22, Int.sub_self]; exact z0 _
/-- the reference turns -/
theorem v_turnNow {N : Nat} (hN : 100000000 ≤ N) {h : Hs} (hS : Sk h) (hz : 70 ≤ sz h) {nr nt nd : Nat} {rA tA dA rT : Nat → Nat} {wy gr hd ds : Nat → Int} {gn : Nat → Bool} {tl tw tg ls ms pa : Nat → Int} {dr td : Nat → Option Nat} {sr dn : Nat → Int} (hT : RTq h nt tl tw tg ls ms) (hP : ∀ i, i < nt → aI h 33 i = iI (pa i)) (hD : RDr h nd dA ds) (hR : RRo h nr nt rA tA rT wy gr hd gn) (hM : RTm h nr rT dr sr dn) {cw : Nat → Int} {bd : Int} (b1 : 0 ≤ bd) (b2 : bd ≤ 99999) (hL : RTl nt nd nr rT dr td) (hdn : ∀ r, r < nr → dr r ≠ none → -1000000000 ≤ dn r ∧ dn r ≤ 1000000000) (hsr : ∀ r, r < nr → dr r ≠ none → 0 ≤ sr r ∧ sr r ≤ 100) (hA : ∀ r, r < nr → dr r ≠ none → pa (rT r) = sr r + wy r * (dn r).tdiv (100 * gr r)) (hp : ∀ i, i < nt → 0 ≤ pa i ∧ pa i ≤ 100) (hcw : ∀ i, i < 20 → -9999 ≤ cw i ∧ cw i ≤ 9999) (hW : ∀ i, i < 20 → aI h 45 i = iI (cw i)) (hB : gI h 1220 29 = iI bd) {z d m : Int} (z1 : -9999 ≤ z) (z2 : z ≤ 9999) (hdm : (0 ≤ z ∧ d = 1 ∧ m = z) ∨ (z < 0 ∧ d = -1 ∧ m = -z)) : ∃ (n k t o : Int) (h' : Hs), fX12_turnNow N h 29 (iI z) = some (iI n, h') ∧ Stq m (tWh nt ls ms tl tw tg pa wy gr sr dn ds rT dr td nr cw bd d) n k t o ∧ (gI h' 1223 29 = iI k ∧ gI h' 1224 29 = iI t ∧ gI h' 1225 29 = iI o) ∧ Ke [1221, 1222, 1223, 1224, 1225] [33, 43] [] [] h h' ∧ sz h' = sz h ∧ RTm h' nr rT dr sr (dnz ds dn dr (d * n)) ∧ (∀ i, i < nt → aI h' 33 i = iI (tpl pa wy gr sr dn ds dr td (d * n) i)) ∧ gI h' 1221 29 = gI h 1221 29 + iI (d * n) ∧ gI h' 1222 29 = gI h 1222 29 + iI n := by
  obtain ⟨h3, eh3⟩ : ∃ h3, h3 = uI (uI (uI h 1223 29 (iI 0)) 1224 29 (iI (-1))) 1225 29 (iI (-1)) := ⟨_, rfl⟩
  have ke : Ke [1223, 1224, 1225] [] [] [] h h3 := by rw [eh3]; exact ((Ke_rf.u 1223 29 _ (by decide)).u 1224 29 _ (by decide)).u 1225 29 _ (by decide)
  have s3 : sz h3 = sz h := by rw [eh3]; rfl
  have c29 : (sh h 29).1 = 12 := by rw [ss_29 hS]
  have e0 : dnz ds dn dr (d * 0) = dn := by
    funext r
    unfold dnz
    cases dr r with
    | none => rfl
    | some e => simp
  have ep : ∀ i, i < nt → tpl pa wy gr sr dn ds dr td (d * 0) i = pa i := fun i hi => by
    unfold tpl
    cases htd : td i with
    | none => rfl
    | some r =>
      obtain ⟨hr, hrt, hne⟩ := hL.2 i r hi htd
      obtain ⟨e, hde⟩ := Option.ne_none_iff_exists'.mp hne
      simp only [hde, rpl, Int.mul_zero, Int.add_zero]
      rw [← hA r hr hne, hrt]
  obtain ⟨n, k, t, o, h', r1, r2, r3, r4, r5, r6, r7, r8, r9⟩ := L_tnM (N := N) hN b1 b2 hL hdn hsr hp hcw (d := d) (by omega) (m := m) (by omega) (by omega) 9999 0 N h3 (hS.e hz ke (by decide)) (by omega) (hT.e hz ke (by decide) (by decide)) (hD.e hz ke (by decide) (by decide) (by decide)) (hR.e hz ke (by decide) (by decide) (by decide) (by decide)) (by rw [e0]; exact hM.e hz ke (by decide)) (fun i hi => by rw [ep i hi, ke.2.1 33 (by decide) (by omega)]; exact hP i hi) (fun i hi => by rw [ke.2.1 45 (by decide) (by omega)]; exact hW i hi) (by rw [ke.1 1220 29 (by decide) (by omega)]; exact hB) ⟨by rw [eh3]; simp [HR], by rw [eh3]; simp [HR], by rw [eh3]; simp [HR]⟩ (by omega) (by omega) (by omega) (by omega) (fun s h1 h2 => by omega)
  refine ⟨n, k, t, o, h', ?_, r2, r3, (ke.w (by decide) (by decide) (by decide) (by decide)).tr r4, r5.trans s3, r6, r7, ?_, ?_⟩
  · simp only [fX12_turnNow, fX12_turnNow_b24, fX12_turnNow_b35, lit]
    rcases hdm with ⟨q, rfl, rfl⟩ | ⟨q, rfl, rfl⟩
    · have q1 : iI 0 ≤ iI m := (iI_le (by omega) (by omega) (by omega) (by omega)).mpr q
      simp only [iI_neg]
      refine bst (qIv c29) ?_
      refine bst (qIv (by rw [sh_uI]; exact c29)) ?_
      refine bst (qIv (by rw [sh_uI, sh_uI]; exact c29)) ?_
      rw [← eh3]
      refine ifp (q1) ?_
      refine ifp (q1) ?_
      exact r1
    · have q1 : ¬ iI 0 ≤ iI z := fun w => by have := (iI_le (by omega) (by omega) (by omega) (by omega)).mp w; omega
      simp only [iI_neg]
      refine bst (qIv c29) ?_
      refine bst (qIv (by rw [sh_uI]; exact c29)) ?_
      refine bst (qIv (by rw [sh_uI, sh_uI]; exact c29)) ?_
      rw [← eh3]
      refine ifn (q1) ?_
      refine ifn (q1) ?_
      exact r1
  · rw [r8, ke.1 1221 29 (by decide) (by omega), Int.sub_zero]
  · rw [r9, ke.1 1222 29 (by decide) (by omega), Int.sub_zero]
/-! ===== turn ===== -/
def RSh (h : Hs) : Prop := gI h 511 14 = gI h 1221 29 ∧ gI h 512 14 = gI h 1222 29
theorem RSh.e {F A FR AQ : List Nat} {h h2 : Hs} (hC : RSh h) (hz : 70 ≤ sz h) (k : Ke F A FR AQ h h2) (hF : ∀ f ∈ [511, 512, 1221, 1222], f ∉ F) : RSh h2 := by
  refine ⟨?_, ?_⟩
  · rw [k.1 _ _ (hF 511 (by decide)) (by omega), k.1 _ _ (hF 1221 (by decide)) (by omega)]; exact hC.1
  · rw [k.1 _ _ (hF 512 (by decide)) (by omega), k.1 _ _ (hF 1222 (by decide)) (by omega)]; exact hC.2
theorem RTo.mv {F A FR AQ : List Nat} {h h2 : Hs} {nt : Nat} {tA : Nat → Nat} {tl tw tg ls ms pa : Nat → Int} {pa' : Nat → Int} (hC : RTo h nt tA tl tw tg ls ms pa) (hz : 70 ≤ sz h) (k : Ke F A FR AQ h h2) (hF : ∀ f ∈ [507, 900, 901, 902, 903, 904, 905], f ∉ F) (hQ : 15 ∉ AQ) (h9 : ∀ i, i < nt → gI h2 907 (tA i) = iI (pa' i)) (hb : ∀ i, i < nt → ls i ≤ pa' i ∧ pa' i ≤ ms i) : RTo h2 nt tA tl tw tg ls ms pa' := by
  obtain ⟨⟨c1, c2, c3⟩, c4, c5⟩ := hC
  have k6 := k.2.2.2.2.2
  refine ⟨⟨by rw [k.1 _ _ (hF _ (by decide)) (by omega)]; exact c1, trivial, c3⟩, fun i hi => ?_, c5⟩
  obtain ⟨⟨d1, d2, d3, d4⟩, d5, d6, d7⟩ := c4 i hi
  have b := hb i hi
  refine ⟨⟨by rw [k.2.2.2.1 _ hQ (by omega)]; exact d1, d2, by omega, by rw [k.2.2.2.2.1 _ d3]; exact d4⟩, ?_, trivial, by omega⟩
  rw [k.1 _ _ (hF 900 (by decide)) d3, k.1 _ _ (hF 901 (by decide)) d3, k.1 _ _ (hF 902 (by decide)) d3, k.1 _ _ (hF 903 (by decide)) d3, k.1 _ _ (hF 904 (by decide)) d3, k.1 _ _ (hF 905 (by decide)) d3]
  exact ⟨d5.1, d5.2.1, d5.2.2.1, d5.2.2.2.1, d5.2.2.2.2.1, d5.2.2.2.2.2.1, h9 i hi⟩
theorem tpl_0 {nr nt nd : Nat} {rT : Nat → Nat} {pa wy gr ds sr dn : Nat → Int} {dr td : Nat → Option Nat} (hL : RTl nt nd nr rT dr td) (hA : ∀ r, r < nr → dr r ≠ none → pa (rT r) = sr r + wy r * (dn r).tdiv (100 * gr r)) {i : Nat} (hi : i < nt) : tpl pa wy gr sr dn ds dr td 0 i = pa i := by
  unfold tpl
  cases htd : td i with
  | none => rfl
  | some r =>
    obtain ⟨hr, hrt, hne⟩ := hL.2 i r hi htd
    obtain ⟨e, hde⟩ := Option.ne_none_iff_exists'.mp hne
    simp only [hde, rpl, Int.mul_zero, Int.add_zero]
    rw [← hA r hr hne, hrt]
theorem dnz_0 {ds dn : Nat → Int} {dr : Nat → Option Nat} : dnz ds dn dr 0 = dn := by
  funext r
  unfold dnz
  cases dr r with
  | none => rfl
  | some e => simp
theorem tpl_A {nr nt nd : Nat} {rT : Nat → Nat} {pa wy gr ds sr dn : Nat → Int} {dr td : Nat → Option Nat} (hL : RTl nt nd nr rT dr td) (z : Int) {r : Nat} (hr : r < nr) (hne : dr r ≠ none) : tpl pa wy gr sr dn ds dr td z (rT r) = sr r + wy r * (dnz ds dn dr z r).tdiv (100 * gr r) := by
  obtain ⟨e, hde⟩ := Option.ne_none_iff_exists'.mp hne
  have h1 := (hL.1 r e hr hde).2
  simp only [tpl, h1, hde, rpl, dnz]
theorem stq_in {nt : Nat} {ls ms tl tw tg pa wy gr sr dn ds : Nat → Int} {rT : Nat → Nat} {dr td : Nat → Option Nat} {nr nd : Nat} {cw : Nat → Int} {bd d m n k t o : Int} (hL : RTl nt nd nr rT dr td) (hA : ∀ r, r < nr → dr r ≠ none → pa (rT r) = sr r + wy r * (dn r).tdiv (100 * gr r)) (hb : ∀ i, i < nt → ls i ≤ pa i ∧ pa i ≤ ms i) (q : Stq m (tWh nt ls ms tl tw tg pa wy gr sr dn ds rT dr td nr cw bd d) n k t o) {i : Nat} (hi : i < nt) : ls i ≤ tpl pa wy gr sr dn ds dr td (d * n) i ∧ tpl pa wy gr sr dn ds dr td (d * n) i ≤ ms i := by
  obtain ⟨q1, q2, q3, q4⟩ := q
  by_cases w : n = 0
  · rw [w, Int.mul_zero, tpl_0 hL hA hi]
    exact hb i hi
  · exact Decidable.not_not.mp ((Wh0.mp (q3 n (by omega) (Int.le_refl n))).1 i hi)
theorem dnz_bd {nr nd nt : Nat} {rT : Nat → Nat} {ds dn : Nat → Int} {dr td : Nat → Option Nat} (hL : RTl nt nd nr rT dr td) (hs : ∀ e, e < nd → 1 ≤ ds e ∧ ds e ≤ 20) {z B : Int} (z1 : -B ≤ z) (z2 : z ≤ B) {r : Nat} (hr : r < nr) (hne : dr r ≠ none) : -(20 * B) ≤ dnz ds dn dr z r - dn r ∧ dnz ds dn dr z r - dn r ≤ 20 * B := by
  obtain ⟨e, hde⟩ := Option.ne_none_iff_exists'.mp hne
  have h1 := hs e (hL.1 r e hr hde).1
  simp only [dnz, hde]
  have b4 : ds e * z ≤ ds e * B := Int.mul_le_mul_of_nonneg_left z2 (by omega)
  have b5 : ds e * (-B) ≤ ds e * z := Int.mul_le_mul_of_nonneg_left z1 (by omega)
  have b6 : ds e * B ≤ 20 * B := Int.mul_le_mul_of_nonneg_right h1.2 (by omega)
  rw [Int.mul_neg] at b5
  omega
theorem t_turn {N : Nat} (hN : 100000000 ≤ N) {h : Hs} (hS : Sk h) (hz : 70 ≤ sz h) {nr nt nd : Nat} {rA tA dA rT : Nat → Nat} {wy gr hd ds : Nat → Int} {gn : Nat → Bool} {tl tw tg ls ms pa : Nat → Int} {dr td : Nat → Option Nat} {sr dn : Nat → Int} (hT : RTh h nt tA tl tw tg ls ms pa) (hD : RDr h nd dA ds) (hR : RRo h nr nt rA tA rT wy gr hd gn) (hI : RTi h nt nd nr tA dA rA rT dr td sr dn) (hW : ICnt h) (hB : IBnd h) (hE : RSh h) (hG : IStp h) (hK : ICan h) (hdn : ∀ r, r < nr → dr r ≠ none → -1000000000 ≤ dn r ∧ dn r ≤ 1000000000) (hsr : ∀ r, r < nr → dr r ≠ none → 0 ≤ sr r ∧ sr r ≤ 100) (hA : ∀ r, r < nr → dr r ≠ none → pa (rT r) = sr r + wy r * (dn r).tdiv (100 * gr r)) (p : Int32) : ∃ a h1 h2 pa' dn', fX11_turn N h 0 p = some (a, h1) ∧ fX12_turn N h1 29 p = some (a, h2) ∧ RTh h2 nt tA tl tw tg ls ms pa' ∧ RTi h2 nt nd nr tA dA rA rT dr td sr dn' ∧ (∀ r, r < nr → dr r ≠ none → pa' (rT r) = sr r + wy r * (dn' r).tdiv (100 * gr r)) ∧ (∀ r, r < nr → dr r ≠ none → -199980 ≤ dn' r - dn r ∧ dn' r - dn r ≤ 199980) ∧ IStp h2 ∧ ICn h h2 ∧ RSh h2 ∧ Ke [908, 700, 701, 702, 407, 907, 511, 512, 1106, 1221, 1222, 1223, 1224, 1225, 1243] [33, 43] [] [] h h2 ∧ sz h2 = sz h := by
  obtain ⟨z, y1, y2, rfl⟩ := iI_ex p
  by_cases w : -9999 ≤ z ∧ z ≤ 9999
  · obtain ⟨hC, hM, hL⟩ := RTi_iff.mp hI
    obtain ⟨cw, hcw⟩ := hW
    obtain ⟨bd, bb1, bb2, b1, b2⟩ := hB
    obtain ⟨c, k1, k2, k3⟩ := hK
    obtain ⟨d, m, hdm⟩ : ∃ d m : Int, (0 ≤ z ∧ d = 1 ∧ m = z) ∨ (z < 0 ∧ d = -1 ∧ m = -z) := by
      by_cases q : 0 ≤ z
      · exact ⟨1, z, Or.inl ⟨q, rfl, rfl⟩⟩
      · exact ⟨-1, -z, Or.inr ⟨by omega, rfl, rfl⟩⟩
    obtain ⟨n, k, t, o, h1, e1, st, w1, ke1, s1, hC1, hP1, g11, g12⟩ := v_turnBy hN hS hz hT.o hD hR hC b1 b2 hL hdn hsr (fun i hi => (hcw i hi).2.2) (fun i hi => (hcw i hi).1) bb1 w.1 w.2 hdm
    have n0 := st.1
    have n1 := st.2.1
    have nb : n ≤ 9999 := by omega
    have hS1 := hS.e hz ke1 (by decide)
    obtain ⟨h2, eh2⟩ : ∃ h2, h2 = (if 0 < n then uI h1 1106 0 (iI 0) else h1) := ⟨_, rfl⟩
    have ke2 : Ke [1106] [] [] [] h1 h2 := by
      rw [eh2]
      by_cases q : 0 < n
      · rw [if_pos q]; exact Ke_rf.u 1106 0 _ (by decide)
      · rw [if_neg q]; exact Ke_rf
    have s2 : sz h2 = sz h := by
      rw [eh2]
      by_cases q : 0 < n
      · rw [if_pos q]; exact s1
      · rw [if_neg q]; exact s1
    have g06 : gI h2 1106 0 = iI (if 0 < n then 0 else c) := by
      rw [eh2]
      by_cases q : 0 < n
      · rw [if_pos q, if_pos q]; simp [HR]
      · rw [if_neg q, if_neg q, ke1.1 1106 0 (by decide) (by omega)]; exact k1
    have cl : fX11_turn N h 0 (iI z) = some (iI n, h2) := by
      have it := isTurn_c (N := N) (h := h) (by omega) (by omega) (z := z)
      rw [if_pos w] at it
      have rc10 : rc 10 h (some 22) = some 22 := rcv (by rw [ss_22 hS])
      have rc11 : rc 11 h1 (some 0) = some 0 := rcv (by rw [ss_0 hS1])
      have ln : iI n ≤ iI 0 ↔ n ≤ 0 := iI_le (by omega) (by omega) (by omega) (by omega)
      simp only [fX11_turn, fX11_turn_b29, lit]
      by_cases q : 0 < n
      · have dd := v_deed (N := N) hS1 (r := iI n) (z := 1) (Or.inr rfl)
        rw [if_pos rfl] at dd
        rw [if_pos q] at eh2
        refine bst (it) ?_
        refine ifn (n10) ?_
        refine bst (sR_1101_0 hS) ?_
        refine bst (rc10) ?_
        refine bst (e1) ?_
        refine ifn (fun v => by have := ln.mp v; omega) ?_
        refine bst (rc11) ?_
        refine bst (dd) ?_
        rw [eh2]
      · have dd := v_deed (N := N) hS1 (r := iI n) (z := 0) (Or.inl rfl)
        rw [if_neg (by decide)] at dd
        rw [if_neg q] at eh2
        refine bst (it) ?_
        refine ifn (n10) ?_
        refine bst (sR_1101_0 hS) ?_
        refine bst (rc10) ?_
        refine bst (e1) ?_
        refine ifp (ln.mpr (by omega)) ?_
        refine bst (rc11) ?_
        refine bst (dd) ?_
        rw [eh2]
    have ke12 : Ke [908, 700, 701, 702, 407, 907, 511, 512, 1106] [] [] [] h h2 := (ke1.w (by decide) (by decide) (by decide) (by decide)).tr (ke2.w (by decide) (by decide) (by decide) (by decide))
    have hS2 := hS.e hz ke12 (by decide)
    have hz2 : 70 ≤ sz h2 := by omega
    have hD2 := hD.e hz ke12 (by decide) (by decide) (by decide)
    have hR2 := hR.e hz ke12 (by decide) (by decide) (by decide) (by decide)
    have hQ2 := hT.q.e hz ke12 (by decide) (by decide)
    have at2 : ∀ i, i < nt → aI h2 33 i = iI (pa i) := fun i hi => by rw [ke12.2.1 33 (by decide) (by omega)]; exact (hT.2.1 i hi).2.2.1.2.2.2.1
    obtain ⟨n', k', t', o', h3, e3, st', w3, ke3, s3, hM3, hP3, g31, g32⟩ := v_turnNow hN hS2 hz2 hQ2 at2 hD2 hR2 (hM.e hz ke12 (by decide)) b1 b2 hL hdn hsr hA (fun i hi => (show 0 ≤ pa i ∧ pa i ≤ 100 by have := (hT.2.1 i hi).2.2.2; omega)) (fun i hi => (hcw i hi).2.2) (fun i hi => by rw [ke12.2.1 45 (by decide) (by omega)]; exact (hcw i hi).2.1) (by rw [ke12.1 1220 29 (by decide) (by omega)]; exact bb2) w.1 w.2 hdm
    obtain ⟨rfl, rfl, rfl, rfl⟩ := Stq_un (WH := tWh nt ls ms tl tw tg pa wy gr sr dn ds rT dr td nr cw bd d) (fun s k t o k' t' o' a b => Wh_un a b) st st'
    have hS3 := hS2.e hz2 ke3 (by decide)
    have c29 : (sh h3 29).1 = 12 := by rw [ss_29 hS3]
    obtain ⟨h4, eh4⟩ : ∃ h4, h4 = uI h3 1243 29 (iI (if 0 < n then 0 else c)) := ⟨_, rfl⟩
    have ke4 : Ke [1243] [] [] [] h3 h4 := by rw [eh4]; exact Ke_rf.u 1243 29 _ (by decide)
    have s4 : sz h4 = sz h := by rw [eh4]; exact s3.trans s2
    have rf : fX12_turn N h2 29 (iI z) = some (iI n, h4) := by
      have it := isTurn_m (N := N) (h := h2) (by omega) (by omega) (z := z)
      rw [if_pos w] at it
      have rc12 : rc 12 h2 (some 29) = some 29 := rcv (by rw [ss_29 hS2])
      have g43 : gI h3 1243 29 = iI c := by rw [ke3.1 1243 29 (by decide) (by omega), ke12.1 1243 29 (by decide) (by omega)]; exact k2
      have o43 : oI 12 43 h3 (some 29) = some (iI c) := oIv c29 g43
      have ln : iI n = iI 0 ↔ n = 0 := iI_eq (by omega) (by omega) (by omega) (by omega)
      simp only [fX12_turn, fX12_turn_b31, fX12_turn_b32, lit]
      rcases k3 with rfl | rfl
      · have e0 : (if 0 < n then (0 : Int) else 0) = 0 := by by_cases q : 0 < n <;> simp [q]
        rw [e0] at eh4
        refine bst (it) ?_
        refine ifn (n10) ?_
        refine bst (rc12) ?_
        refine bst (e3) ?_
        refine bst (o43) ?_
        refine ifp (rfl) ?_
        refine bst (qZv c29 (by omega)) ?_
        rw [eh4]
      · by_cases q : 0 < n
        · rw [if_pos q] at eh4
          refine bst (it) ?_
          refine ifn (n10) ?_
          refine bst (rc12) ?_
          refine bst (e3) ?_
          refine bst (o43) ?_
          refine ifn (n10) ?_
          refine ifn (fun v => by have := ln.mp v; omega) ?_
          refine bst (qZv c29 (by omega)) ?_
          rw [eh4]
        · rw [if_neg q] at eh4
          refine bst (it) ?_
          refine ifn (n10) ?_
          refine bst (rc12) ?_
          refine bst (e3) ?_
          refine bst (o43) ?_
          refine ifn (n10) ?_
          refine ifp (ln.mpr (by omega)) ?_
          refine bst (qZv c29 (by omega)) ?_
          rw [eh4]
    have ke24 : Ke [1221, 1222, 1223, 1224, 1225, 1243] [33, 43] [] [] h2 h4 := (ke3.w (by decide) (by decide) (by decide) (by decide)).tr (ke4.w (by decide) (by decide) (by decide) (by decide))
    have ke : Ke [908, 700, 701, 702, 407, 907, 511, 512, 1106, 1221, 1222, 1223, 1224, 1225, 1243] [33, 43] [] [] h h4 := (ke12.w (by decide) (by decide) (by decide) (by decide)).tr (ke24.w (by decide) (by decide) (by decide) (by decide))
    have ke1_4 : Ke [1106, 1221, 1222, 1223, 1224, 1225, 1243] [33, 43] [] [] h1 h4 := (ke2.w (by decide) (by decide) (by decide) (by decide)).tr (ke24.w (by decide) (by decide) (by decide) (by decide))
    have zb : -9999 ≤ d * n ∧ d * n ≤ 9999 := by rcases hdm with ⟨_, rfl, _⟩ | ⟨_, rfl, _⟩ <;> omega
    refine ⟨iI n, h2, h4, tpl pa wy gr sr dn ds dr td (d * n), dnz ds dn dr (d * n), cl, rf, ?_, ?_, fun r hr hne => tpl_A hL (d * n) hr hne, fun r hr hne => dnz_bd hL (fun e he => (hD.2.1 e he).2.2.2) (B := 9999) (by omega) (by omega) hr hne, ?_, ?_, ?_, ke, s4⟩
    · refine RTh_of (hT.o.mv hz ke (by decide) (by decide) (fun i hi => ?_) (fun i hi => stq_in hL hA (fun i hi => (show ls i ≤ pa i ∧ pa i ≤ ms i by have := (hT.2.1 i hi).2.2.2; omega)) st hi)) (by rw [ke.1 1201 29 (by decide) (by omega)]; exact hT.1.2.1) (fun i hi => ?_)
      · rw [ke1_4.1 907 _ (by decide) (by have := hT.lt i hi; omega)]; exact hP1 i hi
      · obtain ⟨-, -, ⟨x0, x1, x2, x3, x4, x5⟩, -⟩ := hT.2.1 i hi
        rw [ke.2.1 30 (by decide) (by omega), ke.2.1 31 (by decide) (by omega), ke.2.1 32 (by decide) (by omega), ke.2.1 34 (by decide) (by omega), ke.2.1 35 (by decide) (by omega), ke4.2.1 33 (by decide) (by omega)]
        exact ⟨x0, x1, x2, hP3 i hi, x4, x5⟩
    · exact RTi_iff.mpr ⟨hC1.e (fun i hi => by have := hT.lt i hi; omega) (fun r hr => by have := hR.lt r hr; omega) ke1_4 (by decide) (by decide), hM3.e (by omega) ke4 (by decide), hL⟩
    · refine ⟨?_, ?_, ?_⟩
      · rw [ke1_4.1 700 23 (by decide) (by omega), w1.1, ke4.1 1223 29 (by decide) (by omega), w3.1]
      · rw [ke1_4.1 701 23 (by decide) (by omega), w1.2.1, ke4.1 1224 29 (by decide) (by omega), w3.2.1]
      · rw [ke1_4.1 702 23 (by decide) (by omega), w1.2.2, ke4.1 1225 29 (by decide) (by omega), w3.2.2]
    · refine ⟨if 0 < n then 0 else c, ?_, ?_, ?_⟩
      · rw [ke24.1 1106 0 (by decide) (by omega)]; exact g06
      · rw [eh4]; simp [HR]
      · by_cases q : 0 < n
        · rw [if_pos q]; exact Or.inl rfl
        · rw [if_neg q]; exact k3.imp id (fun e => ⟨e, by rw [k1, e]⟩)
    · refine ⟨?_, ?_⟩
      · rw [ke1_4.1 511 14 (by decide) (by omega), g11, ke4.1 1221 29 (by decide) (by omega), g31, ke12.1 1221 29 (by decide) (by omega), hE.1]
      · rw [ke1_4.1 512 14 (by decide) (by omega), g12, ke4.1 1222 29 (by decide) (by omega), g32, ke12.1 1222 29 (by decide) (by omega), hE.2]
  · have it := isTurn_c (N := N) (h := h) y1 y2
    have im := isTurn_m (N := N) (h := h) y1 y2
    rw [if_neg w] at it im
    refine ⟨iI (-1), h, h, pa, dn, ?_, ?_, hT, hI, hA, fun r _ _ => by omega, hG, hK.n, hE, Ke_rf, rfl⟩
    · simp only [fX11_turn, lit, iI_neg]
      refine bst (it) ?_
      refine ifp (rfl) ?_
      rfl
    · simp only [fX12_turn, lit, iI_neg]
      refine bst (im) ?_
      refine ifp (rfl) ?_
      rfl
/-! ===== free ===== -/
theorem L_freeM {N : Nat} (hN : 100000000 ≤ N) {nr nt nd : Nat} {rT : Nat → Nat} {pa wy gr ds sr dn : Nat → Int} {dr td : Nat → Option Nat} {rA tA dA : Nat → Nat} {hd : Nat → Int} {gn : Nat → Bool} (hL : RTl nt nd nr rT dr td) (hnt : nt ≤ 40) (hdn : ∀ r, r < nr → dr r ≠ none → -1000000000 ≤ dn r ∧ dn r ≤ 1000000000) {d n : Int} (hd1 : d = 1 ∨ d = -1) (n1 : n ≤ 9999) {u1 u2 u3 u4 : Int32} : ∀ (q : Nat) (c : Int) (fu : Nat) (h : Hs), Sk h → 70 ≤ sz h → RDr h nd dA ds → RRo h nr nt rA tA rT wy gr hd gn → RTm h nr rT dr sr (dnz ds dn dr (d * (n - c))) → (∀ i, i < nt → aI h 33 i = iI (tpl pa wy gr sr dn ds dr td (d * (n - c)) i)) → 0 ≤ c → c ≤ n → n - c ≤ q → q < fu → ∃ h', fX12_free_b52 N 29 fu h u1 u2 u3 u4 (iI n) (iI d) (iI c) = some (iI n, h') ∧ Ke [1221, 1222, 1223, 1224, 1225] [33, 43] [] [] h h' ∧ sz h' = sz h ∧ RTm h' nr rT dr sr (dnz ds dn dr 0) ∧ (∀ i, i < nt → aI h' 33 i = iI (tpl pa wy gr sr dn ds dr td 0 i)) ∧ gI h' 1221 29 = gI h 1221 29 - iI (d * n) ∧ gI h' 1222 29 = u4 ∧ gI h' 1223 29 = u1 ∧ gI h' 1224 29 = u2 ∧ gI h' 1225 29 = u3 := by
  have fin : ∀ (c : Int) (fu : Nat) (h : Hs), c = n → Sk h → 70 ≤ sz h → RDr h nd dA ds → RRo h nr nt rA tA rT wy gr hd gn → RTm h nr rT dr sr (dnz ds dn dr (d * (n - c))) → (∀ i, i < nt → aI h 33 i = iI (tpl pa wy gr sr dn ds dr td (d * (n - c)) i)) → ∃ h', fX12_free_b52 N 29 (fu + 1) h u1 u2 u3 u4 (iI n) (iI d) (iI c) = some (iI n, h') ∧ Ke [1221, 1222, 1223, 1224, 1225] [33, 43] [] [] h h' ∧ sz h' = sz h ∧ RTm h' nr rT dr sr (dnz ds dn dr 0) ∧ (∀ i, i < nt → aI h' 33 i = iI (tpl pa wy gr sr dn ds dr td 0 i)) ∧ gI h' 1221 29 = gI h 1221 29 - iI (d * n) ∧ gI h' 1222 29 = u4 ∧ gI h' 1223 29 = u1 ∧ gI h' 1224 29 = u2 ∧ gI h' 1225 29 = u3 := by
    intro c fu h ec hS hz hD hR hM hP
    subst ec
    rw [Int.sub_self, Int.mul_zero] at hM hP
    have c29 : (sh h 29).1 = 12 := by rw [ss_29 hS]
    obtain ⟨h6, eh6⟩ : ∃ h6, h6 = uI (uI (uI (uI (uI h 1221 29 (gI h 1221 29 - iI d * iI c)) 1222 29 u4) 1223 29 u1) 1224 29 u2) 1225 29 u3 := ⟨_, rfl⟩
    have ke : Ke [1221, 1222, 1223, 1224, 1225] [] [] [] h h6 := by rw [eh6]; exact ((((Ke_rf.u 1221 29 _ (by decide)).u 1222 29 _ (by decide)).u 1223 29 _ (by decide)).u 1224 29 _ (by decide)).u 1225 29 _ (by decide)
    refine ⟨h6, ?_, ke.w (by decide) (by decide) (by decide) (by decide), by rw [eh6]; rfl, hM.e hz ke (by decide), fun i hi => by rw [ke.2.1 33 (by decide) (by omega)]; exact hP i hi, by rw [eh6, ← iI_mul]; simp [HR], by rw [eh6]; simp [HR], by rw [eh6]; simp [HR], by rw [eh6]; simp [HR], by rw [eh6]; simp [HR]⟩
    show fX12_free_b52_body N (fX12_free_b52 N 29 fu) 29 h u1 u2 u3 u4 (iI c) (iI d) (iI c) = _
    simp only [fX12_free_b52_body]
    refine ifp (Int32.le_refl _) ?_
    refine bst (oIv c29 rfl) ?_
    refine bst (qIv c29) ?_
    refine bst (qIv (by rw [sh_uI]; exact c29)) ?_
    refine bst (qIv (by rw [sh_uI, sh_uI]; exact c29)) ?_
    refine bst (qIv (by rw [sh_uI, sh_uI, sh_uI]; exact c29)) ?_
    refine bst (qIv (by rw [sh_uI, sh_uI, sh_uI, sh_uI]; exact c29)) ?_
    rw [eh6]
  intro q
  induction q with
  | zero =>
    intro c fu h hS hz hD hR hM hP c1 c2 hq hf
    obtain ⟨fu, rfl⟩ : ∃ m, fu = m + 1 := ⟨fu - 1, by omega⟩
    exact fin c fu h (by omega) hS hz hD hR hM hP
  | succ q ih =>
    intro c fu h hS hz hD hR hM hP c1 c2 hq hf
    obtain ⟨fu, rfl⟩ : ∃ m, fu = m + 1 := ⟨fu - 1, by omega⟩
    by_cases ec : c = n
    · exact fin c fu h ec hS hz hD hR hM hP
    have a1 : ¬ iI n ≤ iI c := fun w => by have := (iI_le (by omega) (by omega) (by omega) (by omega)).mp w; omega
    have zb : -100000 ≤ d * (n - (c + 1)) ∧ d * (n - (c + 1)) ≤ 100000 := by rcases hd1 with rfl | rfl <;> omega
    have ed : -d = d * (n - (c + 1)) - d * (n - c) := by
      rw [show n - c = n - (c + 1) + 1 by omega, Int.mul_add, Int.mul_one]
      omega
    obtain ⟨h1, e1, ke1, s1, hM1, hP1⟩ := v_plM (N := N) hN hS hz hD hR hL hnt (z := d * (n - c)) zb.1 zb.2 ed hdn hM hP
    rw [← iI_neg] at e1
    obtain ⟨h', r1, r2, r3, r4, r5, r6, r7⟩ := ih (c + 1) fu h1 (hS.e hz ke1 (by decide)) (by omega) (hD.e hz ke1 (by decide) (by decide) (by decide)) (hR.e hz ke1 (by decide) (by decide) (by decide) (by decide)) hM1 hP1 (by omega) (by omega) (by omega) (by omega)
    refine ⟨h', ?_, (ke1.w (by decide) (by decide) (by decide) (by decide)).tr r2, r3.trans s1, r4, r5, by rw [r6, ke1.1 1221 29 (by decide) (by omega)], r7⟩
    have rc12 : rc 12 h (some 29) = some 29 := rcv (by rw [ss_29 hS])
    show fX12_free_b52_body N (fX12_free_b52 N 29 fu) 29 h u1 u2 u3 u4 (iI n) (iI d) (iI c) = _
    simp only [fX12_free_b52_body, lit, iI_add, Option.bind_some]
    refine ifn (a1) ?_
    refine bst (rc12) ?_
    refine bst (e1) ?_
    exact r1
theorem t_free {N : Nat} (hN : 100000000 ≤ N) {h : Hs} (hS : Sk h) (hz : 70 ≤ sz h) {nr nt nd : Nat} {rA tA dA rT : Nat → Nat} {wy gr hd ds : Nat → Int} {gn : Nat → Bool} {tl tw tg ls ms pa : Nat → Int} {dr td : Nat → Option Nat} {sr dn : Nat → Int} (hT : RTh h nt tA tl tw tg ls ms pa) (hD : RDr h nd dA ds) (hR : RRo h nr nt rA tA rT wy gr hd gn) (hI : RTi h nt nd nr tA dA rA rT dr td sr dn) (hW : ICnt h) (hB : IBnd h) (hE : RSh h) (hG : IStp h) (hdn : ∀ r, r < nr → dr r ≠ none → -1000000000 ≤ dn r ∧ dn r ≤ 1000000000) (hsr : ∀ r, r < nr → dr r ≠ none → 0 ≤ sr r ∧ sr r ≤ 100) (hA : ∀ r, r < nr → dr r ≠ none → pa (rT r) = sr r + wy r * (dn r).tdiv (100 * gr r)) (p : Int32) : ∃ a h1 h2, fX11_free N h 0 p = some (a, h1) ∧ fX12_free N h1 29 p = some (a, h2) ∧ RTh h2 nt tA tl tw tg ls ms pa ∧ RTi h2 nt nd nr tA dA rA rT dr td sr dn ∧ IStp h2 ∧ RSh h2 ∧ Ke [908, 700, 701, 702, 1221, 1222, 1223, 1224, 1225] [33, 43] [] [] h h2 ∧ sz h2 = sz h := by
  obtain ⟨z, y1, y2, rfl⟩ := iI_ex p
  by_cases w : -9999 ≤ z ∧ z ≤ 9999
  · obtain ⟨hC, hM, hL⟩ := RTi_iff.mp hI
    obtain ⟨cw, hcw⟩ := hW
    obtain ⟨bd, bb1, bb2, b1, b2⟩ := hB
    obtain ⟨d, m, hdm⟩ : ∃ d m : Int, (0 ≤ z ∧ d = 1 ∧ m = z) ∨ (z < 0 ∧ d = -1 ∧ m = -z) := by
      by_cases q : 0 ≤ z
      · exact ⟨1, z, Or.inl ⟨q, rfl, rfl⟩⟩
      · exact ⟨-1, -z, Or.inr ⟨by omega, rfl, rfl⟩⟩
    have ct := hT.1.2.2
    obtain ⟨n, k, t, o, h2, e1, st, w1, ke12, s2, g23⟩ := v_look hN hS hz hT.o hD hR hC b1 b2 hL hdn hsr (fun i hi => (hcw i hi).2.2) (fun i hi => (hcw i hi).1) bb1 w.1 w.2 hdm
    have n0 := st.1
    have n1 := st.2.1
    have nb : n ≤ 9999 := by omega
    have hS2 := hS.e hz ke12 (by decide)
    have hz2 : 70 ≤ sz h2 := by omega
    have cl : fX11_free N h 0 (iI z) = some (iI n, h2) := by
      have it := isTurn_c (N := N) (h := h) (by omega) (by omega) (z := z)
      rw [if_pos w] at it
      have rc10 : rc 10 h (some 22) = some 22 := rcv (by rw [ss_22 hS])
      simp only [fX11_free, fX11_free_b19, lit]
      refine bst (it) ?_
      refine ifn (n10) ?_
      refine bst (sR_1101_0 hS) ?_
      refine bst (rc10) ?_
      refine bst (e1) ?_
      rfl
    have hD2 := hD.e hz ke12 (by decide) (by decide) (by decide)
    have hR2 := hR.e hz ke12 (by decide) (by decide) (by decide) (by decide)
    have hQ2 := hT.q.e hz ke12 (by decide) (by decide)
    have at2 : ∀ i, i < nt → aI h2 33 i = iI (pa i) := fun i hi => by rw [ke12.2.1 33 (by decide) (by omega)]; exact (hT.2.1 i hi).2.2.1.2.2.2.1
    obtain ⟨n', k', t', o', h3, e3, st', w3, ke3, s3, hM3, hP3, g31, g32⟩ := v_turnNow hN hS2 hz2 hQ2 at2 hD2 hR2 (hM.e hz ke12 (by decide)) b1 b2 hL hdn hsr hA (fun i hi => (show 0 ≤ pa i ∧ pa i ≤ 100 by have := (hT.2.1 i hi).2.2.2; omega)) (fun i hi => (hcw i hi).2.2) (fun i hi => by rw [ke12.2.1 45 (by decide) (by omega)]; exact (hcw i hi).2.1) (by rw [ke12.1 1220 29 (by decide) (by omega)]; exact bb2) w.1 w.2 hdm
    obtain ⟨rfl, rfl, rfl, rfl⟩ := Stq_un (WH := tWh nt ls ms tl tw tg pa wy gr sr dn ds rT dr td nr cw bd d) (fun s k t o k' t' o' a b => Wh_un a b) st st'
    have hS3 := hS2.e hz2 ke3 (by decide)
    have hz3 : 70 ≤ sz h3 := by omega
    obtain ⟨h4, r1, ke4, s4, hM4, hP4, q1, q2, q3, q4, q5⟩ := L_freeM (N := N) (rA := rA) (tA := tA) (dA := dA) (hd := hd) (gn := gn) hN hL ct hdn (d := d) (n := n) (by omega) nb (u1 := gI h2 1223 29) (u2 := gI h2 1224 29) (u3 := gI h2 1225 29) (u4 := gI h2 1222 29) 9999 0 N h3 hS3 hz3 (hD2.e hz2 ke3 (by decide) (by decide) (by decide)) (hR2.e hz2 ke3 (by decide) (by decide) (by decide) (by decide)) (by rw [Int.sub_zero]; exact hM3) (fun i hi => by rw [Int.sub_zero]; exact hP3 i hi) (by omega) n0 (by omega) (by omega)
    have rf : fX12_free N h2 29 (iI z) = some (iI n, h4) := by
      have it := isTurn_m (N := N) (h := h2) (by omega) (by omega) (z := z)
      rw [if_pos w] at it
      have rc12 : rc 12 h2 (some 29) = some 29 := rcv (by rw [ss_29 hS2])
      have c29 : (sh h2 29).1 = 12 := by rw [ss_29 hS2]
      simp only [fX12_free, fX12_free_b47, lit]
      rcases hdm with ⟨q, rfl, rfl⟩ | ⟨q, rfl, rfl⟩
      · have q1 : iI 0 ≤ iI m := (iI_le (by omega) (by omega) (by omega) (by omega)).mpr q
        refine bst (it) ?_
        refine ifn (n10) ?_
        refine bst (oIv c29 rfl) ?_
        refine bst (oIv c29 rfl) ?_
        refine bst (oIv c29 rfl) ?_
        refine bst (oIv c29 rfl) ?_
        refine bst (rc12) ?_
        refine bst (e3) ?_
        refine ifp (q1) ?_
        exact r1
      · have q1 : ¬ iI 0 ≤ iI z := fun w => by have := (iI_le (by omega) (by omega) (by omega) (by omega)).mp w; omega
        refine bst (it) ?_
        refine ifn (n10) ?_
        refine bst (oIv c29 rfl) ?_
        refine bst (oIv c29 rfl) ?_
        refine bst (oIv c29 rfl) ?_
        refine bst (oIv c29 rfl) ?_
        refine bst (rc12) ?_
        refine bst (e3) ?_
        refine ifn (q1) ?_
        exact r1
    have ke24 : Ke [1221, 1222, 1223, 1224, 1225] [33, 43] [] [] h2 h4 := ke3.tr ke4
    have ke : Ke [908, 700, 701, 702, 1221, 1222, 1223, 1224, 1225] [33, 43] [] [] h h4 := (ke12.w (by decide) (by decide) (by decide) (by decide)).tr (ke24.w (by decide) (by decide) (by decide) (by decide))
    rw [dnz_0] at hM4
    refine ⟨iI n, h2, h4, cl, rf, ?_, ?_, ?_, ?_, ke, by omega⟩
    · refine RTh_of (hT.o.e hz ke (by decide) (by decide)) (by rw [ke.1 1201 29 (by decide) (by omega)]; exact hT.1.2.1) (fun i hi => ?_)
      obtain ⟨-, -, ⟨x0, x1, x2, x3, x4, x5⟩, -⟩ := hT.2.1 i hi
      rw [ke.2.1 30 (by decide) (by omega), ke.2.1 31 (by decide) (by omega), ke.2.1 32 (by decide) (by omega), ke.2.1 34 (by decide) (by omega), ke.2.1 35 (by decide) (by omega), hP4 i hi, tpl_0 hL hA hi]
      exact ⟨x0, x1, x2, rfl, x4, x5⟩
    · exact RTi_iff.mpr ⟨hC.e hT.lt hR.lt ke (by decide) (by decide), hM4, hL⟩
    · refine ⟨?_, ?_, ?_⟩
      · rw [ke24.1 700 23 (by decide) (by omega), g23 700 (by decide), q3, ke12.1 1223 29 (by decide) (by omega)]; exact hG.1
      · rw [ke24.1 701 23 (by decide) (by omega), g23 701 (by decide), q4, ke12.1 1224 29 (by decide) (by omega)]; exact hG.2.1
      · rw [ke24.1 702 23 (by decide) (by omega), g23 702 (by decide), q5, ke12.1 1225 29 (by decide) (by omega)]; exact hG.2.2
    · refine ⟨?_, ?_⟩
      · rw [ke.1 511 14 (by decide) (by omega), q1, g31, ke12.1 1221 29 (by decide) (by omega), hE.1]
        obtain ⟨x, -, -, ex⟩ := iI_ex (gI h 1221 29)
        rw [ex, iI_add, iI_sub]
        congr 1
        omega
      · rw [ke.1 512 14 (by decide) (by omega), q2, ke12.1 1222 29 (by decide) (by omega)]; exact hE.2
  · have it := isTurn_c (N := N) (h := h) y1 y2
    have im := isTurn_m (N := N) (h := h) y1 y2
    rw [if_neg w] at it im
    refine ⟨iI (-1), h, h, ?_, ?_, hT, hI, hG, hE, Ke_rf, rfl⟩
    · simp only [fX11_free, fX11_free_b19, lit, iI_neg]
      refine bst (it) ?_
      refine ifp (rfl) ?_
      rfl
    · simp only [fX12_free, lit, iI_neg]
      refine bst (im) ?_
      refine ifp (rfl) ?_
      rfl
