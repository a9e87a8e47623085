/-! ===== what stands in the way; thing ===== -/
theorem v_overlap {N : Nat} {h : Hs} {a b c d : Int} (a1 : -100000 ≤ a) (a2 : a ≤ 100000) (b1 : -100000 ≤ b) (b2 : b ≤ 100000) (c1 : -100000 ≤ c) (c2 : c ≤ 100000) (d1 : -100000 ≤ d) (d2 : d ≤ 100000) : fX11_overlap N h (iI a) (iI b) (iI c) (iI d) = some (if a < c + d ∧ c < a + b then iI 1 else iI 0, h) := by
  simp only [fX11_overlap, fX11_overlap_b18, fX11_overlap_b19, lit, iI_add]
  by_cases w1 : c + d ≤ a
  · rw [if_neg (show ¬ (a < c + d ∧ c < a + b) by omega)]
    refine ifp ((iI_le (by omega) (by omega) (by omega) (by omega)).mpr w1) ?_
    refine bst (zc_i0) ?_
    rfl
  · have n1 : ¬ iI (c + d) ≤ iI a := fun q => w1 ((iI_le (by omega) (by omega) (by omega) (by omega)).mp q)
    by_cases w2 : a + b ≤ c
    · rw [if_neg (show ¬ (a < c + d ∧ c < a + b) by omega)]
      refine ifn (n1) ?_
      refine ifp ((iI_le (by omega) (by omega) (by omega) (by omega)).mpr w2) ?_
      refine bst (zc_i0) ?_
      rfl
    · have n2 : ¬ iI (a + b) ≤ iI c := fun q => w2 ((iI_le (by omega) (by omega) (by omega) (by omega)).mp q)
      rw [if_pos (show a < c + d ∧ c < a + b by omega)]
      refine ifn (n1) ?_
      refine ifn (n2) ?_
      refine bst (zc_i1) ?_
      rfl
/-- thing k stands on layer l where from x on w places are wanted; ex: who asks -/
def metB (tl tw pa : Nat → Int) (ex : Option Nat) (l x w : Int) (k : Nat) : Bool := decide (ex ≠ some k ∧ tl k = l ∧ x < pa k + tw k ∧ pa k < x + w)
theorem L_isClear {N : Nat} {h : Hs} (hS : Sk h) {nt : Nat} {tA : Nat → Nat} {tl tw tg ls ms pa : Nat → Int} (hC : RTh h nt tA tl tw tg ls ms pa) {ex : Option Nat} (hex : ∀ k, ex = some k → k < nt) {l x w : Int} (l1 : 0 ≤ l) (l2 : l ≤ 15) (x1 : -1000 ≤ x) (x2 : x ≤ 1000) (w1 : 0 ≤ w) (w2 : w ≤ 1000) : ∀ (d i : Nat) (fu : Nat), i + d = nt → d < fu → fX5_isClear_b3 N 14 fu h (ex.map tA) (iI l) (iI x) (iI w) (iI i) = some (if hasB (metB tl tw pa ex l x w) i d then iI 0 else iI 1, h) := by
  obtain ⟨⟨c1, c2, c3⟩, c4, c5⟩ := hC
  have o9 : oI 5 7 h (some 14) = some (iI nt) := oIv (by rw [ss_14 hS]) c1
  intro d
  induction d with
  | zero =>
    intro i fu hi hf
    obtain ⟨fu, rfl⟩ : ∃ k, fu = k + 1 := ⟨fu - 1, by omega⟩
    show fX5_isClear_b3_body N (fX5_isClear_b3 N 14 fu) 14 h (ex.map tA) (iI l) (iI x) (iI w) (iI i) = _
    have a1 : iI (nt : Int) ≤ iI (i : Int) := (iI_le (by omega) (by omega) (by omega) (by omega)).mpr (by omega)
    simp only [fX5_isClear_b3_body, lit]
    refine bst (o9) ?_
    refine ifp (a1) ?_
    simp [hasB]
  | succ d ih =>
    intro i fu hi hf
    obtain ⟨fu, rfl⟩ : ∃ k, fu = k + 1 := ⟨fu - 1, by omega⟩
    show fX5_isClear_b3_body N (fX5_isClear_b3 N 14 fu) 14 h (ex.map tA) (iI l) (iI x) (iI w) (iI i) = _
    have a1 : ¬ iI (nt : Int) ≤ iI (i : Int) := fun q => by have := (iI_le (by omega) (by omega) (by omega) (by omega)).mp q; omega
    obtain ⟨⟨d1, d2, d3, d4⟩, ⟨g0, g1, g2, g3, g4, g5, g7⟩, -, bb⟩ := c4 i (by omega)
    have e := ih (i + 1) fu (by omega) (by omega)
    simp only [Int.natCast_add, Int.natCast_one] at e
    have oq : lQ 23 h (some 15) (iI i) = some (some (tA i)) := lQv (ss_15 hS) (by omega) (by omega) d1
    have o1 : oI 9 1 h (some (tA i)) = some (iI (tl i)) := oIv (by rw [d4]) g1
    have o2 : oI 9 2 h (some (tA i)) = some (iI (tw i)) := oIv (by rw [d4]) g2
    have o7 : oI 9 7 h (some (tA i)) = some (iI (pa i)) := oIv (by rw [d4]) g7
    have le : iI (tl i) = iI l ↔ tl i = l := iI_eq (by omega) (by omega) (by omega) (by omega)
    have ov := v_overlap (N := N) (h := h) (a := x) (b := w) (c := pa i) (d := tw i) (by omega) (by omega) (by omega) (by omega) (by omega) (by omega) (by omega) (by omega)
    have exi : some (tA i) = ex.map tA ↔ ex = some i := by
      constructor
      · intro q
        cases hx : ex with
        | none => rw [hx] at q; cases q
        | some k =>
          rw [hx] at q
          have q2 : tA i = tA k := Option.some.inj q
          rw [c5 i k (by omega) (hex k hx) q2]
      · intro q
        rw [q]
        rfl
    simp only [fX5_isClear_b3_body, fX5_isClear_b40, fX5_isClear_b41, fX5_isClear_b69, lit, iI_add, Option.bind_some]
    by_cases u1 : ex = some i
    · have mb : metB tl tw pa ex l x w i = false := decide_eq_false (fun q => q.1 u1)
      simp only [hasB, mb, Bool.false_or]
      refine bst (o9) ?_
      refine ifn (a1) ?_
      refine bst (sR_500_14 hS) ?_
      refine bst (oq) ?_
      refine ifp (exi.mpr u1) ?_
      refine ifp (trivial) ?_
      exact e
    · by_cases u2 : tl i = l
      · by_cases u3 : x < pa i + tw i ∧ pa i < x + w
        · have mb : metB tl tw pa ex l x w i = true := decide_eq_true ⟨u1, u2, u3⟩
          rw [if_pos u3] at ov
          simp only [hasB, mb, Bool.true_or, if_true]
          refine bst (o9) ?_
          refine ifn (a1) ?_
          refine bst (sR_500_14 hS) ?_
          refine bst (oq) ?_
          refine ifn (fun q => u1 (exi.mp q)) ?_
          refine bst (o1) ?_
          refine ifp (le.mpr u2) ?_
          refine ifn (n10) ?_
          refine bst (o7) ?_
          refine bst (o2) ?_
          refine bst (ov) ?_
          refine ifn (n10) ?_
          rfl
        · have mb : metB tl tw pa ex l x w i = false := decide_eq_false (fun q => u3 q.2.2)
          rw [if_neg u3] at ov
          simp only [hasB, mb, Bool.false_or]
          refine bst (o9) ?_
          refine ifn (a1) ?_
          refine bst (sR_500_14 hS) ?_
          refine bst (oq) ?_
          refine ifn (fun q => u1 (exi.mp q)) ?_
          refine bst (o1) ?_
          refine ifp (le.mpr u2) ?_
          refine ifn (n10) ?_
          refine bst (o7) ?_
          refine bst (o2) ?_
          refine bst (ov) ?_
          refine ifp (rfl) ?_
          exact e
      · have mb : metB tl tw pa ex l x w i = false := decide_eq_false (fun q => u2 q.2.1)
        simp only [hasB, mb, Bool.false_or]
        refine bst (o9) ?_
        refine ifn (a1) ?_
        refine bst (sR_500_14 hS) ?_
        refine bst (oq) ?_
        refine ifn (fun q => u1 (exi.mp q)) ?_
        refine bst (o1) ?_
        refine ifn (fun q => u2 (le.mp q)) ?_
        refine ifp (trivial) ?_
        exact e
theorem v_isClear {N : Nat} (hN : 100000000 ≤ N) {h : Hs} (hS : Sk h) {nt : Nat} {tA : Nat → Nat} {tl tw tg ls ms pa : Nat → Int} (hC : RTh h nt tA tl tw tg ls ms pa) {ex : Option Nat} (hex : ∀ k, ex = some k → k < nt) {l x w : Int} (l1 : 0 ≤ l) (l2 : l ≤ 15) (x1 : -1000 ≤ x) (x2 : x ≤ 1000) (w1 : 0 ≤ w) (w2 : w ≤ 1000) : fX5_isClear N h 14 (ex.map tA) (iI l) (iI x) (iI w) = some (if hasB (metB tl tw pa ex l x w) 0 nt then iI 0 else iI 1, h) := by
  have c3 := hC.1.2.2
  exact L_isClear hS hC hex l1 l2 x1 x2 w1 w2 nt 0 N (by omega) (by omega)
/-- the reference's loop over the things, in `thing` -/
theorem L_thingM {N : Nat} {h : Hs} (hS : Sk h) {nt : Nat} {tl tw pa : Nat → Int} (c2 : gI h 1201 29 = iI nt) (c3 : nt ≤ 40) (c4 : ∀ i, i < nt → (aI h 30 i = iI (tl i) ∧ aI h 31 i = iI (tw i) ∧ aI h 33 i = iI (pa i)) ∧ 0 ≤ tl i ∧ tl i ≤ 15 ∧ 1 ≤ tw i ∧ tw i ≤ 60 ∧ 0 ≤ pa i ∧ pa i ≤ 100) {z y g l x w : Int} (l1 : 0 ≤ l) (l2 : l ≤ 15) (x1 : -1000 ≤ x) (x2 : x ≤ 1000) (w1 : 0 ≤ w) (w2 : w ≤ 1000) (dv : iI z / iI 100 = iI l) {E : Option (Int32 × Hs)} (hE : ∀ fu, 0 < fu → fX12_thing_b86 N 29 fu h (iI z) (iI w) (iI y) (iI g) (iI x) (iI nt) = E) : ∀ (d i : Nat) (fu : Nat), i + d = nt → d < fu → fX12_thing_b86 N 29 fu h (iI z) (iI w) (iI y) (iI g) (iI x) (iI i) = if hasB (metB tl tw pa none l x w) i d then some (iI (-2), h) else E := by
  have o9 : oI 12 1 h (some 29) = some (iI nt) := oIv (by rw [ss_29 hS]) c2
  intro d
  induction d with
  | zero =>
    intro i fu hi hf
    have : i = nt := by omega
    subst this
    simp only [hasB]
    exact hE fu hf
  | succ d ih =>
    intro i fu hi hf
    obtain ⟨fu, rfl⟩ : ∃ k, fu = k + 1 := ⟨fu - 1, by omega⟩
    show fX12_thing_b86_body N (fX12_thing_b86 N 29 fu) 29 h (iI z) (iI w) (iI y) (iI g) (iI x) (iI i) = _
    have a1 : ¬ iI (nt : Int) ≤ iI (i : Int) := fun q => by have := (iI_le (by omega) (by omega) (by omega) (by omega)).mp q; omega
    obtain ⟨⟨g0, g1, g3⟩, bb⟩ := c4 i (by omega)
    have e := ih (i + 1) fu (by omega) (by omega)
    simp only [Int.natCast_add, Int.natCast_one] at e
    have le : iI (tl i) = iI l ↔ tl i = l := iI_eq (by omega) (by omega) (by omega) (by omega)
    have q1 := lAv (ss_30 hS) (show i < 40 by omega) (by omega) g0
    have q3 := lAv (ss_33 hS) (show i < 40 by omega) (by omega) g3
    have q2 := lAv (ss_31 hS) (show i < 40 by omega) (by omega) g1
    have u5 : iI (pa i) + iI (tw i) ≤ iI x ↔ pa i + tw i ≤ x := by rw [iI_add]; exact iI_le (by omega) (by omega) (by omega) (by omega)
    have u6 : iI (x + w) ≤ iI (pa i) ↔ x + w ≤ pa i := iI_le (by omega) (by omega) (by omega) (by omega)
    simp only [fX12_thing_b86_body, fX12_thing_b146, lit, iI_neg, iI_add, dv, Option.bind_some]
    by_cases u2 : tl i = l
    · by_cases u3 : pa i + tw i ≤ x
      · have mb : metB tl tw pa none l x w i = false := decide_eq_false (fun q => by omega)
        simp only [hasB, mb, Bool.false_or]
        refine bst (o9) ?_
        refine ifn (a1) ?_
        refine bst (sR_1202_29 hS) ?_
        refine bst (q1) ?_
        refine ifp (le.mpr u2) ?_
        refine bst (sR_1205_29 hS) ?_
        refine bst (q3) ?_
        refine bst (sR_1203_29 hS) ?_
        refine bst (q2) ?_
        refine ifp (u5.mpr u3) ?_
        exact e
      · by_cases u4 : x + w ≤ pa i
        · have mb : metB tl tw pa none l x w i = false := decide_eq_false (fun q => by omega)
          simp only [hasB, mb, Bool.false_or]
          refine bst (o9) ?_
          refine ifn (a1) ?_
          refine bst (sR_1202_29 hS) ?_
          refine bst (q1) ?_
          refine ifp (le.mpr u2) ?_
          refine bst (sR_1205_29 hS) ?_
          refine bst (q3) ?_
          refine bst (sR_1203_29 hS) ?_
          refine bst (q2) ?_
          refine ifn (fun q => u3 (u5.mp q)) ?_
          refine bst (sR_1205_29 hS) ?_
          refine bst (q3) ?_
          refine ifp (u6.mpr u4) ?_
          exact e
        · have mb : metB tl tw pa none l x w i = true := decide_eq_true ⟨by simp, u2, by omega, by omega⟩
          simp only [hasB, mb, Bool.true_or, if_true]
          refine bst (o9) ?_
          refine ifn (a1) ?_
          refine bst (sR_1202_29 hS) ?_
          refine bst (q1) ?_
          refine ifp (le.mpr u2) ?_
          refine bst (sR_1205_29 hS) ?_
          refine bst (q3) ?_
          refine bst (sR_1203_29 hS) ?_
          refine bst (q2) ?_
          refine ifn (fun q => u3 (u5.mp q)) ?_
          refine bst (sR_1205_29 hS) ?_
          refine bst (q3) ?_
          refine ifn (fun q => u4 (u6.mp q)) ?_
          rfl
    · have mb : metB tl tw pa none l x w i = false := decide_eq_false (fun q => u2 q.2.1)
      simp only [hasB, mb, Bool.false_or]
      refine bst (o9) ?_
      refine ifn (a1) ?_
      refine bst (sR_1202_29 hS) ?_
      refine bst (q1) ?_
      refine ifn (fun q => u2 (le.mp q)) ?_
      exact e
