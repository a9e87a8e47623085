def sceneF (h : Hs) (nt i : Nat) : Nat → Int32 := fun j => if j % 40 = nt ∧ i ≤ j / 40 ∧ j / 40 < 10 then iI (-1) else aI h 48 j
def thingA (h : Hs) (nt : Nat) (l x w lo hi g : Int) : Hs := uA (uA (uA (uA (uA (uA h 30 nt (iI l)) 31 nt (iI w)) 32 nt (iI g)) 33 nt (iI x)) 34 nt (iI lo)) 35 nt (iI hi)
def thingE (h : Hs) (nt : Nat) : Hs := uI (uI (wA h 48 (sceneF h nt 0)) 1201 29 (iI (nt + 1))) 1243 29 (iI 0)
def thingM (h : Hs) (nt : Nat) (l x w lo hi g : Int) : Hs := thingE (thingA h nt l x w lo hi g) nt
theorem Kq_thingM {h : Hs} {nt : Nat} {l x w lo hi g : Int} : Kq [1201, 1243] [30, 31, 32, 33, 34, 35, 48] h (thingM h nt l x w lo hi g) := (((((((((Kq_rf.b _ _ _ (by decide)).b _ _ _ (by decide)).b _ _ _ (by decide)).b _ _ _ (by decide)).b _ _ _ (by decide)).b _ _ _ (by decide)).a _ _ (by decide)).u _ _ _ (by decide)).u _ _ _ (by decide))
theorem L_sceneM {N : Nat} {nt : Nat} (hn : nt < 40) : ∀ (d i : Nat) (fu : Nat) (h : Hs), Sk h → gI h 1201 29 = iI nt → i + d = 10 → d < fu → fX12_thing_b232 N 29 fu h (iI nt) (iI i) = some (iI nt, uI (uI (wA h 48 (sceneF h nt i)) 1201 29 (iI (nt + 1))) 1243 29 (iI 0)) := by
  intro d
  induction d with
  | zero =>
    intro i fu h hS c2 hi hf
    obtain ⟨fu, rfl⟩ : ∃ k, fu = k + 1 := ⟨fu - 1, by omega⟩
    show fX12_thing_b232_body N (fX12_thing_b232 N 29 fu) 29 h (iI nt) (iI i) = _
    have a1 : iI 10 ≤ iI (i : Int) := (iI_le (by omega) (by omega) (by omega) (by omega)).mpr (by omega)
    have ef : sceneF h nt i = aI h 48 := by
      funext j
      simp only [sceneF]
      rw [if_neg (by omega)]
    rw [ef, wA_self]
    have hS1 : Sk (uI h 1201 29 (iI ((nt : Int) + 1))) := hS.k (Kq_uI 1201 _ _)
    simp only [fX12_thing_b232_body, lit]
    refine ifp (a1) ?_
    refine bst (oIv (by rw [ss_29 hS]) c2) ?_
    refine bst (qIv (by rw [ss_29 hS])) ?_
    rw [iI_add]
    refine bst (qZv (v := 0) (by rw [ss_29 hS1]) (Or.inl rfl)) ?_
    rfl
  | succ d ih =>
    intro i fu h hS c2 hi hf
    obtain ⟨fu, rfl⟩ : ∃ k, fu = k + 1 := ⟨fu - 1, by omega⟩
    show fX12_thing_b232_body N (fX12_thing_b232 N 29 fu) 29 h (iI nt) (iI i) = _
    have a1 : ¬ iI 10 ≤ iI (i : Int) := fun q => by have := (iI_le (by omega) (by omega) (by omega) (by omega)).mp q; omega
    have e := ih (i + 1) fu (uA h 48 (40 * i + nt) (iI (-1))) (hS.k (Kq_uA 48 _ _)) c2 (by omega) (by omega)
    simp only [Int.natCast_add, Int.natCast_one] at e
    have ix : iI 40 * iI (i : Int) + iI (nt : Int) = iI ((40 * i + nt : Nat) : Int) := by rw [iI_mul, iI_add]; congr 1
    have ix2 : iI (i : Int) + iI 1 = iI ((i : Int) + 1) := by rw [iI_add]
    simp only [fX12_thing_b232_body, lit, iI_neg, ix, ix2, Option.bind_some]
    refine ifn (a1) ?_
    refine bst (sR_1228_29 hS) ?_
    refine bst (sAv (ss_48 hS) (by omega) (by omega)) ?_
    rw [e]
    have ef : wA (uA h 48 (40 * i + nt) (iI (-1))) 48 (sceneF (uA h 48 (40 * i + nt) (iI (-1))) nt (i + 1)) = wA h 48 (sceneF h nt i) := by
      rw [uA_wA, wA_wA]
      congr 1
      funext j
      simp only [sceneF, aI_wA, if_true]
      by_cases e1 : j = 40 * i + nt
      · rw [if_neg (by omega), if_pos e1, if_pos (by omega)]
      · by_cases e2 : j % 40 = nt ∧ i ≤ j / 40 ∧ j / 40 < 10
        · rw [if_pos (by omega), if_pos e2]
        · rw [if_neg (by omega), if_neg e1, if_neg e2]
    rw [ef]
theorem m_thing {N : Nat} (hN : 100000000 ≤ N) {h : Hs} (hS : Sk h) {nt : Nat} {tl tw pa : Nat → Int} (c2 : gI h 1201 29 = iI nt) (c3 : nt ≤ 40) (c4 : ∀ i, i < nt → (aI h 30 i = iI (tl i) ∧ aI h 31 i = iI (tw i) ∧ aI h 33 i = iI (pa i)) ∧ 0 ≤ tl i ∧ tl i ≤ 15 ∧ 1 ≤ tw i ∧ tw i ≤ 60 ∧ 0 ≤ pa i ∧ pa i ≤ 100) (z w y g l x lo hi : Int) (z1 : -2147483648 ≤ z) (z2 : z < 2147483648) (w1 : -2147483648 ≤ w) (w2 : w < 2147483648) (y1 : -2147483648 ≤ y) (y2 : y < 2147483648) (g1 : -2147483648 ≤ g) (g2 : g < 2147483648) (lo1 : -1000000000 ≤ lo) (lo2 : lo < 1000000000) (hi1 : -100 < hi) (hi2 : hi < 100) (x1 : -100 < x) (x2 : x < 100) (dz : iI z / iI 100 = iI l) (mz : iI z - iI l * iI 100 = iI x) (dy : iI y / iI 100 = iI lo) (my : iI y - iI lo * iI 100 = iI hi) (lz : 0 ≤ z ∧ z ≤ 1599 → 0 ≤ l ∧ l ≤ 15) (ly : 0 ≤ y → lo ≤ x → y ≤ 9999) :
    (¬ ((0 ≤ z ∧ z ≤ 1599) ∧ (1 ≤ w ∧ w ≤ 60) ∧ 0 ≤ y ∧ (0 ≤ g ∧ g ≤ 999) ∧ (lo ≤ x ∧ x ≤ hi) ∧ hi + w ≤ 100) → fX12_thing N h 29 (iI z) (iI w) (iI y) (iI g) = some (iI (-1), h)) ∧ ((0 ≤ z ∧ z ≤ 1599) ∧ (1 ≤ w ∧ w ≤ 60) ∧ 0 ≤ y ∧ (0 ≤ g ∧ g ≤ 999) ∧ (lo ≤ x ∧ x ≤ hi) ∧ hi + w ≤ 100 → fX12_thing N h 29 (iI z) (iI w) (iI y) (iI g) = if hasB (metB tl tw pa none l x w) 0 nt then some (iI (-2), h) else if nt < 40 then some (iI nt, thingM h nt l x w lo hi g) else some (iI (-3), h)) := by
  have wz := v_inW (N := N) (h := h) (x := z) (a := 0) (b := 1599) z1 z2 (by omega) (by omega) (by omega) (by omega)
  have ww := v_inW (N := N) (h := h) (x := w) (a := 1) (b := 60) w1 w2 (by omega) (by omega) (by omega) (by omega)
  have wy := v_inW (N := N) (h := h) (x := y) (a := 0) (b := 9999) y1 y2 (by omega) (by omega) (by omega) (by omega)
  have wg := v_inW (N := N) (h := h) (x := g) (a := 0) (b := 999) g1 g2 (by omega) (by omega) (by omega) (by omega)
  have xl : iI x < iI lo ↔ x < lo := iI_lt (by omega) (by omega) (by omega) (by omega)
  have hx : iI hi < iI x ↔ hi < x := iI_lt (by omega) (by omega) (by omega) (by omega)
  simp only [fX12_thing, fX12_thing_b44, fX12_thing_b81, lit, iI_neg, dz, mz, dy, my, iI_add, Option.bind_some]
  refine ⟨fun hn => ?_, fun hy => ?_⟩
  · by_cases q1 : 0 ≤ z ∧ z ≤ 1599
    · rw [if_pos q1] at wz
      by_cases q2 : 1 ≤ w ∧ w ≤ 60
      · rw [if_pos q2] at ww
        by_cases q3 : 0 ≤ y ∧ y ≤ 9999
        · rw [if_pos q3] at wy
          by_cases q4 : 0 ≤ g ∧ g ≤ 999
          · rw [if_pos q4] at wg
            by_cases q5 : x < lo
            · skip
              refine bst (wz) ?_
              refine ifn (n10) ?_
              refine bst (ww) ?_
              refine ifn (n10) ?_
              refine bst (wy) ?_
              refine ifn (n10) ?_
              refine bst (wg) ?_
              refine ifn (n10) ?_
              refine ifp (xl.mpr q5) ?_
              rfl
            · by_cases q6 : hi < x
              · skip
                refine bst (wz) ?_
                refine ifn (n10) ?_
                refine bst (ww) ?_
                refine ifn (n10) ?_
                refine bst (wy) ?_
                refine ifn (n10) ?_
                refine bst (wg) ?_
                refine ifn (n10) ?_
                refine ifn (fun q => q5 (xl.mp q)) ?_
                refine ifp (hx.mpr q6) ?_
                rfl
              · have q7 : ¬ iI (hi + w) ≤ iI 100 := fun q => hn ⟨q1, q2, q3.1, q4, by omega, (iI_le (by omega) (by omega) (by omega) (by omega)).mp q⟩
                refine bst (wz) ?_
                refine ifn (n10) ?_
                refine bst (ww) ?_
                refine ifn (n10) ?_
                refine bst (wy) ?_
                refine ifn (n10) ?_
                refine bst (wg) ?_
                refine ifn (n10) ?_
                refine ifn (fun q => q5 (xl.mp q)) ?_
                refine ifn (fun q => q6 (hx.mp q)) ?_
                refine ifn (q7) ?_
                rfl
          · rw [if_neg q4] at wg
            refine bst (wz) ?_
            refine ifn (n10) ?_
            refine bst (ww) ?_
            refine ifn (n10) ?_
            refine bst (wy) ?_
            refine ifn (n10) ?_
            refine bst (wg) ?_
            refine ifp (rfl) ?_
            rfl
        · rw [if_neg q3] at wy
          refine bst (wz) ?_
          refine ifn (n10) ?_
          refine bst (ww) ?_
          refine ifn (n10) ?_
          refine bst (wy) ?_
          refine ifp (rfl) ?_
          rfl
      · rw [if_neg q2] at ww
        refine bst (wz) ?_
        refine ifn (n10) ?_
        refine bst (ww) ?_
        refine ifp (rfl) ?_
        rfl
    · rw [if_neg q1] at wz
      refine bst (wz) ?_
      refine ifp (rfl) ?_
      rfl
  · obtain ⟨q1, q2, q3, q4, q5, q6⟩ := hy
    rw [if_pos q1] at wz
    rw [if_pos q2] at ww
    rw [if_pos ⟨q3, ly q3 q5.1⟩] at wy
    rw [if_pos q4] at wg
    have ll := lz q1
    have q7 : iI (hi + w) ≤ iI 100 := (iI_le (by omega) (by omega) (by omega) (by omega)).mpr q6
    have o1 : oI 12 1 h (some 29) = some (iI nt) := oIv (by rw [ss_29 hS]) c2
    have hE : ∀ fu, 0 < fu → fX12_thing_b86 N 29 fu h (iI z) (iI w) (iI y) (iI g) (iI x) (iI nt) = if nt < 40 then some (iI nt, thingM h nt l x w lo hi g) else some (iI (-3), h) := by
      intro fu hf
      obtain ⟨fu, rfl⟩ : ∃ k, fu = k + 1 := ⟨fu - 1, by omega⟩
      show fX12_thing_b86_body N (fX12_thing_b86 N 29 fu) 29 h (iI z) (iI w) (iI y) (iI g) (iI x) (iI nt) = _
      have r1 : iI (nt : Int) ≤ iI (nt : Int) := (iI_le (by omega) (by omega) (by omega) (by omega)).mpr (Int.le_refl _)
      simp only [fX12_thing_b86_body, lit, iI_neg, dz, mz, dy, my]
      by_cases n9 : nt < 40
      · rw [if_pos n9]
        have w4 : ¬ iI (nt : Int) = iI 40 := fun q => by have := (iI_eq (by omega) (by omega) (by omega) (by omega)).mp q; omega
        have hA := hS.k (Kq_uA 30 nt (iI l))
        have hB := hA.k (Kq_uA 31 nt (iI w))
        have hC := hB.k (Kq_uA 32 nt (iI g))
        have hD := hC.k (Kq_uA 33 nt (iI x))
        have hF := hD.k (Kq_uA 34 nt (iI lo))
        have hG := hF.k (Kq_uA 35 nt (iI hi))
        have sm := L_sceneM (N := N) n9 10 0 N _ hG c2 (by omega) (by omega)
        refine bst (o1) ?_
        refine ifp (r1) ?_
        refine bst (o1) ?_
        refine ifn (w4) ?_
        refine bst (o1) ?_
        refine bst (sR_1202_29 hS) ?_
        refine bst (sAv (ss_30 hS) (by omega) (by omega)) ?_
        refine bst (sR_1203_29 hA) ?_
        refine bst (sAv (ss_31 hA) (by omega) (by omega)) ?_
        refine bst (sR_1204_29 hB) ?_
        refine bst (sAv (ss_32 hB) (by omega) (by omega)) ?_
        refine bst (sR_1205_29 hC) ?_
        refine bst (sAv (ss_33 hC) (by omega) (by omega)) ?_
        refine bst (sR_1206_29 hD) ?_
        refine bst (sAv (ss_34 hD) (by omega) (by omega)) ?_
        refine bst (sR_1207_29 hF) ?_
        refine bst (sAv (ss_35 hF) (by omega) (by omega)) ?_
        exact sm
      · rw [if_neg n9]
        have w4 : iI (nt : Int) = iI 40 := by rw [show (nt : Int) = 40 by omega]
        refine bst (o1) ?_
        refine ifp (r1) ?_
        refine bst (o1) ?_
        refine ifp (w4) ?_
        rfl
    have lm := L_thingM (N := N) hS c2 c3 c4 (z := z) (y := y) (g := g) (l := l) (x := x) (w := w) (by omega) (by omega) (by omega) (by omega) (by omega) (by omega) dz hE nt 0 N (by omega) (by omega)
    simp only [Int.natCast_zero] at lm
    refine bst (wz) ?_
    refine ifn (n10) ?_
    refine bst (ww) ?_
    refine ifn (n10) ?_
    refine bst (wy) ?_
    refine ifn (n10) ?_
    refine bst (wg) ?_
    refine ifn (n10) ?_
    refine ifn (fun q => by have := xl.mp q; omega) ?_
    refine ifn (fun q => by have := hx.mp q; omega) ?_
    refine ifp (q7) ?_
    exact lm
