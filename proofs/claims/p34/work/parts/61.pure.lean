def thingH (h : Hs) (nt : Nat) (l x w lo hi g : Int) : Hs := uI (uQ (thingO h nt l x w lo hi g) 15 nt (some (sz h))) 507 14 (iI (nt + 1))
theorem Ke_thingO {h : Hs} {nt : Nat} {l x w lo hi g : Int} : Ke [507, 900, 901, 902, 903, 904, 905, 907] [] [906] [15] h (thingO h nt l x w lo hi g) := by
  have k : Ke [507, 900, 901, 902, 903, 904, 905, 907] [] [906] [15] h (uI (uI (uI (uI (uI (uI (uI (uR (nw (nw h (9, 0)) (20, 10)) 906 (sz h) (some (sz h + 1))) 900 (sz h) (iI nt)) 901 (sz h) (iI l)) 907 (sz h) (iI x)) 902 (sz h) (iI w)) 904 (sz h) (iI lo)) 905 (sz h) (iI hi)) 903 (sz h) (iI g)) := (((((((((Ke_rf.n _).n _).r _ _ _ (by decide)).u _ _ _ (by decide)).u _ _ _ (by decide)).u _ _ _ (by decide)).u _ _ _ (by decide)).u _ _ _ (by decide)).u _ _ _ (by decide)).u _ _ _ (by decide)
  refine ⟨fun f a q z => k.1 f a q z, fun a q z => ?_, fun f a q z => k.2.2.1 f a q z, fun a q z => k.2.2.2.1 a q z, fun a z => k.2.2.2.2.1 a z, k.2.2.2.2.2⟩
  have e : ¬ a = sz h + 1 := by omega
  rw [← k.2.1 a q z]
  funext j
  rw [thingO, aI_wA, if_neg e]
theorem Ke_thingH {h : Hs} {nt : Nat} {l x w lo hi g : Int} : Ke [507, 900, 901, 902, 903, 904, 905, 907] [] [906] [15] h (thingH h nt l x w lo hi g) := (Ke_thingO.q _ _ _ (by decide)).u _ _ _ (by decide)
theorem v_isStage {N : Nat} {h : Hs} {z : Int} (z1 : -2147483648 ≤ z) (z2 : z < 2147483648) : fX5_isStagePlace N h (iI z) = some (if 0 ≤ z ∧ z ≤ 1599 then iI 1 else iI 0, h) := by
  have ws := v_isW (N := N) (h := h) (x := z) (a := 0) (b := 1599) z1 z2 (by omega) (by omega) (by omega) (by omega)
  simp only [fX5_isStagePlace, lit]
  by_cases w : 0 ≤ z ∧ z ≤ 1599
  · rw [if_pos w] at ws ⊢
    refine bst (ws) ?_
    refine bst (zc_i1) ?_
    rfl
  · rw [if_neg w] at ws ⊢
    refine bst (ws) ?_
    refine bst (zc_i0) ?_
    rfl
theorem c_thing {N : Nat} (hN : 100000000 ≤ N) {h : Hs} (hS : Sk h) (hz : 70 ≤ sz h) {nt : Nat} {tA : Nat → Nat} {tl tw tg ls ms pa : Nat → Int} (hT : RTh h nt tA tl tw tg ls ms pa) (z w y g l x lo hi : Int) (z1 : -2147483648 ≤ z) (z2 : z < 2147483648) (w1 : -2147483648 ≤ w) (w2 : w < 2147483648) (y1 : -2147483648 ≤ y) (y2 : y < 2147483648) (g1 : -2147483648 ≤ g) (g2 : g < 2147483648) (lo1 : -1000000000 ≤ lo) (lo2 : lo < 1000000000) (hi1 : -100 < hi) (hi2 : hi < 100) (x1 : -100 < x) (x2 : x < 100) (dz : iI z / iI 100 = iI l) (mz : iI z - iI l * iI 100 = iI x) (dy : iI y / iI 100 = iI lo) (my : iI y - iI lo * iI 100 = iI hi) (lz : 0 ≤ z ∧ z ≤ 1599 → 0 ≤ l ∧ l ≤ 15) :
    (¬ ((0 ≤ z ∧ z ≤ 1599) ∧ (1 ≤ w ∧ w ≤ 60) ∧ 0 ≤ y ∧ (0 ≤ g ∧ g ≤ 999) ∧ (lo ≤ x ∧ x ≤ hi) ∧ hi + w ≤ 100) → fX5_addThing N h 14 (iI z) (iI w) (iI y) (iI g) = some (iI (-1), h)) ∧ ((0 ≤ z ∧ z ≤ 1599) ∧ (1 ≤ w ∧ w ≤ 60) ∧ 0 ≤ y ∧ (0 ≤ g ∧ g ≤ 999) ∧ (lo ≤ x ∧ x ≤ hi) ∧ hi + w ≤ 100 → fX5_addThing N h 14 (iI z) (iI w) (iI y) (iI g) = some (if hasB (metB tl tw pa none l x w) 0 nt then (iI (-2), h) else if nt < 40 then (iI nt, thingH h nt l x w lo hi g) else (iI (-3), h))) := by
  have ww := v_isW (N := N) (h := h) (x := w) (a := 1) (b := 60) w1 w2 (by omega) (by omega) (by omega) (by omega)
  have wg := v_isW (N := N) (h := h) (x := g) (a := 0) (b := 999) g1 g2 (by omega) (by omega) (by omega) (by omega)
  have wx := v_isW (N := N) (h := h) (x := x) (a := lo) (b := hi) (by omega) (by omega) (by omega) (by omega) (by omega) (by omega)
  have st := v_isStage (N := N) (h := h) z1 z2
  have yl : iI y < iI 0 ↔ y < 0 := iI_lt y1 y2 (by omega) (by omega)
  have A1 : ∀ f1 f2 : Int, (¬ (0 ≤ z ∧ z ≤ 1599) ∨ f1 = 0 ∨ (f1 = 1 ∧ f2 = 0)) → fX5_addThing_b83 N 14 h (iI z) (iI w) (iI g) (iI l) (iI x) (iI lo) (iI hi) (iI f1) (iI f2) = some (iI (-1), h) := by
    intro f1 f2 q
    simp only [fX5_addThing_b83, fX5_addThing_b102, lit, iI_neg]
    by_cases q1 : 0 ≤ z ∧ z ≤ 1599
    · rw [if_pos q1] at st
      rcases q with q | q | ⟨q, q3⟩
      · exact absurd q1 q
      · subst q
        refine bst (st) ?_
        refine ifn (n10) ?_
        refine ifp (rfl) ?_
        rfl
      · subst q q3
        refine bst (st) ?_
        refine ifn (n10) ?_
        refine ifn (n10) ?_
        refine ifp (rfl) ?_
        rfl
    · rw [if_neg q1] at st
      refine bst (st) ?_
      refine ifp (rfl) ?_
      rfl
  have A2 : ∀ f1 : Int, f1 = 0 ∨ f1 = 1 → (f1 = 0 ∨ ((1 ≤ w ∧ w ≤ 60) ∧ ¬ ((0 ≤ z ∧ z ≤ 1599) ∧ 0 ≤ y ∧ (lo ≤ x ∧ x ≤ hi) ∧ hi + w ≤ 100))) → fX5_addThing_b51 N 14 h (iI z) (iI w) (iI y) (iI g) (iI l) (iI x) (iI lo) (iI hi) (iI f1) = some (iI (-1), h) := by
    intro f1 hf q
    simp only [fX5_addThing_b51, fX5_addThing_b82, lit]
    have B0 : fX5_addThing_b83 N 14 h (iI z) (iI w) (iI g) (iI l) (iI x) (iI lo) (iI hi) (iI f1) (iI 0) = some (iI (-1), h) := A1 f1 0 (by omega)
    by_cases q1 : lo ≤ x ∧ x ≤ hi
    · rw [if_pos q1] at wx
      by_cases q2 : y < 0
      · skip
        refine bst (wx) ?_
        refine ifn (n10) ?_
        refine ifp (yl.mpr q2) ?_
        exact B0
      · by_cases q3 : iI 100 < iI hi + iI w
        · skip
          refine bst (wx) ?_
          refine ifn (n10) ?_
          refine ifn (fun q => q2 (yl.mp q)) ?_
          refine ifp (q3) ?_
          exact B0
        · have B1 : fX5_addThing_b83 N 14 h (iI z) (iI w) (iI g) (iI l) (iI x) (iI lo) (iI hi) (iI f1) (iI 1) = some (iI (-1), h) := by
            apply A1
            rcases q with q | ⟨q, q5⟩
            · exact Or.inr (Or.inl q)
            · rw [iI_add] at q3
              have q6 : ¬ 100 < hi + w := fun q7 => q3 ((iI_lt (by omega) (by omega) (by omega) (by omega)).mpr q7)
              exact Or.inl (fun q7 => q5 ⟨q7, by omega, q1, by omega⟩)
          refine bst (wx) ?_
          refine ifn (n10) ?_
          refine ifn (fun q => q2 (yl.mp q)) ?_
          refine ifn (q3) ?_
          exact B1
    · rw [if_neg q1] at wx
      refine bst (wx) ?_
      refine ifp (rfl) ?_
      exact B0
  refine ⟨fun hn => ?_, fun hy => ?_⟩
  · simp only [fX5_addThing, fX5_addThing_b50, lit, dz, mz, dy, my, Option.bind_some]
    have C0 := A2 0 (Or.inl rfl) (Or.inl rfl)
    by_cases q1 : 1 ≤ w ∧ w ≤ 60
    · rw [if_pos q1] at ww
      by_cases q2 : 0 ≤ g ∧ g ≤ 999
      · rw [if_pos q2] at wg
        have C1 := A2 1 (Or.inr rfl) (Or.inr ⟨q1, fun q => hn ⟨q.1, q1, q.2.1, q2, q.2.2⟩⟩)
        refine bst (ww) ?_
        refine ifn (n10) ?_
        refine bst (wg) ?_
        refine ifn (n10) ?_
        exact C1
      · rw [if_neg q2] at wg
        refine bst (ww) ?_
        refine ifn (n10) ?_
        refine bst (wg) ?_
        refine ifp (rfl) ?_
        exact C0
    · rw [if_neg q1] at ww
      refine bst (ww) ?_
      refine ifp (rfl) ?_
      exact C0
  · obtain ⟨q1, q2, q3, q4, q5, q6⟩ := hy
    rw [if_pos q1] at st
    rw [if_pos q2] at ww
    rw [if_pos q4] at wg
    rw [if_pos q5] at wx
    have ll := lz q1
    have ic := v_isClear (N := N) hN hS hT (ex := none) (fun k q => by cases q) (l := l) (x := x) (w := w) (by omega) (by omega) (by omega) (by omega) (by omega) (by omega)
    have q7 : ¬ iI 100 < iI (hi + w) := fun q => by have := (iI_lt (by omega) (by omega) (by omega) (by omega)).mp q; omega
    have c1 := hT.1.1
    have c3 := hT.1.2.2
    have o7 : oI 5 7 h (some 14) = some (iI nt) := oIv (by rw [ss_14 hS]) c1
    have rc5 : rc 5 h (some 14) = some 14 := rcv (by rw [ss_14 hS])
    simp only [fX5_addThing, fX5_addThing_b51, fX5_addThing_b83, lit, iI_neg, dz, mz, dy, my, iI_add, Option.bind_some]
    by_cases m9 : hasB (metB tl tw pa none l x w) 0 nt = true
    · rw [if_pos m9] at ic ⊢
      refine bst (ww) ?_
      refine ifn (n10) ?_
      refine bst (wg) ?_
      refine ifn (n10) ?_
      refine bst (wx) ?_
      refine ifn (n10) ?_
      refine ifn (fun q => by have := yl.mp q; omega) ?_
      refine ifn (q7) ?_
      refine bst (st) ?_
      refine ifn (n10) ?_
      refine ifn (n10) ?_
      refine ifn (n10) ?_
      refine bst (rc5) ?_
      refine bst (ic) ?_
      refine ifp (rfl) ?_
      rfl
    · rw [if_neg m9] at ic ⊢
      by_cases n9 : nt < 40
      · rw [if_pos n9]
        have w4 : iI (nt : Int) < iI 40 := (iI_lt (by omega) (by omega) (by omega) (by omega)).mpr (by omega)
        have o7n : oI 5 7 (nw h (9, 0)) (some 14) = some (iI nt) := oIv (by rw [sh_nw (by omega), ss_14 hS]) (by rw [gI_nw (by omega)]; exact c1)
        have ti := v_thingI (N := N) hN (h := h) (nt := nt) (l := l) (x := x) (w := w) (lo := lo) (hi := hi) (g := g)
        have ko := Ke_thingO (h := h) (nt := nt) (l := l) (x := x) (w := w) (lo := lo) (hi := hi) (g := g)
        have so : (sh (thingO h nt l x w lo hi g) (sz h)).1 = 9 := by
          rw [show sh (thingO h nt l x w lo hi g) (sz h) = sh (nw (nw h (9, 0)) (20, 10)) (sz h) from rfl, sh_nw (by show sz h < sz h + 1; omega), sh_nwS]
        have go : gI (thingO h nt l x w lo hi g) 507 14 = iI nt := by
          rw [show gI (thingO h nt l x w lo hi g) 507 14 = gI (nw (nw h (9, 0)) (20, 10)) 507 14 from by simp [thingO, HR], gI_nw (by show 14 < sz h + 1; omega), gI_nw (by omega)]
          exact c1
        have tq : thingH h nt l x w lo hi g = uI (uQ (thingO h nt l x w lo hi g) 15 nt (some (sz h))) 507 14 (iI (nt + 1)) := rfl
        rw [tq]
        generalize thingO h nt l x w lo hi g = h0 at ti ko so go ⊢
        have hS0 := hS.e hz ko (by decide)
        have s14 : (sh (uQ h0 15 nt (some (sz h))) 14).1 = 5 := by
          rw [show sh (uQ h0 15 nt (some (sz h))) 14 = sh h0 14 from rfl, ss_14 hS0]
        refine bst (ww) ?_
        refine ifn (n10) ?_
        refine bst (wg) ?_
        refine ifn (n10) ?_
        refine bst (wx) ?_
        refine ifn (n10) ?_
        refine ifn (fun q => by have := yl.mp q; omega) ?_
        refine ifn (q7) ?_
        refine bst (st) ?_
        refine ifn (n10) ?_
        refine ifn (n10) ?_
        refine ifn (n10) ?_
        refine bst (rc5) ?_
        refine bst (ic) ?_
        refine ifn (n10) ?_
        refine bst (o7) ?_
        refine ifp (w4) ?_
        refine bst (sR_500_14 hS) ?_
        refine bst (o7) ?_
        refine bst (o7n) ?_
        refine bst (ti) ?_
        refine bst (sQv (ss_15 hS0) (by omega) (by omega) so) ?_
        refine bst (oIv s14 (v := iI nt) go) ?_
        refine bst (qIv s14) ?_
        rw [iI_add]
      · rw [if_neg n9]
        have w4 : ¬ iI (nt : Int) < iI 40 := fun q => by have := (iI_lt (by omega) (by omega) (by omega) (by omega)).mp q; omega
        refine bst (ww) ?_
        refine ifn (n10) ?_
        refine bst (wg) ?_
        refine ifn (n10) ?_
        refine bst (wx) ?_
        refine ifn (n10) ?_
        refine ifn (fun q => by have := yl.mp q; omega) ?_
        refine ifn (q7) ?_
        refine bst (st) ?_
        refine ifn (n10) ?_
        refine ifn (n10) ?_
        refine ifn (n10) ?_
        refine bst (rc5) ?_
        refine bst (ic) ?_
        refine ifn (n10) ?_
        refine bst (o7) ?_
        refine ifn (w4) ?_
        rfl
def sceneF (h : Hs) (nt i : Nat) : Nat → Int32 := fun j => if j % 40 = nt ∧ i ≤ j / 40 ∧ j / 40 < 10 then iI (-1) else aI h 48 j
def thingA (h : Hs) (nt : Nat) (l x w lo hi g : Int) : Hs := uA (uA (uA (uA (uA (uA h 30 nt (iI l)) 31 nt (iI w)) 32 nt (iI g)) 33 nt (iI x)) 34 nt (iI lo)) 35 nt (iI hi)
def thingE (h : Hs) (nt : Nat) : Hs := uI (uI (wA h 48 (sceneF h nt 0)) 1201 29 (iI (nt + 1))) 1243 29 (iI 0)
def thingM (h : Hs) (nt : Nat) (l x w lo hi g : Int) : Hs := thingE (thingA h nt l x w lo hi g) nt
theorem Kq_thingM {h : Hs} {nt : Nat} {l x w lo hi g : Int} : Kq [1201, 1243] [30, 31, 32, 33, 34, 35, 48] h (thingM h nt l x w lo hi g) := (((((((((Kq_rf.b _ _ _ (by decide)).b _ _ _ (by decide)).b _ _ _ (by decide)).b _ _ _ (by decide)).b _ _ _ (by decide)).b _ _ _ (by decide)).a _ _ (by decide)).u _ _ _ (by decide)).u _ _ _ (by decide))
theorem L_sceneM {N : Nat} {nt : Nat} (hn : nt < 40) : ∀ (d i : Nat) (fu : Nat) (h : Hs), Sk h → gI h 1201 29 = iI nt → i + d = 10 → d < fu → fX12_thing_b232 N 29 fu h (iI nt) (iI i) = some (iI nt, uI (uI (wA h 48 (sceneF h nt i)) 1201 29 (iI (nt + 1))) 1243 29 (iI 0)) := by
  intro d
  induction d with
  | zero =>
    intro i fu h hS c2 hi hf
    obtain ⟨fu, rfl⟩ : ∃ k, fu = k + 1 := ⟨fu - 1, by omega⟩
    show fX12_thing_b232_body N (fX12_thing_b232 N 29 fu) 29 h (iI nt) (iI i) = _
    have a1 : iI 10 ≤ iI (i : Int) := (iI_le (by omega) (by omega) (by omega) (by omega)).mpr (by omega)
    have ef : sceneF h nt i = aI h 48 := by
      funext j
      simp only [sceneF]
      rw [if_neg (by omega)]
    rw [ef, wA_self]
    have hS1 : Sk (uI h 1201 29 (iI ((nt : Int) + 1))) := hS.k (Kq_uI 1201 _ _)
    simp only [fX12_thing_b232_body, lit]
    refine ifp (a1) ?_
    refine bst (oIv (by rw [ss_29 hS]) c2) ?_
    refine bst (qIv (by rw [ss_29 hS])) ?_
    rw [iI_add]
    refine bst (qZv (v := 0) (by rw [ss_29 hS1]) (Or.inl rfl)) ?_
    rfl
  | succ d ih =>
    intro i fu h hS c2 hi hf
    obtain ⟨fu, rfl⟩ : ∃ k, fu = k + 1 := ⟨fu - 1, by omega⟩
    show fX12_thing_b232_body N (fX12_thing_b232 N 29 fu) 29 h (iI nt) (iI i) = _
    have a1 : ¬ iI 10 ≤ iI (i : Int) := fun q => by have := (iI_le (by omega) (by omega) (by omega) (by omega)).mp q; omega
    have e := ih (i + 1) fu (uA h 48 (40 * i + nt) (iI (-1))) (hS.k (Kq_uA 48 _ _)) c2 (by omega) (by omega)
    simp only [Int.natCast_add, Int.natCast_one] at e
    have ix : iI 40 * iI (i : Int) + iI (nt : Int) = iI ((40 * i + nt : Nat) : Int) := by rw [iI_mul, iI_add]; congr 1
    have ix2 : iI (i : Int) + iI 1 = iI ((i : Int) + 1) := by rw [iI_add]
    simp only [fX12_thing_b232_body, lit, iI_neg, ix, ix2, Option.bind_some]
    refine ifn (a1) ?_
    refine bst (sR_1228_29 hS) ?_
    refine bst (sAv (ss_48 hS) (by omega) (by omega)) ?_
    rw [e]
    have ef : wA (uA h 48 (40 * i + nt) (iI (-1))) 48 (sceneF (uA h 48 (40 * i + nt) (iI (-1))) nt (i + 1)) = wA h 48 (sceneF h nt i) := by
      rw [uA_wA, wA_wA]
      congr 1
      funext j
      simp only [sceneF, aI_wA, if_true]
      by_cases e1 : j = 40 * i + nt
      · rw [if_neg (by omega), if_pos e1, if_pos (by omega)]
      · by_cases e2 : j % 40 = nt ∧ i ≤ j / 40 ∧ j / 40 < 10
        · rw [if_pos (by omega), if_pos e2]
        · rw [if_neg (by omega), if_neg e1, if_neg e2]
    rw [ef]
theorem m_thing {N : Nat} (hN : 100000000 ≤ N) {h : Hs} (hS : Sk h) {nt : Nat} {tl tw pa : Nat → Int} (c2 : gI h 1201 29 = iI nt) (c3 : nt ≤ 40) (c4 : ∀ i, i < nt → (aI h 30 i = iI (tl i) ∧ aI h 31 i = iI (tw i) ∧ aI h 33 i = iI (pa i)) ∧ 0 ≤ tl i ∧ tl i ≤ 15 ∧ 1 ≤ tw i ∧ tw i ≤ 60 ∧ 0 ≤ pa i ∧ pa i ≤ 100) (z w y g l x lo hi : Int) (z1 : -2147483648 ≤ z) (z2 : z < 2147483648) (w1 : -2147483648 ≤ w) (w2 : w < 2147483648) (y1 : -2147483648 ≤ y) (y2 : y < 2147483648) (g1 : -2147483648 ≤ g) (g2 : g < 2147483648) (lo1 : -1000000000 ≤ lo) (lo2 : lo < 1000000000) (hi1 : -100 < hi) (hi2 : hi < 100) (x1 : -100 < x) (x2 : x < 100) (dz : iI z / iI 100 = iI l) (mz : iI z - iI l * iI 100 = iI x) (dy : iI y / iI 100 = iI lo) (my : iI y - iI lo * iI 100 = iI hi) (lz : 0 ≤ z ∧ z ≤ 1599 → 0 ≤ l ∧ l ≤ 15) (ly : 0 ≤ y → lo ≤ x → y ≤ 9999) :
    (¬ ((0 ≤ z ∧ z ≤ 1599) ∧ (1 ≤ w ∧ w ≤ 60) ∧ 0 ≤ y ∧ (0 ≤ g ∧ g ≤ 999) ∧ (lo ≤ x ∧ x ≤ hi) ∧ hi + w ≤ 100) → fX12_thing N h 29 (iI z) (iI w) (iI y) (iI g) = some (iI (-1), h)) ∧ ((0 ≤ z ∧ z ≤ 1599) ∧ (1 ≤ w ∧ w ≤ 60) ∧ 0 ≤ y ∧ (0 ≤ g ∧ g ≤ 999) ∧ (lo ≤ x ∧ x ≤ hi) ∧ hi + w ≤ 100 → fX12_thing N h 29 (iI z) (iI w) (iI y) (iI g) = if hasB (metB tl tw pa none l x w) 0 nt then some (iI (-2), h) else if nt < 40 then some (iI nt, thingM h nt l x w lo hi g) else some (iI (-3), h)) := by
  have wz := v_inW (N := N) (h := h) (x := z) (a := 0) (b := 1599) z1 z2 (by omega) (by omega) (by omega) (by omega)
  have ww := v_inW (N := N) (h := h) (x := w) (a := 1) (b := 60) w1 w2 (by omega) (by omega) (by omega) (by omega)
  have wy := v_inW (N := N) (h := h) (x := y) (a := 0) (b := 9999) y1 y2 (by omega) (by omega) (by omega) (by omega)
  have wg := v_inW (N := N) (h := h) (x := g) (a := 0) (b := 999) g1 g2 (by omega) (by omega) (by omega) (by omega)
  have xl : iI x < iI lo ↔ x < lo := iI_lt (by omega) (by omega) (by omega) (by omega)
  have hx : iI hi < iI x ↔ hi < x := iI_lt (by omega) (by omega) (by omega) (by omega)
  simp only [fX12_thing, fX12_thing_b44, fX12_thing_b81, lit, iI_neg, dz, mz, dy, my, iI_add, Option.bind_some]
  refine ⟨fun hn => ?_, fun hy => ?_⟩
  · by_cases q1 : 0 ≤ z ∧ z ≤ 1599
    · rw [if_pos q1] at wz
      by_cases q2 : 1 ≤ w ∧ w ≤ 60
      · rw [if_pos q2] at ww
        by_cases q3 : 0 ≤ y ∧ y ≤ 9999
        · rw [if_pos q3] at wy
          by_cases q4 : 0 ≤ g ∧ g ≤ 999
          · rw [if_pos q4] at wg
            by_cases q5 : x < lo
            · skip
              refine bst (wz) ?_
              refine ifn (n10) ?_
              refine bst (ww) ?_
              refine ifn (n10) ?_
              refine bst (wy) ?_
              refine ifn (n10) ?_
              refine bst (wg) ?_
              refine ifn (n10) ?_
              refine ifp (xl.mpr q5) ?_
              rfl
            · by_cases q6 : hi < x
              · skip
                refine bst (wz) ?_
                refine ifn (n10) ?_
                refine bst (ww) ?_
                refine ifn (n10) ?_
                refine bst (wy) ?_
                refine ifn (n10) ?_
                refine bst (wg) ?_
                refine ifn (n10) ?_
                refine ifn (fun q => q5 (xl.mp q)) ?_
                refine ifp (hx.mpr q6) ?_
                rfl
              · have q7 : ¬ iI (hi + w) ≤ iI 100 := fun q => hn ⟨q1, q2, q3.1, q4, by omega, (iI_le (by omega) (by omega) (by omega) (by omega)).mp q⟩
                refine bst (wz) ?_
                refine ifn (n10) ?_
                refine bst (ww) ?_
                refine ifn (n10) ?_
                refine bst (wy) ?_
                refine ifn (n10) ?_
                refine bst (wg) ?_
                refine ifn (n10) ?_
                refine ifn (fun q => q5 (xl.mp q)) ?_
                refine ifn (fun q => q6 (hx.mp q)) ?_
                refine ifn (q7) ?_
                rfl
          · rw [if_neg q4] at wg
            refine bst (wz) ?_
            refine ifn (n10) ?_
            refine bst (ww) ?_
            refine ifn (n10) ?_
            refine bst (wy) ?_
            refine ifn (n10) ?_
            refine bst (wg) ?_
            refine ifp (rfl) ?_
            rfl
        · rw [if_neg q3] at wy
          refine bst (wz) ?_
          refine ifn (n10) ?_
          refine bst (ww) ?_
          refine ifn (n10) ?_
          refine bst (wy) ?_
          refine ifp (rfl) ?_
          rfl
      · rw [if_neg q2] at ww
        refine bst (wz) ?_
        refine ifn (n10) ?_
        refine bst (ww) ?_
        refine ifp (rfl) ?_
        rfl
    · rw [if_neg q1] at wz
      refine bst (wz) ?_
      refine ifp (rfl) ?_
      rfl
  · obtain ⟨q1, q2, q3, q4, q5, q6⟩ := hy
    rw [if_pos q1] at wz
    rw [if_pos q2] at ww
    rw [if_pos ⟨q3, ly q3 q5.1⟩] at wy
    rw [if_pos q4] at wg
    have ll := lz q1
    have q7 : iI (hi + w) ≤ iI 100 := (iI_le (by omega) (by omega) (by omega) (by omega)).mpr q6
    have o1 : oI 12 1 h (some 29) = some (iI nt) := oIv (by rw [ss_29 hS]) c2
    have hE : ∀ fu, 0 < fu → fX12_thing_b86 N 29 fu h (iI z) (iI w) (iI y) (iI g) (iI x) (iI nt) = if nt < 40 then some (iI nt, thingM h nt l x w lo hi g) else some (iI (-3), h) := by
      intro fu hf
      obtain ⟨fu, rfl⟩ : ∃ k, fu = k + 1 := ⟨fu - 1, by omega⟩
      show fX12_thing_b86_body N (fX12_thing_b86 N 29 fu) 29 h (iI z) (iI w) (iI y) (iI g) (iI x) (iI nt) = _
      have r1 : iI (nt : Int) ≤ iI (nt : Int) := (iI_le (by omega) (by omega) (by omega) (by omega)).mpr (Int.le_refl _)
      simp only [fX12_thing_b86_body, lit, iI_neg, dz, mz, dy, my]
      by_cases n9 : nt < 40
      · rw [if_pos n9]
        have w4 : ¬ iI (nt : Int) = iI 40 := fun q => by have := (iI_eq (by omega) (by omega) (by omega) (by omega)).mp q; omega
        have hA := hS.k (Kq_uA 30 nt (iI l))
        have hB := hA.k (Kq_uA 31 nt (iI w))
        have hC := hB.k (Kq_uA 32 nt (iI g))
        have hD := hC.k (Kq_uA 33 nt (iI x))
        have hF := hD.k (Kq_uA 34 nt (iI lo))
        have hG := hF.k (Kq_uA 35 nt (iI hi))
        have sm := L_sceneM (N := N) n9 10 0 N _ hG c2 (by omega) (by omega)
        refine bst (o1) ?_
        refine ifp (r1) ?_
        refine bst (o1) ?_
        refine ifn (w4) ?_
        refine bst (o1) ?_
        refine bst (sR_1202_29 hS) ?_
        refine bst (sAv (ss_30 hS) (by omega) (by omega)) ?_
        refine bst (sR_1203_29 hA) ?_
        refine bst (sAv (ss_31 hA) (by omega) (by omega)) ?_
        refine bst (sR_1204_29 hB) ?_
        refine bst (sAv (ss_32 hB) (by omega) (by omega)) ?_
        refine bst (sR_1205_29 hC) ?_
        refine bst (sAv (ss_33 hC) (by omega) (by omega)) ?_
        refine bst (sR_1206_29 hD) ?_
        refine bst (sAv (ss_34 hD) (by omega) (by omega)) ?_
        refine bst (sR_1207_29 hF) ?_
        refine bst (sAv (ss_35 hF) (by omega) (by omega)) ?_
        exact sm
      · rw [if_neg n9]
        have w4 : iI (nt : Int) = iI 40 := by rw [show (nt : Int) = 40 by omega]
        refine bst (o1) ?_
        refine ifp (r1) ?_
        refine bst (o1) ?_
        refine ifp (w4) ?_
        rfl
    have lm := L_thingM (N := N) hS c2 c3 c4 (z := z) (y := y) (g := g) (l := l) (x := x) (w := w) (by omega) (by omega) (by omega) (by omega) (by omega) (by omega) dz hE nt 0 N (by omega) (by omega)
    simp only [Int.natCast_zero] at lm
    refine bst (wz) ?_
    refine ifn (n10) ?_
    refine bst (ww) ?_
    refine ifn (n10) ?_
    refine bst (wy) ?_
    refine ifn (n10) ?_
    refine bst (wg) ?_
    refine ifn (n10) ?_
    refine ifn (fun q => by have := xl.mp q; omega) ?_
    refine ifn (fun q => by have := hx.mp q; omega) ?_
    refine ifp (q7) ?_
    exact lm
theorem v_thingC {N : Nat} {h h1 : Hs} (hS : Sk h) (hS1 : Sk h1) {p1 p2 p3 p4 : Int32} {v : Int} (b1 : -2147483648 ≤ v) (b2 : v < 2147483648) (e : fX5_addThing N h 14 p1 p2 p3 p4 = some (iI v, h1)) : fX11_thing N h 0 p1 p2 p3 p4 = some (iI v, if v < 0 then h1 else uI h1 1106 0 (iI 0)) := by
  have d0 := v_deed (N := N) hS1 (r := iI v) (z := 0) (Or.inl rfl)
  have d1 := v_deed (N := N) hS1 (r := iI v) (z := 1) (Or.inr rfl)
  rw [if_neg (by decide)] at d0
  rw [if_pos rfl] at d1
  have lt : iI v < iI 0 ↔ v < 0 := iI_lt (by omega) (by omega) (by omega) (by omega)
  have rc1 : rc 11 h1 (some 0) = some 0 := rcv (by rw [ss_0 hS1])
  have rc5 : rc 5 h (some 14) = some 14 := rcv (by rw [ss_14 hS])
  simp only [fX11_thing, fX11_thing_b27, lit]
  by_cases w : v < 0
  · rw [if_pos w]
    refine bst (sR_1100_0 hS) ?_
    refine bst (rc5) ?_
    refine bst (e) ?_
    refine ifp (lt.mpr w) ?_
    refine bst (rc1) ?_
    refine bst (d0) ?_
    rfl
  · rw [if_neg w]
    refine bst (sR_1100_0 hS) ?_
    refine bst (rc5) ?_
    refine bst (e) ?_
    refine ifn (fun q => w (lt.mp q)) ?_
    refine bst (rc1) ?_
    refine bst (d1) ?_
    rfl
theorem thingO_old {h : Hs} {nt : Nat} {l x w lo hi g : Int} {a : Nat} (ha : a < sz h) : (∀ f, gI (thingO h nt l x w lo hi g) f a = gI h f a) ∧ (∀ f, gR (thingO h nt l x w lo hi g) f a = gR h f a) ∧ aI (thingO h nt l x w lo hi g) a = aI h a ∧ aR (thingO h nt l x w lo hi g) a = aR h a ∧ sh (thingO h nt l x w lo hi g) a = sh h a := by
  have n1 : ¬ a = sz h := by omega
  have n2 : ¬ a = sz h + 1 := by omega
  have lt2 : a < sz (nw h (9, 0)) := by show a < sz h + 1; omega
  refine ⟨fun f => ?_, fun f => ?_, ?_, ?_, ?_⟩
  · simp [thingO, HR, n1]
    rw [gI_nw lt2, gI_nw ha]
  · simp [thingO, HR, n1]
    rw [gR_nw lt2, gR_nw ha]
  · funext j
    simp [thingO, HR, n2]
    rw [aI_nw lt2, aI_nw ha]
  · simp [thingO, HR]
    rw [aR_nw lt2, aR_nw ha]
  · simp [thingO, HR]
    rw [sh_nw lt2, sh_nw ha]
theorem thingO_new {h : Hs} {nt : Nat} {l x w lo hi g : Int} : (gI (thingO h nt l x w lo hi g) 900 (sz h) = iI nt ∧ gI (thingO h nt l x w lo hi g) 901 (sz h) = iI l ∧ gI (thingO h nt l x w lo hi g) 902 (sz h) = iI w ∧ gI (thingO h nt l x w lo hi g) 903 (sz h) = iI g ∧ gI (thingO h nt l x w lo hi g) 904 (sz h) = iI lo ∧ gI (thingO h nt l x w lo hi g) 905 (sz h) = iI hi ∧ gI (thingO h nt l x w lo hi g) 907 (sz h) = iI x) ∧ (gR (thingO h nt l x w lo hi g) 906 (sz h) = some (sz h + 1) ∧ gR (thingO h nt l x w lo hi g) 909 (sz h) = none) ∧ (∀ s, s < 10 → aI (thingO h nt l x w lo hi g) (sz h + 1) s = iI (-1)) ∧ sh (thingO h nt l x w lo hi g) (sz h) = (9, 0) ∧ sh (thingO h nt l x w lo hi g) (sz h + 1) = (20, 10) ∧ sz (thingO h nt l x w lo hi g) = sz h + 2 := by
  have lt2 : sz h < sz (nw h (9, 0)) := by show sz h < sz h + 1; omega
  refine ⟨⟨?_, ?_, ?_, ?_, ?_, ?_, ?_⟩, ⟨?_, ?_⟩, fun s hs => ?_, ?_, ?_, rfl⟩
  · simp [thingO, HR]
  · simp [thingO, HR]
  · simp [thingO, HR]
  · simp [thingO, HR]
  · simp [thingO, HR]
  · simp [thingO, HR]
  · simp [thingO, HR]
  · simp [thingO, HR]
  · simp [thingO, HR]
    rw [gR_nw lt2, gR_nwS]
  · simp [thingO, HR, hs]
  · simp [thingO, HR]
    rw [sh_nw lt2, sh_nwS]
  · simp [thingO, HR]
    exact sh_nwS (nw h (9, 0)) (20, 10)
/-- both have made thing nt -/
def thingB (h : Hs) (nt : Nat) (l x w lo hi g : Int) : Hs := thingM (uI (thingH h nt l x w lo hi g) 1106 0 (iI 0)) nt l x w lo hi g
theorem Ke_thingB {h : Hs} {nt : Nat} {l x w lo hi g : Int} : Ke [507, 900, 901, 902, 903, 904, 905, 907, 1106, 1201, 1243] [30, 31, 32, 33, 34, 35, 48] [906] [15] h (thingB h nt l x w lo hi g) := by
  have k0 := Ke_thingH (h := h) (nt := nt) (l := l) (x := x) (w := w) (lo := lo) (hi := hi) (g := g)
  have k1 : Ke [507, 900, 901, 902, 903, 904, 905, 907, 1106, 1201, 1243] [30, 31, 32, 33, 34, 35, 48] [906] [15] h (thingH h nt l x w lo hi g) := ⟨fun f a q z => k0.1 f a (fun r => q (by simp at r ⊢; omega)) z, fun a q z => k0.2.1 a List.not_mem_nil z, k0.2.2.1, k0.2.2.2⟩
  exact (k1.u _ _ _ (by decide)).tr ((Kq_thingM.w (by decide) (fun _ q => q)).e)
theorem thingB_O {h : Hs} {nt : Nat} {l x w lo hi g : Int} : (∀ f a, f ∉ [507, 1106, 1201, 1243] → gI (thingB h nt l x w lo hi g) f a = gI (thingO h nt l x w lo hi g) f a) ∧ gR (thingB h nt l x w lo hi g) = gR (thingO h nt l x w lo hi g) ∧ sh (thingB h nt l x w lo hi g) = sh (thingO h nt l x w lo hi g) ∧ sz (thingB h nt l x w lo hi g) = sz h + 2 ∧ (∀ a, a ∉ [30, 31, 32, 33, 34, 35, 48] → aI (thingB h nt l x w lo hi g) a = aI (thingO h nt l x w lo hi g) a) := by
  have k := Kq_thingM (h := uI (thingH h nt l x w lo hi g) 1106 0 (iI 0)) (nt := nt) (l := l) (x := x) (w := w) (lo := lo) (hi := hi) (g := g)
  refine ⟨fun f a q => ?_, ?_, ?_, ?_, fun a q => ?_⟩
  · simp only [List.mem_cons, List.not_mem_nil, or_false, not_or] at q
    rw [thingB, k.1 f a (by simp; omega)]
    simp [thingH, HR, q.1, q.2.1]
  · rw [thingB, k.2.2.1]
    simp [thingH, HR]
  · rw [thingB, k.2.2.2.2.1]
    simp [thingH, HR]
  · rw [thingB, k.2.2.2.2.2]
    rfl
  · rw [thingB, k.2.1 a q]
    simp [thingH, HR]
theorem thingB_arr {h : Hs} {nt : Nat} {l x w lo hi g : Int} (hz : 70 ≤ sz h) : ((∀ j, aI (thingB h nt l x w lo hi g) 30 j = if j = nt then iI l else aI h 30 j) ∧ (∀ j, aI (thingB h nt l x w lo hi g) 31 j = if j = nt then iI w else aI h 31 j) ∧ (∀ j, aI (thingB h nt l x w lo hi g) 32 j = if j = nt then iI g else aI h 32 j) ∧ (∀ j, aI (thingB h nt l x w lo hi g) 33 j = if j = nt then iI x else aI h 33 j) ∧ (∀ j, aI (thingB h nt l x w lo hi g) 34 j = if j = nt then iI lo else aI h 34 j) ∧ (∀ j, aI (thingB h nt l x w lo hi g) 35 j = if j = nt then iI hi else aI h 35 j)) ∧ (∀ j, aI (thingB h nt l x w lo hi g) 48 j = if j % 40 = nt ∧ j / 40 < 10 then iI (-1) else aI h 48 j) ∧ (∀ j, aR (thingB h nt l x w lo hi g) 15 j = if j = nt then some (sz h) else aR h 15 j) ∧ gI (thingB h nt l x w lo hi g) 507 14 = iI (nt + 1) ∧ gI (thingB h nt l x w lo hi g) 1201 29 = iI (nt + 1) ∧ gI (thingB h nt l x w lo hi g) 1106 0 = iI 0 ∧ gI (thingB h nt l x w lo hi g) 1243 29 = iI 0 := by
  have o : ∀ a, a < 70 → aI (thingO h nt l x w lo hi g) a = aI h a := fun a q => (thingO_old (by omega)).2.2.1
  have o2 : aR (thingO h nt l x w lo hi g) 15 = aR h 15 := (thingO_old (by omega)).2.2.2.1
  refine ⟨⟨fun j => ?_, fun j => ?_, fun j => ?_, fun j => ?_, fun j => ?_, fun j => ?_⟩, fun j => ?_, fun j => ?_, ?_, ?_, ?_, ?_⟩
  · simp [thingB, thingM, thingE, thingA, thingH, HR, o]
  · simp [thingB, thingM, thingE, thingA, thingH, HR, o]
  · simp [thingB, thingM, thingE, thingA, thingH, HR, o]
  · simp [thingB, thingM, thingE, thingA, thingH, HR, o]
  · simp [thingB, thingM, thingE, thingA, thingH, HR, o]
  · simp [thingB, thingM, thingE, thingA, thingH, HR, o]
  · simp [thingB, thingM, thingE, thingA, thingH, sceneF, HR, o]
  · simp [thingB, thingM, thingE, thingA, thingH, HR, o2]
  · simp [thingB, thingM, thingE, thingA, thingH, HR]
  · simp [thingB, thingM, thingE, thingA, thingH, HR]
  · simp [thingB, thingM, thingE, thingA, thingH, HR]
  · simp [thingB, thingM, thingE, thingA, thingH, HR]
theorem RTh.add {h : Hs} {nt : Nat} {tA : Nat → Nat} {tl tw tg ls ms pa : Nat → Int} (hz : 70 ≤ sz h) (hC : RTh h nt tA tl tw tg ls ms pa) {l x w lo hi g : Int} (hn : nt < 40) (hb : 0 ≤ l ∧ l ≤ 15 ∧ 1 ≤ w ∧ w ≤ 60 ∧ 0 ≤ g ∧ g ≤ 999 ∧ 0 ≤ lo ∧ lo ≤ x ∧ x ≤ hi ∧ hi + w ≤ 100) : RTh (thingB h nt l x w lo hi g) (nt + 1) (updO tA nt (sz h)) (updO tl nt l) (updO tw nt w) (updO tg nt g) (updO ls nt lo) (updO ms nt hi) (updO pa nt x) := by
  obtain ⟨-, c4, c5⟩ := hC
  obtain ⟨bI, bR, bS, bZ, bA⟩ := thingB_O (h := h) (nt := nt) (l := l) (x := x) (w := w) (lo := lo) (hi := hi) (g := g)
  obtain ⟨⟨a0, a1, a2, a3, a4, a5⟩, a48, r15, n1, n2, -, -⟩ := thingB_arr (h := h) (nt := nt) (l := l) (x := x) (w := w) (lo := lo) (hi := hi) (g := g) hz
  obtain ⟨⟨f0, f1, f2, f3, f4, f5, f7⟩, -, -, s0, -⟩ := thingO_new (h := h) (nt := nt) (l := l) (x := x) (w := w) (lo := lo) (hi := hi) (g := g)
  refine ⟨⟨n1, n2, by omega⟩, fun i hi' => ?_, fun i j hi' hj' => ?_⟩
  · by_cases e : i = nt
    · subst e
      simp only [updO_s]
      refine ⟨⟨?_, hz, by omega, by rw [bS]; exact s0⟩, ⟨?_, ?_, ?_, ?_, ?_, ?_, ?_⟩, ⟨?_, ?_, ?_, ?_, ?_, ?_⟩, hb⟩
      · rw [r15, if_pos rfl]
      · rw [bI _ _ (by decide)]; exact f0
      · rw [bI _ _ (by decide)]; exact f1
      · rw [bI _ _ (by decide)]; exact f2
      · rw [bI _ _ (by decide)]; exact f3
      · rw [bI _ _ (by decide)]; exact f4
      · rw [bI _ _ (by decide)]; exact f5
      · rw [bI _ _ (by decide)]; exact f7
      · rw [a0, if_pos rfl]
      · rw [a1, if_pos rfl]
      · rw [a2, if_pos rfl]
      · rw [a3, if_pos rfl]
      · rw [a4, if_pos rfl]
      · rw [a5, if_pos rfl]
    · obtain ⟨⟨d1, d2, d3, d4⟩, ⟨g0, g1, g2, g3, g4, g5, g7⟩, ⟨m0, m1, m2, m3, m4, m5⟩, bb⟩ := c4 i (by omega)
      obtain ⟨oI', -, -, -, oS⟩ := thingO_old (h := h) (nt := nt) (l := l) (x := x) (w := w) (lo := lo) (hi := hi) (g := g) d3
      simp only [updO_n _ _ e]
      refine ⟨⟨?_, d2, by omega, by rw [bS, oS]; exact d4⟩, ⟨?_, ?_, ?_, ?_, ?_, ?_, ?_⟩, ⟨?_, ?_, ?_, ?_, ?_, ?_⟩, bb⟩
      · rw [r15, if_neg e]; exact d1
      · rw [bI _ _ (by decide), oI']; exact g0
      · rw [bI _ _ (by decide), oI']; exact g1
      · rw [bI _ _ (by decide), oI']; exact g2
      · rw [bI _ _ (by decide), oI']; exact g3
      · rw [bI _ _ (by decide), oI']; exact g4
      · rw [bI _ _ (by decide), oI']; exact g5
      · rw [bI _ _ (by decide), oI']; exact g7
      · rw [a0, if_neg e]; exact m0
      · rw [a1, if_neg e]; exact m1
      · rw [a2, if_neg e]; exact m2
      · rw [a3, if_neg e]; exact m3
      · rw [a4, if_neg e]; exact m4
      · rw [a5, if_neg e]; exact m5
  · by_cases e1 : i = nt
    · by_cases e2 : j = nt
      · intro _
        omega
      · have := (c4 j (by omega)).1.2.2.1
        subst e1
        rw [updO_s, updO_n _ _ e2]
        intro q9
        omega
    · by_cases e2 : j = nt
      · have := (c4 i (by omega)).1.2.2.1
        subst e2
        rw [updO_s, updO_n _ _ e1]
        intro q9
        omega
      · rw [updO_n _ _ e1, updO_n _ _ e2]
        exact c5 i j (by omega) (by omega)
theorem RSc.add {h : Hs} {nt : Nat} {tA sA : Nat → Nat} {ls ms : Nat → Int} {sc : Nat → Nat → Int} (hz : 70 ≤ sz h) (ht : ∀ i, i < nt → tA i < sz h) (hC : RSc h nt tA sA ls ms sc) {l x w lo hi g : Int} (hn : nt < 40) : RSc (thingB h nt l x w lo hi g) (nt + 1) (updO tA nt (sz h)) (updO sA nt (sz h + 1)) (updO ls nt lo) (updO ms nt hi) (updO sc nt (fun _ => -1)) := by
  obtain ⟨c1, c2⟩ := hC
  obtain ⟨bI, bR, bS, bZ, bA⟩ := thingB_O (h := h) (nt := nt) (l := l) (x := x) (w := w) (lo := lo) (hi := hi) (g := g)
  obtain ⟨-, a48, -⟩ := thingB_arr (h := h) (nt := nt) (l := l) (x := x) (w := w) (lo := lo) (hi := hi) (g := g) hz
  obtain ⟨-, ⟨f6, -⟩, fs, -, s1, -⟩ := thingO_new (h := h) (nt := nt) (l := l) (x := x) (w := w) (lo := lo) (hi := hi) (g := g)
  refine ⟨fun i hi' => ?_, fun i j hi' hj' => ?_⟩
  · by_cases e : i = nt
    · subst e
      simp only [updO_s]
      refine ⟨⟨by rw [bR]; exact f6, by omega, by omega, by rw [bS]; exact s1⟩, fun s hs => ⟨?_, ?_, Or.inl trivial⟩⟩
      · rw [bA _ (by simp; omega)]
        exact fs s hs
      · rw [a48, if_pos (by omega)]
    · obtain ⟨⟨d1, d2, d3, d4⟩, d5⟩ := c1 i (by omega)
      obtain ⟨-, oR', -, -, -⟩ := thingO_old (h := h) (nt := nt) (l := l) (x := x) (w := w) (lo := lo) (hi := hi) (g := g) (ht i (by omega))
      obtain ⟨-, -, oA, -, oS⟩ := thingO_old (h := h) (nt := nt) (l := l) (x := x) (w := w) (lo := lo) (hi := hi) (g := g) d3
      simp only [updO_n _ _ e]
      refine ⟨⟨by rw [bR, oR']; exact d1, d2, by omega, by rw [bS, oS]; exact d4⟩, fun s hs => ⟨?_, ?_, (d5 s hs).2.2⟩⟩
      · rw [bA _ (by simp; omega), oA]
        exact (d5 s hs).1
      · rw [a48, if_neg (by omega)]
        exact (d5 s hs).2.1
  · by_cases e1 : i = nt
    · by_cases e2 : j = nt
      · intro _
        omega
      · have := (c1 j (by omega)).1.2.2.1
        subst e1
        rw [updO_s, updO_n _ _ e2]
        intro q9
        omega
    · by_cases e2 : j = nt
      · have := (c1 i (by omega)).1.2.2.1
        subst e2
        rw [updO_s, updO_n _ _ e1]
        intro q9
        omega
      · rw [updO_n _ _ e1, updO_n _ _ e2]
        exact c2 i j (by omega) (by omega)
theorem RRo.addT {h : Hs} {nr nt : Nat} {rA tA rT : Nat → Nat} {wy gr hd : Nat → Int} {gn : Nat → Bool} (hz : 70 ≤ sz h) (hR : RRo h nr nt rA tA rT wy gr hd gn) {l x w lo hi g : Int} : RRo (thingB h nt l x w lo hi g) nr (nt + 1) rA (updO tA nt (sz h)) rT wy gr hd gn := by
  have r2 := hR.e hz (Ke_thingB (h := h) (nt := nt) (l := l) (x := x) (w := w) (lo := lo) (hi := hi) (g := g)) (by decide) (by decide) (by decide) (by decide)
  refine ⟨r2.1, fun r hr => ?_, r2.2.2⟩
  obtain ⟨d, ⟨f0, f1, ff⟩, m, q1, q2⟩ := r2.2.1 r hr
  refine ⟨d, ⟨f0, ?_, ff⟩, m, by omega, q2⟩
  rw [updO_n _ _ (by omega)]
  exact f1
theorem RTi.addT {h : Hs} {nt nd nr : Nat} {tA dA rA rT : Nat → Nat} {dr td : Nat → Option Nat} {sr dn : Nat → Int} (hz : 70 ≤ sz h) (ht : ∀ i, i < nt → tA i < sz h) (hr : ∀ r, r < nr → rA r < sz h ∧ rT r < nt) (hI : RTi h nt nd nr tA dA rA rT dr td sr dn) {l x w lo hi g : Int} : RTi (thingB h nt l x w lo hi g) (nt + 1) nd nr (updO tA nt (sz h)) dA rA rT dr (updO td nt none) sr dn := by
  have r2 := hI.e hz ht (fun r q => (hr r q).1) (Ke_thingB (h := h) (nt := nt) (l := l) (x := x) (w := w) (lo := lo) (hi := hi) (g := g)) (by decide) (by decide) (by decide)
  obtain ⟨bI, bR, bS, bZ, bA⟩ := thingB_O (h := h) (nt := nt) (l := l) (x := x) (w := w) (lo := lo) (hi := hi) (g := g)
  obtain ⟨-, ⟨-, f9⟩, -⟩ := thingO_new (h := h) (nt := nt) (l := l) (x := x) (w := w) (lo := lo) (hi := hi) (g := g)
  refine ⟨fun r hr' => ?_, fun i hi' => ?_⟩
  · obtain ⟨g1, g2, g3⟩ := r2.1 r hr'
    refine ⟨g1, g2, fun d hd => ?_⟩
    obtain ⟨e1, e2, e3, e4, e5, e6⟩ := g3 d hd
    refine ⟨e1, e2, e3, e4, e5, ?_⟩
    rw [updO_n _ _ (by have := (hr r hr').2; omega)]
    exact e6
  · by_cases e : i = nt
    · subst e
      rw [updO_s, updO_s]
      refine ⟨by rw [bR]; exact f9, fun r q => by cases q⟩
    · rw [updO_n _ _ e, updO_n _ _ e]
      exact r2.2 i (by omega)
theorem t_thing {N : Nat} (hN : 100000000 ≤ N) {h : Hs} (hS : Sk h) (hz : 70 ≤ sz h) {nr nt nd : Nat} {rA tA dA sA rT : Nat → Nat} {wy gr hd : Nat → Int} {gn : Nat → Bool} {tl tw tg ls ms pa : Nat → Int} {sc : Nat → Nat → Int} {dr td : Nat → Option Nat} {sr dn : Nat → Int} (hT : RTh h nt tA tl tw tg ls ms pa) (hC : RSc h nt tA sA ls ms sc) (hR : RRo h nr nt rA tA rT wy gr hd gn) (hI : RTi h nt nd nr tA dA rA rT dr td sr dn) (hB : ICan h) (p1 p2 p3 p4 : Int32) :
    ∃ (a : Int32) (h1 h2 : Hs), fX11_thing N h 0 p1 p2 p3 p4 = some (a, h1) ∧ fX12_thing N h1 29 p1 p2 p3 p4 = some (a, h2) ∧ ICan h2 ∧ Ke [507, 900, 901, 902, 903, 904, 905, 907, 1106, 1201, 1243] [30, 31, 32, 33, 34, 35, 48] [906] [15] h h2 ∧ sz h2 ≤ sz h + 2 ∧ (h2 = h ∨ ∃ l x w lo hi g : Int, nt < 40 ∧ gI h2 1106 0 = iI 0 ∧ hasB (metB tl tw pa none l x w) 0 nt = false ∧ RTh h2 (nt + 1) (updO tA nt (sz h)) (updO tl nt l) (updO tw nt w) (updO tg nt g) (updO ls nt lo) (updO ms nt hi) (updO pa nt x) ∧ RSc h2 (nt + 1) (updO tA nt (sz h)) (updO sA nt (sz h + 1)) (updO ls nt lo) (updO ms nt hi) (updO sc nt (fun _ => -1)) ∧ RRo h2 nr (nt + 1) rA (updO tA nt (sz h)) rT wy gr hd gn ∧ RTi h2 (nt + 1) nd nr (updO tA nt (sz h)) dA rA rT dr (updO td nt none) sr dn) := by
  obtain ⟨z, z1, z2, rfl⟩ := iI_ex p1
  obtain ⟨w, w1, w2, rfl⟩ := iI_ex p2
  obtain ⟨y, y1, y2, rfl⟩ := iI_ex p3
  obtain ⟨g, g1, g2, rfl⟩ := iI_ex p4
  have dz := iI_dv (a := z) (b := 100) z1 z2 (by omega) (by omega)
  have tz := td_cases z 100
  have dy := iI_dv (a := y) (b := 100) y1 y2 (by omega) (by omega)
  have ty := td_cases y 100
  obtain ⟨l, hl⟩ : ∃ l, l = z.tdiv 100 := ⟨_, rfl⟩
  obtain ⟨lo, hlo⟩ : ∃ lo, lo = y.tdiv 100 := ⟨_, rfl⟩
  rw [← hl] at dz tz
  rw [← hlo] at dy ty
  obtain ⟨x, hx⟩ : ∃ x, x = z - l * 100 := ⟨_, rfl⟩
  obtain ⟨hi, hhi⟩ : ∃ hi, hi = y - lo * 100 := ⟨_, rfl⟩
  have mz : iI z - iI l * iI 100 = iI x := by rw [iI_mul, iI_sub, hx]
  have my : iI y - iI lo * iI 100 = iI hi := by rw [iI_mul, iI_sub, hhi]
  have lo1 : -1000000000 ≤ lo := by omega
  have lo2 : lo < 1000000000 := by omega
  have hi1 : -100 < hi := by omega
  have hi2 : hi < 100 := by omega
  have x1 : -100 < x := by omega
  have x2 : x < 100 := by omega
  have lz : 0 ≤ z ∧ z ≤ 1599 → 0 ≤ l ∧ l ≤ 15 := by omega
  have ly : 0 ≤ y → lo ≤ x → y ≤ 9999 := by omega
  have ll : 0 ≤ y → 0 ≤ lo := by omega
  have c3 := hT.1.2.2
  have c4 : ∀ i, i < nt → (aI h 30 i = iI (tl i) ∧ aI h 31 i = iI (tw i) ∧ aI h 33 i = iI (pa i)) ∧ 0 ≤ tl i ∧ tl i ≤ 15 ∧ 1 ≤ tw i ∧ tw i ≤ 60 ∧ 0 ≤ pa i ∧ pa i ≤ 100 := fun i hi' => by
    obtain ⟨-, -, ⟨m0, m1, m2, m3, m4, m5⟩, bb⟩ := hT.2.1 i hi'
    exact ⟨⟨m0, m1, m3⟩, by omega⟩
  obtain ⟨cN, cY⟩ := c_thing hN hS hz hT z w y g l x lo hi z1 z2 w1 w2 y1 y2 g1 g2 lo1 lo2 hi1 hi2 x1 x2 dz mz dy my lz
  obtain ⟨mN, mY⟩ := m_thing hN hS hT.1.2.1 c3 c4 z w y g l x lo hi z1 z2 w1 w2 y1 y2 g1 g2 lo1 lo2 hi1 hi2 x1 x2 dz mz dy my lz ly
  by_cases ok : (0 ≤ z ∧ z ≤ 1599) ∧ (1 ≤ w ∧ w ≤ 60) ∧ 0 ≤ y ∧ (0 ≤ g ∧ g ≤ 999) ∧ (lo ≤ x ∧ x ≤ hi) ∧ hi + w ≤ 100
  · have e1 := cY ok
    have e2 := mY ok
    by_cases m9 : hasB (metB tl tw pa none l x w) 0 nt = true
    · rw [if_pos m9] at e1 e2
      have r1 := v_thingC hS hS (by omega) (by omega) e1
      rw [if_pos (by omega)] at r1
      exact ⟨_, h, h, r1, e2, hB, Ke_rf, by omega, Or.inl rfl⟩
    · rw [if_neg m9] at e1 e2
      by_cases n9 : nt < 40
      · rw [if_pos n9] at e1
        have k0 := Ke_thingH (h := h) (nt := nt) (l := l) (x := x) (w := w) (lo := lo) (hi := hi) (g := g)
        have hS1 := hS.e hz k0 (by decide)
        have r1 := v_thingC hS hS1 (by omega) (by omega) e1
        rw [if_neg (by omega)] at r1
        have k1 : Ke [507, 900, 901, 902, 903, 904, 905, 907, 1106] [] [906] [15] h (uI (thingH h nt l x w lo hi g) 1106 0 (iI 0)) := by
          have k2 : Ke [507, 900, 901, 902, 903, 904, 905, 907, 1106] [] [906] [15] h (thingH h nt l x w lo hi g) := ⟨fun f a q z => k0.1 f a (fun r => q (by simp at r ⊢; omega)) z, k0.2⟩
          exact k2.u _ _ _ (by decide)
        have hS2 := hS.e hz k1 (by decide)
        have c2' : gI (uI (thingH h nt l x w lo hi g) 1106 0 (iI 0)) 1201 29 = iI nt := by
          rw [k1.1 1201 29 (by decide) (by omega)]
          exact hT.1.2.1
        have c4' : ∀ i, i < nt → (aI (uI (thingH h nt l x w lo hi g) 1106 0 (iI 0)) 30 i = iI (tl i) ∧ aI (uI (thingH h nt l x w lo hi g) 1106 0 (iI 0)) 31 i = iI (tw i) ∧ aI (uI (thingH h nt l x w lo hi g) 1106 0 (iI 0)) 33 i = iI (pa i)) ∧ 0 ≤ tl i ∧ tl i ≤ 15 ∧ 1 ≤ tw i ∧ tw i ≤ 60 ∧ 0 ≤ pa i ∧ pa i ≤ 100 := fun i hi' => by
          rw [k1.2.1 30 (by decide) (by omega), k1.2.1 31 (by decide) (by omega), k1.2.1 33 (by decide) (by omega)]
          exact c4 i hi'
        have e3 := (m_thing hN hS2 c2' c3 c4' z w y g l x lo hi z1 z2 w1 w2 y1 y2 g1 g2 lo1 lo2 hi1 hi2 x1 x2 dz mz dy my lz ly).2 ok
        rw [if_neg m9, if_pos n9] at e3
        obtain ⟨-, -, -, -, -, b1, b2⟩ := thingB_arr (h := h) (nt := nt) (l := l) (x := x) (w := w) (lo := lo) (hi := hi) (g := g) hz
        have bz := (thingB_O (h := h) (nt := nt) (l := l) (x := x) (w := w) (lo := lo) (hi := hi) (g := g)).2.2.2.1
        obtain ⟨q1, q2, q3, q4, q5, q6⟩ := ok
        have lb := lz q1
        have lob := ll q3
        exact ⟨_, _, thingB h nt l x w lo hi g, r1, e3, ⟨0, b1, b2, Or.inl rfl⟩, Ke_thingB, by omega, Or.inr ⟨l, x, w, lo, hi, g, n9, b1, eq_false_of_ne_true m9, RTh.add hz hT n9 (by omega), RSc.add hz (fun i hi' => (hT.2.1 i hi').1.2.2.1) hC n9, RRo.addT hz hR, RTi.addT hz (fun i hi' => (hT.2.1 i hi').1.2.2.1) (fun r hr => ⟨(hR.2.1 r hr).1.2.2.1, (hR.2.1 r hr).2.2.2.1⟩) hI⟩⟩
      · rw [if_neg n9] at e1 e2
        have r1 := v_thingC hS hS (by omega) (by omega) e1
        rw [if_pos (by omega)] at r1
        exact ⟨_, h, h, r1, e2, hB, Ke_rf, by omega, Or.inl rfl⟩
  · have r1 := v_thingC hS hS (by omega) (by omega) (cN ok)
    rw [if_pos (by omega)] at r1
    exact ⟨_, h, h, r1, mN ok, hB, Ke_rf, by omega, Or.inl rfl⟩
/-! ===== stopped, told ===== -/
def IStp (h : Hs) : Prop := gI h 700 23 = gI h 1223 29 ∧ gI h 701 23 = gI h 1224 29 ∧ gI h 702 23 = gI h 1225 29
theorem IStp.e {F A FR AQ : List Nat} {h h2 : Hs} (hC : IStp h) (hz : 70 ≤ sz h) (k : Ke F A FR AQ h h2) (hF : ∀ f ∈ [700, 701, 702, 1223, 1224, 1225], f ∉ F) : IStp h2 := by
  obtain ⟨c1, c2, c3⟩ := hC
  refine ⟨?_, ?_, ?_⟩
  · rw [k.1 _ _ (hF 700 (by decide)) (by omega), k.1 _ _ (hF 1223 (by decide)) (by omega)]; exact c1
  · rw [k.1 _ _ (hF 701 (by decide)) (by omega), k.1 _ _ (hF 1224 (by decide)) (by omega)]; exact c2
  · rw [k.1 _ _ (hF 702 (by decide)) (by omega), k.1 _ _ (hF 1225 (by decide)) (by omega)]; exact c3
theorem t_stopped {N : Nat} {h : Hs} (hS : Sk h) (hC : IStp h) (p : Int32) : ∃ a, fX11_stopped N h 0 p = some (a, h) ∧ fX12_stopped N h 29 p = some (a, h) := by
  obtain ⟨c1, c2, c3⟩ := hC
  have rc7 : rc 7 h (some 23) = some 23 := rcv (by rw [ss_23 hS])
  have tl : ∀ a, fX7_tell N h 23 p = some (a, h) → fX11_stopped N h 0 p = some (a, h) := by
    intro a e
    simp only [fX11_stopped]
    refine bst (sR_1101_0 hS) ?_
    refine bst (sR_1001_22 hS) ?_
    refine bst (rc7) ?_
    refine bst (e) ?_
    rfl
  by_cases w0 : p = iI 0
  · refine ⟨gI h 1223 29, tl _ ?_, ?_⟩
    · simp only [fX7_tell, lit]
      refine ifp (w0) ?_
      refine bst (oIv (by rw [ss_23 hS]) c1) ?_
      rfl
    · simp only [fX12_stopped, lit]
      refine ifp (w0) ?_
      refine bst (oIv (by rw [ss_29 hS]) rfl) ?_
      rfl
  by_cases w1 : p = iI 1
  · refine ⟨gI h 1224 29, tl _ ?_, ?_⟩
    · simp only [fX7_tell, lit]
      refine ifn (w0) ?_
      refine ifp (w1) ?_
      refine bst (oIv (by rw [ss_23 hS]) c2) ?_
      rfl
    · simp only [fX12_stopped, lit]
      refine ifn (w0) ?_
      refine ifp (w1) ?_
      refine bst (oIv (by rw [ss_29 hS]) rfl) ?_
      rfl
  by_cases w2 : p = iI 2
  · refine ⟨gI h 1225 29, tl _ ?_, ?_⟩
    · simp only [fX7_tell, lit]
      refine ifn (w0) ?_
      refine ifn (w1) ?_
      refine ifp (w2) ?_
      refine bst (oIv (by rw [ss_23 hS]) c3) ?_
      rfl
    · simp only [fX12_stopped, lit]
      refine ifn (w0) ?_
      refine ifn (w1) ?_
      refine ifp (w2) ?_
      refine bst (oIv (by rw [ss_29 hS]) rfl) ?_
      rfl
  refine ⟨iI (-1), tl _ ?_, ?_⟩
  · simp only [fX7_tell, lit, iI_neg]
    refine ifn (w0) ?_
    refine ifn (w1) ?_
    refine ifn (w2) ?_
    rfl
  · simp only [fX12_stopped, lit, iI_neg]
    refine ifn (w0) ?_
    refine ifn (w1) ?_
    refine ifn (w2) ?_
    rfl
/-! ===== what a change has told: told, work ===== -/
def RChg (h : Hs) (nt na : Nat) (as no : Bool) (cr cd wk : Nat → Int) : Prop :=
  (gI h 104 25 = iI (b2 as) ∧ gI h 1229 29 = iI (b2 as)) ∧ (as = true → (gI h 105 25 = iI (b2 (!no)) ∧ gI h 1230 29 = iI (b2 no) ∧ gI h 1234 29 = iI na ∧ na ≤ nt) ∧ (∀ i, i < na → aI h 26 i = iI (cr i) ∧ aI h 49 i = iI (cr i) ∧ aI h 27 i = iI (cd i) ∧ aI h 50 i = iI (cd i)) ∧ (∀ i, na ≤ i → i < 40 → aI h 26 i = iI (-1) ∧ aI h 27 i = iI (-1)) ∧ (no = false → (∀ i, i < na → aI h 51 i = iI (wk i) ∧ (wk i = 0 ∨ wk i = 2 ∨ wk i = 3 ∨ wk i = 5)) ∧ gI h 106 25 = iI (cntB (fun i => decide (wk i = 2)) 0 na) ∧ gI h 107 25 = iI (cntB (fun i => decide (wk i = 3)) 0 na) ∧ gI h 108 25 = iI (cntB (fun i => decide (wk i = 5)) 0 na)))
theorem t_told {N : Nat} {h : Hs} (hS : Sk h) {nt na : Nat} {tA : Nat → Nat} {tl tw tg ls ms pa : Nat → Int} {as no : Bool} {cr cd wk : Nat → Int} (hT : RTh h nt tA tl tw tg ls ms pa) (hC : RChg h nt na as no cr cd wk) (p1 p2 : Int32) : ∃ a, fX11_told N h 0 p1 p2 = some (a, h) ∧ fX12_told N h 29 p1 p2 = some (a, h) := by
  obtain ⟨z, z1, z2, rfl⟩ := iI_ex p1
  obtain ⟨y, y1, y2, rfl⟩ := iI_ex p2
  obtain ⟨⟨c1, c2⟩, c3⟩ := hC
  have t3 := hT.1.2.2
  have rc1 : rc 1 h (some 25) = some 25 := rcv (by rw [ss_25 hS])
  have rc5 : rc 5 h (some 14) = some 14 := rcv (by rw [ss_14 hS])
  have tl : ∀ a, fX1_tieOf N h 25 (iI z) (iI y) = some (a, h) → fX11_told N h 0 (iI z) (iI y) = some (a, h) := by
    intro a e
    simp only [fX11_told]
    refine bst (sR_1102_0 hS) ?_
    refine bst (rc1) ?_
    refine bst (e) ?_
    rfl
  have wy := v_isW (N := N) (h := h) (x := y) (a := 0) (b := 1) y1 y2 (by omega) (by omega) (by omega) (by omega)
  have my := v_inW (N := N) (h := h) (x := y) (a := 0) (b := 1) y1 y2 (by omega) (by omega) (by omega) (by omega)
  have o4 : oI 1 4 h (some 25) = some (iI (b2 as)) := oIv (by rw [ss_25 hS]) c1
  have o29 : oI 12 29 h (some 29) = some (iI (b2 as)) := oIv (by rw [ss_29 hS]) c2
  have B0 : fX1_tieOf_b25 N 25 h (iI z) (iI y) (iI 0) = some (iI (-1), h) := by
    simp only [fX1_tieOf_b25, fX1_tieOf_b37, lit, iI_neg]
    by_cases q : iI (b2 as) = iI 0
    · skip
      refine bst (o4) ?_
      refine ifp (q) ?_
      rfl
    · skip
      refine bst (o4) ?_
      refine ifn (q) ?_
      refine ifp (trivial) ?_
      rfl
  have nt1 : ¬ (0 ≤ z ∧ z ≤ (nt : Int) - 1) ∨ ¬ (0 ≤ y ∧ y ≤ 1) → fX1_tieOf N h 25 (iI z) (iI y) = some (iI (-1), h) := by
    intro q
    simp only [fX1_tieOf, fX1_tieOf_b24, lit]
    by_cases q1 : 0 ≤ z ∧ z ≤ (nt : Int) - 1
    · obtain ⟨i, rfl⟩ : ∃ i : Nat, z = i := ⟨z.toNat, by omega⟩
      have et := v_thingY (N := N) hS hT (i := i) (by omega)
      rcases q with q | q
      · exact absurd q1 q
      · rw [if_neg q] at wy
        refine bst (sR_100_25 hS) ?_
        refine bst (rc5) ?_
        refine bst (et) ?_
        refine ifn (fun q => by cases q) ?_
        refine bst (wy) ?_
        refine ifp (rfl) ?_
        exact B0
    · have et := v_thingN (N := N) hS hT z1 z2 q1
      refine bst (sR_100_25 hS) ?_
      refine bst (rc5) ?_
      refine bst (et) ?_
      refine ifp (rfl) ?_
      exact B0
  cases has : as with
  | false =>
    rw [has] at o4 o29
    refine ⟨iI (-1), tl _ ?_, ?_⟩
    · by_cases q1 : 0 ≤ z ∧ z ≤ (nt : Int) - 1
      · by_cases q2 : 0 ≤ y ∧ y ≤ 1
        · obtain ⟨i, rfl⟩ : ∃ i : Nat, z = i := ⟨z.toNat, by omega⟩
          have et := v_thingY (N := N) hS hT (i := i) (by omega)
          rw [if_pos q2] at wy
          simp only [fX1_tieOf, fX1_tieOf_b25, fX1_tieOf_b37, lit, iI_neg]
          refine bst (sR_100_25 hS) ?_
          refine bst (rc5) ?_
          refine bst (et) ?_
          refine ifn (fun q => by cases q) ?_
          refine bst (wy) ?_
          refine ifn (n10) ?_
          refine bst (o4) ?_
          refine ifp (rfl) ?_
          rfl
        · exact nt1 (Or.inr q2)
      · exact nt1 (Or.inl q1)
    · simp only [fX12_told, fX12_told_b30, fX12_told_b53, lit, iI_neg]
      refine bst (o29) ?_
      refine ifp (rfl) ?_
      rfl
  | true =>
    obtain ⟨⟨k1, k2, k3, k4⟩, k5, k6, -⟩ := c3 has
    rw [has] at o4 o29
    have o4' : oI 1 4 h (some 25) = some (iI 1) := o4
    have o29' : oI 12 29 h (some 29) = some (iI 1) := o29
    have o34 : oI 12 34 h (some 29) = some (iI na) := oIv (by rw [ss_29 hS]) k3
    have mz := v_inW (N := N) (h := h) (x := z) (a := 0) (b := (na : Int) - 1) z1 z2 (by omega) (by omega) (by omega) (by omega)
    have sb : iI (na : Int) - iI 1 = iI ((na : Int) - 1) := by rw [iI_sub]
    by_cases q2 : 0 ≤ y ∧ y ≤ 1
    · rw [if_pos q2] at wy my
      by_cases q1 : 0 ≤ z ∧ z ≤ (nt : Int) - 1
      · obtain ⟨i, rfl⟩ : ∃ i : Nat, z = i := ⟨z.toNat, by omega⟩
        have et := v_thingY (N := N) hS hT (i := i) (by omega)
        have ye : iI y = iI 0 ↔ y = 0 := iI_eq y1 y2 (by omega) (by omega)
        have cl : ∀ v1 v2 : Int, aI h 26 i = iI v1 → aI h 27 i = iI v2 → fX1_tieOf N h 25 (iI i) (iI y) = some (iI (if y = 0 then v1 else v2), h) := by
          intro v1 v2 e1 e2
          simp only [fX1_tieOf, fX1_tieOf_b25, fX1_tieOf_b58, lit, iI_neg]
          by_cases y0 : y = 0
          · rw [if_pos y0]
            refine bst (sR_100_25 hS) ?_
            refine bst (rc5) ?_
            refine bst (et) ?_
            refine ifn (fun q => by cases q) ?_
            refine bst (wy) ?_
            refine ifn (n10) ?_
            refine bst (o4') ?_
            refine ifn (n10) ?_
            refine ifn (n10) ?_
            refine ifp (ye.mpr y0) ?_
            refine bst (sR_101_25 hS) ?_
            refine bst (lAv (ss_26 hS) (by omega) (by omega) e1) ?_
            rfl
          · rw [if_neg y0]
            refine bst (sR_100_25 hS) ?_
            refine bst (rc5) ?_
            refine bst (et) ?_
            refine ifn (fun q => by cases q) ?_
            refine bst (wy) ?_
            refine ifn (n10) ?_
            refine bst (o4') ?_
            refine ifn (n10) ?_
            refine ifn (n10) ?_
            refine ifn (fun q => y0 (ye.mp q)) ?_
            refine bst (sR_102_25 hS) ?_
            refine bst (lAv (ss_27 hS) (by omega) (by omega) e2) ?_
            rfl
        by_cases q3 : i < na
        · obtain ⟨r1, r2, r3, r4⟩ := k5 i q3
          rw [if_pos (by omega)] at mz
          refine ⟨_, tl _ (cl _ _ r1 r3), ?_⟩
          simp only [fX12_told, fX12_told_b30, fX12_told_b53, lit, iI_neg]
          by_cases y0 : y = 0
          · rw [if_pos y0]
            refine bst (o29') ?_
            refine ifn (n10) ?_
            refine bst (o34) ?_
            rw [sb]
            refine bst (mz) ?_
            refine ifn (n10) ?_
            refine bst (my) ?_
            refine ifn (n10) ?_
            refine ifp (ye.mpr y0) ?_
            refine bst (sR_1231_29 hS) ?_
            refine bst (lAv (ss_49 hS) (by omega) (by omega) r2) ?_
            rfl
          · rw [if_neg y0]
            refine bst (o29') ?_
            refine ifn (n10) ?_
            refine bst (o34) ?_
            rw [sb]
            refine bst (mz) ?_
            refine ifn (n10) ?_
            refine bst (my) ?_
            refine ifn (n10) ?_
            refine ifn (fun q => y0 (ye.mp q)) ?_
            refine bst (sR_1232_29 hS) ?_
            refine bst (lAv (ss_50 hS) (by omega) (by omega) r4) ?_
            rfl
        · obtain ⟨r1, r2⟩ := k6 i (by omega) (by omega)
          rw [if_neg (by omega)] at mz
          refine ⟨_, tl _ (cl _ _ r1 r2), ?_⟩
          have ez : (if y = 0 then (-1 : Int) else -1) = -1 := by by_cases y0 : y = 0 <;> simp [y0]
          rw [ez]
          simp only [fX12_told, fX12_told_b30, fX12_told_b53, lit, iI_neg]
          refine bst (o29') ?_
          refine ifn (n10) ?_
          refine bst (o34) ?_
          rw [sb]
          refine bst (mz) ?_
          refine ifp (rfl) ?_
          rfl
      · rw [if_neg (by omega)] at mz
        refine ⟨iI (-1), tl _ (nt1 (Or.inl q1)), ?_⟩
        simp only [fX12_told, fX12_told_b30, fX12_told_b53, lit, iI_neg]
        refine bst (o29') ?_
        refine ifn (n10) ?_
        refine bst (o34) ?_
        rw [sb]
        refine bst (mz) ?_
        refine ifp (rfl) ?_
        rfl
    · rw [if_neg q2] at wy my
      refine ⟨iI (-1), tl _ (nt1 (Or.inr q2)), ?_⟩
      simp only [fX12_told, fX12_told_b30, fX12_told_b53, lit, iI_neg]
      by_cases q3 : 0 ≤ z ∧ z ≤ (na : Int) - 1
      · rw [if_pos q3] at mz
        refine bst (o29') ?_
        refine ifn (n10) ?_
        refine bst (o34) ?_
        rw [sb]
        refine bst (mz) ?_
        refine ifn (n10) ?_
        refine bst (my) ?_
        refine ifp (rfl) ?_
        rfl
      · rw [if_neg q3] at mz
        refine bst (o29') ?_
        refine ifn (n10) ?_
        refine bst (o34) ?_
        rw [sb]
        refine bst (mz) ?_
        refine ifp (rfl) ?_
        rfl
def wS (z : Int) (wk : Nat → Int) (i d : Nat) : Int := if z = 0 then 2 * (cntB (fun i => decide (wk i = 2)) i d : Int) + 3 * (cntB (fun i => decide (wk i = 3)) i d : Int) + 5 * (cntB (fun i => decide (wk i = 5)) i d : Int) else (cntB (fun i => decide (wk i = 2)) i d : Int) + (cntB (fun i => decide (wk i = 3)) i d : Int) + (cntB (fun i => decide (wk i = 5)) i d : Int)
theorem L_work {N : Nat} {h : Hs} (hS : Sk h) {na : Nat} (hn : na ≤ 40) {wk : Nat → Int} (k3 : gI h 1234 29 = iI na) (k5 : ∀ i, i < na → aI h 51 i = iI (wk i) ∧ (wk i = 0 ∨ wk i = 2 ∨ wk i = 3 ∨ wk i = 5)) {z : Int} (hz : z = 0 ∨ z = 1) : ∀ (d i : Nat) (acc : Int) (fu : Nat), i + d = na → d < fu → fX12_work_b32 N 29 fu h (iI z) (iI acc) (iI i) = some (iI (acc + wS z wk i d), h) := by
  have o34 : oI 12 34 h (some 29) = some (iI na) := oIv (by rw [ss_29 hS]) k3
  intro d
  induction d with
  | zero =>
    intro i acc fu hi hf
    obtain ⟨fu, rfl⟩ : ∃ k, fu = k + 1 := ⟨fu - 1, by omega⟩
    show fX12_work_b32_body N (fX12_work_b32 N 29 fu) 29 h (iI z) (iI acc) (iI i) = _
    have a1 : iI (na : Int) ≤ iI (i : Int) := (iI_le (by omega) (by omega) (by omega) (by omega)).mpr (by omega)
    simp only [fX12_work_b32_body, lit]
    refine bst (o34) ?_
    refine ifp (a1) ?_
    simp [wS, cntB]
  | succ d ih =>
    intro i acc fu hi hf
    obtain ⟨fu, rfl⟩ : ∃ k, fu = k + 1 := ⟨fu - 1, by omega⟩
    show fX12_work_b32_body N (fX12_work_b32 N 29 fu) 29 h (iI z) (iI acc) (iI i) = _
    have a1 : ¬ iI (na : Int) ≤ iI (i : Int) := fun q => by have := (iI_le (by omega) (by omega) (by omega) (by omega)).mp q; omega
    obtain ⟨k6, k7⟩ := k5 i (by omega)
    have q := fun a => ih (i + 1) a fu (by omega) (by omega)
    simp only [Int.natCast_add, Int.natCast_one] at q
    have la := lAv (ss_51 hS) (show i < 40 by omega) (by omega) k6
    simp only [fX12_work_b32_body, fX12_work_b68, lit, iI_add, Option.bind_some]
    rcases hz with rfl | rfl
    · have e := q (acc + wk i)
      have e2 : iI acc + iI (wk i) = iI (acc + wk i) := by rw [iI_add]
      refine bst (o34) ?_
      refine ifn (a1) ?_
      refine ifp (rfl) ?_
      refine bst (sR_1233_29 hS) ?_
      refine bst (la) ?_
      rw [e2, e]
      congr 3
      simp only [wS, cntB, if_true]
      rcases k7 with k | k | k | k <;> simp [k] <;> omega
    · by_cases w0 : wk i = 0
      · have e := q (acc + 0)
        have w1 : iI (wk i) ≤ iI 0 := by rw [w0]; decide
        refine bst (o34) ?_
        refine ifn (a1) ?_
        refine ifn (n10) ?_
        refine bst (sR_1233_29 hS) ?_
        refine bst (la) ?_
        refine ifp (w1) ?_
        rw [e]
        congr 3
        simp only [wS, cntB]
        simp [w0]
      · have e := q (acc + 1)
        have w1 : ¬ iI (wk i) ≤ iI 0 := fun q => by have := (iI_le (by omega) (by omega) (by omega) (by omega)).mp q; omega
        refine bst (o34) ?_
        refine ifn (a1) ?_
        refine ifn (n10) ?_
        refine bst (sR_1233_29 hS) ?_
        refine bst (la) ?_
        refine ifn (w1) ?_
        rw [e]
        congr 3
        simp only [wS, cntB]
        rcases k7 with k | k | k | k
        · exact absurd k w0
        · simp [k]
          omega
        · simp [k]
          omega
        · simp [k]
          omega
theorem t_work {N : Nat} (hN : 100000000 ≤ N) {h : Hs} (hS : Sk h) {nt na : Nat} (hnt : nt ≤ 40) {as no : Bool} {cr cd wk : Nat → Int} (hC : RChg h nt na as no cr cd wk) (p1 : Int32) : ∃ a, fX11_work N h 0 p1 = some (a, h) ∧ fX12_work N h 29 p1 = some (a, h) := by
  obtain ⟨z, z1, z2, rfl⟩ := iI_ex p1
  obtain ⟨⟨c1, c2⟩, c3⟩ := hC
  have rc1 : rc 1 h (some 25) = some 25 := rcv (by rw [ss_25 hS])
  have tl : ∀ a, fX1_workFor N h 25 (iI z) = some (a, h) → fX11_work N h 0 (iI z) = some (a, h) := by
    intro a e
    simp only [fX11_work]
    refine bst (sR_1102_0 hS) ?_
    refine bst (rc1) ?_
    refine bst (e) ?_
    rfl
  have wz := v_isW (N := N) (h := h) (x := z) (a := 0) (b := 1) z1 z2 (by omega) (by omega) (by omega) (by omega)
  have mz := v_inW (N := N) (h := h) (x := z) (a := 0) (b := 1) z1 z2 (by omega) (by omega) (by omega) (by omega)
  cases has : as with
  | false =>
    rw [has] at c1 c2
    refine ⟨iI (-1), tl _ ?_, ?_⟩
    · simp only [fX1_workFor, fX1_workFor_b16, lit, iI_neg]
      refine bst (oIv (by rw [ss_25 hS]) c1) ?_
      refine ifp (rfl) ?_
      rfl
    · simp only [fX12_work, fX12_work_b16, lit, iI_neg]
      refine bst (oIv (by rw [ss_29 hS]) c2) ?_
      refine ifp (rfl) ?_
      rfl
  | true =>
    obtain ⟨⟨k1, k2, k3, k4⟩, -, -, k7⟩ := c3 has
    rw [has] at c1 c2
    have o4 : oI 1 4 h (some 25) = some (iI 1) := oIv (by rw [ss_25 hS]) c1
    have o29 : oI 12 29 h (some 29) = some (iI 1) := oIv (by rw [ss_29 hS]) c2
    by_cases w : 0 ≤ z ∧ z ≤ 1
    · rw [if_pos w] at wz mz
      cases hno : no with
      | true =>
        rw [hno] at k1 k2
        have o5 : oI 1 5 h (some 25) = some (iI 0) := oIv (by rw [ss_25 hS]) k1
        have o30 : oI 12 30 h (some 29) = some (iI 1) := oIv (by rw [ss_29 hS]) k2
        refine ⟨iI (-2), tl _ ?_, ?_⟩
        · simp only [fX1_workFor, fX1_workFor_b16, lit, iI_neg]
          refine bst (o4) ?_
          refine ifn (n10) ?_
          refine bst (wz) ?_
          refine ifn (n10) ?_
          refine bst (o5) ?_
          refine ifp (rfl) ?_
          rfl
        · simp only [fX12_work, fX12_work_b16, lit, iI_neg]
          refine bst (o29) ?_
          refine ifn (n10) ?_
          refine bst (mz) ?_
          refine ifn (n10) ?_
          refine bst (o30) ?_
          refine ifn (n10) ?_
          rfl
      | false =>
        obtain ⟨j1, j2, j3, j4⟩ := k7 hno
        rw [hno] at k1 k2
        have o5 : oI 1 5 h (some 25) = some (iI 1) := oIv (by rw [ss_25 hS]) k1
        have o30 : oI 12 30 h (some 29) = some (iI 0) := oIv (by rw [ss_29 hS]) k2
        have o6 : oI 1 6 h (some 25) = some (iI (cntB (fun i => decide (wk i = 2)) 0 na)) := oIv (by rw [ss_25 hS]) j2
        have o7 : oI 1 7 h (some 25) = some (iI (cntB (fun i => decide (wk i = 3)) 0 na)) := oIv (by rw [ss_25 hS]) j3
        have o8 : oI 1 8 h (some 25) = some (iI (cntB (fun i => decide (wk i = 5)) 0 na)) := oIv (by rw [ss_25 hS]) j4
        have lw := L_work (N := N) hS (by omega) k3 j1 (z := z) (by omega) na 0 0 N (by omega) (by omega)
        simp only [Int.natCast_zero, Int.zero_add] at lw
        refine ⟨iI (wS z wk 0 na), tl _ ?_, ?_⟩
        · simp only [fX1_workFor, fX1_workFor_b16, fX1_workFor_b59, fX1_works, lit, iI_neg]
          by_cases z0 : z = 0
          · subst z0
            refine bst (o4) ?_
            refine ifn (n10) ?_
            refine bst (wz) ?_
            refine ifn (n10) ?_
            refine bst (o5) ?_
            refine ifn (n10) ?_
            refine ifp (rfl) ?_
            refine bst (o6) ?_
            refine bst (o7) ?_
            refine bst (o8) ?_
            simp only [iI_mul, iI_add, wS, if_true]
          · have z9 : z = 1 := by omega
            subst z9
            have wf : ((oI 1 6 h (some 25)).bind fun v1 => (oI 1 7 h (some 25)).bind fun v2 => (oI 1 8 h (some 25)).bind fun v3 => some ((v1 + v2) + v3, h)) = some (iI (wS 1 wk 0 na), h) := by
              refine bst (o6) ?_
              refine bst (o7) ?_
              refine bst (o8) ?_
              simp only [iI_add, wS]
              simp
            refine bst (o4) ?_
            refine ifn (n10) ?_
            refine bst (wz) ?_
            refine ifn (n10) ?_
            refine bst (o5) ?_
            refine ifn (n10) ?_
            refine ifn (n10) ?_
            refine bst (rc1) ?_
            refine bst (wf) ?_
            rfl
        · simp only [fX12_work, fX12_work_b16, lit, iI_neg]
          refine bst (o29) ?_
          refine ifn (n10) ?_
          refine bst (mz) ?_
          refine ifn (n10) ?_
          refine bst (o30) ?_
          refine ifp (rfl) ?_
          exact lw
    · rw [if_neg w] at wz mz
      refine ⟨iI (-1), tl _ ?_, ?_⟩
      · simp only [fX1_workFor, fX1_workFor_b16, lit, iI_neg]
        refine bst (o4) ?_
        refine ifn (n10) ?_
        refine bst (wz) ?_
        refine ifp (rfl) ?_
        rfl
      · simp only [fX12_work, fX12_work_b16, lit, iI_neg]
        refine bst (o29) ?_
        refine ifn (n10) ?_
        refine bst (mz) ?_
        refine ifp (rfl) ?_
        rfl
/-! ===== where things stand after k steps: the class's trial places ===== -/
theorem v_quot {N : Nat} {h : Hs} {a b : Int} (a1 : -2147483648 ≤ a) (a2 : a < 2147483648) (b1 : 1 ≤ b) (b2 : b < 2147483648) : fX11_quotient N h (iI a) (iI b) = some (iI (a.tdiv b), h) := by
  have e : ¬ iI b = iI 0 := fun q => by have := (iI_eq (by omega) (by omega) (by omega) (by omega)).mp q; omega
  have d : dv (iI a) (iI b) = some (iI (a.tdiv b)) := by
    have e0 : ¬ iI b = 0 := e
    rw [dv, if_neg e0]
    by_cases w : b = 1
    · subst w
      rw [Int.tdiv_one]
      have : iI a / iI 1 = iI a := Int32.div_one
      rw [this]
    · rw [iI_dv a1 a2 (by omega) b2]
  simp only [fX11_quotient, fX11_quotient_b11, lit]
  refine ifn (e) ?_
  refine bst (d) ?_
  rfl
/-- the place of rope r's thing when its drum has gone k steps more -/
def rpl (wy gr sr dn : Nat → Int) (sd : Int) (r : Nat) (k : Int) : Int := sr r + wy r * (dn r + sd * k).tdiv (100 * gr r)
theorem v_placeFrom {N : Nat} {h : Hs} {nr nt : Nat} {rA tA rT : Nat → Nat} {wy gr hd : Nat → Int} {gn : Nat → Bool} (hR : RRo h nr nt rA tA rT wy gr hd gn) {r : Nat} (hr : r < nr) {p q : Int} (q1 : -2147483648 ≤ q) (q2 : q < 2147483648) : fX4_placeFrom N h (rA r) (iI p) (iI q) = some (iI (p + wy r * q.tdiv (100 * gr r)), h) := by
  obtain ⟨⟨-, -, -, d4⟩, ⟨f0, f1, f2, f3, f4, f8⟩, -, q0, q3⟩ := hR.2.1 r hr
  have vq := v_quot (N := N) (h := h) (a := q) (b := 100 * gr r) q1 q2 (by omega) (by omega)
  have e : iI 100 * iI (gr r) = iI (100 * gr r) := by rw [iI_mul]
  simp only [fX4_placeFrom, lit]
  refine bst (oIv (by rw [d4]) f2) ?_
  refine bst (oIv (by rw [d4]) f3) ?_
  rw [e]
  refine bst (vq) ?_
  rw [iI_mul, iI_add]
theorem v_doneAfter {N : Nat} {h : Hs} {nr nt nd : Nat} {rA tA dA rT : Nat → Nat} {wy gr hd ds : Nat → Int} {gn : Nat → Bool} {dr td : Nat → Option Nat} {sr dn : Nat → Int} (hR : RRo h nr nt rA tA rT wy gr hd gn) (hD : RDr h nd dA ds) (hC : RTc h nt nr tA dA rA dr td sr dn) {r d : Nat} (hr : r < nr) (hdr : dr r = some d) (hd' : d < nd) {k : Int} : fX4_doneAfter N h (rA r) (iI k) = some (iI (dn r + ds d * k), h) := by
  obtain ⟨⟨-, -, -, d4⟩, -⟩ := hR.2.1 r hr
  obtain ⟨⟨-, -, -, t4⟩, ⟨-, t1⟩, -⟩ := hD.2.1 d hd'
  obtain ⟨g1, g2⟩ := hC.1 r hr
  have g3 := (g2 (by rw [hdr]; exact fun q => by cases q)).2
  rw [hdr] at g1
  have o5 : oR 4 5 h (some (rA r)) = some (some (dA d)) := oRv (by rw [d4]) g1
  simp only [fX4_doneAfter, fX4_doneAfter_b28]
  refine bst (o5) ?_
  refine ifn (fun q => by cases q) ?_
  refine bst (oIv (by rw [d4]) g3) ?_
  refine bst (o5) ?_
  refine bst (oIv (by rw [t4]) t1) ?_
  rw [iI_mul, iI_add]
/-- trial places written for things i .. i+d-1 -/
def plH (tA : Nat → Nat) (tp : Nat → Int) : Nat → Nat → Hs → Hs
  | _, 0, h => h
  | i, d + 1, h => plH tA tp (i + 1) d (uI h 908 (tA i) (iI (tp i)))
theorem Ke_plH (tA : Nat → Nat) (tp : Nat → Int) : ∀ (d i : Nat) (h : Hs), Ke [908] [] [] [] h (plH tA tp i d h)
  | 0, _, _ => Ke_rf
  | d + 1, i, h => (Ke_rf.u 908 (tA i) (iI (tp i)) (by decide)).tr (Ke_plH tA tp d (i + 1) _)
theorem sz_plH (tA : Nat → Nat) (tp : Nat → Int) : ∀ (d i : Nat) (h : Hs), sz (plH tA tp i d h) = sz h
  | 0, _, _ => rfl
  | d + 1, i, h => (sz_plH tA tp d (i + 1) _).trans rfl
theorem plH_not (tA : Nat → Nat) (tp : Nat → Int) : ∀ (d i : Nat) (h : Hs) (a : Nat), (∀ j, i ≤ j → j < i + d → tA j ≠ a) → gI (plH tA tp i d h) 908 a = gI h 908 a
  | 0, _, _, _, _ => rfl
  | d + 1, i, h, a, q => by
    have e := plH_not tA tp d (i + 1) (uI h 908 (tA i) (iI (tp i))) a (fun j h1 h2 => q j (by omega) (by omega))
    have n : ¬ a = tA i := fun z => q i (by omega) (by omega) z.symm
    rw [plH, e]
    simp [HR, n]
theorem plH_at (tA : Nat → Nat) (tp : Nat → Int) {nt : Nat} (ti : ∀ i j, i < nt → j < nt → tA i = tA j → i = j) : ∀ (d i : Nat) (h : Hs) (j : Nat), i + d = nt → i ≤ j → j < nt → gI (plH tA tp i d h) 908 (tA j) = iI (tp j)
  | 0, i, h, j, q1, q2, q3 => by omega
  | d + 1, i, h, j, q1, q2, q3 => by
    by_cases e : j = i
    · subst e
      rw [plH, plH_not tA tp d (j + 1) _ _ (fun m h1 h2 z => by have := ti m j (by omega) (by omega) z; omega)]
      simp [HR]
    · rw [plH]
      exact plH_at tA tp ti d (i + 1) _ j (by omega) (by omega) q3
/-- thing i's place after k steps -/
def tpl (pa wy gr sr dn ds : Nat → Int) (dr td : Nat → Option Nat) (k : Int) (i : Nat) : Int := match td i with
  | none => pa i
  | some r => match dr r with
    | none => pa i
    | some d => rpl wy gr sr dn (ds d) r k
theorem L_place {N : Nat} {nr nt nd : Nat} {rA tA dA rT : Nat → Nat} {wy gr hd ds : Nat → Int} {gn : Nat → Bool} {tl tw tg ls ms pa : Nat → Int} {dr td : Nat → Option Nat} {sr dn : Nat → Int} (hL : RTl nt nd nr rT dr td) {k : Int} (k1 : -100000 ≤ k) (k2 : k ≤ 100000) (hdn : ∀ r, r < nr → dr r ≠ none → -1000000000 ≤ dn r ∧ dn r ≤ 1000000000) : ∀ (d i : Nat) (fu : Nat) (h : Hs), Sk h → 70 ≤ sz h → RTh h nt tA tl tw tg ls ms pa → RDr h nd dA ds → RRo h nr nt rA tA rT wy gr hd gn → RTc h nt nr tA dA rA dr td sr dn → i + d = nt → d < fu → fX5_place_b2 N 14 fu h (iI k) (iI i) = some (plH tA (tpl pa wy gr sr dn ds dr td k) i d h) := by
  intro d
  induction d with
  | zero =>
    intro i fu h hS hz hT hD hR hC hi hf
    obtain ⟨fu, rfl⟩ : ∃ m, fu = m + 1 := ⟨fu - 1, by omega⟩
    show fX5_place_b2_body N (fX5_place_b2 N 14 fu) 14 h (iI k) (iI i) = _
    have c3 := hT.1.2.2
    have o7 : oI 5 7 h (some 14) = some (iI nt) := oIv (by rw [ss_14 hS]) hT.1.1
    have a1 : iI (nt : Int) ≤ iI (i : Int) := (iI_le (by omega) (by omega) (by omega) (by omega)).mpr (by omega)
    simp only [fX5_place_b2_body]
    refine bst (o7) ?_
    refine ifp (a1) ?_
    rfl
  | succ d ih =>
    intro i fu h hS hz hT hD hR hC hi hf
    obtain ⟨fu, rfl⟩ : ∃ m, fu = m + 1 := ⟨fu - 1, by omega⟩
    show fX5_place_b2_body N (fX5_place_b2 N 14 fu) 14 h (iI k) (iI i) = _
    have c3 := hT.1.2.2
    have cd := hD.1.2.2
    have o7 : oI 5 7 h (some 14) = some (iI nt) := oIv (by rw [ss_14 hS]) hT.1.1
    have a1 : ¬ iI (nt : Int) ≤ iI (i : Int) := fun q => by have := (iI_le (by omega) (by omega) (by omega) (by omega)).mp q; omega
    obtain ⟨⟨d1, d2, d3, d4⟩, ⟨g0, g1, g2, g3, g4, g5, g7⟩, -, bb⟩ := hT.2.1 i (by omega)
    have g9 := hC.2 i (by omega)
    have o9 : oR 9 9 h (some (tA i)) = some ((td i).map rA) := oRv (by rw [d4]) g9
    have lq : lQ 23 h (some 15) (iI i) = some (some (tA i)) := lQv (ss_15 hS) (by omega) (by omega) d1
    have ix2 : iI (i : Int) + iI 1 = iI ((i : Int) + 1) := by rw [iI_add]
    have nx : ∀ v : Int, fX5_place_b2 N 14 fu (uI h 908 (tA i) (iI v)) (iI k) (iI ((i : Int) + 1)) = some (plH tA (tpl pa wy gr sr dn ds dr td k) (i + 1) d (uI h 908 (tA i) (iI v))) := by
      intro v
      have ke : Ke [908] [] [] [] h (uI h 908 (tA i) (iI v)) := Ke_rf.u _ _ _ (by decide)
      have e := ih (i + 1) fu (uI h 908 (tA i) (iI v)) (hS.e hz ke (by decide)) hz (hT.e hz ke (by decide) (by decide) (by decide)) (hD.e hz ke (by decide) (by decide) (by decide)) (hR.e hz ke (by decide) (by decide) (by decide) (by decide)) (hC.e (fun i hi => (hT.2.1 i hi).1.2.2.1) (fun r hr => (hR.2.1 r hr).1.2.2.1) ke (by decide) (by decide)) (by omega) (by omega)
      simp only [Int.natCast_add, Int.natCast_one] at e
      exact e
    simp only [fX5_place_b2_body, fX5_place_b52, lit, ix2, Option.bind_some, plH]
    have q8 : ∀ v : Int32, qI 9 8 h (some (tA i)) v = some (uI h 908 (tA i) v) := fun v => qIv (by rw [d4])
    cases htd : td i with
    | none =>
      rw [htd] at o9
      have et : tpl pa wy gr sr dn ds dr td k i = pa i := by simp [tpl, htd]
      rw [et]
      refine bst (o7) ?_
      refine ifn (a1) ?_
      refine bst (sR_500_14 hS) ?_
      refine bst (lq) ?_
      refine bst (o9) ?_
      refine ifp (rfl) ?_
      refine bst (oIv (by rw [d4]) g7) ?_
      refine bst (q8 _) ?_
      exact nx _
    | some r =>
      obtain ⟨hr, hrt, hne⟩ := hL.2 i r (by omega) htd
      obtain ⟨e, hde⟩ := Option.ne_none_iff_exists'.mp hne
      have hel := (hL.1 r e hr hde).1
      rw [htd] at o9
      have et : tpl pa wy gr sr dn ds dr td k i = rpl wy gr sr dn (ds e) r k := by simp [tpl, htd, hde]
      rw [et]
      obtain ⟨⟨-, -, -, r4⟩, -⟩ := hR.2.1 r hr
      have g6 := ((hC.1 r hr).2 hne).1
      have da := v_doneAfter (N := N) hR hD hC hr hde hel (k := k)
      have b1 := hdn r hr hne
      have b2' := (hD.2.1 e hel).2.2.2
      have b3 : -2000000 ≤ ds e * k ∧ ds e * k ≤ 2000000 := by
        constructor
        · have := Int.mul_le_mul_of_nonneg_left k1 (show 0 ≤ ds e by omega)
          have := Int.mul_le_mul_of_nonneg_left (show -100000 ≤ (0 : Int) by omega) (show 0 ≤ ds e by omega)
          omega
        · have := Int.mul_le_mul_of_nonneg_left k2 (show 0 ≤ ds e by omega)
          omega
      have pf := v_placeFrom (N := N) hR hr (p := sr r) (q := dn r + ds e * k) (by omega) (by omega)
      have rc4 : rc 4 h (some (rA r)) = some (rA r) := rcv (by rw [r4])
      refine bst (o7) ?_
      refine ifn (a1) ?_
      refine bst (sR_500_14 hS) ?_
      refine bst (lq) ?_
      refine bst (o9) ?_
      refine ifn (fun q => by cases q) ?_
      refine bst (oIv (by rw [r4]) g6) ?_
      refine bst (rc4) ?_
      refine bst (da) ?_
      refine bst (rc4) ?_
      refine bst (pf) ?_
      refine bst (q8 _) ?_
      exact nx _
/-! ===== the pull ===== -/
def sumF (f : Nat → Int) (i : Nat) : Nat → Int
  | 0 => 0
  | d + 1 => f i + sumF f (i + 1) d
theorem sumF_z (f : Nat → Int) (i : Nat) : sumF f i 0 = 0 := rfl
theorem sumF_congr {f g : Nat → Int} : ∀ (d i : Nat), (∀ j, i ≤ j → j < i + d → f j = g j) → sumF f i d = sumF g i d
  | 0, _, _ => rfl
  | d + 1, i, q => by
    rw [sumF, sumF, q i (by omega) (by omega), sumF_congr d (i + 1) (fun j h1 h2 => q j (by omega) (by omega))]
/-- what rope r pulls where its thing stands at p -/
def tq (wy gr sr tg ds : Nat → Int) (rT : Nat → Nat) (dr : Nat → Option Nat) (r : Nat) (p : Int) : Int := match dr r with
  | none => 0
  | some d => wy r * (tg (rT r) * ds d).tdiv (gr r) + tg (rT r) * (p - sr r)
theorem tgds {a b : Int} (a1 : 0 ≤ a) (a2 : a ≤ 999) (b1 : 1 ≤ b) (b2 : b ≤ 20) : 0 ≤ a * b ∧ a * b ≤ 19980 := by
  constructor
  · exact Int.mul_nonneg a1 (by omega)
  · have := Int.mul_le_mul_of_nonneg_left b2 a1
    omega
theorem v_pullAt {N : Nat} {h : Hs} {nr nt nd : Nat} {rA tA dA rT : Nat → Nat} {wy gr hd ds : Nat → Int} {gn : Nat → Bool} {tl tw tg ls ms pa : Nat → Int} {dr td : Nat → Option Nat} {sr dn : Nat → Int} (hT : RTh h nt tA tl tw tg ls ms pa) (hD : RDr h nd dA ds) (hR : RRo h nr nt rA tA rT wy gr hd gn) (hC : RTc h nt nr tA dA rA dr td sr dn) (hL : RTl nt nd nr rT dr td) {r : Nat} (hr : r < nr) {p : Int} : fX4_pullAt N h (rA r) (iI p) = some (iI (tq wy gr sr tg ds rT dr r p), h) := by
  obtain ⟨⟨-, -, -, d4⟩, ⟨f0, f1, f2, f3, f4, f8⟩, -, q1, q2, q3, q4, q5⟩ := hR.2.1 r hr
  obtain ⟨⟨-, -, -, t4⟩, ⟨g0, g1, g2, g3, g4, g5, g7⟩, -, bb⟩ := hT.2.1 (rT r) q1
  obtain ⟨c1, c2⟩ := hC.1 r hr
  simp only [fX4_pullAt, lit]
  cases hdr : dr r with
  | none =>
    rw [hdr] at c1
    refine bst (oRv (by rw [d4]) c1) ?_
    refine ifp (rfl) ?_
    simp [tq, hdr]
  | some d =>
    have hdl := (hL.1 r d hr hdr).1
    obtain ⟨⟨-, -, -, e4⟩, ⟨-, e1⟩, -, e5, e6⟩ := hD.2.1 d hdl
    have c3 := (c2 (by rw [hdr]; exact fun q => by cases q)).1
    rw [hdr] at c1
    have bd := tgds (a := tg (rT r)) (b := ds d) (by omega) (by omega) e5 e6
    have o5 : oR 4 5 h (some (rA r)) = some (some (dA d)) := oRv (by rw [d4]) c1
    have vq := v_quot (N := N) (h := h) (a := tg (rT r) * ds d) (b := gr r) (by omega) (by omega) (by omega) (by omega)
    have em : iI (tg (rT r)) * iI (ds d) = iI (tg (rT r) * ds d) := by rw [iI_mul]
    refine bst (o5) ?_
    refine ifn (fun q => by cases q) ?_
    refine bst (oIv (by rw [d4]) f2) ?_
    refine bst (oRv (by rw [d4]) f1) ?_
    refine bst (oIv (by rw [t4]) g3) ?_
    refine bst (o5) ?_
    refine bst (oIv (by rw [e4]) e1) ?_
    refine bst (oIv (by rw [d4]) f3) ?_
    rw [em]
    refine bst (vq) ?_
    refine bst (oRv (by rw [d4]) f1) ?_
    refine bst (oIv (by rw [t4]) g3) ?_
    refine bst (oIv (by rw [d4]) c3) ?_
    simp only [iI_mul, iI_sub, iI_add, tq, hdr]
theorem L_trialW {N : Nat} {h : Hs} (hS : Sk h) {cw : Nat → Int} (hW : ∀ i, i < 20 → aI h 18 i = iI (cw i)) : ∀ (d i : Nat) (c : Int) (fu : Nat), i + d = 20 → d < fu → fX5_trialPull_b44 N 14 fu h (iI c) (iI i) = some (iI (c + sumF cw i d), h) := by
  intro d
  induction d with
  | zero =>
    intro i c fu hi hf
    obtain ⟨fu, rfl⟩ : ∃ m, fu = m + 1 := ⟨fu - 1, by omega⟩
    show fX5_trialPull_b44_body N (fX5_trialPull_b44 N 14 fu) 14 h (iI c) (iI i) = _
    have a1 : iI 20 ≤ iI (i : Int) := (iI_le (by omega) (by omega) (by omega) (by omega)).mpr (by omega)
    simp only [fX5_trialPull_b44_body, lit]
    refine ifp (a1) ?_
    simp [sumF]
  | succ d ih =>
    intro i c fu hi hf
    obtain ⟨fu, rfl⟩ : ∃ m, fu = m + 1 := ⟨fu - 1, by omega⟩
    show fX5_trialPull_b44_body N (fX5_trialPull_b44 N 14 fu) 14 h (iI c) (iI i) = _
    have a1 : ¬ iI 20 ≤ iI (i : Int) := fun q => by have := (iI_le (by omega) (by omega) (by omega) (by omega)).mp q; omega
    have e := ih (i + 1) (c + cw i) fu (by omega) (by omega)
    simp only [Int.natCast_add, Int.natCast_one] at e
    have e1 : iI (i : Int) + iI 1 = iI ((i : Int) + 1) := by rw [iI_add]
    have e2 : iI c + iI (cw i) = iI (c + cw i) := by rw [iI_add]
    simp only [fX5_trialPull_b44_body, lit, Option.bind_some]
    refine ifn (a1) ?_
    refine bst (sR_503_14 hS) ?_
    refine bst (lAv (ss_18 hS) (by omega) (by omega) (hW i (by omega))) ?_
    rw [e1, e2, e]
    simp only [sumF, Int.add_assoc]
theorem L_trial {N : Nat} (hN : 100000000 ≤ N) {h : Hs} (hS : Sk h) {nr nt nd : Nat} {rA tA dA rT : Nat → Nat} {wy gr hd ds : Nat → Int} {gn : Nat → Bool} {tl tw tg ls ms pa : Nat → Int} {dr td : Nat → Option Nat} {sr dn : Nat → Int} (hT : RTh h nt tA tl tw tg ls ms pa) (hD : RDr h nd dA ds) (hR : RRo h nr nt rA tA rT wy gr hd gn) (hC : RTc h nt nr tA dA rA dr td sr dn) (hL : RTl nt nd nr rT dr td) {cw tp : Nat → Int} (hW : ∀ i, i < 20 → aI h 18 i = iI (cw i)) (hP : ∀ i, i < nt → gI h 908 (tA i) = iI (tp i)) : ∀ (d i : Nat) (c : Int) (fu : Nat), i + d = nr → d < fu → fX5_trialPull_b4 N 14 fu h (iI c) (iI i) = some (iI (c + sumF (fun r => tq wy gr sr tg ds rT dr r (tp (rT r))) i d + sumF cw 0 20), h) := by
  have c3 := hR.1.2.2
  have o9 : oI 5 9 h (some 14) = some (iI nr) := oIv (by rw [ss_14 hS]) hR.1.1
  intro d
  induction d with
  | zero =>
    intro i c fu hi hf
    obtain ⟨fu, rfl⟩ : ∃ m, fu = m + 1 := ⟨fu - 1, by omega⟩
    show fX5_trialPull_b4_body N (fX5_trialPull_b4 N 14 fu) 14 h (iI c) (iI i) = _
    have a1 : iI (nr : Int) ≤ iI (i : Int) := (iI_le (by omega) (by omega) (by omega) (by omega)).mpr (by omega)
    have lw := L_trialW (N := N) hS hW 20 0 c N (by omega) (by omega)
    simp only [fX5_trialPull_b4_body, lit]
    refine bst (o9) ?_
    refine ifp (a1) ?_
    rw [sumF_z, Int.add_zero]
    exact lw
  | succ d ih =>
    intro i c fu hi hf
    obtain ⟨fu, rfl⟩ : ∃ m, fu = m + 1 := ⟨fu - 1, by omega⟩
    show fX5_trialPull_b4_body N (fX5_trialPull_b4 N 14 fu) 14 h (iI c) (iI i) = _
    have a1 : ¬ iI (nr : Int) ≤ iI (i : Int) := fun q => by have := (iI_le (by omega) (by omega) (by omega) (by omega)).mp q; omega
    obtain ⟨⟨d1, d2, d3, d4⟩, ⟨f0, f1, -⟩, -, q1, -⟩ := hR.2.1 i (by omega)
    obtain ⟨⟨-, -, -, t4⟩, -⟩ := hT.2.1 (rT i) q1
    have pu := v_pullAt (N := N) hT hD hR hC hL (r := i) (by omega) (p := tp (rT i))
    have e := ih (i + 1) (c + tq wy gr sr tg ds rT dr i (tp (rT i))) fu (by omega) (by omega)
    simp only [Int.natCast_add, Int.natCast_one] at e
    have e1 : iI (i : Int) + iI 1 = iI ((i : Int) + 1) := by rw [iI_add]
    have e2 : iI c + iI (tq wy gr sr tg ds rT dr i (tp (rT i))) = iI (c + tq wy gr sr tg ds rT dr i (tp (rT i))) := by rw [iI_add]
    have lq : lQ 25 h (some 17) (iI i) = some (some (rA i)) := lQv (ss_17 hS) (by omega) (by omega) d1
    have rc4 : rc 4 h (some (rA i)) = some (rA i) := rcv (by rw [d4])
    simp only [fX5_trialPull_b4_body, lit, Option.bind_some]
    refine bst (o9) ?_
    refine ifn (a1) ?_
    refine bst (sR_502_14 hS) ?_
    refine bst (lq) ?_
    refine bst (sR_502_14 hS) ?_
    refine bst (lq) ?_
    refine bst (oRv (by rw [d4]) f1) ?_
    refine bst (oIv (by rw [t4]) (hP _ q1)) ?_
    refine bst (rc4) ?_
    refine bst (pu) ?_
    rw [e1, e2, e]
    simp only [sumF, Int.add_assoc]
theorem L_pullMr {N : Nat} {h : Hs} (hS : Sk h) {nr nt nd : Nat} {rA tA dA rT : Nat → Nat} {wy gr hd ds : Nat → Int} {gn : Nat → Bool} {tl tw tg ls ms pa : Nat → Int} {dr td : Nat → Option Nat} {sr dn : Nat → Int} (hT : RTh h nt tA tl tw tg ls ms pa) (hD : RDr h nd dA ds) (hR : RRo h nr nt rA tA rT wy gr hd gn) (hM : RTm h nr rT dr sr dn) (hL : RTl nt nd nr rT dr td) : ∀ (d i : Nat) (c : Int) (fu : Nat), i + d = nr → d < fu → fX12_pull_b27 N 29 fu h (iI c) (iI i) = some (iI (c + sumF (fun r => tq wy gr sr tg ds rT dr r (pa (rT r))) i d), h) := by
  have c3 := hR.1.2.2
  have ct := hT.1.2.2
  have cd := hD.1.2.2
  have o9 : oI 12 11 h (some 29) = some (iI nr) := oIv (by rw [ss_29 hS]) hR.1.2.1
  intro d
  induction d with
  | zero =>
    intro i c fu hi hf
    obtain ⟨fu, rfl⟩ : ∃ m, fu = m + 1 := ⟨fu - 1, by omega⟩
    show fX12_pull_b27_body N (fX12_pull_b27 N 29 fu) 29 h (iI c) (iI i) = _
    have a1 : iI (nr : Int) ≤ iI (i : Int) := (iI_le (by omega) (by omega) (by omega) (by omega)).mpr (by omega)
    simp only [fX12_pull_b27_body, lit]
    refine bst (o9) ?_
    refine ifp (a1) ?_
    rw [sumF_z, Int.add_zero]
  | succ d ih =>
    intro i c fu hi hf
    obtain ⟨fu, rfl⟩ : ∃ m, fu = m + 1 := ⟨fu - 1, by omega⟩
    show fX12_pull_b27_body N (fX12_pull_b27 N 29 fu) 29 h (iI c) (iI i) = _
    have a1 : ¬ iI (nr : Int) ≤ iI (i : Int) := fun q => by have := (iI_le (by omega) (by omega) (by omega) (by omega)).mp q; omega
    obtain ⟨-, -, ⟨f0, f1, f2, f3, f4⟩, q1, q2, q3, q4, q5⟩ := hR.2.1 i (by omega)
    obtain ⟨-, -, ⟨g0, g1, g2, g3, g4, g5⟩, bb⟩ := hT.2.1 (rT i) q1
    obtain ⟨m1, m2⟩ := hM i (by omega)
    have e := fun c' => ih (i + 1) c' fu (by omega) (by omega)
    simp only [Int.natCast_add, Int.natCast_one] at e
    have e1 : iI (i : Int) + iI 1 = iI ((i : Int) + 1) := by rw [iI_add]
    simp only [fX12_pull_b27_body, fX12_pull_b110, lit, e1, Option.bind_some]
    cases hdr : dr i with
    | none =>
      rw [hdr] at m1
      simp only [od] at m1
      have w2 : ¬ iI 0 ≤ iI (-1) := by decide
      refine bst (o9) ?_
      refine ifn (a1) ?_
      refine bst (sR_1216_29 hS) ?_
      refine bst (lAv (ss_42 hS) (by omega) (by omega) m1) ?_
      refine ifn (w2) ?_
      rw [e]
      have t0 : tq wy gr sr tg ds rT dr i (pa (rT i)) = 0 := by simp [tq, hdr]
      rw [sumF, t0, Int.zero_add]
    | some k =>
      have hkl := (hL.1 i k (by omega) hdr).1
      obtain ⟨-, -, e0, e5, e6⟩ := hD.2.1 k hkl
      have m3 := (m2 (by rw [hdr]; exact fun q => by cases q)).2
      rw [hdr] at m1
      simp only [od] at m1
      have w2 : iI 0 ≤ iI (k : Int) := (iI_le (by omega) (by omega) (by omega) (by omega)).mpr (by omega)
      have bd := tgds (a := tg (rT i)) (b := ds k) (by omega) (by omega) e5 e6
      have em : iI (tg (rT i)) * iI (ds k) = iI (tg (rT i) * ds k) := by rw [iI_mul]
      have dq : dv (iI (tg (rT i) * ds k)) (iI (gr i)) = some (iI ((tg (rT i) * ds k).tdiv (gr i))) := by
        have vq := v_quot (N := N) (h := h) (a := tg (rT i) * ds k) (b := gr i) (by omega) (by omega) (by omega) (by omega)
        have ne : ¬ iI (gr i) = iI 0 := fun q => by have := (iI_eq (by omega) (by omega) (by omega) (by omega)).mp q; omega
        simp only [fX11_quotient, fX11_quotient_b11, lit] at vq
        rw [if_neg ne] at vq
        cases hq : dv (iI (tg (rT i) * ds k)) (iI (gr i)) with
        | none =>
          rw [hq] at vq
          cases vq
        | some v =>
          rw [hq] at vq
          have vq2 : some (v, h) = some (iI ((tg (rT i) * ds k).tdiv (gr i)), h) := vq
          rw [(Prod.mk.inj (Option.some.inj vq2)).1]
      have lt := lAv (ss_38 hS) (show i < 40 by omega) (by omega) f0
      have lg := lAv (ss_32 hS) (show rT i < 40 by omega) (by omega) g2
      refine bst (o9) ?_
      refine ifn (a1) ?_
      refine bst (sR_1216_29 hS) ?_
      refine bst (lAv (ss_42 hS) (by omega) (by omega) m1) ?_
      refine ifp (w2) ?_
      refine bst (sR_1212_29 hS) ?_
      refine bst (lt) ?_
      refine bst (sR_1204_29 hS) ?_
      refine bst (lg) ?_
      refine bst (sR_1210_29 hS) ?_
      refine bst (sR_1216_29 hS) ?_
      refine bst (lAv (ss_42 hS) (by omega) (by omega) m1) ?_
      refine bst (lAv (ss_37 hS) (by omega) (by omega) e0) ?_
      refine bst (sR_1213_29 hS) ?_
      refine bst (lAv (ss_39 hS) (by omega) (by omega) f1) ?_
      rw [em]
      refine bst (dq) ?_
      refine bst (sR_1214_29 hS) ?_
      refine bst (lAv (ss_40 hS) (by omega) (by omega) f2) ?_
      refine bst (sR_1204_29 hS) ?_
      refine bst (lg) ?_
      refine bst (sR_1205_29 hS) ?_
      refine bst (lAv (ss_33 hS) (by omega) (by omega) g3) ?_
      refine bst (sR_1208_29 hS) ?_
      refine bst (lAv (ss_36 hS) (by omega) (by omega) m3) ?_
      simp only [iI_mul, iI_sub, iI_add]
      rw [e]
      have t0 : tq wy gr sr tg ds rT dr i (pa (rT i)) = (tg (rT i) * ds k).tdiv (gr i) * wy i + tg (rT i) * (pa (rT i) - sr i) := by
        simp only [tq, hdr]
        rw [Int.mul_comm (wy i)]
      rw [sumF, t0]
      simp only [Int.add_assoc]
