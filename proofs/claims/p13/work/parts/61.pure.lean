def thingH (h : Hs) (nt : Nat) (l x w lo hi g : Int) : Hs := uI (uQ (thingO h nt l x w lo hi g) 15 nt (some (sz h))) 507 14 (iI (nt + 1))
theorem Ke_thingO {h : Hs} {nt : Nat} {l x w lo hi g : Int} : Ke [507, 900, 901, 902, 903, 904, 905, 907] [] [906] [15] h (thingO h nt l x w lo hi g) := by
  have k : Ke [507, 900, 901, 902, 903, 904, 905, 907] [] [906] [15] h (uI (uI (uI (uI (uI (uI (uI (uR (nw (nw h (9, 0)) (20, 10)) 906 (sz h) (some (sz h + 1))) 900 (sz h) (iI nt)) 901 (sz h) (iI l)) 907 (sz h) (iI x)) 902 (sz h) (iI w)) 904 (sz h) (iI lo)) 905 (sz h) (iI hi)) 903 (sz h) (iI g)) := (((((((((Ke_rf.n _).n _).r _ _ _ (by decide)).u _ _ _ (by decide)).u _ _ _ (by decide)).u _ _ _ (by decide)).u _ _ _ (by decide)).u _ _ _ (by decide)).u _ _ _ (by decide)).u _ _ _ (by decide)
  refine ⟨fun f a q z => k.1 f a q z, fun a q z => ?_, fun f a q z => k.2.2.1 f a q z, fun a q z => k.2.2.2.1 a q z, fun a z => k.2.2.2.2.1 a z, k.2.2.2.2.2⟩
  have e : ¬ a = sz h + 1 := by omega
  rw [← k.2.1 a q z]
  funext j
  rw [thingO, aI_wA, if_neg e]
theorem Ke_thingH {h : Hs} {nt : Nat} {l x w lo hi g : Int} : Ke [507, 900, 901, 902, 903, 904, 905, 907] [] [906] [15] h (thingH h nt l x w lo hi g) := (Ke_thingO.q _ _ _ (by decide)).u _ _ _ (by decide)
theorem v_isStage {N : Nat} {h : Hs} {z : Int} (z1 : -2147483648 ≤ z) (z2 : z < 2147483648) : fX5_isStagePlace N h (iI z) = some (if 0 ≤ z ∧ z ≤ 1599 then iI 1 else iI 0, h) := by
  have ws := v_isW (N := N) (h := h) (x := z) (a := 0) (b := 1599) z1 z2 (by omega) (by omega) (by omega) (by omega)
  simp only [fX5_isStagePlace, lit]
  by_cases w : 0 ≤ z ∧ z ≤ 1599
  · rw [if_pos w] at ws ⊢
    refine bst (ws) ?_
    refine bst (zc_i1) ?_
    rfl
  · rw [if_neg w] at ws ⊢
    refine bst (ws) ?_
    refine bst (zc_i0) ?_
    rfl
theorem c_thing {N : Nat} (hN : 100000000 ≤ N) {h : Hs} (hS : Sk h) (hz : 70 ≤ sz h) {nt : Nat} {tA : Nat → Nat} {tl tw tg ls ms pa : Nat → Int} (hT : RTh h nt tA tl tw tg ls ms pa) (z w y g l x lo hi : Int) (z1 : -2147483648 ≤ z) (z2 : z < 2147483648) (w1 : -2147483648 ≤ w) (w2 : w < 2147483648) (y1 : -2147483648 ≤ y) (y2 : y < 2147483648) (g1 : -2147483648 ≤ g) (g2 : g < 2147483648) (lo1 : -1000000000 ≤ lo) (lo2 : lo < 1000000000) (hi1 : -100 < hi) (hi2 : hi < 100) (x1 : -100 < x) (x2 : x < 100) (dz : iI z / iI 100 = iI l) (mz : iI z - iI l * iI 100 = iI x) (dy : iI y / iI 100 = iI lo) (my : iI y - iI lo * iI 100 = iI hi) (lz : 0 ≤ z ∧ z ≤ 1599 → 0 ≤ l ∧ l ≤ 15) :
    (¬ ((0 ≤ z ∧ z ≤ 1599) ∧ (1 ≤ w ∧ w ≤ 60) ∧ 0 ≤ y ∧ (0 ≤ g ∧ g ≤ 999) ∧ (lo ≤ x ∧ x ≤ hi) ∧ hi + w ≤ 100) → fX5_addThing N h 14 (iI z) (iI w) (iI y) (iI g) = some (iI (-1), h)) ∧ ((0 ≤ z ∧ z ≤ 1599) ∧ (1 ≤ w ∧ w ≤ 60) ∧ 0 ≤ y ∧ (0 ≤ g ∧ g ≤ 999) ∧ (lo ≤ x ∧ x ≤ hi) ∧ hi + w ≤ 100 → fX5_addThing N h 14 (iI z) (iI w) (iI y) (iI g) = some (if hasB (metB tl tw pa none l x w) 0 nt then (iI (-2), h) else if nt < 40 then (iI nt, thingH h nt l x w lo hi g) else (iI (-3), h))) := by
  have ww := v_isW (N := N) (h := h) (x := w) (a := 1) (b := 60) w1 w2 (by omega) (by omega) (by omega) (by omega)
  have wg := v_isW (N := N) (h := h) (x := g) (a := 0) (b := 999) g1 g2 (by omega) (by omega) (by omega) (by omega)
  have wx := v_isW (N := N) (h := h) (x := x) (a := lo) (b := hi) (by omega) (by omega) (by omega) (by omega) (by omega) (by omega)
  have st := v_isStage (N := N) (h := h) z1 z2
  have yl : iI y < iI 0 ↔ y < 0 := iI_lt y1 y2 (by omega) (by omega)
  have A1 : ∀ f1 f2 : Int, (¬ (0 ≤ z ∧ z ≤ 1599) ∨ f1 = 0 ∨ (f1 = 1 ∧ f2 = 0)) → fX5_addThing_b83 N 14 h (iI z) (iI w) (iI g) (iI l) (iI x) (iI lo) (iI hi) (iI f1) (iI f2) = some (iI (-1), h) := by
    intro f1 f2 q
    simp only [fX5_addThing_b83, fX5_addThing_b102, lit, iI_neg]
    by_cases q1 : 0 ≤ z ∧ z ≤ 1599
    · rw [if_pos q1] at st
      rcases q with q | q | ⟨q, q3⟩
      · exact absurd q1 q
      · subst q
        refine bst (st) ?_
        refine ifn (n10) ?_
        refine ifp (rfl) ?_
        rfl
      · subst q q3
        refine bst (st) ?_
        refine ifn (n10) ?_
        refine ifn (n10) ?_
        refine ifp (rfl) ?_
        rfl
    · rw [if_neg q1] at st
      refine bst (st) ?_
      refine ifp (rfl) ?_
      rfl
  have A2 : ∀ f1 : Int, f1 = 0 ∨ f1 = 1 → (f1 = 0 ∨ ((1 ≤ w ∧ w ≤ 60) ∧ ¬ ((0 ≤ z ∧ z ≤ 1599) ∧ 0 ≤ y ∧ (lo ≤ x ∧ x ≤ hi) ∧ hi + w ≤ 100))) → fX5_addThing_b51 N 14 h (iI z) (iI w) (iI y) (iI g) (iI l) (iI x) (iI lo) (iI hi) (iI f1) = some (iI (-1), h) := by
    intro f1 hf q
    simp only [fX5_addThing_b51, fX5_addThing_b82, lit]
    have B0 : fX5_addThing_b83 N 14 h (iI z) (iI w) (iI g) (iI l) (iI x) (iI lo) (iI hi) (iI f1) (iI 0) = some (iI (-1), h) := A1 f1 0 (by omega)
    by_cases q1 : lo ≤ x ∧ x ≤ hi
    · rw [if_pos q1] at wx
      by_cases q2 : y < 0
      · skip
        refine bst (wx) ?_
        refine ifn (n10) ?_
        refine ifp (yl.mpr q2) ?_
        exact B0
      · by_cases q3 : iI 100 < iI hi + iI w
        · skip
          refine bst (wx) ?_
          refine ifn (n10) ?_
          refine ifn (fun q => q2 (yl.mp q)) ?_
          refine ifp (q3) ?_
          exact B0
        · have B1 : fX5_addThing_b83 N 14 h (iI z) (iI w) (iI g) (iI l) (iI x) (iI lo) (iI hi) (iI f1) (iI 1) = some (iI (-1), h) := by
            apply A1
            rcases q with q | ⟨q, q5⟩
            · exact Or.inr (Or.inl q)
            · rw [iI_add] at q3
              have q6 : ¬ 100 < hi + w := fun q7 => q3 ((iI_lt (by omega) (by omega) (by omega) (by omega)).mpr q7)
              exact Or.inl (fun q7 => q5 ⟨q7, by omega, q1, by omega⟩)
          refine bst (wx) ?_
          refine ifn (n10) ?_
          refine ifn (fun q => q2 (yl.mp q)) ?_
          refine ifn (q3) ?_
          exact B1
    · rw [if_neg q1] at wx
      refine bst (wx) ?_
      refine ifp (rfl) ?_
      exact B0
  refine ⟨fun hn => ?_, fun hy => ?_⟩
  · simp only [fX5_addThing, fX5_addThing_b50, lit, dz, mz, dy, my, Option.bind_some]
    have C0 := A2 0 (Or.inl rfl) (Or.inl rfl)
    by_cases q1 : 1 ≤ w ∧ w ≤ 60
    · rw [if_pos q1] at ww
      by_cases q2 : 0 ≤ g ∧ g ≤ 999
      · rw [if_pos q2] at wg
        have C1 := A2 1 (Or.inr rfl) (Or.inr ⟨q1, fun q => hn ⟨q.1, q1, q.2.1, q2, q.2.2⟩⟩)
        refine bst (ww) ?_
        refine ifn (n10) ?_
        refine bst (wg) ?_
        refine ifn (n10) ?_
        exact C1
      · rw [if_neg q2] at wg
        refine bst (ww) ?_
        refine ifn (n10) ?_
        refine bst (wg) ?_
        refine ifp (rfl) ?_
        exact C0
    · rw [if_neg q1] at ww
      refine bst (ww) ?_
      refine ifp (rfl) ?_
      exact C0
  · obtain ⟨q1, q2, q3, q4, q5, q6⟩ := hy
    rw [if_pos q1] at st
    rw [if_pos q2] at ww
    rw [if_pos q4] at wg
    rw [if_pos q5] at wx
    have ll := lz q1
    have ic := v_isClear (N := N) hN hS hT (ex := none) (fun k q => by cases q) (l := l) (x := x) (w := w) (by omega) (by omega) (by omega) (by omega) (by omega) (by omega)
    have q7 : ¬ iI 100 < iI (hi + w) := fun q => by have := (iI_lt (by omega) (by omega) (by omega) (by omega)).mp q; omega
    have c1 := hT.1.1
    have c3 := hT.1.2.2
    have o7 : oI 5 7 h (some 14) = some (iI nt) := oIv (by rw [ss_14 hS]) c1
    have rc5 : rc 5 h (some 14) = some 14 := rcv (by rw [ss_14 hS])
    simp only [fX5_addThing, fX5_addThing_b51, fX5_addThing_b83, lit, iI_neg, dz, mz, dy, my, iI_add, Option.bind_some]
    by_cases m9 : hasB (metB tl tw pa none l x w) 0 nt = true
    · rw [if_pos m9] at ic ⊢
      refine bst (ww) ?_
      refine ifn (n10) ?_
      refine bst (wg) ?_
      refine ifn (n10) ?_
      refine bst (wx) ?_
      refine ifn (n10) ?_
      refine ifn (fun q => by have := yl.mp q; omega) ?_
      refine ifn (q7) ?_
      refine bst (st) ?_
      refine ifn (n10) ?_
      refine ifn (n10) ?_
      refine ifn (n10) ?_
      refine bst (rc5) ?_
      refine bst (ic) ?_
      refine ifp (rfl) ?_
      rfl
    · rw [if_neg m9] at ic ⊢
      by_cases n9 : nt < 40
      · rw [if_pos n9]
        have w4 : iI (nt : Int) < iI 40 := (iI_lt (by omega) (by omega) (by omega) (by omega)).mpr (by omega)
        have o7n : oI 5 7 (nw h (9, 0)) (some 14) = some (iI nt) := oIv (by rw [sh_nw (by omega), ss_14 hS]) (by rw [gI_nw (by omega)]; exact c1)
        have ti := v_thingI (N := N) hN (h := h) (nt := nt) (l := l) (x := x) (w := w) (lo := lo) (hi := hi) (g := g)
        have ko := Ke_thingO (h := h) (nt := nt) (l := l) (x := x) (w := w) (lo := lo) (hi := hi) (g := g)
        have so : (sh (thingO h nt l x w lo hi g) (sz h)).1 = 9 := by
          rw [show sh (thingO h nt l x w lo hi g) (sz h) = sh (nw (nw h (9, 0)) (20, 10)) (sz h) from rfl, sh_nw (by show sz h < sz h + 1; omega), sh_nwS]
        have go : gI (thingO h nt l x w lo hi g) 507 14 = iI nt := by
          rw [show gI (thingO h nt l x w lo hi g) 507 14 = gI (nw (nw h (9, 0)) (20, 10)) 507 14 from by simp [thingO, HR], gI_nw (by show 14 < sz h + 1; omega), gI_nw (by omega)]
          exact c1
        have tq : thingH h nt l x w lo hi g = uI (uQ (thingO h nt l x w lo hi g) 15 nt (some (sz h))) 507 14 (iI (nt + 1)) := rfl
        rw [tq]
        generalize thingO h nt l x w lo hi g = h0 at ti ko so go ⊢
        have hS0 := hS.e hz ko (by decide)
        have s14 : (sh (uQ h0 15 nt (some (sz h))) 14).1 = 5 := by
          rw [show sh (uQ h0 15 nt (some (sz h))) 14 = sh h0 14 from rfl, ss_14 hS0]
        refine bst (ww) ?_
        refine ifn (n10) ?_
        refine bst (wg) ?_
        refine ifn (n10) ?_
        refine bst (wx) ?_
        refine ifn (n10) ?_
        refine ifn (fun q => by have := yl.mp q; omega) ?_
        refine ifn (q7) ?_
        refine bst (st) ?_
        refine ifn (n10) ?_
        refine ifn (n10) ?_
        refine ifn (n10) ?_
        refine bst (rc5) ?_
        refine bst (ic) ?_
        refine ifn (n10) ?_
        refine bst (o7) ?_
        refine ifp (w4) ?_
        refine bst (sR_500_14 hS) ?_
        refine bst (o7) ?_
        refine bst (o7n) ?_
        refine bst (ti) ?_
        refine bst (sQv (ss_15 hS0) (by omega) (by omega) so) ?_
        refine bst (oIv s14 (v := iI nt) go) ?_
        refine bst (qIv s14) ?_
        rw [iI_add]
      · rw [if_neg n9]
        have w4 : ¬ iI (nt : Int) < iI 40 := fun q => by have := (iI_lt (by omega) (by omega) (by omega) (by omega)).mp q; omega
        refine bst (ww) ?_
        refine ifn (n10) ?_
        refine bst (wg) ?_
        refine ifn (n10) ?_
        refine bst (wx) ?_
        refine ifn (n10) ?_
        refine ifn (fun q => by have := yl.mp q; omega) ?_
        refine ifn (q7) ?_
        refine bst (st) ?_
        refine ifn (n10) ?_
        refine ifn (n10) ?_
        refine ifn (n10) ?_
        refine bst (rc5) ?_
        refine bst (ic) ?_
        refine ifn (n10) ?_
        refine bst (o7) ?_
        refine ifn (w4) ?_
        rfl
