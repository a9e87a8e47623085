/-! ===== rope ===== -/
theorem qIv {h : Hs} {c j a : Nat} {v : Int32} (hs : (sh h a).1 = c) : qI c j h (some a) v = some (uI h (100 * c + j) a v) := by
  simp [qI, hs]
theorem sQv {h : Hs} {t c a n i q : Nat} (hs : sh h a = (t, n)) (hi : i < n) (hn : n < 5000) (hq : (sh h q).1 = c) : sQ t c h (some a) (iI i) (some q) = some (uQ h a i (some q)) := by
  have e1 : ixb (iI (i : Int)) n = true := ixb_i (by omega) (by omega) (by omega)
  have e2 : (iI (i : Int)).toNatClampNeg = i := by rw [iI_cl (by omega) (by omega)]; simp
  simp [sQ, hs, e1, e2, hq]
def ropeO (h : Hs) (nr ta : Nat) (w g x : Int) : Hs := uI (uI (uI (uR (uI (nw h (4, 0)) 400 (sz h) (iI nr)) 401 (sz h) (some ta)) 402 (sz h) (iI w)) 403 (sz h) (iI g)) 404 (sz h) (iI x)
def ropeH (h : Hs) (nr ta : Nat) (w g x : Int) : Hs := uI (uQ (ropeO h nr ta w g x) 17 nr (some (sz h))) 509 14 (iI (nr + 1))
def ropeM (h : Hs) (nr i : Nat) (w g x : Int) : Hs := uI (uI (uA (uA (uA (uA (uA h 38 nr (iI i)) 39 nr (iI g)) 40 nr (iI w)) 41 nr (iI x)) 42 nr (iI (-1))) 1211 29 (iI (nr + 1))) 1243 29 (iI 0)
theorem Ke_ropeO {h : Hs} {nr ta : Nat} {w g x : Int} : Ke [400, 402, 403, 404, 509] [] [401] [17] h (ropeO h nr ta w g x) := (((((Ke_rf.n _).u _ _ _ (by decide)).r _ _ _ (by decide)).u _ _ _ (by decide)).u _ _ _ (by decide)).u _ _ _ (by decide)
theorem Ke_ropeH {h : Hs} {nr ta : Nat} {w g x : Int} : Ke [400, 402, 403, 404, 509] [] [401] [17] h (ropeH h nr ta w g x) := (Ke_ropeO.q _ _ _ (by decide)).u _ _ _ (by decide)
theorem Kq_ropeM {h : Hs} {nr i : Nat} {w g x : Int} : Kq [1211, 1243] [38, 39, 40, 41, 42] h (ropeM h nr i w g x) := ((((((Kq_rf.b _ _ _ (by decide)).b _ _ _ (by decide)).b _ _ _ (by decide)).b _ _ _ (by decide)).b _ _ _ (by decide)).u _ _ _ (by decide)).u _ _ _ (by decide)
theorem v_ropeI {N : Nat} {h : Hs} {nr ta : Nat} {w g x : Int} : fX4_init N (nw h (4, 0)) (sz h) (iI nr) (some ta) (iI w) (iI g) (iI x) = some (ropeO h nr ta w g x) := by
  have e3 : (sh (nw h (4, 0)) (sz h)).1 = 4 := by rw [sh_nwS]
  simp [fX4_init, qI, qR, HR, e3, ropeO]
theorem c_rope {N : Nat} {h : Hs} (hS : Sk h) (hz : 70 ≤ sz h) {nr nt : Nat} {rA tA rT : Nat → Nat} {wy gr hd : Nat → Int} {gn : Nat → Bool} {tl tw tg ls ms pa : Nat → Int} (hR : RRo h nr nt rA tA rT wy gr hd gn) (hT : RTh h nt tA tl tw tg ls ms pa) (z y x g m : Int) (z1 : -2147483648 ≤ z) (z2 : z < 2147483648) (x1 : -2147483648 ≤ x) (x2 : x < 2147483648) (g1 : -1000000000 ≤ g) (g2 : g < 1000000000) (m1 : -10 < m) (m2 : m < 10) (dv : iI y / iI 10 = iI g) (mm : iI y - iI g * iI 10 = iI m) :
    (¬ ((0 ≤ z ∧ z ≤ (nt : Int) - 1) ∧ (1 ≤ g ∧ g ≤ 5) ∧ (1 ≤ m ∧ m ≤ 2) ∧ (1 ≤ x ∧ x ≤ 9999)) → fX5_addRope N h 14 (iI z) (iI y) (iI x) = some (iI (-1), h)) ∧ (∀ i : Nat, z = i → i < nt → 1 ≤ g ∧ g ≤ 5 → 1 ≤ m ∧ m ≤ 2 → 1 ≤ x ∧ x ≤ 9999 → (¬ nr < 40 → fX5_addRope N h 14 (iI z) (iI y) (iI x) = some (iI (-3), h)) ∧ (nr < 40 → fX5_addRope N h 14 (iI z) (iI y) (iI x) = some (iI nr, ropeH h nr (tA i) (if m = 1 then 1 else -1) g x))) := by
  obtain ⟨⟨c1, c2, c3⟩, -, -⟩ := hR
  have wg := v_isW (N := N) (h := h) (x := g) (a := 1) (b := 5) (by omega) (by omega) (by omega) (by omega) (by omega) (by omega)
  have wm := v_isW (N := N) (h := h) (x := m) (a := 1) (b := 2) (by omega) (by omega) (by omega) (by omega) (by omega) (by omega)
  have wx := v_isW (N := N) (h := h) (x := x) (a := 1) (b := 9999) (by omega) (by omega) (by omega) (by omega) (by omega) (by omega)
  have o9 : oI 5 9 h (some 14) = some (iI nr) := oIv (by rw [ss_14 hS]) c1
  have ex : ∃ o : Option Nat, fX5_thingNumbered N h 14 (iI z) = some (o, h) ∧ (o = none ∨ (0 ≤ z ∧ z ≤ (nt : Int) - 1)) := by
    by_cases w : 0 ≤ z ∧ z ≤ (nt : Int) - 1
    · obtain ⟨i, rfl⟩ : ∃ i : Nat, z = i := ⟨z.toNat, by omega⟩
      exact ⟨_, v_thingY (N := N) hS hT (i := i) (by omega), Or.inr w⟩
    · exact ⟨_, v_thingN (N := N) hS hT z1 z2 w, Or.inl rfl⟩
  obtain ⟨o, eo, ho⟩ := ex
  simp only [fX5_addRope, fX5_addRope_b43, fX5_addRope_b44, fX5_addRope_b67, fX5_addRope_b110, lit, iI_neg, dv, mm, Option.bind_some]
  refine ⟨fun hn => ?_, fun i hzi hi gg mg xg => ⟨fun hf => ?_, fun hf => ?_⟩⟩
  · by_cases a1 : 1 ≤ g ∧ g ≤ 5
    · rw [if_pos a1] at wg
      by_cases a2 : 1 ≤ m ∧ m ≤ 2
      · rw [if_pos a2] at wm
        cases o with
        | none =>
          refine bst (rcv (by rw [ss_14 hS])) ?_
          refine bst (eo) ?_
          refine bst (wg) ?_
          refine ifn (n10) ?_
          refine bst (wm) ?_
          refine ifn (n10) ?_
          refine ifp (rfl) ?_
          rfl
        | some t =>
          rcases ho with q | a3
          · cases q
          · rw [if_neg (fun q => hn ⟨a3, a1, a2, q⟩)] at wx
            refine bst (rcv (by rw [ss_14 hS])) ?_
            refine bst (eo) ?_
            refine bst (wg) ?_
            refine ifn (n10) ?_
            refine bst (wm) ?_
            refine ifn (n10) ?_
            refine ifn (fun q => by cases q) ?_
            refine ifn (n10) ?_
            refine bst (wx) ?_
            refine ifp (rfl) ?_
            rfl
      · rw [if_neg a2] at wm
        by_cases a4 : o = none
        · skip
          refine bst (rcv (by rw [ss_14 hS])) ?_
          refine bst (eo) ?_
          refine bst (wg) ?_
          refine ifn (n10) ?_
          refine bst (wm) ?_
          refine ifp (rfl) ?_
          refine ifp (a4) ?_
          rfl
        · skip
          refine bst (rcv (by rw [ss_14 hS])) ?_
          refine bst (eo) ?_
          refine bst (wg) ?_
          refine ifn (n10) ?_
          refine bst (wm) ?_
          refine ifp (rfl) ?_
          refine ifn (a4) ?_
          refine ifp (trivial) ?_
          rfl
    · rw [if_neg a1] at wg
      by_cases a4 : o = none
      · skip
        refine bst (rcv (by rw [ss_14 hS])) ?_
        refine bst (eo) ?_
        refine bst (wg) ?_
        refine ifp (rfl) ?_
        refine ifp (a4) ?_
        rfl
      · skip
        refine bst (rcv (by rw [ss_14 hS])) ?_
        refine bst (eo) ?_
        refine bst (wg) ?_
        refine ifp (rfl) ?_
        refine ifn (a4) ?_
        refine ifp (trivial) ?_
        rfl
  · rw [if_pos gg] at wg
    rw [if_pos mg] at wm
    rw [if_pos xg] at wx
    subst hzi
    have et := v_thingY (N := N) hS hT hi
    have w4 : ¬ iI (nr : Int) < iI 40 := fun q => by have := (iI_lt (by omega) (by omega) (by omega) (by omega)).mp q; omega
    refine bst (rcv (by rw [ss_14 hS])) ?_
    refine bst (et) ?_
    refine bst (wg) ?_
    refine ifn (n10) ?_
    refine bst (wm) ?_
    refine ifn (n10) ?_
    refine ifn (fun q => by cases q) ?_
    refine ifn (n10) ?_
    refine bst (wx) ?_
    refine ifn (n10) ?_
    refine bst (o9) ?_
    refine ifn (w4) ?_
    rfl
  · rw [if_pos gg] at wg
    rw [if_pos mg] at wm
    rw [if_pos xg] at wx
    subst hzi
    have et := v_thingY (N := N) hS hT hi
    have w4 : iI (nr : Int) < iI 40 := (iI_lt (by omega) (by omega) (by omega) (by omega)).mpr (by omega)
    have o9n : oI 5 9 (nw h (4, 0)) (some 14) = some (iI nr) := oIv (by rw [sh_nw (by omega), ss_14 hS]) (by rw [gI_nw (by omega)]; exact c1)
    have fin : ∀ w : Int, (fX4_init N (nw h (4, 0)) (sz h) (iI nr) (some (tA i)) (iI w) (iI g) (iI x)).bind (fun r1 => (sQ 25 4 r1 (some 17) (iI nr) (some (sz h))).bind fun h3 => (oI 5 9 h3 (some 14)).bind fun v4 => (qI 5 9 h3 (some 14) (v4 + iI 1)).bind fun h5 => some (v4, h5)) = some (iI nr, ropeH h nr (tA i) w g x) := by
      intro w
      have ko := Ke_ropeO (h := h) (nr := nr) (ta := tA i) (w := w) (g := g) (x := x)
      have so : (sh (ropeO h nr (tA i) w g x) (sz h)).1 = 4 := by simp [ropeO, HR, sh_nwS]
      have ri := v_ropeI (N := N) (h := h) (nr := nr) (ta := tA i) (w := w) (g := g) (x := x)
      have rq : ropeH h nr (tA i) w g x = uI (uQ (ropeO h nr (tA i) w g x) 17 nr (some (sz h))) 509 14 (iI (nr + 1)) := rfl
      have go : gI (ropeO h nr (tA i) w g x) 509 14 = iI nr := by simp only [ropeO, HR]; simp [HR]; rw [gI_nw (by omega)]; exact c1
      rw [rq]
      generalize ropeO h nr (tA i) w g x = h0 at ko so ri go ⊢
      have hS0 := hS.e hz ko (by decide)
      have s14 : (sh (uQ h0 17 nr (some (sz h))) 14).1 = 5 := by
        rw [show sh (uQ h0 17 nr (some (sz h))) 14 = sh h0 14 from rfl, ss_14 hS0]
      refine bst ri ?_
      refine bst (sQv (ss_17 hS0) (by omega) (by omega) so) ?_
      refine bst (oIv s14 (v := iI nr) go) ?_
      refine bst (qIv s14) ?_
      rw [iI_add]
    by_cases m9 : m = 1
    · have w5 : iI m = iI 1 := by rw [m9]
      rw [if_pos m9]
      refine bst (rcv (by rw [ss_14 hS])) ?_
      refine bst (et) ?_
      refine bst (wg) ?_
      refine ifn (n10) ?_
      refine bst (wm) ?_
      refine ifn (n10) ?_
      refine ifn (fun q => by cases q) ?_
      refine ifn (n10) ?_
      refine bst (wx) ?_
      refine ifn (n10) ?_
      refine bst (o9) ?_
      refine ifp (w4) ?_
      refine bst (sR_502_14 hS) ?_
      refine bst (o9) ?_
      refine bst (o9n) ?_
      refine ifp (w5) ?_
      exact fin 1
    · have w5 : ¬ iI m = iI 1 := fun q => m9 ((iI_eq (by omega) (by omega) (by omega) (by omega)).mp q)
      rw [if_neg m9]
      refine bst (rcv (by rw [ss_14 hS])) ?_
      refine bst (et) ?_
      refine bst (wg) ?_
      refine ifn (n10) ?_
      refine bst (wm) ?_
      refine ifn (n10) ?_
      refine ifn (fun q => by cases q) ?_
      refine ifn (n10) ?_
      refine bst (wx) ?_
      refine ifn (n10) ?_
      refine bst (o9) ?_
      refine ifp (w4) ?_
      refine bst (sR_502_14 hS) ?_
      refine bst (o9) ?_
      refine bst (o9n) ?_
      refine ifn (w5) ?_
      exact fin (-1)
