/-- trial places written for things i .. i+d-1 -/
def plH (tA : Nat → Nat) (tp : Nat → Int) : Nat → Nat → Hs → Hs
  | _, 0, h => h
  | i, d + 1, h => plH tA tp (i + 1) d (uI h 908 (tA i) (iI (tp i)))
theorem Ke_plH (tA : Nat → Nat) (tp : Nat → Int) : ∀ (d i : Nat) (h : Hs), Ke [908] [] [] [] h (plH tA tp i d h)
  | 0, _, _ => Ke_rf
  | d + 1, i, h => (Ke_rf.u 908 (tA i) (iI (tp i)) (by decide)).tr (Ke_plH tA tp d (i + 1) _)
theorem sz_plH (tA : Nat → Nat) (tp : Nat → Int) : ∀ (d i : Nat) (h : Hs), sz (plH tA tp i d h) = sz h
  | 0, _, _ => rfl
  | d + 1, i, h => (sz_plH tA tp d (i + 1) _).trans rfl
theorem plH_not (tA : Nat → Nat) (tp : Nat → Int) : ∀ (d i : Nat) (h : Hs) (a : Nat), (∀ j, i ≤ j → j < i + d → tA j ≠ a) → gI (plH tA tp i d h) 908 a = gI h 908 a
  | 0, _, _, _, _ => rfl
  | d + 1, i, h, a, q => by
    have e := plH_not tA tp d (i + 1) (uI h 908 (tA i) (iI (tp i))) a (fun j h1 h2 => q j (by omega) (by omega))
    have n : ¬ a = tA i := fun z => q i (by omega) (by omega) z.symm
    rw [plH, e]
    simp [HR, n]
theorem plH_at (tA : Nat → Nat) (tp : Nat → Int) {nt : Nat} (ti : ∀ i j, i < nt → j < nt → tA i = tA j → i = j) : ∀ (d i : Nat) (h : Hs) (j : Nat), i + d = nt → i ≤ j → j < nt → gI (plH tA tp i d h) 908 (tA j) = iI (tp j)
  | 0, i, h, j, q1, q2, q3 => by omega
  | d + 1, i, h, j, q1, q2, q3 => by
    by_cases e : j = i
    · subst e
      rw [plH, plH_not tA tp d (j + 1) _ _ (fun m h1 h2 z => by have := ti m j (by omega) (by omega) z; omega)]
      simp [HR]
    · rw [plH]
      exact plH_at tA tp ti d (i + 1) _ j (by omega) (by omega) q3
/-- thing i's place after k steps -/
def tpl (pa wy gr sr dn ds : Nat → Int) (dr td : Nat → Option Nat) (k : Int) (i : Nat) : Int := match td i with
  | none => pa i
  | some r => match dr r with
    | none => pa i
    | some d => rpl wy gr sr dn (ds d) r k
theorem L_place {N : Nat} {nr nt nd : Nat} {rA tA dA rT : Nat → Nat} {wy gr hd ds : Nat → Int} {gn : Nat → Bool} {tl tw tg ls ms pa : Nat → Int} {dr td : Nat → Option Nat} {sr dn : Nat → Int} (hL : RTl nt nd nr rT dr td) {k : Int} (k1 : -100000 ≤ k) (k2 : k ≤ 100000) (hdn : ∀ r, r < nr → dr r ≠ none → -1000000000 ≤ dn r ∧ dn r ≤ 1000000000) : ∀ (d i : Nat) (fu : Nat) (h : Hs), Sk h → 70 ≤ sz h → RTh h nt tA tl tw tg ls ms pa → RDr h nd dA ds → RRo h nr nt rA tA rT wy gr hd gn → RTc h nt nr tA dA rA dr td sr dn → i + d = nt → d < fu → fX5_place_b2 N 14 fu h (iI k) (iI i) = some (plH tA (tpl pa wy gr sr dn ds dr td k) i d h) := by
  intro d
  induction d with
  | zero =>
    intro i fu h hS hz hT hD hR hC hi hf
    obtain ⟨fu, rfl⟩ : ∃ m, fu = m + 1 := ⟨fu - 1, by omega⟩
    show fX5_place_b2_body N (fX5_place_b2 N 14 fu) 14 h (iI k) (iI i) = _
    have c3 := hT.1.2.2
    have o7 : oI 5 7 h (some 14) = some (iI nt) := oIv (by rw [ss_14 hS]) hT.1.1
    have a1 : iI (nt : Int) ≤ iI (i : Int) := (iI_le (by omega) (by omega) (by omega) (by omega)).mpr (by omega)
    simp only [fX5_place_b2_body]
    refine bst (o7) ?_
    refine ifp (a1) ?_
    rfl
  | succ d ih =>
    intro i fu h hS hz hT hD hR hC hi hf
    obtain ⟨fu, rfl⟩ : ∃ m, fu = m + 1 := ⟨fu - 1, by omega⟩
    show fX5_place_b2_body N (fX5_place_b2 N 14 fu) 14 h (iI k) (iI i) = _
    have c3 := hT.1.2.2
    have cd := hD.1.2.2
    have o7 : oI 5 7 h (some 14) = some (iI nt) := oIv (by rw [ss_14 hS]) hT.1.1
    have a1 : ¬ iI (nt : Int) ≤ iI (i : Int) := fun q => by have := (iI_le (by omega) (by omega) (by omega) (by omega)).mp q; omega
    obtain ⟨⟨d1, d2, d3, d4⟩, ⟨g0, g1, g2, g3, g4, g5, g7⟩, -, bb⟩ := hT.2.1 i (by omega)
    have g9 := hC.2 i (by omega)
    have o9 : oR 9 9 h (some (tA i)) = some ((td i).map rA) := oRv (by rw [d4]) g9
    have lq : lQ 23 h (some 15) (iI i) = some (some (tA i)) := lQv (ss_15 hS) (by omega) (by omega) d1
    have ix2 : iI (i : Int) + iI 1 = iI ((i : Int) + 1) := by rw [iI_add]
    have nx : ∀ v : Int, fX5_place_b2 N 14 fu (uI h 908 (tA i) (iI v)) (iI k) (iI ((i : Int) + 1)) = some (plH tA (tpl pa wy gr sr dn ds dr td k) (i + 1) d (uI h 908 (tA i) (iI v))) := by
      intro v
      have ke : Ke [908] [] [] [] h (uI h 908 (tA i) (iI v)) := Ke_rf.u _ _ _ (by decide)
      have e := ih (i + 1) fu (uI h 908 (tA i) (iI v)) (hS.e hz ke (by decide)) hz (hT.e hz ke (by decide) (by decide) (by decide)) (hD.e hz ke (by decide) (by decide) (by decide)) (hR.e hz ke (by decide) (by decide) (by decide) (by decide)) (hC.e (fun i hi => (hT.2.1 i hi).1.2.2.1) (fun r hr => (hR.2.1 r hr).1.2.2.1) ke (by decide) (by decide)) (by omega) (by omega)
      simp only [Int.natCast_add, Int.natCast_one] at e
      exact e
    simp only [fX5_place_b2_body, fX5_place_b52, lit, ix2, Option.bind_some, plH]
    have q8 : ∀ v : Int32, qI 9 8 h (some (tA i)) v = some (uI h 908 (tA i) v) := fun v => qIv (by rw [d4])
    cases htd : td i with
    | none =>
      rw [htd] at o9
      have et : tpl pa wy gr sr dn ds dr td k i = pa i := by simp [tpl, htd]
      rw [et]
      refine bst (o7) ?_
      refine ifn (a1) ?_
      refine bst (sR_500_14 hS) ?_
      refine bst (lq) ?_
      refine bst (o9) ?_
      refine ifp (rfl) ?_
      refine bst (oIv (by rw [d4]) g7) ?_
      refine bst (q8 _) ?_
      exact nx _
    | some r =>
      obtain ⟨hr, hrt, hne⟩ := hL.2 i r (by omega) htd
      obtain ⟨e, hde⟩ := Option.ne_none_iff_exists'.mp hne
      have hel := (hL.1 r e hr hde).1
      rw [htd] at o9
      have et : tpl pa wy gr sr dn ds dr td k i = rpl wy gr sr dn (ds e) r k := by simp [tpl, htd, hde]
      rw [et]
      obtain ⟨⟨-, -, -, r4⟩, -⟩ := hR.2.1 r hr
      have g6 := ((hC.1 r hr).2 hne).1
      have da := v_doneAfter (N := N) hR hD hC hr hde hel (k := k)
      have b1 := hdn r hr hne
      have b2' := (hD.2.1 e hel).2.2.2
      have b3 : -2000000 ≤ ds e * k ∧ ds e * k ≤ 2000000 := by
        constructor
        · have := Int.mul_le_mul_of_nonneg_left k1 (show 0 ≤ ds e by omega)
          have := Int.mul_le_mul_of_nonneg_left (show -100000 ≤ (0 : Int) by omega) (show 0 ≤ ds e by omega)
          omega
        · have := Int.mul_le_mul_of_nonneg_left k2 (show 0 ≤ ds e by omega)
          omega
      have pf := v_placeFrom (N := N) hR hr (p := sr r) (q := dn r + ds e * k) (by omega) (by omega)
      have rc4 : rc 4 h (some (rA r)) = some (rA r) := rcv (by rw [r4])
      refine bst (o7) ?_
      refine ifn (a1) ?_
      refine bst (sR_500_14 hS) ?_
      refine bst (lq) ?_
      refine bst (o9) ?_
      refine ifn (fun q => by cases q) ?_
      refine bst (oIv (by rw [r4]) g6) ?_
      refine bst (rc4) ?_
      refine bst (da) ?_
      refine bst (rc4) ?_
      refine bst (pf) ?_
      refine bst (q8 _) ?_
      exact nx _
