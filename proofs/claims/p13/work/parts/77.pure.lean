/-! ===== the class's half of the things ===== -/
def RTo (h : Hs) (nt : Nat) (tA : Nat → Nat) (tl tw tg ls ms pa : Nat → Int) : Prop :=
  (gI h 507 14 = iI nt ∧ True ∧ nt ≤ 40) ∧
  (∀ i, i < nt → (aR h 15 i = some (tA i) ∧ 70 ≤ tA i ∧ tA i < sz h ∧ sh h (tA i) = (9, 0)) ∧ (gI h 900 (tA i) = iI i ∧ gI h 901 (tA i) = iI (tl i) ∧ gI h 902 (tA i) = iI (tw i) ∧ gI h 903 (tA i) = iI (tg i) ∧ gI h 904 (tA i) = iI (ls i) ∧ gI h 905 (tA i) = iI (ms i) ∧ gI h 907 (tA i) = iI (pa i)) ∧ True ∧ (0 ≤ tl i ∧ tl i ≤ 15 ∧ 1 ≤ tw i ∧ tw i ≤ 60 ∧ 0 ≤ tg i ∧ tg i ≤ 999 ∧ 0 ≤ ls i ∧ ls i ≤ pa i ∧ pa i ≤ ms i ∧ ms i + tw i ≤ 100)) ∧ (∀ i j, i < nt → j < nt → tA i = tA j → i = j)
theorem RTh.o {h : Hs} {nt : Nat} {tA : Nat → Nat} {tl tw tg ls ms pa : Nat → Int} (hT : RTh h nt tA tl tw tg ls ms pa) : RTo h nt tA tl tw tg ls ms pa := ⟨⟨hT.1.1, trivial, hT.1.2.2⟩, fun i hi => ⟨(hT.2.1 i hi).1, (hT.2.1 i hi).2.1, trivial, (hT.2.1 i hi).2.2.2⟩, hT.2.2⟩
theorem RTo.lt {h : Hs} {nt : Nat} {tA : Nat → Nat} {tl tw tg ls ms pa : Nat → Int} (hC : RTo h nt tA tl tw tg ls ms pa) : ∀ i, i < nt → tA i < sz h := fun i hi => (hC.2.1 i hi).1.2.2.1
theorem RTo.e {F A FR AQ : List Nat} {h h2 : Hs} {nt : Nat} {tA : Nat → Nat} {tl tw tg ls ms pa : Nat → Int} (hC : RTo h nt tA tl tw tg ls ms pa) (hz : 70 ≤ sz h) (k : Ke F A FR AQ h h2) (hF : ∀ f ∈ [507, 900, 901, 902, 903, 904, 905, 907], f ∉ F) (hQ : 15 ∉ AQ) : RTo h2 nt tA tl tw tg ls ms pa := by
  obtain ⟨⟨c1, c2, c3⟩, c4, c5⟩ := hC
  have k6 := k.2.2.2.2.2
  refine ⟨⟨by rw [k.1 _ _ (hF _ (by decide)) (by omega)]; exact c1, trivial, c3⟩, fun i hi => ?_, c5⟩
  obtain ⟨⟨d1, d2, d3, d4⟩, d5, d6, d7⟩ := c4 i hi
  refine ⟨⟨by rw [k.2.2.2.1 _ hQ (by omega)]; exact d1, d2, by omega, by rw [k.2.2.2.2.1 _ d3]; exact d4⟩, ?_, trivial, d7⟩
  rw [k.1 _ _ (hF 900 (by decide)) d3, k.1 _ _ (hF 901 (by decide)) d3, k.1 _ _ (hF 902 (by decide)) d3, k.1 _ _ (hF 903 (by decide)) d3, k.1 _ _ (hF 904 (by decide)) d3, k.1 _ _ (hF 905 (by decide)) d3, k.1 _ _ (hF 907 (by decide)) d3]
  exact d5
/-- the two halves -/
theorem RTh_of {h : Hs} {nt : Nat} {tA : Nat → Nat} {tl tw tg ls ms pa : Nat → Int} (hO : RTo h nt tA tl tw tg ls ms pa) (c2 : gI h 1201 29 = iI nt) (hq : ∀ i, i < nt → aI h 30 i = iI (tl i) ∧ aI h 31 i = iI (tw i) ∧ aI h 32 i = iI (tg i) ∧ aI h 33 i = iI (pa i) ∧ aI h 34 i = iI (ls i) ∧ aI h 35 i = iI (ms i)) : RTh h nt tA tl tw tg ls ms pa := ⟨⟨hO.1.1, c2, hO.1.2.2⟩, fun i hi => ⟨(hO.2.1 i hi).1, (hO.2.1 i hi).2.1, hq i hi, (hO.2.1 i hi).2.2.2⟩, hO.2.2⟩
theorem L_placeo {N : Nat} {nr nt nd : Nat} {rA tA dA rT : Nat → Nat} {wy gr hd ds : Nat → Int} {gn : Nat → Bool} {tl tw tg ls ms pa : Nat → Int} {dr td : Nat → Option Nat} {sr dn : Nat → Int} (hL : RTl nt nd nr rT dr td) {k : Int} (k1 : -100000 ≤ k) (k2 : k ≤ 100000) (hdn : ∀ r, r < nr → dr r ≠ none → -1000000000 ≤ dn r ∧ dn r ≤ 1000000000) : ∀ (d i : Nat) (fu : Nat) (h : Hs), Sk h → 70 ≤ sz h → RTo h nt tA tl tw tg ls ms pa → RDr h nd dA ds → RRo h nr nt rA tA rT wy gr hd gn → RTc h nt nr tA dA rA dr td sr dn → i + d = nt → d < fu → fX5_place_b2 N 14 fu h (iI k) (iI i) = some (plH tA (tpl pa wy gr sr dn ds dr td k) i d h) := by
  intro d
  induction d with
  | zero =>
    intro i fu h hS hz hT hD hR hC hi hf
    obtain ⟨fu, rfl⟩ : ∃ m, fu = m + 1 := ⟨fu - 1, by omega⟩
    show fX5_place_b2_body N (fX5_place_b2 N 14 fu) 14 h (iI k) (iI i) = _
    have c3 := hT.1.2.2
    have o7 : oI 5 7 h (some 14) = some (iI nt) := oIv (by rw [ss_14 hS]) hT.1.1
    have a1 : iI (nt : Int) ≤ iI (i : Int) := (iI_le (by omega) (by omega) (by omega) (by omega)).mpr (by omega)
    simp only [fX5_place_b2_body]
    refine bst (o7) ?_
    refine ifp (a1) ?_
    rfl
  | succ d ih =>
    intro i fu h hS hz hT hD hR hC hi hf
    obtain ⟨fu, rfl⟩ : ∃ m, fu = m + 1 := ⟨fu - 1, by omega⟩
    show fX5_place_b2_body N (fX5_place_b2 N 14 fu) 14 h (iI k) (iI i) = _
    have c3 := hT.1.2.2
    have cd := hD.1.2.2
    have o7 : oI 5 7 h (some 14) = some (iI nt) := oIv (by rw [ss_14 hS]) hT.1.1
    have a1 : ¬ iI (nt : Int) ≤ iI (i : Int) := fun q => by have := (iI_le (by omega) (by omega) (by omega) (by omega)).mp q; omega
    obtain ⟨⟨d1, d2, d3, d4⟩, ⟨g0, g1, g2, g3, g4, g5, g7⟩, -, bb⟩ := hT.2.1 i (by omega)
    have g9 := hC.2 i (by omega)
    have o9 : oR 9 9 h (some (tA i)) = some ((td i).map rA) := oRv (by rw [d4]) g9
    have lq : lQ 23 h (some 15) (iI i) = some (some (tA i)) := lQv (ss_15 hS) (by omega) (by omega) d1
    have ix2 : iI (i : Int) + iI 1 = iI ((i : Int) + 1) := by rw [iI_add]
    have nx : ∀ v : Int, fX5_place_b2 N 14 fu (uI h 908 (tA i) (iI v)) (iI k) (iI ((i : Int) + 1)) = some (plH tA (tpl pa wy gr sr dn ds dr td k) (i + 1) d (uI h 908 (tA i) (iI v))) := by
      intro v
      have ke : Ke [908] [] [] [] h (uI h 908 (tA i) (iI v)) := Ke_rf.u _ _ _ (by decide)
      have e := ih (i + 1) fu (uI h 908 (tA i) (iI v)) (hS.e hz ke (by decide)) hz (hT.e hz ke (by decide) (by decide)) (hD.e hz ke (by decide) (by decide) (by decide)) (hR.e hz ke (by decide) (by decide) (by decide) (by decide)) (hC.e (fun i hi => (hT.2.1 i hi).1.2.2.1) (fun r hr => (hR.2.1 r hr).1.2.2.1) ke (by decide) (by decide)) (by omega) (by omega)
      simp only [Int.natCast_add, Int.natCast_one] at e
      exact e
    simp only [fX5_place_b2_body, fX5_place_b52, lit, ix2, Option.bind_some, plH]
    have q8 : ∀ v : Int32, qI 9 8 h (some (tA i)) v = some (uI h 908 (tA i) v) := fun v => qIv (by rw [d4])
    cases htd : td i with
    | none =>
      rw [htd] at o9
      have et : tpl pa wy gr sr dn ds dr td k i = pa i := by simp [tpl, htd]
      rw [et]
      refine bst (o7) ?_
      refine ifn (a1) ?_
      refine bst (sR_500_14 hS) ?_
      refine bst (lq) ?_
      refine bst (o9) ?_
      refine ifp (rfl) ?_
      refine bst (oIv (by rw [d4]) g7) ?_
      refine bst (q8 _) ?_
      exact nx _
    | some r =>
      obtain ⟨hr, hrt, hne⟩ := hL.2 i r (by omega) htd
      obtain ⟨e, hde⟩ := Option.ne_none_iff_exists'.mp hne
      have hel := (hL.1 r e hr hde).1
      rw [htd] at o9
      have et : tpl pa wy gr sr dn ds dr td k i = rpl wy gr sr dn (ds e) r k := by simp [tpl, htd, hde]
      rw [et]
      obtain ⟨⟨-, -, -, r4⟩, -⟩ := hR.2.1 r hr
      have g6 := ((hC.1 r hr).2 hne).1
      have da := v_doneAfter (N := N) hR hD hC hr hde hel (k := k)
      have b1 := hdn r hr hne
      have b2' := (hD.2.1 e hel).2.2.2
      have b3 : -2000000 ≤ ds e * k ∧ ds e * k ≤ 2000000 := by
        constructor
        · have := Int.mul_le_mul_of_nonneg_left k1 (show 0 ≤ ds e by omega)
          have := Int.mul_le_mul_of_nonneg_left (show -100000 ≤ (0 : Int) by omega) (show 0 ≤ ds e by omega)
          omega
        · have := Int.mul_le_mul_of_nonneg_left k2 (show 0 ≤ ds e by omega)
          omega
      have pf := v_placeFrom (N := N) hR hr (p := sr r) (q := dn r + ds e * k) (by omega) (by omega)
      have rc4 : rc 4 h (some (rA r)) = some (rA r) := rcv (by rw [r4])
      refine bst (o7) ?_
      refine ifn (a1) ?_
      refine bst (sR_500_14 hS) ?_
      refine bst (lq) ?_
      refine bst (o9) ?_
      refine ifn (fun q => by cases q) ?_
      refine bst (oIv (by rw [r4]) g6) ?_
      refine bst (rc4) ?_
      refine bst (da) ?_
      refine bst (rc4) ?_
      refine bst (pf) ?_
      refine bst (q8 _) ?_
      exact nx _

theorem v_pullAto {N : Nat} {h : Hs} {nr nt nd : Nat} {rA tA dA rT : Nat → Nat} {wy gr hd ds : Nat → Int} {gn : Nat → Bool} {tl tw tg ls ms pa : Nat → Int} {dr td : Nat → Option Nat} {sr dn : Nat → Int} (hT : RTo h nt tA tl tw tg ls ms pa) (hD : RDr h nd dA ds) (hR : RRo h nr nt rA tA rT wy gr hd gn) (hC : RTc h nt nr tA dA rA dr td sr dn) (hL : RTl nt nd nr rT dr td) {r : Nat} (hr : r < nr) {p : Int} : fX4_pullAt N h (rA r) (iI p) = some (iI (tq wy gr sr tg ds rT dr r p), h) := by
  obtain ⟨⟨-, -, -, d4⟩, ⟨f0, f1, f2, f3, f4, f8⟩, -, q1, q2, q3, q4, q5⟩ := hR.2.1 r hr
  obtain ⟨⟨-, -, -, t4⟩, ⟨g0, g1, g2, g3, g4, g5, g7⟩, -, bb⟩ := hT.2.1 (rT r) q1
  obtain ⟨c1, c2⟩ := hC.1 r hr
  simp only [fX4_pullAt, lit]
  cases hdr : dr r with
  | none =>
    rw [hdr] at c1
    refine bst (oRv (by rw [d4]) c1) ?_
    refine ifp (rfl) ?_
    simp [tq, hdr]
  | some d =>
    have hdl := (hL.1 r d hr hdr).1
    obtain ⟨⟨-, -, -, e4⟩, ⟨-, e1⟩, -, e5, e6⟩ := hD.2.1 d hdl
    have c3 := (c2 (by rw [hdr]; exact fun q => by cases q)).1
    rw [hdr] at c1
    have bd := tgds (a := tg (rT r)) (b := ds d) (by omega) (by omega) e5 e6
    have o5 : oR 4 5 h (some (rA r)) = some (some (dA d)) := oRv (by rw [d4]) c1
    have vq := v_quot (N := N) (h := h) (a := tg (rT r) * ds d) (b := gr r) (by omega) (by omega) (by omega) (by omega)
    have em : iI (tg (rT r)) * iI (ds d) = iI (tg (rT r) * ds d) := by rw [iI_mul]
    refine bst (o5) ?_
    refine ifn (fun q => by cases q) ?_
    refine bst (oIv (by rw [d4]) f2) ?_
    refine bst (oRv (by rw [d4]) f1) ?_
    refine bst (oIv (by rw [t4]) g3) ?_
    refine bst (o5) ?_
    refine bst (oIv (by rw [e4]) e1) ?_
    refine bst (oIv (by rw [d4]) f3) ?_
    rw [em]
    refine bst (vq) ?_
    refine bst (oRv (by rw [d4]) f1) ?_
    refine bst (oIv (by rw [t4]) g3) ?_
    refine bst (oIv (by rw [d4]) c3) ?_
    simp only [iI_mul, iI_sub, iI_add, tq, hdr]
theorem L_trialo {N : Nat} (hN : 100000000 ≤ N) {h : Hs} (hS : Sk h) {nr nt nd : Nat} {rA tA dA rT : Nat → Nat} {wy gr hd ds : Nat → Int} {gn : Nat → Bool} {tl tw tg ls ms pa : Nat → Int} {dr td : Nat → Option Nat} {sr dn : Nat → Int} (hT : RTo h nt tA tl tw tg ls ms pa) (hD : RDr h nd dA ds) (hR : RRo h nr nt rA tA rT wy gr hd gn) (hC : RTc h nt nr tA dA rA dr td sr dn) (hL : RTl nt nd nr rT dr td) {cw tp : Nat → Int} (hW : ∀ i, i < 20 → aI h 18 i = iI (cw i)) (hP : ∀ i, i < nt → gI h 908 (tA i) = iI (tp i)) : ∀ (d i : Nat) (c : Int) (fu : Nat), i + d = nr → d < fu → fX5_trialPull_b4 N 14 fu h (iI c) (iI i) = some (iI (c + sumF (fun r => tq wy gr sr tg ds rT dr r (tp (rT r))) i d + sumF cw 0 20), h) := by
  have c3 := hR.1.2.2
  have o9 : oI 5 9 h (some 14) = some (iI nr) := oIv (by rw [ss_14 hS]) hR.1.1
  intro d
  induction d with
  | zero =>
    intro i c fu hi hf
    obtain ⟨fu, rfl⟩ : ∃ m, fu = m + 1 := ⟨fu - 1, by omega⟩
    show fX5_trialPull_b4_body N (fX5_trialPull_b4 N 14 fu) 14 h (iI c) (iI i) = _
    have a1 : iI (nr : Int) ≤ iI (i : Int) := (iI_le (by omega) (by omega) (by omega) (by omega)).mpr (by omega)
    have lw := L_trialW (N := N) hS hW 20 0 c N (by omega) (by omega)
    simp only [fX5_trialPull_b4_body, lit]
    refine bst (o9) ?_
    refine ifp (a1) ?_
    rw [sumF_z, Int.add_zero]
    exact lw
  | succ d ih =>
    intro i c fu hi hf
    obtain ⟨fu, rfl⟩ : ∃ m, fu = m + 1 := ⟨fu - 1, by omega⟩
    show fX5_trialPull_b4_body N (fX5_trialPull_b4 N 14 fu) 14 h (iI c) (iI i) = _
    have a1 : ¬ iI (nr : Int) ≤ iI (i : Int) := fun q => by have := (iI_le (by omega) (by omega) (by omega) (by omega)).mp q; omega
    obtain ⟨⟨d1, d2, d3, d4⟩, ⟨f0, f1, -⟩, -, q1, -⟩ := hR.2.1 i (by omega)
    obtain ⟨⟨-, -, -, t4⟩, -⟩ := hT.2.1 (rT i) q1
    have pu := v_pullAto (N := N) hT hD hR hC hL (r := i) (by omega) (p := tp (rT i))
    have e := ih (i + 1) (c + tq wy gr sr tg ds rT dr i (tp (rT i))) fu (by omega) (by omega)
    simp only [Int.natCast_add, Int.natCast_one] at e
    have e1 : iI (i : Int) + iI 1 = iI ((i : Int) + 1) := by rw [iI_add]
    have e2 : iI c + iI (tq wy gr sr tg ds rT dr i (tp (rT i))) = iI (c + tq wy gr sr tg ds rT dr i (tp (rT i))) := by rw [iI_add]
    have lq : lQ 25 h (some 17) (iI i) = some (some (rA i)) := lQv (ss_17 hS) (by omega) (by omega) d1
    have rc4 : rc 4 h (some (rA i)) = some (rA i) := rcv (by rw [d4])
    simp only [fX5_trialPull_b4_body, lit, Option.bind_some]
    refine bst (o9) ?_
    refine ifn (a1) ?_
    refine bst (sR_502_14 hS) ?_
    refine bst (lq) ?_
    refine bst (sR_502_14 hS) ?_
    refine bst (lq) ?_
    refine bst (oRv (by rw [d4]) f1) ?_
    refine bst (oIv (by rw [t4]) (hP _ q1)) ?_
    refine bst (rc4) ?_
    refine bst (pu) ?_
    rw [e1, e2, e]
    simp only [sumF, Int.add_assoc]
/-! ===== turning: what stops a step ===== -/
def Bey (ls ms P : Nat → Int) (i : Nat) : Prop := ¬ (ls i ≤ P i ∧ P i ≤ ms i)
def Hit (tl tw P : Nat → Int) (i j : Nat) : Prop := tl i = tl j ∧ P i < P j + tw j ∧ P j < P i + tw i
theorem Hit.sy {tl tw P : Nat → Int} {i j : Nat} (q : Hit tl tw P i j) : Hit tl tw P j i := ⟨q.1.symm, q.2.2, q.2.1⟩
def Wh (nt : Nat) (ls ms tl tw P : Nat → Int) (pu bd k t o : Int) : Prop :=
  (∃ i : Nat, i < nt ∧ Bey ls ms P i ∧ (∀ j, j < i → ¬ Bey ls ms P j) ∧ k = 1 ∧ t = i ∧ o = -1) ∨
  ((∀ j, j < nt → ¬ Bey ls ms P j) ∧ ((∃ i j : Nat, i < j ∧ j < nt ∧ Hit tl tw P i j ∧ (∀ i' j', i' < i → i' < j' → j' < nt → ¬ Hit tl tw P i' j') ∧ (∀ j', i < j' → j' < j → ¬ Hit tl tw P i j') ∧ k = 2 ∧ t = i ∧ o = j) ∨
   ((∀ i j, i < j → j < nt → ¬ Hit tl tw P i j) ∧ t = -1 ∧ o = -1 ∧ ((k = 3 ∧ (bd < pu ∨ pu < -bd)) ∨ (k = 0 ∧ -bd ≤ pu ∧ pu ≤ bd)))))
theorem Wh_un {nt : Nat} {ls ms tl tw P : Nat → Int} {pu bd k t o k' t' o' : Int} (a : Wh nt ls ms tl tw P pu bd k t o) (c : Wh nt ls ms tl tw P pu bd k' t' o') : k = k' ∧ t = t' ∧ o = o' := by
  rcases a with ⟨i, i1, i2, i3, rfl, rfl, rfl⟩ | ⟨a0, a⟩
  · rcases c with ⟨j, j1, j2, j3, rfl, rfl, rfl⟩ | ⟨c0, c⟩
    · rcases Nat.lt_trichotomy i j with q | q | q
      · exact absurd i2 (j3 i q)
      · subst q
        exact ⟨rfl, rfl, rfl⟩
      · exact absurd j2 (i3 j q)
    · exact absurd i2 (c0 i i1)
  · rcases c with ⟨j, j1, j2, j3, rfl, rfl, rfl⟩ | ⟨c0, c⟩
    · exact absurd j2 (a0 j j1)
    · rcases a with ⟨i, j, h1, h2, h3, h4, h5, rfl, rfl, rfl⟩ | ⟨a1, rfl, rfl, a2⟩
      · rcases c with ⟨i', j', g1, g2, g3, g4, g5, rfl, rfl, rfl⟩ | ⟨c1, rfl, rfl, c2⟩
        · rcases Nat.lt_trichotomy i i' with q | q | q
          · exact absurd h3 (g4 i j q h1 h2)
          · subst q
            rcases Nat.lt_trichotomy j j' with q | q | q
            · exact absurd h3 (g5 j h1 q)
            · subst q
              exact ⟨rfl, rfl, rfl⟩
            · exact absurd g3 (h5 j' g1 q)
          · exact absurd g3 (h4 i' j' q g1 g2)
        · exact absurd h3 (c1 i j h1 h2)
      · rcases c with ⟨i', j', g1, g2, g3, g4, g5, rfl, rfl, rfl⟩ | ⟨c1, rfl, rfl, c2⟩
        · exact absurd g3 (a1 i' j' g1 g2)
        · exact ⟨by omega, rfl, rfl⟩
/-- n of m steps are done, then k t o is why -/
def Stq (m : Int) (WH : Int → Int → Int → Int → Prop) (n k t o : Int) : Prop := 0 ≤ n ∧ n ≤ m ∧ (∀ s, 1 ≤ s → s ≤ n → WH s 0 (-1) (-1)) ∧ ((n = m ∧ k = 0 ∧ t = -1 ∧ o = -1) ∨ (n < m ∧ WH (n + 1) k t o ∧ k ≠ 0))
theorem Stq_un {m : Int} {WH : Int → Int → Int → Int → Prop} (U : ∀ s k t o k' t' o', WH s k t o → WH s k' t' o' → k = k' ∧ t = t' ∧ o = o') {n k t o n' k' t' o' : Int} (a : Stq m WH n k t o) (c : Stq m WH n' k' t' o') : n = n' ∧ k = k' ∧ t = t' ∧ o = o' := by
  obtain ⟨a1, a2, a3, a4⟩ := a
  obtain ⟨c1, c2, c3, c4⟩ := c
  have e : n = n' := by
    rcases Int.lt_trichotomy n n' with q | q | q
    · rcases a4 with ⟨z, -⟩ | ⟨-, z, z2⟩
      · omega
      · exact absurd (U _ _ _ _ _ _ _ z (c3 (n + 1) (by omega) (by omega))).1 z2
    · exact q
    · rcases c4 with ⟨z, -⟩ | ⟨-, z, z2⟩
      · omega
      · exact absurd (U _ _ _ _ _ _ _ z (a3 (n' + 1) (by omega) (by omega))).1 z2
  subst e
  refine ⟨rfl, ?_⟩
  rcases a4 with ⟨z, rfl, rfl, rfl⟩ | ⟨z, z1, z2⟩
  · rcases c4 with ⟨y, rfl, rfl, rfl⟩ | ⟨y, y1, y2⟩
    · exact ⟨rfl, rfl, rfl⟩
    · omega
  · rcases c4 with ⟨y, rfl, rfl, rfl⟩ | ⟨y, y1, y2⟩
    · omega
    · exact U _ _ _ _ _ _ _ z1 y1
/-! the quiet steps -/
theorem td_abs (a b : Int) : (a.tdiv b).natAbs ≤ a.natAbs := by
  rw [Int.natAbs_tdiv]
  exact Nat.div_le_self _ _
theorem ed_eq {x u p : Int} (hu : 0 < u) (h1 : p * u ≤ x) (h2 : x < (p + 1) * u) : x / u = p := by
  have a := (Int.le_ediv_iff_mul_le hu).mpr h1
  have b := (Int.ediv_lt_iff_lt_mul hu).mpr h2
  omega
def goal (g u : Int) : Int := if g.tdiv u < 0 then g.tdiv u * u + 1 else (g.tdiv u + 1) * u
def qup (a b : Int) : Int := (a + b - 1).tdiv b
theorem qup_ok {a b : Int} (ha : 1 ≤ a) (hb : 1 ≤ b) : 1 ≤ qup a b ∧ qup a b ≤ a ∧ ∀ j, 0 ≤ j → j < qup a b → b * j ≤ a - 1 := by
  unfold qup
  rw [Int.tdiv_eq_ediv_of_nonneg (by omega)]
  have h1 := (Int.le_ediv_iff_mul_le (a := 1) (b := a + b - 1) (c := b) (by omega)).mpr (by omega)
  have h2 := Int.ediv_mul_le (a + b - 1) (b := b) (by omega)
  generalize hm : (a + b - 1) / b = m at *
  refine ⟨h1, ?_, fun j j0 jm => ?_⟩
  · have h3 : (a + b - 1) / b < a + 1 := by
      rw [Int.ediv_lt_iff_lt_mul (by omega)]
      have h4 : a * 1 ≤ a * b := Int.mul_le_mul_of_nonneg_left (by omega) (by omega)
      have h5 : (a + 1) * b = a * b + b := by rw [Int.add_mul, Int.one_mul]
      omega
    omega
  · have h3 : b * j ≤ b * (m - 1) := Int.mul_le_mul_of_nonneg_left (by omega) (by omega)
    have h4 : b * (m - 1) = m * b - b := by rw [Int.mul_sub, Int.mul_one, Int.mul_comm]
    omega
theorem goal_ok {g u : Int} (hu : 1 ≤ u) : g < goal g u ∧ goal g u - g ≤ 2 * u ∧ ∀ x, g ≤ x → x < goal g u → x.tdiv u = g.tdiv u := by
  unfold goal
  rcases td_cases g u with ⟨g0, e⟩ | ⟨g0, e⟩
  · rw [e]
    have h0 := Int.ediv_nonneg g0 (show 0 ≤ u by omega)
    have h1 := Int.lt_ediv_add_one_mul_self g (show 0 < u by omega)
    have h2 := Int.ediv_mul_le g (b := u) (by omega)
    rw [if_neg (by omega)]
    have h5 : (g / u + 1) * u = g / u * u + u := by rw [Int.add_mul, Int.one_mul]
    refine ⟨h1, by omega, fun x x1 x2 => ?_⟩
    rw [Int.tdiv_eq_ediv_of_nonneg (by omega)]
    exact ed_eq (by omega) (by omega) x2
  · rw [e]
    have h0 := Int.ediv_nonneg (show 0 ≤ -g by omega) (show 0 ≤ u by omega)
    have h1 := Int.lt_ediv_add_one_mul_self (-g) (show 0 < u by omega)
    have h2 := Int.ediv_mul_le (-g) (b := u) (by omega)
    have h5 : (-g / u + 1) * u = -g / u * u + u := by rw [Int.add_mul, Int.one_mul]
    generalize hq : -g / u = q at *
    have h6 : -q * u = -(q * u) := by rw [Int.neg_mul]
    by_cases hq0 : q = 0
    · subst hq0
      simp only [Int.zero_mul, Int.neg_zero, Int.zero_add, Int.one_mul] at *
      rw [if_neg (by omega)]
      refine ⟨by omega, by omega, fun x x1 x2 => ?_⟩
      rcases td_cases x u with ⟨x0, e2⟩ | ⟨x0, e2⟩
      · rw [e2]
        exact ed_eq (by omega) (by omega) (by omega)
      · rw [e2, ed_eq (p := 0) (x := -x) (by omega) (by omega) (by omega)]
        rfl
    · rw [if_pos (by omega)]
      have hqu : 1 * u ≤ q * u := Int.mul_le_mul_of_nonneg_right (by omega) (by omega)
      refine ⟨by omega, by omega, fun x x1 x2 => ?_⟩
      rcases td_cases x u with ⟨x0, e2⟩ | ⟨x0, e2⟩
      · omega
      · rw [e2, ed_eq (p := q) (x := -x) (by omega) (by omega) (by omega)]
/-- how many steps of size sd until the place changes -/
def qst (dn g sd d s : Int) : Int := qup (goal (d * dn + sd * s) (100 * g) - (d * dn + sd * s)) sd
theorem qst_ok {dn g sd d s : Int} (hg : 1 ≤ g) (hg5 : g ≤ 5) (hs : 1 ≤ sd) (hd : d = 1 ∨ d = -1) : 1 ≤ qst dn g sd d s ∧ qst dn g sd d s ≤ 1000 ∧ ∀ j, 0 ≤ j → j < qst dn g sd d s → (dn + sd * (d * (s + j))).tdiv (100 * g) = (dn + sd * (d * s)).tdiv (100 * g) := by
  obtain ⟨g1, g2, g3⟩ := goal_ok (g := d * dn + sd * s) (u := 100 * g) (by omega)
  obtain ⟨q1, q2, q3⟩ := qup_ok (a := goal (d * dn + sd * s) (100 * g) - (d * dn + sd * s)) (b := sd) (by omega) hs
  refine ⟨q1, by unfold qst; omega, fun j j0 j1 => ?_⟩
  have h1 := q3 j j0 j1
  have e1 : sd * (s + j) = sd * s + sd * j := Int.mul_add _ _ _
  have h0 : 0 ≤ sd * j := Int.mul_nonneg (by omega) j0
  have h2 := g3 (d * dn + sd * (s + j)) (by omega) (by omega)
  rcases hd with rfl | rfl
  · simp only [Int.one_mul] at *
    exact h2
  · have e2 : dn + sd * (-1 * (s + j)) = -(-1 * dn + sd * (s + j)) := by
      rw [Int.neg_one_mul, Int.neg_one_mul, Int.mul_neg]; omega
    have e3 : dn + sd * (-1 * s) = -(-1 * dn + sd * s) := by
      rw [Int.neg_one_mul, Int.neg_one_mul, Int.mul_neg]; omega
    rw [e2, e3, Int.neg_tdiv, Int.neg_tdiv, h2]
