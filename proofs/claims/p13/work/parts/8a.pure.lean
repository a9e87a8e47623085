/-! ===== change: the reference ===== -/
theorem L_brD {N : Nat} {h : Hs} (hS : Sk h) (hz : 70 ≤ sz h) {nr nt nd : Nat} {rA tA dA rT : Nat → Nat} {wy gr hd ds : Nat → Int} {gn : Nat → Bool} {tl tw tg ls ms pa : Nat → Int} (hT : RTh h nt tA tl tw tg ls ms pa) (hD : RDr h nd dA ds) (hR : RRo h nr nt rA tA rT wy gr hd gn) {gl n : Int} (g1 : -1 ≤ gl) (g2 : gl ≤ 100) (n1 : -9999 ≤ n) (n2 : n ≤ 9999) {i r : Nat} (hr : r < nr) (hri : rT r = i) (g3 : Hs → Int32 → Int32 → Int32 → Int32 → Option (Int32 × Hs)) : ∀ (e d fu : Nat), d + e = nd → e < fu → fX12_brings_b55 N g3 29 fu h (iI i) (iI gl) (iI n) (iI r) (iI d) = if fsm (fun d => decide (pa (rT r) + wy r * (ds d * n).tdiv (100 * gr r) = gl)) d e < 0 then g3 h (iI i) (iI gl) (iI n) (iI ((r : Int) + 1)) else some (iI 1, ftH h 49 50 i r (fsm (fun d => decide (pa (rT r) + wy r * (ds d * n).tdiv (100 * gr r) = gl)) d e)) := by
  have c3 := hD.1.2.2
  have cr := hR.1.2.2
  have ct := hT.1.2.2
  have o9 : oI 12 9 h (some 29) = some (iI nd) := oIv (by rw [ss_29 hS]) hD.1.2.1
  obtain ⟨-, -, ⟨m0, m1, m2, m3, m4⟩, q1, q2, q3, q4, q5⟩ := hR.2.1 r hr
  obtain ⟨-, -, ⟨-, -, -, a3, -⟩, bb⟩ := hT.2.1 (rT r) q1
  rw [hri] at q1
  have a3' : aI h 33 i = iI (pa (rT r)) := by rw [← hri]; exact a3
  intro e
  induction e with
  | zero =>
    intro d fu hd' hf
    obtain ⟨fu, rfl⟩ : ∃ m, fu = m + 1 := ⟨fu - 1, by omega⟩
    rw [if_pos (by simp [fsm])]
    show fX12_brings_b55_body N g3 (fX12_brings_b55 N g3 29 fu) 29 h (iI i) (iI gl) (iI n) (iI r) (iI d) = _
    have a1 : iI (nd : Int) ≤ iI (d : Int) := (iI_le (by omega) (by omega) (by omega) (by omega)).mpr (by omega)
    simp only [fX12_brings_b55_body, fX12_brings_b130, lit, iI_add, Option.bind_some]
    refine bst (o9) ?_
    refine ifp (a1) ?_
    rfl
  | succ e ih =>
    intro d fu hd' hf
    obtain ⟨fu, rfl⟩ : ∃ m, fu = m + 1 := ⟨fu - 1, by omega⟩
    show fX12_brings_b55_body N g3 (fX12_brings_b55 N g3 29 fu) 29 h (iI i) (iI gl) (iI n) (iI r) (iI d) = _
    have a1 : ¬ iI (nd : Int) ≤ iI (d : Int) := fun q => by have := (iI_le (by omega) (by omega) (by omega) (by omega)).mp q; omega
    obtain ⟨-, -, e2, e5, e6⟩ := hD.2.1 d (by omega)
    obtain ⟨p1, p2, p3, p4⟩ := pl_bd (g := gr r) e5 e6 n1 n2 q2
    have q := ih (d + 1) fu (by omega) (by omega)
    simp only [Int.natCast_add, Int.natCast_one] at q
    have l33 := lAv (ss_33 hS) (show i < 40 by omega) (by omega) a3'
    have l40 := lAv (ss_40 hS) (show r < 40 by omega) (by omega) m2
    have l37 := lAv (ss_37 hS) (show d < 20 by omega) (by omega) e2
    have l39 := lAv (ss_39 hS) (show r < 40 by omega) (by omega) m1
    have dk := dv_ok (a := ds d * n) (b := 100 * gr r) (by omega) (by omega) (by omega) (by omega)
    have ed : dv (iI (ds d) * iI n) (iI 100 * iI (gr r)) = some (iI ((ds d * n).tdiv (100 * gr r))) := by rw [iI_mul, iI_mul]; exact dk
    have es : iI (pa (rT r)) + iI (wy r) * iI ((ds d * n).tdiv (100 * gr r)) = iI (pa (rT r) + wy r * (ds d * n).tdiv (100 * gr r)) := by rw [iI_mul, iI_add]
    have le : iI (pa (rT r) + wy r * (ds d * n).tdiv (100 * gr r)) = iI gl ↔ pa (rT r) + wy r * (ds d * n).tdiv (100 * gr r) = gl := iI_eq (by omega) (by omega) (by omega) (by omega)
    simp only [fX12_brings_b55_body, lit, Option.bind_some]
    by_cases w : pa (rT r) + wy r * (ds d * n).tdiv (100 * gr r) = gl
    · rw [fsm_y _ (decide_eq_true w), if_neg (by omega)]
      have ke : Ke [] [49] [] [] h (uA h 49 i (iI r)) := Ke_rf.b 49 _ _ (by decide)
      have hS1 := hS.e hz ke (by decide)
      refine bst (o9) ?_
      refine ifn (a1) ?_
      refine bst (sR_1205_29 hS) ?_
      refine bst (l33) ?_
      refine bst (sR_1214_29 hS) ?_
      refine bst (l40) ?_
      refine bst (sR_1210_29 hS) ?_
      refine bst (l37) ?_
      refine bst (sR_1213_29 hS) ?_
      refine bst (l39) ?_
      refine bst (ed) ?_
      rw [es]
      refine ifp (le.mpr w) ?_
      refine bst (sR_1231_29 hS) ?_
      refine bst (sAv (ss_49 hS) (by omega) (by omega)) ?_
      refine bst (sR_1232_29 hS1) ?_
      refine bst (sAv (ss_50 hS1) (by omega) (by omega)) ?_
      rfl
    · rw [fsm_n _ (decide_eq_false w), ← q]
      refine bst (o9) ?_
      refine ifn (a1) ?_
      refine bst (sR_1205_29 hS) ?_
      refine bst (l33) ?_
      refine bst (sR_1214_29 hS) ?_
      refine bst (l40) ?_
      refine bst (sR_1210_29 hS) ?_
      refine bst (l37) ?_
      refine bst (sR_1213_29 hS) ?_
      refine bst (l39) ?_
      refine bst (ed) ?_
      rw [es]
      refine ifn (fun z => w (le.mp z)) ?_
      rw [iI_add]
theorem L_brR {N : Nat} (hN : 100000000 ≤ N) {h : Hs} (hS : Sk h) (hz : 70 ≤ sz h) {nr nt nd : Nat} {rA tA dA rT : Nat → Nat} {wy gr hd ds : Nat → Int} {gn : Nat → Bool} {tl tw tg ls ms pa : Nat → Int} (hT : RTh h nt tA tl tw tg ls ms pa) (hD : RDr h nd dA ds) (hR : RRo h nr nt rA tA rT wy gr hd gn) {gl n : Int} (g1 : -1 ≤ gl) (g2 : gl ≤ 100) (n1 : -9999 ≤ n) (n2 : n ≤ 9999) {i : Nat} (hi : i < nt) : ∀ (e j fu : Nat), j + e = nr → e < fu → fX12_brings_b3 N 29 fu h (iI i) (iI gl) (iI n) (iI j) = some (if fsm (srv pa wy gr ds hd tg rT gn nd gl n i) j e < 0 then (iI 0, h) else (iI 1, ftH h 49 50 i (fsm (srv pa wy gr ds hd tg rT gn nd gl n i) j e) (fdr pa wy gr ds rT nd gl n (fsm (srv pa wy gr ds hd tg rT gn nd gl n i) j e).toNat))) := by
  have c3 := hR.1.2.2
  have ct := hT.1.2.2
  have cd := hD.1.2.2
  have o11 : oI 12 11 h (some 29) = some (iI nr) := oIv (by rw [ss_29 hS]) hR.1.2.1
  have rc12 : rc 12 h (some 29) = some 29 := rcv (by rw [ss_29 hS])
  intro e
  induction e with
  | zero =>
    intro j fu hj hf
    obtain ⟨fu, rfl⟩ : ∃ m, fu = m + 1 := ⟨fu - 1, by omega⟩
    rw [if_pos (show fsm (srv pa wy gr ds hd tg rT gn nd gl n i) j 0 < 0 by simp [fsm])]
    show fX12_brings_b3_body N (fX12_brings_b3 N 29 fu) 29 h (iI i) (iI gl) (iI n) (iI j) = _
    have a1 : iI (nr : Int) ≤ iI (j : Int) := (iI_le (by omega) (by omega) (by omega) (by omega)).mpr (by omega)
    simp only [fX12_brings_b3_body, lit]
    refine bst (o11) ?_
    refine ifp (a1) ?_
    rfl
  | succ e ih =>
    intro j fu hj hf
    obtain ⟨fu, rfl⟩ : ∃ m, fu = m + 1 := ⟨fu - 1, by omega⟩
    have a1 : ¬ iI (nr : Int) ≤ iI (j : Int) := fun q => by have := (iI_le (by omega) (by omega) (by omega) (by omega)).mp q; omega
    obtain ⟨-, -, ⟨m0, m1, m2, m3, m4⟩, q1, q2, q3, q4, q5⟩ := hR.2.1 j (by omega)
    obtain ⟨-, -, -, bb⟩ := hT.2.1 (rT j) q1
    have q := ih (j + 1) fu (by omega) (by omega)
    simp only [Int.natCast_add, Int.natCast_one] at q
    have l38 := lAv (ss_38 hS) (show j < 40 by omega) (by omega) m0
    have l44 := lAz (ss_44 hS) (show j < 40 by omega) (by omega) m4
    have l41 := lAv (ss_41 hS) (show j < 40 by omega) (by omega) m3
    have lb := ldv_b (g := tg (rT j)) (r := gr j) (by omega) (by omega)
    have lm := v_loadM (N := N) hS hR hT (r := j) (by omega)
    have eT : iI ((rT j : Nat) : Int) = iI (i : Int) ↔ ((rT j : Nat) : Int) = (i : Int) := iI_eq (by omega) (by omega) (by omega) (by omega)
    have skip : fsm (srv pa wy gr ds hd tg rT gn nd gl n i) j (e + 1) = fsm (srv pa wy gr ds hd tg rT gn nd gl n i) (j + 1) e → fX12_brings_b3 N 29 (fu + 1) h (iI i) (iI gl) (iI n) (iI j) = fX12_brings_b3 N 29 fu h (iI i) (iI gl) (iI n) (iI ((j : Int) + 1)) → fX12_brings_b3 N 29 (fu + 1) h (iI i) (iI gl) (iI n) (iI j) = some (if fsm (srv pa wy gr ds hd tg rT gn nd gl n i) j (e + 1) < 0 then (iI 0, h) else (iI 1, ftH h 49 50 i (fsm (srv pa wy gr ds hd tg rT gn nd gl n i) j (e + 1)) (fdr pa wy gr ds rT nd gl n (fsm (srv pa wy gr ds hd tg rT gn nd gl n i) j (e + 1)).toNat))) := by
      intro e1 e2
      rw [e1, e2]
      exact q
    by_cases w1 : rT j = i
    · have w1' := eT.mpr (show ((rT j : Nat) : Int) = (i : Int) by omega)
      cases w2 : gn j with
      | true =>
        refine skip (fsm_n _ (decide_eq_false (fun s => by rw [w2] at s; cases s.2.1))) ?_
        rw [w2] at l44
        have l44' : lA 21 h (some 44) (iI (j : Int)) = some (iI 1) := l44
        show fX12_brings_b3_body N (fX12_brings_b3 N 29 fu) 29 h (iI i) (iI gl) (iI n) (iI j) = _
        simp only [fX12_brings_b3_body, fX12_brings_b130, lit, iI_add, Option.bind_some]
        refine bst (o11) ?_
        refine ifn (a1) ?_
        refine bst (sR_1212_29 hS) ?_
        refine bst (l38) ?_
        refine ifp (w1') ?_
        refine bst (sR_1218_29 hS) ?_
        refine bst (l44') ?_
        refine ifn (n10) ?_
        rfl
      | false =>
        rw [w2] at l44
        have l44' : lA 21 h (some 44) (iI (j : Int)) = some (iI 0) := l44
        have ls : iI (ldv (tg (rT j)) (gr j)) ≤ iI (hd j) ↔ ldv (tg (rT j)) (gr j) ≤ hd j := iI_le (by omega) (by omega) (by omega) (by omega)
        by_cases w3 : hd j - ldv (tg (rT j)) (gr j) < 0
        · refine skip (fsm_n _ (decide_eq_false (fun s => by omega))) ?_
          show fX12_brings_b3_body N (fX12_brings_b3 N 29 fu) 29 h (iI i) (iI gl) (iI n) (iI j) = _
          simp only [fX12_brings_b3_body, fX12_brings_b130, lit, iI_add, Option.bind_some]
          refine bst (o11) ?_
          refine ifn (a1) ?_
          refine bst (sR_1212_29 hS) ?_
          refine bst (l38) ?_
          refine ifp (w1') ?_
          refine bst (sR_1218_29 hS) ?_
          refine bst (l44') ?_
          refine ifp (rfl) ?_
          refine bst (sR_1215_29 hS) ?_
          refine bst (l41) ?_
          refine bst (rc12) ?_
          refine bst (lm) ?_
          refine ifn (fun s => by have := ls.mp s; omega) ?_
          rfl
        · have ib := L_brD (N := N) hS hz hT hD hR g1 g2 n1 n2 (show j < nr by omega) w1 (fX12_brings_b3 N 29 fu) nd 0 N (by omega) (by omega)
          have st : fX12_brings_b3 N 29 (fu + 1) h (iI i) (iI gl) (iI n) (iI j) = fX12_brings_b55 N (fX12_brings_b3 N 29 fu) 29 N h (iI i) (iI gl) (iI n) (iI j) (iI 0) := by
            show fX12_brings_b3_body N (fX12_brings_b3 N 29 fu) 29 h (iI i) (iI gl) (iI n) (iI j) = _
            simp only [fX12_brings_b3_body, lit]
            refine bst (o11) ?_
            refine ifn (a1) ?_
            refine bst (sR_1212_29 hS) ?_
            refine bst (l38) ?_
            refine ifp (w1') ?_
            refine bst (sR_1218_29 hS) ?_
            refine bst (l44') ?_
            refine ifp (rfl) ?_
            refine bst (sR_1215_29 hS) ?_
            refine bst (l41) ?_
            refine bst (rc12) ?_
            refine bst (lm) ?_
            refine ifp (ls.mpr (by omega)) ?_
            rfl
          have ib' : fX12_brings_b55 N (fX12_brings_b3 N 29 fu) 29 N h (iI i) (iI gl) (iI n) (iI j) (iI 0) = if fdr pa wy gr ds rT nd gl n j < 0 then fX12_brings_b3 N 29 fu h (iI i) (iI gl) (iI n) (iI ((j : Int) + 1)) else some (iI 1, ftH h 49 50 i j (fdr pa wy gr ds rT nd gl n j)) := ib
          by_cases w4 : fdr pa wy gr ds rT nd gl n j < 0
          · refine skip (fsm_n _ (decide_eq_false (fun s => by omega))) ?_
            rw [if_pos w4] at ib'
            exact st.trans ib'
          · have hy : srv pa wy gr ds hd tg rT gn nd gl n i j = true := decide_eq_true ⟨w1, w2, by omega, by omega⟩
            rw [fsm_y _ hy, if_neg (by omega), Int.toNat_natCast]
            rw [if_neg w4] at ib'
            exact st.trans ib'
    · refine skip (fsm_n _ (decide_eq_false (fun s => w1 s.1))) ?_
      have w1' : ¬ iI ((rT j : Nat) : Int) = iI (i : Int) := fun z => w1 (by have := eT.mp z; omega)
      show fX12_brings_b3_body N (fX12_brings_b3 N 29 fu) 29 h (iI i) (iI gl) (iI n) (iI j) = _
      simp only [fX12_brings_b3_body, fX12_brings_b130, lit, iI_add, Option.bind_some]
      refine bst (o11) ?_
      refine ifn (a1) ?_
      refine bst (sR_1212_29 hS) ?_
      refine bst (l38) ?_
      refine ifn (w1') ?_
      rfl
theorem L_chI {N : Nat} {h0 : Hs} (hS0 : Sk h0) (hz : 70 ≤ sz h0) {nt : Nat} (ct : nt ≤ 40) (g1 : gI h0 1201 29 = iI nt) {s n c : Int32} : ∀ (e i fu : Nat) (h : Hs), Ke [1230] [49, 50, 51] [] [] h0 h → sz h = sz h0 → gI h 1230 29 = gI h0 1230 29 → i + e = nt → e < fu → (∀ k, k < i → aI h 49 k = iI (-1) ∧ aI h 50 k = iI (-1)) → ∃ h', fX12_change_b46 N 29 fu h s n c (iI i) = fX12_change_b80 N 29 N h' s n c (iI 0) ∧ Ke [1230] [49, 50, 51] [] [] h0 h' ∧ sz h' = sz h0 ∧ gI h' 1230 29 = gI h0 1230 29 ∧ (∀ k, k < nt → aI h' 49 k = iI (-1) ∧ aI h' 50 k = iI (-1)) := by
  intro e
  induction e with
  | zero =>
    intro i fu h ke sz0 g30 hi hf ga
    obtain ⟨fu, rfl⟩ : ∃ m, fu = m + 1 := ⟨fu - 1, by omega⟩
    have hS := hS0.e hz ke (by decide)
    have o1 : oI 12 1 h (some 29) = some (iI nt) := oIv (by rw [ss_29 hS]) (by rw [ke.1 1201 29 (by decide) (by omega)]; exact g1)
    have a1 : iI (nt : Int) ≤ iI (i : Int) := (iI_le (by omega) (by omega) (by omega) (by omega)).mpr (by omega)
    refine ⟨h, ?_, ke, sz0, g30, fun k hk => ga k (by omega)⟩
    show fX12_change_b46_body N (fX12_change_b46 N 29 fu) 29 h s n c (iI i) = _
    simp only [fX12_change_b46_body, lit]
    refine bst (o1) ?_
    refine ifp (a1) ?_
    rfl
  | succ e ih =>
    intro i fu h ke sz0 g30 hi hf ga
    obtain ⟨fu, rfl⟩ : ∃ m, fu = m + 1 := ⟨fu - 1, by omega⟩
    have hS := hS0.e hz ke (by decide)
    have o1 : oI 12 1 h (some 29) = some (iI nt) := oIv (by rw [ss_29 hS]) (by rw [ke.1 1201 29 (by decide) (by omega)]; exact g1)
    have a1 : ¬ iI (nt : Int) ≤ iI (i : Int) := fun q => by have := (iI_le (by omega) (by omega) (by omega) (by omega)).mp q; omega
    have ke1 : Ke [1230] [49, 50, 51] [] [] h (uA h 49 i (iI (-1))) := Ke_rf.b 49 _ _ (by decide)
    have hS1 := hS.e (by omega) ke1 (by decide)
    obtain ⟨h2, eh2⟩ : ∃ h2, h2 = uA (uA h 49 i (iI (-1))) 50 i (iI (-1)) := ⟨_, rfl⟩
    have ke2 : Ke [1230] [49, 50, 51] [] [] h h2 := by rw [eh2]; exact ke1.b 50 _ _ (by decide)
    obtain ⟨h', r1, r2⟩ := ih (i + 1) fu h2 (ke.tr ke2) (by rw [eh2]; exact sz0) (by rw [← g30, eh2]; rfl) (by omega) (by omega) (fun k hk => by
      by_cases w : k = i
      · subst w
        rw [eh2]
        simp [HR]
      · have := ga k (by omega)
        rw [eh2]
        simp [HR, w, this])
    simp only [Int.natCast_add, Int.natCast_one] at r1
    refine ⟨h', ?_, r2⟩
    rw [← r1]
    show fX12_change_b46_body N (fX12_change_b46 N 29 fu) 29 h s n c (iI i) = _
    simp only [fX12_change_b46_body, lit, iI_neg, iI_add, Option.bind_some]
    refine bst (o1) ?_
    refine ifn (a1) ?_
    refine bst (sR_1231_29 hS) ?_
    refine bst (sAv (ss_49 hS) (by omega) (by omega)) ?_
    refine bst (sR_1232_29 hS1) ?_
    refine bst (sAv (ss_50 hS1) (by omega) (by omega)) ?_
    rw [← eh2]
theorem L_chM {N : Nat} {h0 : Hs} (hS0 : Sk h0) (hz : 70 ≤ sz h0) {nt : Nat} {tA sA : Nat → Nat} {tl tw tg ls ms pa : Nat → Int} {sc : Nat → Nat → Int} (hT0 : RTh h0 nt tA tl tw tg ls ms pa) (hC0 : RSc h0 nt tA sA ls ms sc) {s : Nat} (hs : s < 10) {n : Int} {mv : Nat → Bool} {ft fd : Nat → Int} (hmv : ∀ i, mv i = decide (sc i s ≠ -1 ∧ sc i s ≠ pa i)) (hFT : ∀ i h, i < nt → Ke [1230] [49, 50, 51] [] [] h0 h → fX12_brings N h 29 (iI i) (iI (sc i s)) (iI n) = some (if ft i < 0 then (iI 0, h) else (iI 1, ftH h 49 50 i (ft i) (fd i)))) : ∀ (e i : Nat) (c : Int) (fu : Nat) (h : Hs), Ke [1230] [49, 50, 51] [] [] h0 h → sz h = sz h0 → i + e = nt → e < fu → gI h 1230 29 = iI (b2 (hasB (bdf mv ft) 0 i)) → (∀ k, k < nt → aI h 49 k = iI (if k < i then crf mv ft ft k else -1) ∧ aI h 50 k = iI (if k < i then crf mv ft fd k else -1)) → (hasB (bdf mv ft) 0 i = false → c = cntB mv 0 i) → ∃ (c' : Int) (h' : Hs), fX12_change_b80 N 29 fu h (iI s) (iI n) (iI c) (iI i) = fX12_change_b177 N 29 h' (iI c') ∧ (hasB (bdf mv ft) 0 nt = false → c' = cntB mv 0 nt) ∧ Ke [1230] [49, 50, 51] [] [] h0 h' ∧ sz h' = sz h0 ∧ gI h' 1230 29 = iI (b2 (hasB (bdf mv ft) 0 nt)) ∧ (∀ k, k < nt → aI h' 49 k = iI (crf mv ft ft k) ∧ aI h' 50 k = iI (crf mv ft fd k)) := by
  have ct := hT0.1.2.2
  intro e
  induction e with
  | zero =>
    intro i c fu h ke sz0 hi hf g5 ga gc
    obtain ⟨fu, rfl⟩ : ∃ m, fu = m + 1 := ⟨fu - 1, by omega⟩
    have ei : i = nt := by omega
    subst ei
    have hS := hS0.e hz ke (by decide)
    have o1 : oI 12 1 h (some 29) = some (iI i) := oIv (by rw [ss_29 hS]) (by rw [ke.1 1201 29 (by decide) (by omega)]; exact hT0.1.2.1)
    refine ⟨c, h, ?_, gc, ke, sz0, g5, fun k hk => by have := ga k hk; rw [if_pos hk, if_pos hk] at this; exact this⟩
    show fX12_change_b80_body N (fX12_change_b80 N 29 fu) 29 h (iI s) (iI n) (iI c) (iI i) = _
    simp only [fX12_change_b80_body]
    refine bst (o1) ?_
    refine ifp (Int32.le_refl _) ?_
    rfl
  | succ e ih =>
    intro i c fu h ke sz0 hi hf g5 ga gc
    obtain ⟨fu, rfl⟩ : ∃ m, fu = m + 1 := ⟨fu - 1, by omega⟩
    have hS := hS0.e hz ke (by decide)
    have hT := hT0.e hz ke (by decide) (by decide) (by decide)
    have o1 : oI 12 1 h (some 29) = some (iI nt) := oIv (by rw [ss_29 hS]) hT.1.2.1
    have a1 : ¬ iI (nt : Int) ≤ iI (i : Int) := fun q => by have := (iI_le (by omega) (by omega) (by omega) (by omega)).mp q; omega
    have o30 : oI 12 30 h (some 29) = some (iI (b2 (hasB (bdf mv ft) 0 i))) := oIv (by rw [ss_29 hS]) g5
    cases hb : hasB (bdf mv ft) 0 i with
    | true =>
      have hbn := hasB_mo hb (show i ≤ nt by omega)
      rw [hb] at o30
      have o30' : oI 12 30 h (some 29) = some (iI 1) := o30
      refine ⟨c, h, ?_, (fun q => by rw [hbn] at q; cases q), ke, sz0, by rw [g5, hb, hbn], fun k hk => ?_⟩
      · show fX12_change_b80_body N (fX12_change_b80 N 29 fu) 29 h (iI s) (iI n) (iI c) (iI i) = _
        simp only [fX12_change_b80_body, lit]
        refine bst (o1) ?_
        refine ifn (a1) ?_
        refine bst (o30') ?_
        refine ifn (n10) ?_
        rfl
      · obtain ⟨z1, z2⟩ := ga k hk
        rw [z1, z2]
        by_cases w1 : k < i
        · rw [if_pos w1, if_pos w1]
          exact ⟨rfl, rfl⟩
        · rw [if_neg w1, if_neg w1]
          have hk2 := hasB_mo hb (show i ≤ k by omega)
          simp [crf, hk2]
    | false =>
      rw [hb] at o30
      have o30' : oI 12 30 h (some 29) = some (iI 0) := o30
      have ec := gc hb
      obtain ⟨-, -, ⟨-, -, -, a3, -⟩, bb⟩ := hT.2.1 i (by omega)
      have hC := hC0.e hz hT0.lt ke (by decide) (by decide) (fun k hk => by
        have := (hC0.1 k hk).1.2.1
        simp only [List.mem_cons, List.not_mem_nil, or_false]
        omega)
      obtain ⟨-, x5⟩ := hC.1 i (by omega)
      obtain ⟨-, x6, x7⟩ := x5 s hs
      have ls' : lA 20 h (some 48) (iI 40 * iI s + iI i) = some (iI (sc i s)) := by
        have : iI 40 * iI (s : Int) + iI (i : Int) = iI ((40 * s + i : Nat) : Int) := by rw [iI_mul, iI_add]; congr 1
        rw [this]
        exact lAv (ss_48 hS) (by omega) (by omega) x6
      have l1 : iI (sc i s) < iI 0 ↔ sc i s < 0 := iI_lt (by omega) (by omega) (by omega) (by omega)
      have l2 : iI (sc i s) = iI (pa i) ↔ sc i s = pa i := iI_eq (by omega) (by omega) (by omega) (by omega)
      have l33 := lAv (ss_33 hS) (show i < 40 by omega) (by omega) a3
      have hz' : ∀ p : Nat → Bool, hasB p 0 (i + 1) = (hasB p 0 i || p i) := fun p => by rw [hasB_z, Nat.zero_add]
      have cz' : cntB mv 0 (i + 1) = cntB mv 0 i + (if mv i then 1 else 0) := by rw [cntB_z, Nat.zero_add]
      cases hm : mv i with
      | false =>
        have hbi : bdf mv ft i = false := by simp [bdf, hm]
        have hb1 : hasB (bdf mv ft) 0 (i + 1) = false := by rw [hz', hb, hbi]; rfl
        have cr0 : ∀ fv, crf mv ft fv i = -1 := fun fv => by simp [crf, hb, hm]
        obtain ⟨c', h', r1, r2⟩ := ih (i + 1) c fu h ke sz0 (by omega) (by omega) (by rw [hb1, ← hb]; exact g5) (fun k hk => by
          obtain ⟨z1, z2⟩ := ga k hk
          rw [z1, z2]
          by_cases w1 : k < i
          · rw [if_pos w1, if_pos w1, if_pos (show k < i + 1 by omega), if_pos (show k < i + 1 by omega)]
            exact ⟨rfl, rfl⟩
          · rw [if_neg w1, if_neg w1]
            by_cases w2 : k = i
            · subst w2
              rw [if_pos (Nat.lt_succ_self k), if_pos (Nat.lt_succ_self k), cr0, cr0]
              exact ⟨rfl, rfl⟩
            · rw [if_neg (by omega), if_neg (by omega)]
              exact ⟨rfl, rfl⟩) (fun _ => by rw [cz', hm, ec]; simp)
        simp only [Int.natCast_add, Int.natCast_one] at r1
        refine ⟨c', h', ?_, r2⟩
        rw [← r1]
        show fX12_change_b80_body N (fX12_change_b80 N 29 fu) 29 h (iI s) (iI n) (iI c) (iI i) = _
        simp only [fX12_change_b80_body, fX12_change_b171, lit, Option.bind_some]
        by_cases w1 : sc i s = -1
        · skip
          refine bst (o1) ?_
          refine ifn (a1) ?_
          refine bst (o30') ?_
          refine ifp (rfl) ?_
          refine bst (sR_1228_29 hS) ?_
          refine bst (ls') ?_
          refine ifp (l1.mpr (by omega)) ?_
          rw [iI_add]
        · have w2 : sc i s = pa i := by
            rw [hmv] at hm
            exact Decidable.not_not.mp fun q => (of_decide_eq_false hm) ⟨w1, q⟩
          refine bst (o1) ?_
          refine ifn (a1) ?_
          refine bst (o30') ?_
          refine ifp (rfl) ?_
          refine bst (sR_1228_29 hS) ?_
          refine bst (ls') ?_
          refine ifn (fun q => by have := l1.mp q; omega) ?_
          refine bst (sR_1205_29 hS) ?_
          refine bst (l33) ?_
          refine ifp (l2.mpr w2) ?_
          rw [iI_add]
      | true =>
        have hm2 := hm
        rw [hmv] at hm2
        obtain ⟨w1, w2⟩ := of_decide_eq_true hm2
        have fT := hFT i h (by omega) ke
        have rc12 : rc 12 h (some 29) = some 29 := rcv (by rw [ss_29 hS])
        have go : ∀ (c2 f1 f2 f3 : Int) (h2 : Hs), Ke [1230] [49, 50, 51] [] [] h h2 → sz h2 = sz h → gI h2 1230 29 = iI (b2 (hasB (bdf mv ft) 0 (i + 1))) → f1 = crf mv ft ft i → f2 = crf mv ft fd i → (∀ k, aI h2 49 k = if k = i then iI f1 else aI h 49 k) → (∀ k, aI h2 50 k = if k = i then iI f2 else aI h 50 k) → (hasB (bdf mv ft) 0 (i + 1) = false → c2 = c + 1) → fX12_change_b80 N 29 (fu + 1) h (iI s) (iI n) (iI c) (iI i) = fX12_change_b80 N 29 fu h2 (iI s) (iI n) (iI c2) (iI ((i : Int) + 1)) → ∃ (c' : Int) (h' : Hs), fX12_change_b80 N 29 (fu + 1) h (iI s) (iI n) (iI c) (iI i) = fX12_change_b177 N 29 h' (iI c') ∧ (hasB (bdf mv ft) 0 nt = false → c' = cntB mv 0 nt) ∧ Ke [1230] [49, 50, 51] [] [] h0 h' ∧ sz h' = sz h0 ∧ gI h' 1230 29 = iI (b2 (hasB (bdf mv ft) 0 nt)) ∧ (∀ k, k < nt → aI h' 49 k = iI (crf mv ft ft k) ∧ aI h' 50 k = iI (crf mv ft fd k)) := by
          intro c2 f1 f2 f3 h2 k2 s2 y0 hv1 hv2 y1 y2 yc st
          obtain ⟨c', h', r1, r2⟩ := ih (i + 1) c2 fu h2 (ke.tr k2) (s2.trans sz0) (by omega) (by omega) y0 (fun k hk => by
            obtain ⟨z1, z2⟩ := ga k hk
            rw [y1, y2]
            by_cases w3 : k = i
            · subst w3
              rw [if_pos rfl, if_pos rfl, if_pos (Nat.lt_succ_self k), if_pos (Nat.lt_succ_self k), ← hv1, ← hv2]
              exact ⟨rfl, rfl⟩
            · rw [if_neg w3, if_neg w3, z1, z2]
              by_cases w4 : k < i
              · rw [if_pos w4, if_pos w4, if_pos (show k < i + 1 by omega), if_pos (show k < i + 1 by omega)]
                exact ⟨rfl, rfl⟩
              · rw [if_neg w4, if_neg w4, if_neg (by omega), if_neg (by omega)]
                exact ⟨rfl, rfl⟩) (fun q => by rw [yc q, cz', hm, ec]; simp)
          simp only [Int.natCast_add, Int.natCast_one] at r1
          exact ⟨c', h', st.trans r1, r2⟩
        by_cases w3 : ft i < 0
        · have hbi : bdf mv ft i = true := by simp [bdf, hm, w3]
          have hb1 : hasB (bdf mv ft) 0 (i + 1) = true := by rw [hz', hb, hbi]; rfl
          rw [if_pos w3] at fT
          obtain ⟨h3, eh3⟩ : ∃ h3, h3 = uI h 1230 29 (iI 1) := ⟨_, rfl⟩
          have ke3 : Ke [1230] [49, 50, 51] [] [] h h3 := by rw [eh3]; exact Ke_rf.u 1230 _ _ (by decide)
          have hS3 := hS.e (by omega) ke3 (by decide)
          have z30 : qZ 12 30 h (some 29) (iI 1) = some h3 := by rw [eh3]; exact qZv (by rw [ss_29 hS]) (by omega)
          have ke4 : Ke [1230] [49, 50, 51] [] [] h (uA h3 49 i (iI (-2))) := ke3.b 49 _ _ (by decide)
          have hS4 := hS.e (by omega) ke4 (by decide)
          refine go c (-2) (-2) 0 (uA (uA h3 49 i (iI (-2))) 50 i (iI (-2))) (ke4.b 50 _ _ (by decide)) (by rw [eh3]; rfl) (by rw [hb1, eh3]; simp [HR, b2]) (by simp [crf, hb, hm, w3]) (by simp [crf, hb, hm, w3]) (fun k => by rw [eh3]; simp [HR]) (fun k => by rw [eh3]; simp [HR]) (fun q => by rw [hb1] at q; cases q) ?_
          show fX12_change_b80_body N (fX12_change_b80 N 29 fu) 29 h (iI s) (iI n) (iI c) (iI i) = _
          simp only [fX12_change_b80_body, fX12_change_b171, lit, iI_neg, Option.bind_some]
          refine bst (o1) ?_
          refine ifn (a1) ?_
          refine bst (o30') ?_
          refine ifp (rfl) ?_
          refine bst (sR_1228_29 hS) ?_
          refine bst (ls') ?_
          refine ifn (fun q => by have := l1.mp q; omega) ?_
          refine bst (sR_1205_29 hS) ?_
          refine bst (l33) ?_
          refine ifn (fun q => w2 (l2.mp q)) ?_
          refine bst (rc12) ?_
          refine bst (fT) ?_
          refine ifp (rfl) ?_
          refine bst (z30) ?_
          refine bst (sR_1231_29 hS3) ?_
          refine bst (sAv (ss_49 hS3) (by omega) (by omega)) ?_
          refine bst (sR_1232_29 hS4) ?_
          refine bst (sAv (ss_50 hS4) (by omega) (by omega)) ?_
          rw [iI_add]
        · have hbi : bdf mv ft i = false := by simp [bdf, hm, w3]
          have hb1 : hasB (bdf mv ft) 0 (i + 1) = false := by rw [hz', hb, hbi]; rfl
          rw [if_neg w3] at fT
          refine go (c + 1) (ft i) (fd i) 0 (ftH h 49 50 i (ft i) (fd i)) ((Ke_rf.b 49 _ _ (by decide)).b 50 _ _ (by decide)) rfl (by rw [hb1, ← hb]; exact g5) (by simp [crf, hb, hm, w3]) (by simp [crf, hb, hm, w3]) (fun k => by simp [ftH, HR]) (fun k => by simp [ftH, HR]) (fun _ => rfl) ?_
          show fX12_change_b80_body N (fX12_change_b80 N 29 fu) 29 h (iI s) (iI n) (iI c) (iI i) = _
          simp only [fX12_change_b80_body, fX12_change_b171, lit, Option.bind_some]
          refine bst (o1) ?_
          refine ifn (a1) ?_
          refine bst (o30') ?_
          refine ifp (rfl) ?_
          refine bst (sR_1228_29 hS) ?_
          refine bst (ls') ?_
          refine ifn (fun q => by have := l1.mp q; omega) ?_
          refine bst (sR_1205_29 hS) ?_
          refine bst (l33) ?_
          refine ifn (fun q => w2 (l2.mp q)) ?_
          refine bst (rc12) ?_
          refine bst (fT) ?_
          refine ifn (n10) ?_
          rw [iI_add, iI_add]
theorem v_workOf {N : Nat} (hN : 100000000 ≤ N) {h : Hs} (hS : Sk h) {nr nt nd : Nat} {rA tA dA rT : Nat → Nat} {wy gr hd ds : Nat → Int} {gn : Nat → Bool} {tl tw tg ls ms pa : Nat → Int} {dr td : Nat → Option Nat} {sr dn : Nat → Int} (hT : RTh h nt tA tl tw tg ls ms pa) (hD : RDr h nd dA ds) (hR : RRo h nr nt rA tA rT wy gr hd gn) (hM : RTm h nr rT dr sr dn) (hL : RTl nt nd nr rT dr td) (hdn : ∀ r, r < nr → dr r ≠ none → -1000000000 ≤ dn r ∧ dn r ≤ 1000000000) {cr cd : Nat → Int} {i : Nat} (hi : i < nt) (h49 : aI h 49 i = iI (cr i)) (h50 : aI h 50 i = iI (cd i)) (b1 : -2 ≤ cr i ∧ cr i ≤ 100) (b2' : -2 ≤ cd i ∧ cd i ≤ 100) : fX12_workOf N h 29 (iI i) = some (iI (wkf td dr dn cr cd i), h) := by
  have ct := hT.1.2.2
  have c3 := hR.1.2.2
  have cd3 := hD.1.2.2
  have rc12 : rc 12 h (some 29) = some 29 := rcv (by rw [ss_29 hS])
  have ti := v_tiedM hN hS hR hM hL cd3 ct hi
  have l49 := lAv (ss_49 hS) (show i < 40 by omega) (by omega) h49
  have l50 := lAv (ss_50 hS) (show i < 40 by omega) (by omega) h50
  have l0 : iI 0 ≤ iI (cr i) ↔ 0 ≤ cr i := iI_le (by omega) (by omega) (by omega) (by omega)
  simp only [fX12_workOf, fX12_workOf_b24, fX12_workOf_b69, fX12_workOf_b70, lit]
  cases htd : td i with
  | none =>
    rw [htd] at ti
    have w2 : ¬ iI 0 ≤ iI (od none) := by decide
    by_cases w : cr i < 0
    · have ek : wkf td dr dn cr cd i = 0 := by simp [wkf, w, htd]
      rw [ek]
      refine bst (rc12) ?_
      refine bst (ti) ?_
      refine bst (sR_1231_29 hS) ?_
      refine bst (l49) ?_
      refine ifn (fun q => by have := l0.mp q; omega) ?_
      refine ifn (w2) ?_
      rfl
    · have ek : wkf td dr dn cr cd i = 3 := by simp [wkf, w, htd]
      rw [ek]
      refine bst (rc12) ?_
      refine bst (ti) ?_
      refine bst (sR_1231_29 hS) ?_
      refine bst (l49) ?_
      refine ifp (l0.mpr (by omega)) ?_
      refine ifn (w2) ?_
      rfl
  | some r =>
    obtain ⟨hr, hrt, hne⟩ := hL.2 i r hi htd
    obtain ⟨d, hde⟩ := Option.ne_none_iff_exists'.mp hne
    have hdl := (hL.1 r d hr hde).1
    obtain ⟨m1, m2⟩ := hM r hr
    have m3 := (m2 hne).1
    have nb := hdn r hr hne
    rw [hde] at m1
    rw [htd] at ti
    have ti' : fX12_tiedTo N h 29 (iI i) = some (iI (r : Int), h) := ti
    have w2 : iI 0 ≤ iI (r : Int) := (iI_le (by omega) (by omega) (by omega) (by omega)).mpr (by omega)
    have m1' : aI h 42 r = iI (d : Int) := m1
    have l42 := lAv (ss_42 hS) (show r < 40 by omega) (by omega) m1'
    have l43 := lAv (ss_43 hS) (show r < 40 by omega) (by omega) m3
    have q1 : iI (r : Int) = iI (cr i) ↔ (r : Int) = cr i := iI_eq (by omega) (by omega) (by omega) (by omega)
    have q2 : iI (dn r) = iI 0 ↔ dn r = 0 := iI_eq (by omega) (by omega) (by omega) (by omega)
    have q3 : iI (d : Int) = iI (cd i) ↔ (d : Int) = cd i := iI_eq (by omega) (by omega) (by omega) (by omega)
    have eo : od (dr r) = d := by rw [hde]; rfl
    by_cases w : cr i < 0
    · have ek : wkf td dr dn cr cd i = 2 := by simp [wkf, w, htd]
      rw [ek]
      refine bst (rc12) ?_
      refine bst (ti') ?_
      refine bst (sR_1231_29 hS) ?_
      refine bst (l49) ?_
      refine ifn (fun q => by have := l0.mp q; omega) ?_
      refine ifp (w2) ?_
      rfl
    · have five : ¬ ((r : Int) = cr i ∧ dn r = 0 ∧ (d : Int) = cd i) → wkf td dr dn cr cd i = 5 := fun v => by
        unfold wkf
        rw [if_neg w, htd]
        simp only [eo, if_neg v]
      by_cases v1 : (r : Int) = cr i
      · by_cases v3 : (d : Int) = cd i
        · by_cases v2 : dn r = 0
          · have ek : wkf td dr dn cr cd i = 0 := by
              unfold wkf
              rw [if_neg w, htd]
              simp only [eo, if_pos (show (r : Int) = cr i ∧ dn r = 0 ∧ (d : Int) = cd i from ⟨v1, v2, v3⟩)]
            rw [ek]
            refine bst (rc12) ?_
            refine bst (ti') ?_
            refine bst (sR_1231_29 hS) ?_
            refine bst (l49) ?_
            refine ifp (l0.mpr (by omega)) ?_
            refine ifp (w2) ?_
            refine bst (sR_1231_29 hS) ?_
            refine bst (l49) ?_
            refine ifp (q1.mpr v1) ?_
            refine bst (sR_1216_29 hS) ?_
            refine bst (l42) ?_
            refine bst (sR_1232_29 hS) ?_
            refine bst (l50) ?_
            refine ifp (q3.mpr v3) ?_
            refine bst (sR_1217_29 hS) ?_
            refine bst (l43) ?_
            refine ifp (q2.mpr v2) ?_
            rfl
          · rw [five (fun z => v2 z.2.1)]
            refine bst (rc12) ?_
            refine bst (ti') ?_
            refine bst (sR_1231_29 hS) ?_
            refine bst (l49) ?_
            refine ifp (l0.mpr (by omega)) ?_
            refine ifp (w2) ?_
            refine bst (sR_1231_29 hS) ?_
            refine bst (l49) ?_
            refine ifp (q1.mpr v1) ?_
            refine bst (sR_1216_29 hS) ?_
            refine bst (l42) ?_
            refine bst (sR_1232_29 hS) ?_
            refine bst (l50) ?_
            refine ifp (q3.mpr v3) ?_
            refine bst (sR_1217_29 hS) ?_
            refine bst (l43) ?_
            refine ifn (fun z => v2 (q2.mp z)) ?_
            rfl
        · rw [five (fun z => v3 z.2.2)]
          refine bst (rc12) ?_
          refine bst (ti') ?_
          refine bst (sR_1231_29 hS) ?_
          refine bst (l49) ?_
          refine ifp (l0.mpr (by omega)) ?_
          refine ifp (w2) ?_
          refine bst (sR_1231_29 hS) ?_
          refine bst (l49) ?_
          refine ifp (q1.mpr v1) ?_
          refine bst (sR_1216_29 hS) ?_
          refine bst (l42) ?_
          refine bst (sR_1232_29 hS) ?_
          refine bst (l50) ?_
          refine ifn (fun z => v3 (q3.mp z)) ?_
          rfl
      · rw [five (fun z => v1 z.1)]
        refine bst (rc12) ?_
        refine bst (ti') ?_
        refine bst (sR_1231_29 hS) ?_
        refine bst (l49) ?_
        refine ifp (l0.mpr (by omega)) ?_
        refine ifp (w2) ?_
        refine bst (sR_1231_29 hS) ?_
        refine bst (l49) ?_
        refine ifn (fun z => v1 (q1.mp z)) ?_
        rfl
theorem L_chW {N : Nat} {h0 : Hs} (hS0 : Sk h0) (hz : 70 ≤ sz h0) {nt : Nat} (ct : nt ≤ 40) (g1 : gI h0 1201 29 = iI nt) (g30 : gI h0 1230 29 = iI 0) {wk : Nat → Int} {c : Int32} (hW : ∀ i h, i < nt → Ke [] [51] [] [] h0 h → fX12_workOf N h 29 (iI i) = some (iI (wk i), h)) : ∀ (e i fu : Nat) (h : Hs), Ke [] [51] [] [] h0 h → sz h = sz h0 → i + e = nt → e < fu → (∀ k, k < i → aI h 51 k = iI (wk k)) → ∃ h', fX12_change_b180 N 29 fu h c (iI i) = some (c, h') ∧ Ke [] [51] [] [] h0 h' ∧ sz h' = sz h0 ∧ (∀ k, k < nt → aI h' 51 k = iI (wk k)) := by
  intro e
  induction e with
  | zero =>
    intro i fu h ke sz0 hi hf ga
    obtain ⟨fu, rfl⟩ : ∃ m, fu = m + 1 := ⟨fu - 1, by omega⟩
    have hS := hS0.e hz ke (by decide)
    have o1 : oI 12 1 h (some 29) = some (iI nt) := oIv (by rw [ss_29 hS]) (by rw [ke.1 1201 29 (by decide) (by omega)]; exact g1)
    have o30 : oI 12 30 h (some 29) = some (iI 0) := oIv (by rw [ss_29 hS]) (by rw [ke.1 1230 29 (by decide) (by omega)]; exact g30)
    have a1 : iI (nt : Int) ≤ iI (i : Int) := (iI_le (by omega) (by omega) (by omega) (by omega)).mpr (by omega)
    refine ⟨h, ?_, ke, sz0, fun k hk => ga k (by omega)⟩
    show fX12_change_b180_body N (fX12_change_b180 N 29 fu) 29 h c (iI i) = _
    simp only [fX12_change_b180_body, fX12_change_b215, fX12_change_b228, lit]
    refine bst (o1) ?_
    refine ifp (a1) ?_
    refine bst (o30) ?_
    refine ifp (rfl) ?_
    rfl
  | succ e ih =>
    intro i fu h ke sz0 hi hf ga
    obtain ⟨fu, rfl⟩ : ∃ m, fu = m + 1 := ⟨fu - 1, by omega⟩
    have hS := hS0.e hz ke (by decide)
    have o1 : oI 12 1 h (some 29) = some (iI nt) := oIv (by rw [ss_29 hS]) (by rw [ke.1 1201 29 (by decide) (by omega)]; exact g1)
    have o30 : oI 12 30 h (some 29) = some (iI 0) := oIv (by rw [ss_29 hS]) (by rw [ke.1 1230 29 (by decide) (by omega)]; exact g30)
    have a1 : ¬ iI (nt : Int) ≤ iI (i : Int) := fun q => by have := (iI_le (by omega) (by omega) (by omega) (by omega)).mp q; omega
    obtain ⟨h2, eh2⟩ : ∃ h2, h2 = uA h 51 i (iI (wk i)) := ⟨_, rfl⟩
    have ke2 : Ke [] [51] [] [] h h2 := by rw [eh2]; exact Ke_rf.b 51 _ _ (by decide)
    obtain ⟨h', r1, r2⟩ := ih (i + 1) fu h2 (ke.tr ke2) (by rw [eh2]; exact sz0) (by omega) (by omega) (fun k hk => by
      by_cases w : k = i
      · subst w
        rw [eh2]
        simp [HR]
      · have := ga k (by omega)
        rw [eh2]
        simp [HR, w, this])
    simp only [Int.natCast_add, Int.natCast_one] at r1
    refine ⟨h', ?_, r2⟩
    rw [← r1]
    have rc12 : rc 12 h (some 29) = some 29 := rcv (by rw [ss_29 hS])
    show fX12_change_b180_body N (fX12_change_b180 N 29 fu) 29 h c (iI i) = _
    simp only [fX12_change_b180_body, lit, iI_add, Option.bind_some]
    refine bst (o1) ?_
    refine ifn (a1) ?_
    refine bst (o30) ?_
    refine ifp (rfl) ?_
    refine bst (sR_1233_29 hS) ?_
    refine bst (rc12) ?_
    refine bst (hW i h (by omega) ke) ?_
    refine bst (sAv (ss_51 hS) (by omega) (by omega)) ?_
    rw [← eh2]
