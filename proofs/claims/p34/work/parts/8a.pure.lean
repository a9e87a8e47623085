/-! ===== change: the reference ===== -/
theorem L_brD {N : Nat} {h : Hs} (hS : Sk h) (hz : 70 ≤ sz h) {nr nt nd : Nat} {rA tA dA rT : Nat → Nat} {wy gr hd ds : Nat → Int} {gn : Nat → Bool} {tl tw tg ls ms pa : Nat → Int} (hT : RTh h nt tA tl tw tg ls ms pa) (hD : RDr h nd dA ds) (hR : RRo h nr nt rA tA rT wy gr hd gn) {gl n : Int} (g1 : -1 ≤ gl) (g2 : gl ≤ 100) (n1 : -9999 ≤ n) (n2 : n ≤ 9999) {i r : Nat} (hr : r < nr) (hri : rT r = i) (g3 : Hs → Int32 → Int32 → Int32 → Int32 → Option (Int32 × Hs)) : ∀ (e d fu : Nat), d + e = nd → e < fu → fX12_brings_b55 N g3 29 fu h (iI i) (iI gl) (iI n) (iI r) (iI d) = if fsm (fun d => decide (pa (rT r) + wy r * (ds d * n).tdiv (100 * gr r) = gl)) d e < 0 then g3 h (iI i) (iI gl) (iI n) (iI ((r : Int) + 1)) else some (iI 1, ftH h 49 50 i r (fsm (fun d => decide (pa (rT r) + wy r * (ds d * n).tdiv (100 * gr r) = gl)) d e)) := by
  have c3 := hD.1.2.2
  have cr := hR.1.2.2
  have ct := hT.1.2.2
  have o9 : oI 12 9 h (some 29) = some (iI nd) := oIv (by rw [ss_29 hS]) hD.1.2.1
  obtain ⟨-, -, ⟨m0, m1, m2, m3, m4⟩, q1, q2, q3, q4, q5⟩ := hR.2.1 r hr
  obtain ⟨-, -, ⟨-, -, -, a3, -⟩, bb⟩ := hT.2.1 (rT r) q1
  rw [hri] at q1
  have a3' : aI h 33 i = iI (pa (rT r)) := by rw [← hri]; exact a3
  intro e
  induction e with
  | zero =>
    intro d fu hd' hf
    obtain ⟨fu, rfl⟩ : ∃ m, fu = m + 1 := ⟨fu - 1, by omega⟩
    rw [if_pos (by simp [fsm])]
    show fX12_brings_b55_body N g3 (fX12_brings_b55 N g3 29 fu) 29 h (iI i) (iI gl) (iI n) (iI r) (iI d) = _
    have a1 : iI (nd : Int) ≤ iI (d : Int) := (iI_le (by omega) (by omega) (by omega) (by omega)).mpr (by omega)
    simp only [fX12_brings_b55_body, fX12_brings_b130, lit, iI_add, Option.bind_some]
    refine bst (o9) ?_
    refine ifp (a1) ?_
    rfl
  | succ e ih =>
    intro d fu hd' hf
    obtain ⟨fu, rfl⟩ : ∃ m, fu = m + 1 := ⟨fu - 1, by omega⟩
    show fX12_brings_b55_body N g3 (fX12_brings_b55 N g3 29 fu) 29 h (iI i) (iI gl) (iI n) (iI r) (iI d) = _
    have a1 : ¬ iI (nd : Int) ≤ iI (d : Int) := fun q => by have := (iI_le (by omega) (by omega) (by omega) (by omega)).mp q; omega
    obtain ⟨-, -, e2, e5, e6⟩ := hD.2.1 d (by omega)
    obtain ⟨p1, p2, p3, p4⟩ := pl_bd (g := gr r) e5 e6 n1 n2 q2
    have q := ih (d + 1) fu (by omega) (by omega)
    simp only [Int.natCast_add, Int.natCast_one] at q
    have l33 := lAv (ss_33 hS) (show i < 40 by omega) (by omega) a3'
    have l40 := lAv (ss_40 hS) (show r < 40 by omega) (by omega) m2
    have l37 := lAv (ss_37 hS) (show d < 20 by omega) (by omega) e2
    have l39 := lAv (ss_39 hS) (show r < 40 by omega) (by omega) m1
    have dk := dv_ok (a := ds d * n) (b := 100 * gr r) (by omega) (by omega) (by omega) (by omega)
    have ed : dv (iI (ds d) * iI n) (iI 100 * iI (gr r)) = some (iI ((ds d * n).tdiv (100 * gr r))) := by rw [iI_mul, iI_mul]; exact dk
    have es : iI (pa (rT r)) + iI (wy r) * iI ((ds d * n).tdiv (100 * gr r)) = iI (pa (rT r) + wy r * (ds d * n).tdiv (100 * gr r)) := by rw [iI_mul, iI_add]
    have le : iI (pa (rT r) + wy r * (ds d * n).tdiv (100 * gr r)) = iI gl ↔ pa (rT r) + wy r * (ds d * n).tdiv (100 * gr r) = gl := iI_eq (by omega) (by omega) (by omega) (by omega)
    simp only [fX12_brings_b55_body, lit, Option.bind_some]
    by_cases w : pa (rT r) + wy r * (ds d * n).tdiv (100 * gr r) = gl
    · rw [fsm_y _ (decide_eq_true w), if_neg (by omega)]
      have ke : Ke [] [49] [] [] h (uA h 49 i (iI r)) := Ke_rf.b 49 _ _ (by decide)
      have hS1 := hS.e hz ke (by decide)
      refine bst (o9) ?_
      refine ifn (a1) ?_
      refine bst (sR_1205_29 hS) ?_
      refine bst (l33) ?_
      refine bst (sR_1214_29 hS) ?_
      refine bst (l40) ?_
      refine bst (sR_1210_29 hS) ?_
      refine bst (l37) ?_
      refine bst (sR_1213_29 hS) ?_
      refine bst (l39) ?_
      refine bst (ed) ?_
      rw [es]
      refine ifp (le.mpr w) ?_
      refine bst (sR_1231_29 hS) ?_
      refine bst (sAv (ss_49 hS) (by omega) (by omega)) ?_
      refine bst (sR_1232_29 hS1) ?_
      refine bst (sAv (ss_50 hS1) (by omega) (by omega)) ?_
      rfl
    · rw [fsm_n _ (decide_eq_false w), ← q]
      refine bst (o9) ?_
      refine ifn (a1) ?_
      refine bst (sR_1205_29 hS) ?_
      refine bst (l33) ?_
      refine bst (sR_1214_29 hS) ?_
      refine bst (l40) ?_
      refine bst (sR_1210_29 hS) ?_
      refine bst (l37) ?_
      refine bst (sR_1213_29 hS) ?_
      refine bst (l39) ?_
      refine bst (ed) ?_
      rw [es]
      refine ifn (fun z => w (le.mp z)) ?_
      rw [iI_add]
theorem L_brR {N : Nat} (hN : 100000000 ≤ N) {h : Hs} (hS : Sk h) (hz : 70 ≤ sz h) {nr nt nd : Nat} {rA tA dA rT : Nat → Nat} {wy gr hd ds : Nat → Int} {gn : Nat → Bool} {tl tw tg ls ms pa : Nat → Int} (hT : RTh h nt tA tl tw tg ls ms pa) (hD : RDr h nd dA ds) (hR : RRo h nr nt rA tA rT wy gr hd gn) {gl n : Int} (g1 : -1 ≤ gl) (g2 : gl ≤ 100) (n1 : -9999 ≤ n) (n2 : n ≤ 9999) {i : Nat} (hi : i < nt) : ∀ (e j fu : Nat), j + e = nr → e < fu → fX12_brings_b3 N 29 fu h (iI i) (iI gl) (iI n) (iI j) = some (if fsm (srv pa wy gr ds hd tg rT gn nd gl n i) j e < 0 then (iI 0, h) else (iI 1, ftH h 49 50 i (fsm (srv pa wy gr ds hd tg rT gn nd gl n i) j e) (fdr pa wy gr ds rT nd gl n (fsm (srv pa wy gr ds hd tg rT gn nd gl n i) j e).toNat))) := by
  have c3 := hR.1.2.2
  have ct := hT.1.2.2
  have cd := hD.1.2.2
  have o11 : oI 12 11 h (some 29) = some (iI nr) := oIv (by rw [ss_29 hS]) hR.1.2.1
  have rc12 : rc 12 h (some 29) = some 29 := rcv (by rw [ss_29 hS])
  intro e
  induction e with
  | zero =>
    intro j fu hj hf
    obtain ⟨fu, rfl⟩ : ∃ m, fu = m + 1 := ⟨fu - 1, by omega⟩
    rw [if_pos (show fsm (srv pa wy gr ds hd tg rT gn nd gl n i) j 0 < 0 by simp [fsm])]
    show fX12_brings_b3_body N (fX12_brings_b3 N 29 fu) 29 h (iI i) (iI gl) (iI n) (iI j) = _
    have a1 : iI (nr : Int) ≤ iI (j : Int) := (iI_le (by omega) (by omega) (by omega) (by omega)).mpr (by omega)
    simp only [fX12_brings_b3_body, lit]
    refine bst (o11) ?_
    refine ifp (a1) ?_
    rfl
  | succ e ih =>
    intro j fu hj hf
    obtain ⟨fu, rfl⟩ : ∃ m, fu = m + 1 := ⟨fu - 1, by omega⟩
    have a1 : ¬ iI (nr : Int) ≤ iI (j : Int) := fun q => by have := (iI_le (by omega) (by omega) (by omega) (by omega)).mp q; omega
    obtain ⟨-, -, ⟨m0, m1, m2, m3, m4⟩, q1, q2, q3, q4, q5⟩ := hR.2.1 j (by omega)
    obtain ⟨-, -, -, bb⟩ := hT.2.1 (rT j) q1
    have q := ih (j + 1) fu (by omega) (by omega)
    simp only [Int.natCast_add, Int.natCast_one] at q
    have l38 := lAv (ss_38 hS) (show j < 40 by omega) (by omega) m0
    have l44 := lAz (ss_44 hS) (show j < 40 by omega) (by omega) m4
    have l41 := lAv (ss_41 hS) (show j < 40 by omega) (by omega) m3
    have lb := ldv_b (g := tg (rT j)) (r := gr j) (by omega) (by omega)
    have lm := v_loadM (N := N) hS hR hT (r := j) (by omega)
    have eT : iI ((rT j : Nat) : Int) = iI (i : Int) ↔ ((rT j : Nat) : Int) = (i : Int) := iI_eq (by omega) (by omega) (by omega) (by omega)
    have skip : fsm (srv pa wy gr ds hd tg rT gn nd gl n i) j (e + 1) = fsm (srv pa wy gr ds hd tg rT gn nd gl n i) (j + 1) e → fX12_brings_b3 N 29 (fu + 1) h (iI i) (iI gl) (iI n) (iI j) = fX12_brings_b3 N 29 fu h (iI i) (iI gl) (iI n) (iI ((j : Int) + 1)) → fX12_brings_b3 N 29 (fu + 1) h (iI i) (iI gl) (iI n) (iI j) = some (if fsm (srv pa wy gr ds hd tg rT gn nd gl n i) j (e + 1) < 0 then (iI 0, h) else (iI 1, ftH h 49 50 i (fsm (srv pa wy gr ds hd tg rT gn nd gl n i) j (e + 1)) (fdr pa wy gr ds rT nd gl n (fsm (srv pa wy gr ds hd tg rT gn nd gl n i) j (e + 1)).toNat))) := by
      intro e1 e2
      rw [e1, e2]
      exact q
    by_cases w1 : rT j = i
    · have w1' := eT.mpr (show ((rT j : Nat) : Int) = (i : Int) by omega)
      cases w2 : gn j with
      | true =>
        refine skip (fsm_n _ (decide_eq_false (fun s => by rw [w2] at s; cases s.2.1))) ?_
        rw [w2] at l44
        have l44' : lA 21 h (some 44) (iI (j : Int)) = some (iI 1) := l44
        show fX12_brings_b3_body N (fX12_brings_b3 N 29 fu) 29 h (iI i) (iI gl) (iI n) (iI j) = _
        simp only [fX12_brings_b3_body, fX12_brings_b130, lit, iI_add, Option.bind_some]
        refine bst (o11) ?_
        refine ifn (a1) ?_
        refine bst (sR_1212_29 hS) ?_
        refine bst (l38) ?_
        refine ifp (w1') ?_
        refine bst (sR_1218_29 hS) ?_
        refine bst (l44') ?_
        refine ifn (n10) ?_
        rfl
      | false =>
        rw [w2] at l44
        have l44' : lA 21 h (some 44) (iI (j : Int)) = some (iI 0) := l44
        have ls : iI (ldv (tg (rT j)) (gr j)) ≤ iI (hd j) ↔ ldv (tg (rT j)) (gr j) ≤ hd j := iI_le (by omega) (by omega) (by omega) (by omega)
        by_cases w3 : hd j - ldv (tg (rT j)) (gr j) < 0
        · refine skip (fsm_n _ (decide_eq_false (fun s => by omega))) ?_
          show fX12_brings_b3_body N (fX12_brings_b3 N 29 fu) 29 h (iI i) (iI gl) (iI n) (iI j) = _
          simp only [fX12_brings_b3_body, fX12_brings_b130, lit, iI_add, Option.bind_some]
          refine bst (o11) ?_
          refine ifn (a1) ?_
          refine bst (sR_1212_29 hS) ?_
          refine bst (l38) ?_
          refine ifp (w1') ?_
          refine bst (sR_1218_29 hS) ?_
          refine bst (l44') ?_
          refine ifp (rfl) ?_
          refine bst (sR_1215_29 hS) ?_
          refine bst (l41) ?_
          refine bst (rc12) ?_
          refine bst (lm) ?_
          refine ifn (fun s => by have := ls.mp s; omega) ?_
          rfl
        · have ib := L_brD (N := N) hS hz hT hD hR g1 g2 n1 n2 (show j < nr by omega) w1 (fX12_brings_b3 N 29 fu) nd 0 N (by omega) (by omega)
          have st : fX12_brings_b3 N 29 (fu + 1) h (iI i) (iI gl) (iI n) (iI j) = fX12_brings_b55 N (fX12_brings_b3 N 29 fu) 29 N h (iI i) (iI gl) (iI n) (iI j) (iI 0) := by
            show fX12_brings_b3_body N (fX12_brings_b3 N 29 fu) 29 h (iI i) (iI gl) (iI n) (iI j) = _
            simp only [fX12_brings_b3_body, lit]
            refine bst (o11) ?_
            refine ifn (a1) ?_
            refine bst (sR_1212_29 hS) ?_
            refine bst (l38) ?_
            refine ifp (w1') ?_
            refine bst (sR_1218_29 hS) ?_
            refine bst (l44') ?_
            refine ifp (rfl) ?_
            refine bst (sR_1215_29 hS) ?_
            refine bst (l41) ?_
            refine bst (rc12) ?_
            refine bst (lm) ?_
            refine ifp (ls.mpr (by omega)) ?_
            rfl
          have ib' : fX12_brings_b55 N (fX12_brings_b3 N 29 fu) 29 N h (iI i) (iI gl) (iI n) (iI j) (iI 0) = if fdr pa wy gr ds rT nd gl n j < 0 then fX12_brings_b3 N 29 fu h (iI i) (iI gl) (iI n) (iI ((j : Int) + 1)) else some (iI 1, ftH h 49 50 i j (fdr pa wy gr ds rT nd gl n j)) := ib
          by_cases w4 : fdr pa wy gr ds rT nd gl n j < 0
          · refine skip (fsm_n _ (decide_eq_false (fun s => by omega))) ?_
            rw [if_pos w4] at ib'
            exact st.trans ib'
          · have hy : srv pa wy gr ds hd tg rT gn nd gl n i j = true := decide_eq_true ⟨w1, w2, by omega, by omega⟩
            rw [fsm_y _ hy, if_neg (by omega), Int.toNat_natCast]
            rw [if_neg w4] at ib'
            exact st.trans ib'
    · refine skip (fsm_n _ (decide_eq_false (fun s => w1 s.1))) ?_
      have w1' : ¬ iI ((rT j : Nat) : Int) = iI (i : Int) := fun z => w1 (by have := eT.mp z; omega)
      show fX12_brings_b3_body N (fX12_brings_b3 N 29 fu) 29 h (iI i) (iI gl) (iI n) (iI j) = _
      simp only [fX12_brings_b3_body, fX12_brings_b130, lit, iI_add, Option.bind_some]
      refine bst (o11) ?_
      refine ifn (a1) ?_
      refine bst (sR_1212_29 hS) ?_
      refine bst (l38) ?_
      refine ifn (w1') ?_
      rfl
theorem L_chI {N : Nat} {h0 : Hs} (hS0 : Sk h0) (hz : 70 ≤ sz h0) {nt : Nat} (ct : nt ≤ 40) (g1 : gI h0 1201 29 = iI nt) {s n c : Int32} : ∀ (e i fu : Nat) (h : Hs), Ke [1230] [49, 50, 51] [] [] h0 h → sz h = sz h0 → gI h 1230 29 = gI h0 1230 29 → i + e = nt → e < fu → (∀ k, k < i → aI h 49 k = iI (-1) ∧ aI h 50 k = iI (-1)) → ∃ h', fX12_change_b46 N 29 fu h s n c (iI i) = fX12_change_b80 N 29 N h' s n c (iI 0) ∧ Ke [1230] [49, 50, 51] [] [] h0 h' ∧ sz h' = sz h0 ∧ gI h' 1230 29 = gI h0 1230 29 ∧ (∀ k, k < nt → aI h' 49 k = iI (-1) ∧ aI h' 50 k = iI (-1)) := by
  intro e
  induction e with
  | zero =>
    intro i fu h ke sz0 g30 hi hf ga
    obtain ⟨fu, rfl⟩ : ∃ m, fu = m + 1 := ⟨fu - 1, by omega⟩
    have hS := hS0.e hz ke (by decide)
    have o1 : oI 12 1 h (some 29) = some (iI nt) := oIv (by rw [ss_29 hS]) (by rw [ke.1 1201 29 (by decide) (by omega)]; exact g1)
    have a1 : iI (nt : Int) ≤ iI (i : Int) := (iI_le (by omega) (by omega) (by omega) (by omega)).mpr (by omega)
    refine ⟨h, ?_, ke, sz0, g30, fun k hk => ga k (by omega)⟩
    show fX12_change_b46_body N (fX12_change_b46 N 29 fu) 29 h s n c (iI i) = _
    simp only [fX12_change_b46_body, lit]
    refine bst (o1) ?_
    refine ifp (a1) ?_
    rfl
  | succ e ih =>
    intro i fu h ke sz0 g30 hi hf ga
    obtain ⟨fu, rfl⟩ : ∃ m, fu = m + 1 := ⟨fu - 1, by omega⟩
    have hS := hS0.e hz ke (by decide)
    have o1 : oI 12 1 h (some 29) = some (iI nt) := oIv (by rw [ss_29 hS]) (by rw [ke.1 1201 29 (by decide) (by omega)]; exact g1)
    have a1 : ¬ iI (nt : Int) ≤ iI (i : Int) := fun q => by have := (iI_le (by omega) (by omega) (by omega) (by omega)).mp q; omega
    have ke1 : Ke [1230] [49, 50, 51] [] [] h (uA h 49 i (iI (-1))) := Ke_rf.b 49 _ _ (by decide)
    have hS1 := hS.e (by omega) ke1 (by decide)
    obtain ⟨h2, eh2⟩ : ∃ h2, h2 = uA (uA h 49 i (iI (-1))) 50 i (iI (-1)) := ⟨_, rfl⟩
    have ke2 : Ke [1230] [49, 50, 51] [] [] h h2 := by rw [eh2]; exact ke1.b 50 _ _ (by decide)
    obtain ⟨h', r1, r2⟩ := ih (i + 1) fu h2 (ke.tr ke2) (by rw [eh2]; exact sz0) (by rw [← g30, eh2]; rfl) (by omega) (by omega) (fun k hk => by
      by_cases w : k = i
      · subst w
        rw [eh2]
        simp [HR]
      · have := ga k (by omega)
        rw [eh2]
        simp [HR, w, this])
    simp only [Int.natCast_add, Int.natCast_one] at r1
    refine ⟨h', ?_, r2⟩
    rw [← r1]
    show fX12_change_b46_body N (fX12_change_b46 N 29 fu) 29 h s n c (iI i) = _
    simp only [fX12_change_b46_body, lit, iI_neg, iI_add, Option.bind_some]
    refine bst (o1) ?_
    refine ifn (a1) ?_
    refine bst (sR_1231_29 hS) ?_
    refine bst (sAv (ss_49 hS) (by omega) (by omega)) ?_
    refine bst (sR_1232_29 hS1) ?_
    refine bst (sAv (ss_50 hS1) (by omega) (by omega)) ?_
    rw [← eh2]
theorem L_chM {N : Nat} {h0 : Hs} (hS0 : Sk h0) (hz : 70 ≤ sz h0) {nt : Nat} {tA sA : Nat → Nat} {tl tw tg ls ms pa : Nat → Int} {sc : Nat → Nat → Int} (hT0 : RTh h0 nt tA tl tw tg ls ms pa) (hC0 : RSc h0 nt tA sA ls ms sc) {s : Nat} (hs : s < 10) {n : Int} {mv : Nat → Bool} {ft fd : Nat → Int} (hmv : ∀ i, mv i = decide (sc i s ≠ -1 ∧ sc i s ≠ pa i)) (hFT : ∀ i h, i < nt → Ke [1230] [49, 50, 51] [] [] h0 h → fX12_brings N h 29 (iI i) (iI (sc i s)) (iI n) = some (if ft i < 0 then (iI 0, h) else (iI 1, ftH h 49 50 i (ft i) (fd i)))) : ∀ (e i : Nat) (c : Int) (fu : Nat) (h : Hs), Ke [1230] [49, 50, 51] [] [] h0 h → sz h = sz h0 → i + e = nt → e < fu → gI h 1230 29 = iI (b2 (hasB (bdf mv ft) 0 i)) → (∀ k, k < nt → aI h 49 k = iI (if k < i then crf mv ft ft k else -1) ∧ aI h 50 k = iI (if k < i then crf mv ft fd k else -1)) → (hasB (bdf mv ft) 0 i = false → c = cntB mv 0 i) → ∃ (c' : Int) (h' : Hs), fX12_change_b80 N 29 fu h (iI s) (iI n) (iI c) (iI i) = fX12_change_b177 N 29 h' (iI c') ∧ (hasB (bdf mv ft) 0 nt = false → c' = cntB mv 0 nt) ∧ Ke [1230] [49, 50, 51] [] [] h0 h' ∧ sz h' = sz h0 ∧ gI h' 1230 29 = iI (b2 (hasB (bdf mv ft) 0 nt)) ∧ (∀ k, k < nt → aI h' 49 k = iI (crf mv ft ft k) ∧ aI h' 50 k = iI (crf mv ft fd k)) := by
  have ct := hT0.1.2.2
  intro e
  induction e with
  | zero =>
    intro i c fu h ke sz0 hi hf g5 ga gc
    obtain ⟨fu, rfl⟩ : ∃ m, fu = m + 1 := ⟨fu - 1, by omega⟩
    have ei : i = nt := by omega
    subst ei
    have hS := hS0.e hz ke (by decide)
    have o1 : oI 12 1 h (some 29) = some (iI i) := oIv (by rw [ss_29 hS]) (by rw [ke.1 1201 29 (by decide) (by omega)]; exact hT0.1.2.1)
    refine ⟨c, h, ?_, gc, ke, sz0, g5, fun k hk => by have := ga k hk; rw [if_pos hk, if_pos hk] at this; exact this⟩
    show fX12_change_b80_body N (fX12_change_b80 N 29 fu) 29 h (iI s) (iI n) (iI c) (iI i) = _
    simp only [fX12_change_b80_body]
    refine bst (o1) ?_
    refine ifp (Int32.le_refl _) ?_
    rfl
  | succ e ih =>
    intro i c fu h ke sz0 hi hf g5 ga gc
    obtain ⟨fu, rfl⟩ : ∃ m, fu = m + 1 := ⟨fu - 1, by omega⟩
    have hS := hS0.e hz ke (by decide)
    have hT := hT0.e hz ke (by decide) (by decide) (by decide)
    have o1 : oI 12 1 h (some 29) = some (iI nt) := oIv (by rw [ss_29 hS]) hT.1.2.1
    have a1 : ¬ iI (nt : Int) ≤ iI (i : Int) := fun q => by have := (iI_le (by omega) (by omega) (by omega) (by omega)).mp q; omega
    have o30 : oI 12 30 h (some 29) = some (iI (b2 (hasB (bdf mv ft) 0 i))) := oIv (by rw [ss_29 hS]) g5
    cases hb : hasB (bdf mv ft) 0 i with
    | true =>
      have hbn := hasB_mo hb (show i ≤ nt by omega)
      rw [hb] at o30
      have o30' : oI 12 30 h (some 29) = some (iI 1) := o30
      refine ⟨c, h, ?_, (fun q => by rw [hbn] at q; cases q), ke, sz0, by rw [g5, hb, hbn], fun k hk => ?_⟩
      · show fX12_change_b80_body N (fX12_change_b80 N 29 fu) 29 h (iI s) (iI n) (iI c) (iI i) = _
        simp only [fX12_change_b80_body, lit]
        refine bst (o1) ?_
        refine ifn (a1) ?_
        refine bst (o30') ?_
        refine ifn (n10) ?_
        rfl
      · obtain ⟨z1, z2⟩ := ga k hk
        rw [z1, z2]
        by_cases w1 : k < i
        · rw [if_pos w1, if_pos w1]
          exact ⟨rfl, rfl⟩
        · rw [if_neg w1, if_neg w1]
          have hk2 := hasB_mo hb (show i ≤ k by omega)
          simp [crf, hk2]
    | false =>
      rw [hb] at o30
      have o30' : oI 12 30 h (some 29) = some (iI 0) := o30
      have ec := gc hb
      obtain ⟨-, -, ⟨-, -, -, a3, -⟩, bb⟩ := hT.2.1 i (by omega)
      have hC := hC0.e hz hT0.lt ke (by decide) (by decide) (fun k hk => by
        have := (hC0.1 k hk).1.2.1
        simp only [List.mem_cons, List.not_mem_nil, or_false]
        omega)
      obtain ⟨-, x5⟩ := hC.1 i (by omega)
      obtain ⟨-, x6, x7⟩ := x5 s hs
      have ls' : lA 20 h (some 48) (iI 40 * iI s + iI i) = some (iI (sc i s)) := by
        have : iI 40 * iI (s : Int) + iI (i : Int) = iI ((40 * s + i : Nat) : Int) := by rw [iI_mul, iI_add]; congr 1
        rw [this]
        exact lAv (ss_48 hS) (by omega) (by omega) x6
      have l1 : iI (sc i s) < iI 0 ↔ sc i s < 0 := iI_lt (by omega) (by omega) (by omega) (by omega)
      have l2 : iI (sc i s) = iI (pa i) ↔ sc i s = pa i := iI_eq (by omega) (by omega) (by omega) (by omega)
      have l33 := lAv (ss_33 hS) (show i < 40 by omega) (by omega) a3
      have hz' : ∀ p : Nat → Bool, hasB p 0 (i + 1) = (hasB p 0 i || p i) := fun p => by rw [hasB_z, Nat.zero_add]
      have cz' : cntB mv 0 (i + 1) = cntB mv 0 i + (if mv i then 1 else 0) := by rw [cntB_z, Nat.zero_add]
      cases hm : mv i with
      | false =>
        have hbi : bdf mv ft i = false := by simp [bdf, hm]
        have hb1 : hasB (bdf mv ft) 0 (i + 1) = false := by rw [hz', hb, hbi]; rfl
        have cr0 : ∀ fv, crf mv ft fv i = -1 := fun fv => by simp [crf, hb, hm]
        obtain ⟨c', h', r1, r2⟩ := ih (i + 1) c fu h ke sz0 (by omega) (by omega) (by rw [hb1, ← hb]; exact g5) (fun k hk => by
          obtain ⟨z1, z2⟩ := ga k hk
          rw [z1, z2]
          by_cases w1 : k < i
          · rw [if_pos w1, if_pos w1, if_pos (show k < i + 1 by omega), if_pos (show k < i + 1 by omega)]
            exact ⟨rfl, rfl⟩
          · rw [if_neg w1, if_neg w1]
            by_cases w2 : k = i
            · subst w2
              rw [if_pos (Nat.lt_succ_self k), if_pos (Nat.lt_succ_self k), cr0, cr0]
              exact ⟨rfl, rfl⟩
            · rw [if_neg (by omega), if_neg (by omega)]
              exact ⟨rfl, rfl⟩) (fun _ => by rw [cz', hm, ec]; simp)
        simp only [Int.natCast_add, Int.natCast_one] at r1
        refine ⟨c', h', ?_, r2⟩
        rw [← r1]
        show fX12_change_b80_body N (fX12_change_b80 N 29 fu) 29 h (iI s) (iI n) (iI c) (iI i) = _
        simp only [fX12_change_b80_body, fX12_change_b171, lit, Option.bind_some]
        by_cases w1 : sc i s = -1
        · skip
          refine bst (o1) ?_
          refine ifn (a1) ?_
          refine bst (o30') ?_
          refine ifp (rfl) ?_
          refine bst (sR_1228_29 hS) ?_
          refine bst (ls') ?_
          refine ifp (l1.mpr (by omega)) ?_
          rw [iI_add]
        · have w2 : sc i s = pa i := by
            rw [hmv] at hm
            exact Decidable.not_not.mp fun q => (of_decide_eq_false hm) ⟨w1, q⟩
          refine bst (o1) ?_
          refine ifn (a1) ?_
          refine bst (o30') ?_
          refine ifp (rfl) ?_
          refine bst (sR_1228_29 hS) ?_
          refine bst (ls') ?_
          refine ifn (fun q => by have := l1.mp q; omega) ?_
          refine bst (sR_1205_29 hS) ?_
          refine bst (l33) ?_
          refine ifp (l2.mpr w2) ?_
          rw [iI_add]
      | true =>
        have hm2 := hm
        rw [hmv] at hm2
        obtain ⟨w1, w2⟩ := of_decide_eq_true hm2
        have fT := hFT i h (by omega) ke
        have rc12 : rc 12 h (some 29) = some 29 := rcv (by rw [ss_29 hS])
        have go : ∀ (c2 f1 f2 f3 : Int) (h2 : Hs), Ke [1230] [49, 50, 51] [] [] h h2 → sz h2 = sz h → gI h2 1230 29 = iI (b2 (hasB (bdf mv ft) 0 (i + 1))) → f1 = crf mv ft ft i → f2 = crf mv ft fd i → (∀ k, aI h2 49 k = if k = i then iI f1 else aI h 49 k) → (∀ k, aI h2 50 k = if k = i then iI f2 else aI h 50 k) → (hasB (bdf mv ft) 0 (i + 1) = false → c2 = c + 1) → fX12_change_b80 N 29 (fu + 1) h (iI s) (iI n) (iI c) (iI i) = fX12_change_b80 N 29 fu h2 (iI s) (iI n) (iI c2) (iI ((i : Int) + 1)) → ∃ (c' : Int) (h' : Hs), fX12_change_b80 N 29 (fu + 1) h (iI s) (iI n) (iI c) (iI i) = fX12_change_b177 N 29 h' (iI c') ∧ (hasB (bdf mv ft) 0 nt = false → c' = cntB mv 0 nt) ∧ Ke [1230] [49, 50, 51] [] [] h0 h' ∧ sz h' = sz h0 ∧ gI h' 1230 29 = iI (b2 (hasB (bdf mv ft) 0 nt)) ∧ (∀ k, k < nt → aI h' 49 k = iI (crf mv ft ft k) ∧ aI h' 50 k = iI (crf mv ft fd k)) := by
          intro c2 f1 f2 f3 h2 k2 s2 y0 hv1 hv2 y1 y2 yc st
          obtain ⟨c', h', r1, r2⟩ := ih (i + 1) c2 fu h2 (ke.tr k2) (s2.trans sz0) (by omega) (by omega) y0 (fun k hk => by
            obtain ⟨z1, z2⟩ := ga k hk
            rw [y1, y2]
            by_cases w3 : k = i
            · subst w3
              rw [if_pos rfl, if_pos rfl, if_pos (Nat.lt_succ_self k), if_pos (Nat.lt_succ_self k), ← hv1, ← hv2]
              exact ⟨rfl, rfl⟩
            · rw [if_neg w3, if_neg w3, z1, z2]
              by_cases w4 : k < i
              · rw [if_pos w4, if_pos w4, if_pos (show k < i + 1 by omega), if_pos (show k < i + 1 by omega)]
                exact ⟨rfl, rfl⟩
              · rw [if_neg w4, if_neg w4, if_neg (by omega), if_neg (by omega)]
                exact ⟨rfl, rfl⟩) (fun q => by rw [yc q, cz', hm, ec]; simp)
          simp only [Int.natCast_add, Int.natCast_one] at r1
          exact ⟨c', h', st.trans r1, r2⟩
        by_cases w3 : ft i < 0
        · have hbi : bdf mv ft i = true := by simp [bdf, hm, w3]
          have hb1 : hasB (bdf mv ft) 0 (i + 1) = true := by rw [hz', hb, hbi]; rfl
          rw [if_pos w3] at fT
          obtain ⟨h3, eh3⟩ : ∃ h3, h3 = uI h 1230 29 (iI 1) := ⟨_, rfl⟩
          have ke3 : Ke [1230] [49, 50, 51] [] [] h h3 := by rw [eh3]; exact Ke_rf.u 1230 _ _ (by decide)
          have hS3 := hS.e (by omega) ke3 (by decide)
          have z30 : qZ 12 30 h (some 29) (iI 1) = some h3 := by rw [eh3]; exact qZv (by rw [ss_29 hS]) (by omega)
          have ke4 : Ke [1230] [49, 50, 51] [] [] h (uA h3 49 i (iI (-2))) := ke3.b 49 _ _ (by decide)
          have hS4 := hS.e (by omega) ke4 (by decide)
          refine go c (-2) (-2) 0 (uA (uA h3 49 i (iI (-2))) 50 i (iI (-2))) (ke4.b 50 _ _ (by decide)) (by rw [eh3]; rfl) (by rw [hb1, eh3]; simp [HR, b2]) (by simp [crf, hb, hm, w3]) (by simp [crf, hb, hm, w3]) (fun k => by rw [eh3]; simp [HR]) (fun k => by rw [eh3]; simp [HR]) (fun q => by rw [hb1] at q; cases q) ?_
          show fX12_change_b80_body N (fX12_change_b80 N 29 fu) 29 h (iI s) (iI n) (iI c) (iI i) = _
          simp only [fX12_change_b80_body, fX12_change_b171, lit, iI_neg, Option.bind_some]
          refine bst (o1) ?_
          refine ifn (a1) ?_
          refine bst (o30') ?_
          refine ifp (rfl) ?_
          refine bst (sR_1228_29 hS) ?_
          refine bst (ls') ?_
          refine ifn (fun q => by have := l1.mp q; omega) ?_
          refine bst (sR_1205_29 hS) ?_
          refine bst (l33) ?_
          refine ifn (fun q => w2 (l2.mp q)) ?_
          refine bst (rc12) ?_
          refine bst (fT) ?_
          refine ifp (rfl) ?_
          refine bst (z30) ?_
          refine bst (sR_1231_29 hS3) ?_
          refine bst (sAv (ss_49 hS3) (by omega) (by omega)) ?_
          refine bst (sR_1232_29 hS4) ?_
          refine bst (sAv (ss_50 hS4) (by omega) (by omega)) ?_
          rw [iI_add]
        · have hbi : bdf mv ft i = false := by simp [bdf, hm, w3]
          have hb1 : hasB (bdf mv ft) 0 (i + 1) = false := by rw [hz', hb, hbi]; rfl
          rw [if_neg w3] at fT
          refine go (c + 1) (ft i) (fd i) 0 (ftH h 49 50 i (ft i) (fd i)) ((Ke_rf.b 49 _ _ (by decide)).b 50 _ _ (by decide)) rfl (by rw [hb1, ← hb]; exact g5) (by simp [crf, hb, hm, w3]) (by simp [crf, hb, hm, w3]) (fun k => by simp [ftH, HR]) (fun k => by simp [ftH, HR]) (fun _ => rfl) ?_
          show fX12_change_b80_body N (fX12_change_b80 N 29 fu) 29 h (iI s) (iI n) (iI c) (iI i) = _
          simp only [fX12_change_b80_body, fX12_change_b171, lit, Option.bind_some]
          refine bst (o1) ?_
          refine ifn (a1) ?_
          refine bst (o30') ?_
          refine ifp (rfl) ?_
          refine bst (sR_1228_29 hS) ?_
          refine bst (ls') ?_
          refine ifn (fun q => by have := l1.mp q; omega) ?_
          refine bst (sR_1205_29 hS) ?_
          refine bst (l33) ?_
          refine ifn (fun q => w2 (l2.mp q)) ?_
          refine bst (rc12) ?_
          refine bst (fT) ?_
          refine ifn (n10) ?_
          rw [iI_add, iI_add]
theorem v_workOf {N : Nat} (hN : 100000000 ≤ N) {h : Hs} (hS : Sk h) {nr nt nd : Nat} {rA tA dA rT : Nat → Nat} {wy gr hd ds : Nat → Int} {gn : Nat → Bool} {tl tw tg ls ms pa : Nat → Int} {dr td : Nat → Option Nat} {sr dn : Nat → Int} (hT : RTh h nt tA tl tw tg ls ms pa) (hD : RDr h nd dA ds) (hR : RRo h nr nt rA tA rT wy gr hd gn) (hM : RTm h nr rT dr sr dn) (hL : RTl nt nd nr rT dr td) (hdn : ∀ r, r < nr → dr r ≠ none → -1000000000 ≤ dn r ∧ dn r ≤ 1000000000) {cr cd : Nat → Int} {i : Nat} (hi : i < nt) (h49 : aI h 49 i = iI (cr i)) (h50 : aI h 50 i = iI (cd i)) (b1 : -2 ≤ cr i ∧ cr i ≤ 100) (b2' : -2 ≤ cd i ∧ cd i ≤ 100) : fX12_workOf N h 29 (iI i) = some (iI (wkf td dr dn cr cd i), h) := by
  have ct := hT.1.2.2
  have c3 := hR.1.2.2
  have cd3 := hD.1.2.2
  have rc12 : rc 12 h (some 29) = some 29 := rcv (by rw [ss_29 hS])
  have ti := v_tiedM hN hS hR hM hL cd3 ct hi
  have l49 := lAv (ss_49 hS) (show i < 40 by omega) (by omega) h49
  have l50 := lAv (ss_50 hS) (show i < 40 by omega) (by omega) h50
  have l0 : iI 0 ≤ iI (cr i) ↔ 0 ≤ cr i := iI_le (by omega) (by omega) (by omega) (by omega)
  simp only [fX12_workOf, fX12_workOf_b24, fX12_workOf_b69, fX12_workOf_b70, lit]
  cases htd : td i with
  | none =>
    rw [htd] at ti
    have w2 : ¬ iI 0 ≤ iI (od none) := by decide
    by_cases w : cr i < 0
    · have ek : wkf td dr dn cr cd i = 0 := by simp [wkf, w, htd]
      rw [ek]
      refine bst (rc12) ?_
      refine bst (ti) ?_
      refine bst (sR_1231_29 hS) ?_
      refine bst (l49) ?_
      refine ifn (fun q => by have := l0.mp q; omega) ?_
      refine ifn (w2) ?_
      rfl
    · have ek : wkf td dr dn cr cd i = 3 := by simp [wkf, w, htd]
      rw [ek]
      refine bst (rc12) ?_
      refine bst (ti) ?_
      refine bst (sR_1231_29 hS) ?_
      refine bst (l49) ?_
      refine ifp (l0.mpr (by omega)) ?_
      refine ifn (w2) ?_
      rfl
  | some r =>
    obtain ⟨hr, hrt, hne⟩ := hL.2 i r hi htd
    obtain ⟨d, hde⟩ := Option.ne_none_iff_exists'.mp hne
    have hdl := (hL.1 r d hr hde).1
    obtain ⟨m1, m2⟩ := hM r hr
    have m3 := (m2 hne).1
    have nb := hdn r hr hne
    rw [hde] at m1
    rw [htd] at ti
    have ti' : fX12_tiedTo N h 29 (iI i) = some (iI (r : Int), h) := ti
    have w2 : iI 0 ≤ iI (r : Int) := (iI_le (by omega) (by omega) (by omega) (by omega)).mpr (by omega)
    have m1' : aI h 42 r = iI (d : Int) := m1
    have l42 := lAv (ss_42 hS) (show r < 40 by omega) (by omega) m1'
    have l43 := lAv (ss_43 hS) (show r < 40 by omega) (by omega) m3
    have q1 : iI (r : Int) = iI (cr i) ↔ (r : Int) = cr i := iI_eq (by omega) (by omega) (by omega) (by omega)
    have q2 : iI (dn r) = iI 0 ↔ dn r = 0 := iI_eq (by omega) (by omega) (by omega) (by omega)
    have q3 : iI (d : Int) = iI (cd i) ↔ (d : Int) = cd i := iI_eq (by omega) (by omega) (by omega) (by omega)
    have eo : od (dr r) = d := by rw [hde]; rfl
    by_cases w : cr i < 0
    · have ek : wkf td dr dn cr cd i = 2 := by simp [wkf, w, htd]
      rw [ek]
      refine bst (rc12) ?_
      refine bst (ti') ?_
      refine bst (sR_1231_29 hS) ?_
      refine bst (l49) ?_
      refine ifn (fun q => by have := l0.mp q; omega) ?_
      refine ifp (w2) ?_
      rfl
    · have five : ¬ ((r : Int) = cr i ∧ dn r = 0 ∧ (d : Int) = cd i) → wkf td dr dn cr cd i = 5 := fun v => by
        unfold wkf
        rw [if_neg w, htd]
        simp only [eo, if_neg v]
      by_cases v1 : (r : Int) = cr i
      · by_cases v3 : (d : Int) = cd i
        · by_cases v2 : dn r = 0
          · have ek : wkf td dr dn cr cd i = 0 := by
              unfold wkf
              rw [if_neg w, htd]
              simp only [eo, if_pos (show (r : Int) = cr i ∧ dn r = 0 ∧ (d : Int) = cd i from ⟨v1, v2, v3⟩)]
            rw [ek]
            refine bst (rc12) ?_
            refine bst (ti') ?_
            refine bst (sR_1231_29 hS) ?_
            refine bst (l49) ?_
            refine ifp (l0.mpr (by omega)) ?_
            refine ifp (w2) ?_
            refine bst (sR_1231_29 hS) ?_
            refine bst (l49) ?_
            refine ifp (q1.mpr v1) ?_
            refine bst (sR_1216_29 hS) ?_
            refine bst (l42) ?_
            refine bst (sR_1232_29 hS) ?_
            refine bst (l50) ?_
            refine ifp (q3.mpr v3) ?_
            refine bst (sR_1217_29 hS) ?_
            refine bst (l43) ?_
            refine ifp (q2.mpr v2) ?_
            rfl
          · rw [five (fun z => v2 z.2.1)]
            refine bst (rc12) ?_
            refine bst (ti') ?_
            refine bst (sR_1231_29 hS) ?_
            refine bst (l49) ?_
            refine ifp (l0.mpr (by omega)) ?_
            refine ifp (w2) ?_
            refine bst (sR_1231_29 hS) ?_
            refine bst (l49) ?_
            refine ifp (q1.mpr v1) ?_
            refine bst (sR_1216_29 hS) ?_
            refine bst (l42) ?_
            refine bst (sR_1232_29 hS) ?_
            refine bst (l50) ?_
            refine ifp (q3.mpr v3) ?_
            refine bst (sR_1217_29 hS) ?_
            refine bst (l43) ?_
            refine ifn (fun z => v2 (q2.mp z)) ?_
            rfl
        · rw [five (fun z => v3 z.2.2)]
          refine bst (rc12) ?_
          refine bst (ti') ?_
          refine bst (sR_1231_29 hS) ?_
          refine bst (l49) ?_
          refine ifp (l0.mpr (by omega)) ?_
          refine ifp (w2) ?_
          refine bst (sR_1231_29 hS) ?_
          refine bst (l49) ?_
          refine ifp (q1.mpr v1) ?_
          refine bst (sR_1216_29 hS) ?_
          refine bst (l42) ?_
          refine bst (sR_1232_29 hS) ?_
          refine bst (l50) ?_
          refine ifn (fun z => v3 (q3.mp z)) ?_
          rfl
      · rw [five (fun z => v1 z.1)]
        refine bst (rc12) ?_
        refine bst (ti') ?_
        refine bst (sR_1231_29 hS) ?_
        refine bst (l49) ?_
        refine ifp (l0.mpr (by omega)) ?_
        refine ifp (w2) ?_
        refine bst (sR_1231_29 hS) ?_
        refine bst (l49) ?_
        refine ifn (fun z => v1 (q1.mp z)) ?_
        rfl
theorem L_chW {N : Nat} {h0 : Hs} (hS0 : Sk h0) (hz : 70 ≤ sz h0) {nt : Nat} (ct : nt ≤ 40) (g1 : gI h0 1201 29 = iI nt) (g30 : gI h0 1230 29 = iI 0) {wk : Nat → Int} {c : Int32} (hW : ∀ i h, i < nt → Ke [] [51] [] [] h0 h → fX12_workOf N h 29 (iI i) = some (iI (wk i), h)) : ∀ (e i fu : Nat) (h : Hs), Ke [] [51] [] [] h0 h → sz h = sz h0 → i + e = nt → e < fu → (∀ k, k < i → aI h 51 k = iI (wk k)) → ∃ h', fX12_change_b180 N 29 fu h c (iI i) = some (c, h') ∧ Ke [] [51] [] [] h0 h' ∧ sz h' = sz h0 ∧ (∀ k, k < nt → aI h' 51 k = iI (wk k)) := by
  intro e
  induction e with
  | zero =>
    intro i fu h ke sz0 hi hf ga
    obtain ⟨fu, rfl⟩ : ∃ m, fu = m + 1 := ⟨fu - 1, by omega⟩
    have hS := hS0.e hz ke (by decide)
    have o1 : oI 12 1 h (some 29) = some (iI nt) := oIv (by rw [ss_29 hS]) (by rw [ke.1 1201 29 (by decide) (by omega)]; exact g1)
    have o30 : oI 12 30 h (some 29) = some (iI 0) := oIv (by rw [ss_29 hS]) (by rw [ke.1 1230 29 (by decide) (by omega)]; exact g30)
    have a1 : iI (nt : Int) ≤ iI (i : Int) := (iI_le (by omega) (by omega) (by omega) (by omega)).mpr (by omega)
    refine ⟨h, ?_, ke, sz0, fun k hk => ga k (by omega)⟩
    show fX12_change_b180_body N (fX12_change_b180 N 29 fu) 29 h c (iI i) = _
    simp only [fX12_change_b180_body, fX12_change_b215, fX12_change_b228, lit]
    refine bst (o1) ?_
    refine ifp (a1) ?_
    refine bst (o30) ?_
    refine ifp (rfl) ?_
    rfl
  | succ e ih =>
    intro i fu h ke sz0 hi hf ga
    obtain ⟨fu, rfl⟩ : ∃ m, fu = m + 1 := ⟨fu - 1, by omega⟩
    have hS := hS0.e hz ke (by decide)
    have o1 : oI 12 1 h (some 29) = some (iI nt) := oIv (by rw [ss_29 hS]) (by rw [ke.1 1201 29 (by decide) (by omega)]; exact g1)
    have o30 : oI 12 30 h (some 29) = some (iI 0) := oIv (by rw [ss_29 hS]) (by rw [ke.1 1230 29 (by decide) (by omega)]; exact g30)
    have a1 : ¬ iI (nt : Int) ≤ iI (i : Int) := fun q => by have := (iI_le (by omega) (by omega) (by omega) (by omega)).mp q; omega
    obtain ⟨h2, eh2⟩ : ∃ h2, h2 = uA h 51 i (iI (wk i)) := ⟨_, rfl⟩
    have ke2 : Ke [] [51] [] [] h h2 := by rw [eh2]; exact Ke_rf.b 51 _ _ (by decide)
    obtain ⟨h', r1, r2⟩ := ih (i + 1) fu h2 (ke.tr ke2) (by rw [eh2]; exact sz0) (by omega) (by omega) (fun k hk => by
      by_cases w : k = i
      · subst w
        rw [eh2]
        simp [HR]
      · have := ga k (by omega)
        rw [eh2]
        simp [HR, w, this])
    simp only [Int.natCast_add, Int.natCast_one] at r1
    refine ⟨h', ?_, r2⟩
    rw [← r1]
    have rc12 : rc 12 h (some 29) = some 29 := rcv (by rw [ss_29 hS])
    show fX12_change_b180_body N (fX12_change_b180 N 29 fu) 29 h c (iI i) = _
    simp only [fX12_change_b180_body, lit, iI_add, Option.bind_some]
    refine bst (o1) ?_
    refine ifn (a1) ?_
    refine bst (o30) ?_
    refine ifp (rfl) ?_
    refine bst (sR_1233_29 hS) ?_
    refine bst (rc12) ?_
    refine bst (hW i h (by omega) ke) ?_
    refine bst (sAv (ss_51 hS) (by omega) (by omega)) ?_
    rw [← eh2]
/-! ===== change: class beside reference ===== -/
theorem crf_b {mv : Nat → Bool} {ft fv : Nat → Int} {i : Nat} (h : -1 ≤ fv i ∧ fv i ≤ 100) : -2 ≤ crf mv ft fv i ∧ crf mv ft fv i ≤ 100 := by
  unfold crf
  by_cases w1 : hasB (bdf mv ft) 0 i = true
  · rw [if_pos w1]; omega
  · rw [if_neg w1]
    by_cases w2 : mv i = true
    · rw [if_pos w2]
      by_cases w3 : ft i < 0
      · rw [if_pos w3]; omega
      · rw [if_neg w3]; omega
    · rw [if_neg w2]; omega
theorem t_change {N : Nat} (hN : 100000000 ≤ N) {h : Hs} (hS : Sk h) (hz : 70 ≤ sz h) {nr nt nd : Nat} {rA tA dA rT : Nat → Nat} {wy gr hd ds : Nat → Int} {gn : Nat → Bool} {tl tw tg ls ms pa : Nat → Int} {dr td : Nat → Option Nat} {sr dn : Nat → Int} {sA : Nat → Nat} {sc : Nat → Nat → Int} (hT : RTh h nt tA tl tw tg ls ms pa) (hD : RDr h nd dA ds) (hR : RRo h nr nt rA tA rT wy gr hd gn) (hI : RTi h nt nd nr tA dA rA rT dr td sr dn) (hSc : RSc h nt tA sA ls ms sc) (hdn : ∀ r, r < nr → dr r ≠ none → -1000000000 ≤ dn r ∧ dn r ≤ 1000000000) {na : Nat} {as no : Bool} {cr cd wk : Nat → Int} (hG : RChg h nt na as no cr cd wk) (p1 p2 : Int32) : ∃ (a : Int32) (h1 h2 : Hs) (na' : Nat) (as' no' : Bool) (cr' cd' wk' : Nat → Int), fX11_change N h 0 p1 p2 = some (a, h1) ∧ fX12_change N h1 29 p1 p2 = some (a, h2) ∧ RChg h2 nt na' as' no' cr' cd' wk' ∧ Ke [104, 105, 106, 107, 108, 1229, 1230, 1234] [26, 27, 49, 50, 51] [] [] h h2 ∧ sz h2 = sz h := by
  obtain ⟨a, a1, a2, rfl⟩ := iI_ex p1
  obtain ⟨n, z1, z2, rfl⟩ := iI_ex p2
  obtain ⟨hC, hM, hL⟩ := RTi_iff.mp hI
  have rc1 : rc 1 h (some 25) = some 25 := rcv (by rw [ss_25 hS])
  have up : ∀ {r : Int32} {h1 : Hs}, fX1_plan N h 25 (iI a) (iI n) = some (r, h1) → fX11_change N h 0 (iI a) (iI n) = some (r, h1) := by
    intro r h1 e
    simp only [fX11_change]
    refine bst (sR_1102_0 hS) ?_
    refine bst (rc1) ?_
    refine bst (e) ?_
    rfl
  have e1 := v_isW (N := N) (h := h) (x := a) (a := 0) (b := 9) a1 a2 (by omega) (by omega) (by omega) (by omega)
  have e2 := v_inW (N := N) (h := h) (x := a) (a := 0) (b := 9) a1 a2 (by omega) (by omega) (by omega) (by omega)
  have t1 := isTurn_c (N := N) (h := h) z1 z2
  have t2 := isTurn_m (N := N) (h := h) z1 z2
  by_cases qa : 0 ≤ a ∧ a ≤ 9
  · rw [if_pos qa] at e1 e2
    by_cases qt : -9999 ≤ n ∧ n ≤ 9999
    · rw [if_pos qt] at t1 t2
      by_cases q0 : n = 0
      · have q1 : iI n = iI 0 := by rw [q0]
        refine ⟨iI (-1), h, h, na, as, no, cr, cd, wk, up ?_, ?_, hG, Ke_rf, rfl⟩
        · simp only [fX1_plan, fX1_plan_b21, lit, iI_neg]
          refine bst (e1) ?_
          refine ifn (n10) ?_
          refine bst (t1) ?_
          refine ifn (n10) ?_
          refine ifp (q1) ?_
          rfl
        · simp only [fX12_change, fX12_change_b21, lit, iI_neg]
          refine bst (e2) ?_
          refine ifn (n10) ?_
          refine bst (t2) ?_
          refine ifn (n10) ?_
          refine ifp (q1) ?_
          rfl
      · have q1 : ¬ iI n = iI 0 := fun w => q0 ((iI_eq (by omega) (by omega) (by omega) (by omega)).mp w)
        obtain ⟨s, rfl⟩ : ∃ s : Nat, a = s := ⟨a.toNat, by omega⟩
        have hs : s < 10 := by omega
        have ct := hT.1.2.2
        have cr3 := hR.1.2.2
        have cd3 := hD.1.2.2
        have sb : ∀ i, i < nt → -1 ≤ sc i s ∧ sc i s ≤ 100 := fun i hi => by
          have w1 := ((hSc.1 i hi).2 s hs).2.2
          have w2 := (hT.2.1 i hi).2.2.2
          omega
        obtain ⟨mv, hmv⟩ : ∃ mv : Nat → Bool, ∀ i, mv i = decide (sc i s ≠ -1 ∧ sc i s ≠ pa i) := ⟨fun i => decide (sc i s ≠ -1 ∧ sc i s ≠ pa i), fun _ => rfl⟩
        obtain ⟨ft, hft⟩ : ∃ ft : Nat → Int, ∀ i, ft i = fsm (srv pa wy gr ds hd tg rT gn nd (sc i s) n i) 0 nr := ⟨fun i => fsm (srv pa wy gr ds hd tg rT gn nd (sc i s) n i) 0 nr, fun _ => rfl⟩
        obtain ⟨fd, hfd⟩ : ∃ fd : Nat → Int, ∀ i, fd i = fdr pa wy gr ds rT nd (sc i s) n (ft i).toNat := ⟨fun i => fdr pa wy gr ds rT nd (sc i s) n (ft i).toNat, fun _ => rfl⟩
        have ftb : ∀ i, -1 ≤ ft i ∧ ft i ≤ 100 := fun i => by
          have := fsm_b (srv pa wy gr ds hd tg rT gn nd (sc i s) n i) nr 0
          rw [hft]
          omega
        have fdb : ∀ i, -1 ≤ fd i ∧ fd i ≤ 100 := fun i => by
          rw [hfd]
          unfold fdr
          have := fsm_b (fun d => decide (pa (rT (ft i).toNat) + wy (ft i).toNat * (ds d * n).tdiv (100 * gr (ft i).toNat) = sc i s)) nd 0
          omega
        obtain ⟨NO, hNO⟩ : ∃ NO, NO = hasB (bdf mv ft) 0 nt := ⟨_, rfl⟩
        -- the class, until the loop
        obtain ⟨h4, eh4⟩ : ∃ h4, h4 = uI (uI h 104 25 (iI 1)) 105 25 (iI 1) := ⟨_, rfl⟩
        have ke4 : Ke [104, 105, 106, 107, 108] [26, 27] [] [] h h4 := by rw [eh4]; exact (Ke_rf.u 104 _ _ (by decide)).u 105 _ _ (by decide)
        have hS4 := hS.e hz ke4 (by decide)
        have z4 : qZ 1 5 (uI h 104 25 (iI 1)) (some 25) (iI 1) = some h4 := by rw [eh4]; exact qZv (by rw [sh_uI, ss_25 hS]) (by omega)
        have f6 := v_fill hN (h := h4) (a := 26) (n := 40) (v := -1) (by omega) (ss_26 hS4)
        obtain ⟨h6, eh6⟩ : ∃ h6, h6 = wA h4 26 (fun j => if j < 40 then iI (-1) else aI h4 26 j) := ⟨_, rfl⟩
        rw [← eh6] at f6
        have ke6 : Ke [104, 105, 106, 107, 108] [26, 27] [] [] h h6 := by rw [eh6]; exact ke4.a 26 _ (by decide)
        have hS6 := hS.e hz ke6 (by decide)
        have f8 := v_fill hN (h := h6) (a := 27) (n := 40) (v := -1) (by omega) (ss_27 hS6)
        obtain ⟨h8, eh8⟩ : ∃ h8, h8 = wA h6 27 (fun j => if j < 40 then iI (-1) else aI h6 27 j) := ⟨_, rfl⟩
        rw [← eh8] at f8
        have ke8 : Ke [104, 105, 106, 107, 108] [26, 27] [] [] h h8 := by rw [eh8]; exact ke6.a 27 _ (by decide)
        have sz8 : sz h8 = sz h := by rw [eh8, eh6, eh4]; rfl
        have hz8 : 70 ≤ sz h8 := by omega
        have hS8 := hS.e hz ke8 (by decide)
        have hT8 := hT.e hz ke8 (by decide) (by decide) (by decide)
        have hD8 := hD.e hz ke8 (by decide) (by decide) (by decide)
        have hR8 := hR.e hz ke8 (by decide) (by decide) (by decide) (by decide)
        have hSc8 := hSc.e hz hT.lt ke8 (by decide) (by decide) (fun k hk => by
          have := (hSc.1 k hk).1.2.1
          simp only [List.mem_cons, List.not_mem_nil, or_false]
          omega)
        obtain ⟨c', h9, r1, r2, ke9, sz9, g95, ga9⟩ := L_planC (N := N) hS8 hz8 hT8 hSc8 hs (n := n) hmv (ft := ft) (fd := fd) (fun i h' hi k => by
          have l := L_ftC hN (hS8.e hz8 k (by decide)) (by have := k.2.2.2.2.2; omega) (hT8.e hz8 k (by decide) (by decide) (by decide)) (hD8.e hz8 k (by decide) (by decide) (by decide)) (hR8.e hz8 k (by decide) (by decide) (by decide) (by decide)) (sb i hi).1 (sb i hi).2 qt.1 qt.2 hi nr 0 N (by omega) (by omega)
          rw [hfd, hft]
          exact l) nt 0 0 N h8 Ke_rf rfl (by omega) (by omega) (by rw [eh8, eh6, eh4]; simp [HR, hasB, b2]) (fun k hk => by
          rw [eh8, eh6]
          simp [HR, hk]) (fun _ => by simp [cntB])
        have ke09 : Ke [104, 105, 106, 107, 108] [26, 27] [] [] h h9 := ke8.tr (ke9.w (by decide) (by decide) (by decide) (by decide))
        have hz9 : 70 ≤ sz h9 := by omega
        have hS9 := hS.e hz ke09 (by decide)
        obtain ⟨ha, eha⟩ : ∃ ha, ha = uI (uI (uI h9 106 25 (iI 0)) 107 25 (iI 0)) 108 25 (iI 0) := ⟨_, rfl⟩
        have ke9a : Ke [106, 107, 108] [] [] [] h9 ha := by rw [eha]; exact ((Ke_rf.u 106 _ _ (by decide)).u 107 _ _ (by decide)).u 108 _ _ (by decide)
        have ke0a : Ke [104, 105, 106, 107, 108] [26, 27] [] [] h ha := ke09.tr (ke9a.w (by decide) (by decide) (by decide) (by decide))
        have sza : sz ha = sz h := by rw [eha]; exact sz9.trans sz8
        have hza : 70 ≤ sz ha := by omega
        have cb : ∀ i, i < nt → (-2 ≤ crf mv ft ft i ∧ crf mv ft ft i ≤ 100) ∧ -2 ≤ crf mv ft fd i ∧ crf mv ft fd i ≤ 100 := fun i _ => ⟨crf_b (ftb i), crf_b (fdb i)⟩
        obtain ⟨hb, b1, keb, szb, gb2, gb3, gb5⟩ := L_cwC (N := N) (h0 := ha) (hS.e hz ke0a (by decide)) hza (hT.e hz ke0a (by decide) (by decide) (by decide)) (hD.e hz ke0a (by decide) (by decide) (by decide)) (hR.e hz ke0a (by decide) (by decide) (by decide) (by decide)) (hC.e hT.lt hR.lt ke0a (by decide) (by decide)) hL hdn (cr := crf mv ft ft) (cd := crf mv ft fd) cb (fun i hi => by
          have := ga9 i (by omega)
          rw [if_pos hi, if_pos hi] at this
          rw [ke9a.2.1 26 (by decide) (by omega), ke9a.2.1 27 (by decide) (by omega)]
          exact this) nt 0 0 0 0 N ha Ke_rf rfl (by omega) (by omega) (by rw [eha]; simp [HR]) (by rw [eha]; simp [HR]) (by rw [eha]; simp [HR])
        simp only [Int.zero_add] at gb2 gb3 gb5
        have ke0b : Ke [104, 105, 106, 107, 108] [26, 27] [] [] h hb := ke0a.tr (keb.w (by decide) (by decide) (by decide) (by decide))
        have szb' : sz hb = sz h := by omega
        have hzb : 70 ≤ sz hb := by omega
        have hSb := hS.e hz ke0b (by decide)
        have cw : fX1_countWorks N h9 25 = some hb := by
          have c25 : (sh h9 25).1 = 1 := by rw [ss_25 hS9]
          simp only [fX1_countWorks, lit]
          refine bst (qIv c25) ?_
          refine bst (qIv (by rw [sh_uI]; exact c25)) ?_
          refine bst (qIv (by rw [sh_uI, sh_uI]; exact c25)) ?_
          rw [← eha]
          exact b1
        have kb9 : Ke [106, 107, 108] [] [] [] h9 hb := ke9a.tr keb
        have gb05 : gI hb 105 25 = iI (b2 (!NO)) := by rw [kb9.1 105 25 (by decide) (by omega), g95, hNO]
        have gb26 : ∀ k, k < 40 → aI hb 26 k = iI (if k < nt then crf mv ft ft k else -1) ∧ aI hb 27 k = iI (if k < nt then crf mv ft fd k else -1) := fun k hk => by
          rw [kb9.2.1 26 (by decide) (by omega), kb9.2.1 27 (by decide) (by omega)]
          exact ga9 k hk
        have gb04 : gI hb 104 25 = iI 1 := by
          rw [kb9.1 104 25 (by decide) (by omega), ke9.1 104 25 (by decide) (by omega), eh8, eh6, eh4]
          simp [HR]
        have cl : fX1_plan N h 25 (iI s) (iI n) = some (iI (if NO then -2 else c'), hb) := by
          have o5 : oI 1 5 hb (some 25) = some (iI (b2 (!NO))) := oIv (by rw [ss_25 hSb]) gb05
          have b132 : fX1_plan_b132 N 25 h9 (iI c') = some (iI (if NO then -2 else c'), hb) := by
            simp only [fX1_plan_b132, fX1_plan_b149, lit, iI_neg]
            cases NO with
            | true =>
              have o5' : oI 1 5 hb (some 25) = some (iI 0) := o5
              refine bst (rcv (by rw [ss_25 hS9])) ?_
              refine bst (cw) ?_
              refine bst (o5') ?_
              refine ifp (rfl) ?_
              rfl
            | false =>
              have o5' : oI 1 5 hb (some 25) = some (iI 1) := o5
              refine bst (rcv (by rw [ss_25 hS9])) ?_
              refine bst (cw) ?_
              refine bst (o5') ?_
              refine ifn (n10) ?_
              rfl
          simp only [fX1_plan, lit, iI_neg]
          refine bst (e1) ?_
          refine ifn (n10) ?_
          refine bst (t1) ?_
          refine ifn (n10) ?_
          refine ifn (q1) ?_
          refine bst (qZv (by rw [ss_25 hS]) (by omega)) ?_
          refine bst (z4) ?_
          refine bst (sR_101_25 hS4) ?_
          refine bst (f6) ?_
          refine bst (sR_102_25 hS6) ?_
          refine bst (f8) ?_
          exact r1.trans b132
        -- the reference
        obtain ⟨hq, ehq⟩ : ∃ hq, hq = uI (uI (uI hb 1229 29 (iI 1)) 1230 29 (iI 0)) 1234 29 (iI nt) := ⟨_, rfl⟩
        have keq : Ke [1229, 1230, 1234] [] [] [] hb hq := by rw [ehq]; exact ((Ke_rf.u 1229 _ _ (by decide)).u 1230 _ _ (by decide)).u 1234 _ _ (by decide)
        have ke0q : Ke [104, 105, 106, 107, 108, 1229, 1230, 1234] [26, 27] [] [] h hq := (ke0b.w (by decide) (by decide) (by decide) (by decide)).tr (keq.w (by decide) (by decide) (by decide) (by decide))
        have szq : sz hq = sz h := by rw [ehq]; exact szb'
        have hzq : 70 ≤ sz hq := by omega
        have hSq := hS.e hz ke0q (by decide)
        have hTq := hT.e hz ke0q (by decide) (by decide) (by decide)
        have hDq := hD.e hz ke0q (by decide) (by decide) (by decide)
        have hRq := hR.e hz ke0q (by decide) (by decide) (by decide) (by decide)
        have hScq := hSc.e hz hT.lt ke0q (by decide) (by decide) (fun k hk => by
          have := (hSc.1 k hk).1.2.1
          simp only [List.mem_cons, List.not_mem_nil, or_false]
          omega)
        have gq30 : gI hq 1230 29 = iI 0 := by rw [ehq]; simp [HR]
        obtain ⟨hr, x1, ker, szr, gr30, gra⟩ := L_chI (N := N) hSq hzq ct hTq.1.2.1 (s := iI s) (n := iI n) (c := iI 0) nt 0 N hq Ke_rf rfl rfl (by omega) (by omega) (fun k hk => by omega)
        obtain ⟨c2, ht, y1, y2, ket, szt, gt30, gta⟩ := L_chM (N := N) hSq hzq hTq hScq hs (n := n) hmv (ft := ft) (fd := fd) (fun i h' hi k => by
          have l := L_brR hN (hSq.e hzq k (by decide)) (by have := k.2.2.2.2.2; omega) (hTq.e hzq k (by decide) (by decide) (by decide)) (hDq.e hzq k (by decide) (by decide) (by decide)) (hRq.e hzq k (by decide) (by decide) (by decide) (by decide)) (sb i hi).1 (sb i hi).2 qt.1 qt.2 hi nr 0 N (by omega) (by omega)
          rw [hfd, hft]
          exact l) nt 0 0 N hr ker szr (by omega) (by omega) (by rw [gr30, gq30]; rfl) (fun k hk => by
          have := gra k hk
          rw [if_neg (Nat.not_lt_zero k), if_neg (Nat.not_lt_zero k)]
          exact this) (fun _ => by simp [cntB])
        rw [← hNO] at gt30 y2 r2
        have ke0t : Ke [104, 105, 106, 107, 108, 1229, 1230, 1234] [26, 27, 49, 50, 51] [] [] h ht := (ke0q.w (by decide) (by decide) (by decide) (by decide)).tr (ket.w (by decide) (by decide) (by decide) (by decide))
        have hzt : 70 ≤ sz ht := by omega
        have hSt := hS.e hz ke0t (by decide)
        have hTt := hT.e hz ke0t (by decide) (by decide) (by decide)
        have hDt := hD.e hz ke0t (by decide) (by decide) (by decide)
        have hRt := hR.e hz ke0t (by decide) (by decide) (by decide) (by decide)
        have hMt := hM.e hz ke0t (by decide)
        have o30 : oI 12 30 ht (some 29) = some (iI (b2 NO)) := oIv (by rw [ss_29 hSt]) gt30
        obtain ⟨hw, w1, kew, szw, gw⟩ : ∃ hw, fX12_change_b177 N 29 ht (iI c2) = some (iI (if NO then -2 else c2), hw) ∧ Ke [] [51] [] [] ht hw ∧ sz hw = sz ht ∧ (NO = false → ∀ k, k < nt → aI hw 51 k = iI (wkf td dr dn (crf mv ft ft) (crf mv ft fd) k)) := by
          cases hNOv : NO with
          | true =>
            rw [hNOv] at o30
            have o30' : oI 12 30 ht (some 29) = some (iI 1) := o30
            refine ⟨ht, ?_, Ke_rf, rfl, fun q => by cases q⟩
            obtain ⟨N', eN⟩ : ∃ N', N = N' + 1 := ⟨N - 1, by omega⟩
            have ntp : 0 < nt := by
              rcases Nat.eq_zero_or_pos nt with q | q
              · rw [q] at hNO
                rw [hNO] at hNOv
                cases hNOv
              · exact q
            have a0 : ¬ iI (nt : Int) ≤ iI 0 := fun q => by have := (iI_le (by omega) (by omega) (by omega) (by omega)).mp q; omega
            have st : fX12_change_b180 N 29 (N' + 1) ht (iI c2) (iI 0) = some (iI (-2), ht) := by
              show fX12_change_b180_body N (fX12_change_b180 N 29 N') 29 ht (iI c2) (iI 0) = _
              simp only [fX12_change_b180_body, fX12_change_b215, fX12_change_b228, lit, iI_neg]
              refine bst (oIv (by rw [ss_29 hSt]) hTt.1.2.1) ?_
              refine ifn (a0) ?_
              refine bst (o30') ?_
              refine ifn (n10) ?_
              refine bst (o30') ?_
              refine ifn (n10) ?_
              rfl
            rw [← eN] at st
            exact st
          | false =>
            rw [hNOv] at gt30
            obtain ⟨hw, v1, v2, v3, v4⟩ := L_chW (N := N) hSt hzt ct hTt.1.2.1 gt30 (wk := wkf td dr dn (crf mv ft ft) (crf mv ft fd)) (c := iI c2) (fun i h' hi k => by
              have hg := gta i hi
              exact v_workOf hN (hSt.e hzt k (by decide)) (hTt.e hzt k (by decide) (by decide) (by decide)) (hDt.e hzt k (by decide) (by decide) (by decide)) (hRt.e hzt k (by decide) (by decide) (by decide) (by decide)) (hMt.e hzt k (by decide)) hL hdn hi (by rw [k.2.1 49 (by decide) (by omega)]; exact hg.1) (by rw [k.2.1 50 (by decide) (by omega)]; exact hg.2) (cb i hi).1 (cb i hi).2) nt 0 N ht Ke_rf rfl (by omega) (by omega) (fun k hk => by omega)
            exact ⟨hw, v1, v2, v3, fun _ => v4⟩
        have rf : fX12_change N hb 29 (iI s) (iI n) = some (iI (if NO then -2 else c2), hw) := by
          have e2b := v_inW (N := N) (h := hb) (x := s) (a := 0) (b := 9) a1 a2 (by omega) (by omega) (by omega) (by omega)
          have t2b := isTurn_m (N := N) (h := hb) z1 z2
          rw [if_pos qa] at e2b
          rw [if_pos qt] at t2b
          have c29 : (sh hb 29).1 = 12 := by rw [ss_29 hSb]
          have gnt : gI (uI (uI hb 1229 29 (iI 1)) 1230 29 (iI 0)) 1201 29 = iI nt := by
            have : gI hb 1201 29 = iI nt := by rw [ke0b.1 1201 29 (by decide) (by omega)]; exact hT.1.2.1
            simp [HR, this]
          simp only [fX12_change, lit]
          refine bst (e2b) ?_
          refine ifn (n10) ?_
          refine bst (t2b) ?_
          refine ifn (n10) ?_
          refine ifn (q1) ?_
          refine bst (qZv c29 (by omega)) ?_
          refine bst (qZv (by rw [sh_uI]; exact c29) (by omega)) ?_
          refine bst (oIv (by rw [sh_uI, sh_uI]; exact c29) gnt) ?_
          refine bst (qIv (by rw [sh_uI, sh_uI]; exact c29)) ?_
          rw [← ehq]
          exact x1.trans (y1.trans w1)
        have ecc : (if NO then -2 else c') = (if NO then -2 else c2) := by
          cases hNOv : NO with
          | true => rfl
          | false => rw [r2 hNOv, y2 hNOv]
        have ke0w : Ke [104, 105, 106, 107, 108, 1229, 1230, 1234] [26, 27, 49, 50, 51] [] [] h hw := ke0t.tr (kew.w (by decide) (by decide) (by decide) (by decide))
        have kbw : Ke [1229, 1230, 1234] [49, 50, 51] [] [] hb hw := (keq.w (by decide) (by decide) (by decide) (by decide)).tr ((ket.w (by decide) (by decide) (by decide) (by decide)).tr (kew.w (by decide) (by decide) (by decide) (by decide)))
        rw [ecc] at cl
        refine ⟨_, hb, hw, nt, true, NO, crf mv ft ft, crf mv ft fd, wkf td dr dn (crf mv ft ft) (crf mv ft fd), up cl, rf, ⟨⟨?_, ?_⟩, fun _ => ⟨⟨?_, ?_, ?_, Nat.le_refl nt⟩, fun i hi => ?_, fun i hi1 hi2 => ?_, fun hno => ⟨fun i hi => ⟨?_, wkf_4 _ _ _ _ _ _⟩, ?_, ?_, ?_⟩⟩⟩, ke0w, by omega⟩
        · rw [kbw.1 104 25 (by decide) (by omega)]; exact gb04
        · rw [kew.1 1229 29 (by decide) (by omega), ket.1 1229 29 (by decide) (by omega), ehq]
          simp [HR, b2]
        · rw [kbw.1 105 25 (by decide) (by omega)]; exact gb05
        · rw [kew.1 1230 29 (by decide) (by omega)]; exact gt30
        · rw [kew.1 1234 29 (by decide) (by omega), ket.1 1234 29 (by decide) (by omega), ehq]
          simp [HR]
        · have y3 := gb26 i (by omega)
          rw [if_pos hi, if_pos hi] at y3
          have y4 := gta i hi
          rw [kbw.2.1 26 (by decide) (by omega), kbw.2.1 27 (by decide) (by omega), kew.2.1 49 (by decide) (by omega), kew.2.1 50 (by decide) (by omega)]
          exact ⟨y3.1, y4.1, y3.2, y4.2⟩
        · have y3 := gb26 i hi2
          rw [if_neg (by omega), if_neg (by omega)] at y3
          rw [kbw.2.1 26 (by decide) (by omega), kbw.2.1 27 (by decide) (by omega)]
          exact y3
        · exact gw hno i hi
        · rw [kbw.1 106 25 (by decide) (by omega)]; exact gb2
        · rw [kbw.1 107 25 (by decide) (by omega)]; exact gb3
        · rw [kbw.1 108 25 (by decide) (by omega)]; exact gb5
    · rw [if_neg qt] at t1 t2
      refine ⟨iI (-1), h, h, na, as, no, cr, cd, wk, up ?_, ?_, hG, Ke_rf, rfl⟩
      · simp only [fX1_plan, fX1_plan_b21, lit, iI_neg]
        refine bst (e1) ?_
        refine ifn (n10) ?_
        refine bst (t1) ?_
        refine ifp (rfl) ?_
        rfl
      · simp only [fX12_change, fX12_change_b21, lit, iI_neg]
        refine bst (e2) ?_
        refine ifn (n10) ?_
        refine bst (t2) ?_
        refine ifp (rfl) ?_
        rfl
  · rw [if_neg qa] at e1 e2
    refine ⟨iI (-1), h, h, na, as, no, cr, cd, wk, up ?_, ?_, hG, Ke_rf, rfl⟩
    · simp only [fX1_plan, fX1_plan_b21, lit, iI_neg]
      refine bst (e1) ?_
      refine ifp (rfl) ?_
      rfl
    · simp only [fX12_change, fX12_change_b21, lit, iI_neg]
      refine bst (e2) ?_
      refine ifp (rfl) ?_
      rfl
/-! ===== men: it ends, on both sides, and leaves all but its own sheets as it was ===== -/
def OKh (A : List Nat) (h0 : Hs) (x : Option (Int32 × Hs)) : Prop := ∃ r h', x = some (r, h') ∧ Ke [] A [] [] h0 h' ∧ sz h' = sz h0
theorem m125 : ∀ x, x < 13 → ∀ y, y < 13 → ∀ z, z < 13 → x + y + z ≤ 12 → (x + 1) * (y + 1) * (z + 1) ≤ 125 := by decide +kernel
theorem slot_b {a b c tw th fi : Nat} (ha : a ≤ tw) (hb : b ≤ th) (hc : c ≤ fi) (hs : tw + th + fi ≤ 12) : (a * (th + 1) + b) * (fi + 1) + c < 125 := by
  have h0 := m125 tw (by omega) th (by omega) fi (by omega) hs
  have h1 : a * (th + 1) ≤ tw * (th + 1) := Nat.mul_le_mul_right _ ha
  have h2 : (a * (th + 1) + b) * (fi + 1) ≤ (tw * (th + 1) + th) * (fi + 1) := Nat.mul_le_mul_right _ (by omega)
  have h3 : (tw + 1) * (th + 1) = tw * (th + 1) + th + 1 := by rw [Nat.add_mul, Nat.one_mul]; omega
  rw [h3, Nat.add_mul, Nat.one_mul] at h0
  omega
theorem v_slot {N : Nat} {h : Hs} (hS : Sk h) {a b c th fi : Nat} (g7 : gI h 107 25 = iI th) (g8 : gI h 108 25 = iI fi) : fX1_slot N h 25 (iI a) (iI b) (iI c) = some (iI (((a * (th + 1) + b) * (fi + 1) + c : Nat) : Int), h) := by
  have c25 : (sh h 25).1 = 1 := by rw [ss_25 hS]
  have e : (((a * (th + 1) + b) * (fi + 1) + c : Nat) : Int) = ((a : Int) * ((th : Int) + 1) + b) * ((fi : Int) + 1) + c := by
    simp only [Int.natCast_add, Int.natCast_mul, Int.natCast_one]
  rw [e]
  simp only [fX1_slot, lit]
  refine bst (oIv c25 g7) ?_
  refine bst (oIv c25 g8) ?_
  simp only [iI_add, iI_mul]
theorem v_wW {N : Nat} {h : Hs} (p1 p2 p3 : Int32) : ∃ v, fX1_withWork N h 25 p1 p2 p3 = some (v, h) := by
  simp only [fX1_withWork, fX1_withWork_b15, fX1_withWork_b39]
  by_cases w : p3 < ((p1 - p1 / 100 * 100) + p2)
  · rw [if_pos w]
    exact ⟨_, if_pos trivial⟩
  · rw [if_neg w]
    exact ⟨_, if_neg (by decide)⟩
theorem v_lS {N : Nat} {h : Hs} (hS : Sk h) {a b c tw th fi : Nat} (ha : a ≤ tw) (hb : b ≤ th) (hc : c ≤ fi) (hs : tw + th + fi ≤ 12) (g7 : gI h 107 25 = iI th) (g8 : gI h 108 25 = iI fi) (p : Int32) : ∃ v, fX1_leastShare N h 25 (iI a) (iI b) (iI c) p = some (v, h) := by
  have rc1 : rc 1 h (some 25) = some 25 := rcv (by rw [ss_25 hS])
  have l82 : ∀ u : Int32, ∃ v, fX1_leastShare_b82 N 25 h (iI a) (iI b) (iI c) p u = some (v, h) := by
    intro u
    simp only [fX1_leastShare_b82, fX1_leastShare_b114, lit, Option.bind_some]
    by_cases w : c = 0
    · exact ⟨u, by rw [if_pos (by rw [w]; exact Int32.le_refl _)]⟩
    · have w0 : ¬ iI (c : Int) ≤ iI 0 := fun q => by have := (iI_le (by omega) (by omega) (by omega) (by omega)).mp q; omega
      have sl := v_slot (N := N) hS (a := a) (b := b) (c := c - 1) g7 g8
      have sb := slot_b (c := c - 1) ha hb (by omega) hs
      have ec : iI (c : Int) - iI 1 = iI ((c - 1 : Nat) : Int) := by rw [iI_sub]; congr 1; omega
      obtain ⟨v, hv⟩ := v_wW (N := N) (h := h) (aI h 28 ((a * (th + 1) + b) * (fi + 1) + (c - 1))) (iI 5) p
      refine ⟨if v < u then v else u, ?_⟩
      · skip
        refine ifn (w0) ?_
        refine bst (sR_103_25 hS) ?_
        refine bst (rc1) ?_
        rw [ec]
        refine bst (sl) ?_
        refine bst (lAv (ss_28 hS) sb (by omega) rfl) ?_
        refine bst (rc1) ?_
        refine bst (hv) ?_
        rfl
  have l50 : ∀ u : Int32, ∃ v, fX1_leastShare_b50 N 25 h (iI a) (iI b) (iI c) p u = some (v, h) := by
    intro u
    simp only [fX1_leastShare_b50, lit, Option.bind_some]
    by_cases w : b = 0
    · obtain ⟨v, hv⟩ := l82 u
      exact ⟨v, by rw [if_pos (by rw [w]; exact Int32.le_refl _)]; exact hv⟩
    · have w0 : ¬ iI (b : Int) ≤ iI 0 := fun q => by have := (iI_le (by omega) (by omega) (by omega) (by omega)).mp q; omega
      have sl := v_slot (N := N) hS (a := a) (b := b - 1) (c := c) g7 g8
      have sb := slot_b (b := b - 1) ha (by omega) hc hs
      have ec : iI (b : Int) - iI 1 = iI ((b - 1 : Nat) : Int) := by rw [iI_sub]; congr 1; omega
      obtain ⟨v, hv⟩ := v_wW (N := N) (h := h) (aI h 28 ((a * (th + 1) + (b - 1)) * (fi + 1) + c)) (iI 3) p
      obtain ⟨x, hx⟩ := l82 (if v < u then v else u)
      refine ⟨x, ?_⟩
      · skip
        refine ifn (w0) ?_
        refine bst (sR_103_25 hS) ?_
        refine bst (rc1) ?_
        rw [ec]
        refine bst (sl) ?_
        refine bst (lAv (ss_28 hS) sb (by omega) rfl) ?_
        refine bst (rc1) ?_
        refine bst (hv) ?_
        exact hx
  have l16 : ∀ u : Int32, ∃ v, fX1_leastShare_b16 N 25 h (iI a) (iI b) (iI c) p u = some (v, h) := by
    intro u
    simp only [fX1_leastShare_b16, lit, Option.bind_some]
    by_cases w : a = 0
    · obtain ⟨v, hv⟩ := l50 u
      exact ⟨v, by rw [if_pos (by rw [w]; exact Int32.le_refl _)]; exact hv⟩
    · have w0 : ¬ iI (a : Int) ≤ iI 0 := fun q => by have := (iI_le (by omega) (by omega) (by omega) (by omega)).mp q; omega
      have sl := v_slot (N := N) hS (a := a - 1) (b := b) (c := c) g7 g8
      have sb := slot_b (a := a - 1) (by omega) hb hc hs
      have ec : iI (a : Int) - iI 1 = iI ((a - 1 : Nat) : Int) := by rw [iI_sub]; congr 1; omega
      obtain ⟨v, hv⟩ := v_wW (N := N) (h := h) (aI h 28 (((a - 1) * (th + 1) + b) * (fi + 1) + c)) (iI 2) p
      obtain ⟨x, hx⟩ := l50 (if v < u then v else u)
      refine ⟨x, ?_⟩
      · skip
        refine ifn (w0) ?_
        refine bst (sR_103_25 hS) ?_
        refine bst (rc1) ?_
        rw [ec]
        refine bst (sl) ?_
        refine bst (lAv (ss_28 hS) sb (by omega) rfl) ?_
        refine bst (rc1) ?_
        refine bst (hv) ?_
        exact hx
  unfold fX1_leastShare
  by_cases w : ((iI (a : Int) + iI b) + iI c) = 0
  · rw [if_pos w]; exact l16 _
  · rw [if_neg w]; exact l16 _
theorem v_shO {N : Nat} (hN : 100000000 ≤ N) {h0 : Hs} (hS0 : Sk h0) (hz : 70 ≤ sz h0) {tw th fi : Nat} (hs : tw + th + fi ≤ 12) (g6 : gI h0 106 25 = iI tw) (g7 : gI h0 107 25 = iI th) (g8 : gI h0 108 25 = iI fi) (p : Int32) : OKh [28] h0 (fX1_shareOut N h0 25 p) := by
  have L27 : ∀ (a b : Nat), a ≤ tw → b ≤ th → ∀ (g4 : Hs → Int32 → Int32 → Int32 → Option (Int32 × Hs)) (g15 : Hs → Int32 → Int32 → Int32 → Int32 → Option (Int32 × Hs)), (∀ h x2, Ke [] [28] [] [] h0 h → sz h = sz h0 → OKh [28] h0 (g15 h p x2 (iI a) (iI ((b : Int) + 1)))) → ∀ (e c fu : Nat) (h : Hs) (x2 : Int32), Ke [] [28] [] [] h0 h → sz h = sz h0 → c + e = fi + 1 → e < fu → OKh [28] h0 (fX1_shareOut_b27 N g4 g15 25 fu h p x2 (iI a) (iI b) (iI c)) := by
    intro a b ha hb g4 g15 G e
    induction e with
    | zero =>
      intro c fu h x2 ke s0 hc hf
      obtain ⟨fu, rfl⟩ : ∃ m, fu = m + 1 := ⟨fu - 1, by omega⟩
      have hS := hS0.e hz ke (by decide)
      have c25 : (sh h 25).1 = 1 := by rw [ss_25 hS]
      have a1 : iI (fi : Int) < iI (c : Int) := (iI_lt (by omega) (by omega) (by omega) (by omega)).mpr (by omega)
      have st : fX1_shareOut_b27 N g4 g15 25 (fu + 1) h p x2 (iI a) (iI b) (iI c) = g15 h p x2 (iI a) (iI ((b : Int) + 1)) := by
        show fX1_shareOut_b27_body N g4 g15 (fX1_shareOut_b27 N g4 g15 25 fu) 25 h p x2 (iI a) (iI b) (iI c) = _
        simp only [fX1_shareOut_b27_body, lit, iI_add, Option.bind_some]
        refine bst (oIv c25 ((ke.1 108 25 (by decide) (by omega)).trans g8)) ?_
        refine ifp (a1) ?_
        rfl
      rw [st]
      exact G h x2 ke s0
    | succ e ih =>
      intro c fu h x2 ke s0 hc hf
      obtain ⟨fu, rfl⟩ : ∃ m, fu = m + 1 := ⟨fu - 1, by omega⟩
      have hS := hS0.e hz ke (by decide)
      have c25 : (sh h 25).1 = 1 := by rw [ss_25 hS]
      have a1 : ¬ iI (fi : Int) < iI (c : Int) := fun q => by have := (iI_lt (by omega) (by omega) (by omega) (by omega)).mp q; omega
      have k7 : gI h 107 25 = iI th := by rw [ke.1 107 25 (by decide) (by omega)]; exact g7
      have k8 : gI h 108 25 = iI fi := by rw [ke.1 108 25 (by decide) (by omega)]; exact g8
      obtain ⟨v, hv⟩ := v_lS (N := N) hS ha hb (show c ≤ fi by omega) hs k7 k8 p
      have sl := v_slot (N := N) hS (a := a) (b := b) (c := c) k7 k8
      have sb := slot_b ha hb (show c ≤ fi by omega) hs
      have rc1 : rc 1 h (some 25) = some 25 := rcv (by rw [ss_25 hS])
      have ke2 : Ke [] [28] [] [] h0 (uA h 28 ((a * (th + 1) + b) * (fi + 1) + c) v) := ke.b 28 _ _ (by decide)
      have st : fX1_shareOut_b27 N g4 g15 25 (fu + 1) h p x2 (iI a) (iI b) (iI c) = fX1_shareOut_b27 N g4 g15 25 fu (uA h 28 ((a * (th + 1) + b) * (fi + 1) + c) v) p v (iI a) (iI b) (iI ((c : Int) + 1)) := by
        show fX1_shareOut_b27_body N g4 g15 (fX1_shareOut_b27 N g4 g15 25 fu) 25 h p x2 (iI a) (iI b) (iI c) = _
        simp only [fX1_shareOut_b27_body, lit, iI_add, Option.bind_some]
        refine bst (oIv c25 k8) ?_
        refine ifn (a1) ?_
        refine bst (rc1) ?_
        refine bst (hv) ?_
        refine bst (sR_103_25 hS) ?_
        refine bst (rc1) ?_
        refine bst (sl) ?_
        refine bst (sAv (ss_28 hS) sb (by omega)) ?_
        rfl
      rw [st]
      have := ih (c + 1) fu _ v ke2 s0 (by omega) (by omega)
      simp only [Int.natCast_add, Int.natCast_one] at this
      exact this
  have L15 : ∀ (a : Nat), a ≤ tw → ∀ (g4 : Hs → Int32 → Int32 → Int32 → Option (Int32 × Hs)), (∀ h x2, Ke [] [28] [] [] h0 h → sz h = sz h0 → OKh [28] h0 (g4 h p x2 (iI ((a : Int) + 1)))) → ∀ (e b fu : Nat) (h : Hs) (x2 : Int32), Ke [] [28] [] [] h0 h → sz h = sz h0 → b + e = th + 1 → e < fu → OKh [28] h0 (fX1_shareOut_b15 N g4 25 fu h p x2 (iI a) (iI b)) := by
    intro a ha g4 G e
    induction e with
    | zero =>
      intro b fu h x2 ke s0 hc hf
      obtain ⟨fu, rfl⟩ : ∃ m, fu = m + 1 := ⟨fu - 1, by omega⟩
      have hS := hS0.e hz ke (by decide)
      have c25 : (sh h 25).1 = 1 := by rw [ss_25 hS]
      have a1 : iI (th : Int) < iI (b : Int) := (iI_lt (by omega) (by omega) (by omega) (by omega)).mpr (by omega)
      have st : fX1_shareOut_b15 N g4 25 (fu + 1) h p x2 (iI a) (iI b) = g4 h p x2 (iI ((a : Int) + 1)) := by
        show fX1_shareOut_b15_body N g4 (fX1_shareOut_b15 N g4 25 fu) 25 h p x2 (iI a) (iI b) = _
        simp only [fX1_shareOut_b15_body, lit, iI_add, Option.bind_some]
        refine bst (oIv c25 ((ke.1 107 25 (by decide) (by omega)).trans g7)) ?_
        refine ifp (a1) ?_
        rfl
      rw [st]
      exact G h x2 ke s0
    | succ e ih =>
      intro b fu h x2 ke s0 hc hf
      obtain ⟨fu, rfl⟩ : ∃ m, fu = m + 1 := ⟨fu - 1, by omega⟩
      have hS := hS0.e hz ke (by decide)
      have c25 : (sh h 25).1 = 1 := by rw [ss_25 hS]
      have a1 : ¬ iI (th : Int) < iI (b : Int) := fun q => by have := (iI_lt (by omega) (by omega) (by omega) (by omega)).mp q; omega
      have st : fX1_shareOut_b15 N g4 25 (fu + 1) h p x2 (iI a) (iI b) = fX1_shareOut_b27 N g4 (fX1_shareOut_b15 N g4 25 fu) 25 N h p x2 (iI a) (iI b) (iI 0) := by
        show fX1_shareOut_b15_body N g4 (fX1_shareOut_b15 N g4 25 fu) 25 h p x2 (iI a) (iI b) = _
        simp only [fX1_shareOut_b15_body, lit]
        refine bst (oIv c25 ((ke.1 107 25 (by decide) (by omega)).trans g7)) ?_
        refine ifn (a1) ?_
        rfl
      rw [st]
      exact L27 a b ha (by omega) g4 _ (fun h' x' k' s' => by
        have := ih (b + 1) fu h' x' k' s' (by omega) (by omega)
        simp only [Int.natCast_add, Int.natCast_one] at this
        exact this) (fi + 1) 0 N h x2 ke s0 (by omega) (by omega)
  have L4 : ∀ (e a fu : Nat) (h : Hs) (x2 : Int32), Ke [] [28] [] [] h0 h → sz h = sz h0 → a + e = tw + 1 → e < fu → OKh [28] h0 (fX1_shareOut_b4 N 25 fu h p x2 (iI a)) := by
    intro e
    induction e with
    | zero =>
      intro a fu h x2 ke s0 hc hf
      obtain ⟨fu, rfl⟩ : ∃ m, fu = m + 1 := ⟨fu - 1, by omega⟩
      have hS := hS0.e hz ke (by decide)
      have c25 : (sh h 25).1 = 1 := by rw [ss_25 hS]
      have a1 : iI (tw : Int) < iI (a : Int) := (iI_lt (by omega) (by omega) (by omega) (by omega)).mpr (by omega)
      refine ⟨x2, h, ?_, ke, s0⟩
      show fX1_shareOut_b4_body N (fX1_shareOut_b4 N 25 fu) 25 h p x2 (iI a) = _
      simp only [fX1_shareOut_b4_body]
      refine bst (oIv c25 ((ke.1 106 25 (by decide) (by omega)).trans g6)) ?_
      refine ifp (a1) ?_
      rfl
    | succ e ih =>
      intro a fu h x2 ke s0 hc hf
      obtain ⟨fu, rfl⟩ : ∃ m, fu = m + 1 := ⟨fu - 1, by omega⟩
      have hS := hS0.e hz ke (by decide)
      have c25 : (sh h 25).1 = 1 := by rw [ss_25 hS]
      have a1 : ¬ iI (tw : Int) < iI (a : Int) := fun q => by have := (iI_lt (by omega) (by omega) (by omega) (by omega)).mp q; omega
      have st : fX1_shareOut_b4 N 25 (fu + 1) h p x2 (iI a) = fX1_shareOut_b15 N (fX1_shareOut_b4 N 25 fu) 25 N h p x2 (iI a) (iI 0) := by
        show fX1_shareOut_b4_body N (fX1_shareOut_b4 N 25 fu) 25 h p x2 (iI a) = _
        simp only [fX1_shareOut_b4_body, lit]
        refine bst (oIv c25 ((ke.1 106 25 (by decide) (by omega)).trans g6)) ?_
        refine ifn (a1) ?_
        rfl
      rw [st]
      exact L15 a (by omega) _ (fun h' x' k' s' => by
        have := ih (a + 1) fu h' x' k' s' (by omega) (by omega)
        simp only [Int.natCast_add, Int.natCast_one] at this
        exact this) (th + 1) 0 N h x2 ke s0 (by omega) (by omega)
  exact L4 (tw + 1) 0 N h0 p Ke_rf rfl (by omega) (by omega)
/-! the reference's sheet -/
theorem v_mF {N : Nat} (hN : 100000000 ≤ N) {h0 : Hs} (hS0 : Sk h0) (hz : 70 ≤ sz h0) {f5 f3 f2 : Nat} (h5 : f5 ≤ 12) (h3 : f3 ≤ 12) (h2 : f2 ≤ 12) (p : Int32) : OKh [52] h0 (fX12_menFor N h0 29 (iI f5) (iI f3) (iI f2) p) := by
  have ld : ∀ (h : Hs) (n : Nat), Ke [] [52] [] [] h0 h → n < 2197 → lA 20 h (some 52) (iI n) = some (aI h 52 n) := fun h n ke hn => lAv (ss_52 (hS0.e hz ke (by decide))) hn (by omega) rfl
  have L70 : ∀ (a b c x y : Nat), a ≤ 12 → b ≤ 12 → c ≤ 12 → x ≤ a → y ≤ b → ∀ (g3 : Hs → Int32 → Int32 → Int32 → Int32 → Int32 → Option (Int32 × Hs)) (g12 : Hs → Int32 → Int32 → Int32 → Int32 → Int32 → Int32 → Option (Int32 × Hs)) (g21 : Hs → Int32 → Int32 → Int32 → Int32 → Int32 → Int32 → Int32 → Option (Int32 × Hs)) (g50 : Hs → Int32 → Int32 → Int32 → Int32 → Int32 → Int32 → Int32 → Int32 → Int32 → Option (Int32 × Hs)) (g60 : Hs → Int32 → Int32 → Int32 → Int32 → Int32 → Int32 → Int32 → Int32 → Int32 → Int32 → Option (Int32 × Hs)), (∀ h x8, Ke [] [52] [] [] h0 h → sz h = sz h0 → OKh [52] h0 (g60 h (iI f5) (iI f3) (iI f2) p (iI a) (iI b) (iI c) x8 (iI x) (iI ((y : Int) + 1)))) → ∀ (e z fu : Nat) (h : Hs) (x8 : Int32), Ke [] [52] [] [] h0 h → sz h = sz h0 → z + e = c + 1 → e < fu → OKh [52] h0 (fX12_menFor_b70 N g3 g12 g21 g50 g60 29 fu h (iI f5) (iI f3) (iI f2) p (iI a) (iI b) (iI c) x8 (iI x) (iI y) (iI z)) := by
    intro a b c x y ha hb hc hx hy g3 g12 g21 g50 g60 G e
    induction e with
    | zero =>
      intro z fu h x8 ke s0 hz' hf
      obtain ⟨fu, rfl⟩ : ∃ m, fu = m + 1 := ⟨fu - 1, by omega⟩
      have a1 : iI (c : Int) < iI (z : Int) := (iI_lt (by omega) (by omega) (by omega) (by omega)).mpr (by omega)
      have st : fX12_menFor_b70 N g3 g12 g21 g50 g60 29 (fu + 1) h (iI f5) (iI f3) (iI f2) p (iI a) (iI b) (iI c) x8 (iI x) (iI y) (iI z) = g60 h (iI f5) (iI f3) (iI f2) p (iI a) (iI b) (iI c) x8 (iI x) (iI ((y : Int) + 1)) := by
        show fX12_menFor_b70_body N g3 g12 g21 g50 g60 (fX12_menFor_b70 N g3 g12 g21 g50 g60 29 fu) 29 h (iI f5) (iI f3) (iI f2) p (iI a) (iI b) (iI c) x8 (iI x) (iI y) (iI z) = _
        simp only [fX12_menFor_b70_body, lit, iI_add, Option.bind_some]
        refine ifp (a1) ?_
        rfl
      rw [st]
      exact G h x8 ke s0
    | succ e ih =>
      intro z fu h x8 ke s0 hz' hf
      obtain ⟨fu, rfl⟩ : ∃ m, fu = m + 1 := ⟨fu - 1, by omega⟩
      have hS := hS0.e hz ke (by decide)
      have a1 : ¬ iI (c : Int) < iI (z : Int) := fun q => by have := (iI_lt (by omega) (by omega) (by omega) (by omega)).mp q; omega
      have nx : ∀ x8 : Int32, OKh [52] h0 (fX12_menFor_b70 N g3 g12 g21 g50 g60 29 fu h (iI f5) (iI f3) (iI f2) p (iI a) (iI b) (iI c) x8 (iI x) (iI y) (iI ((z : Int) + 1))) := fun x8 => by
        have := ih (z + 1) fu h x8 ke s0 (by omega) (by omega)
        simp only [Int.natCast_add, Int.natCast_one] at this
        exact this
      have st : ∃ u : Int32, fX12_menFor_b70 N g3 g12 g21 g50 g60 29 (fu + 1) h (iI f5) (iI f3) (iI f2) p (iI a) (iI b) (iI c) x8 (iI x) (iI y) (iI z) = fX12_menFor_b70 N g3 g12 g21 g50 g60 29 fu h (iI f5) (iI f3) (iI f2) p (iI a) (iI b) (iI c) u (iI x) (iI y) (iI ((z : Int) + 1)) := by
        have un : fX12_menFor_b70 N g3 g12 g21 g50 g60 29 (fu + 1) h (iI f5) (iI f3) (iI f2) p (iI a) (iI b) (iI c) x8 (iI x) (iI y) (iI z) = fX12_menFor_b70_body N g3 g12 g21 g50 g60 (fX12_menFor_b70 N g3 g12 g21 g50 g60 29 fu) 29 h (iI f5) (iI f3) (iI f2) p (iI a) (iI b) (iI c) x8 (iI x) (iI y) (iI z) := rfl
        rw [un]
        simp only [fX12_menFor_b70_body, fX12_menFor_b157, fX12_menFor_b159, Option.bind_some]
        have e1 : iI (z : Int) + 1 = iI ((z : Int) + 1) := by rw [show (1 : Int32) = iI 1 from rfl, iI_add]
        rw [if_neg a1, e1]
        by_cases w1 : ((iI (x : Int) + iI y) + iI z) = 0
        · exact ⟨x8, by rw [if_pos w1]⟩
        · rw [if_neg w1]
          by_cases w2 : (((5 * iI (x : Int)) + (3 * iI (y : Int))) + (2 * iI (z : Int))) ≤ p
          · rw [if_pos w2]
            have ei : ((((169 * (iI (a : Int) - iI x)) + (13 * (iI (b : Int) - iI y))) + iI (c : Int)) - iI z) = iI ((169 * (a - x) + 13 * (b - y) + c - z : Nat) : Int) := by
              simp only [lit, iI_sub, iI_mul, iI_add]
              congr 1
              omega
            have l := ld h (169 * (a - x) + 13 * (b - y) + c - z) ke (by omega)
            rw [ei]
            by_cases w3 : x8 ≤ 1 + aI h 52 (169 * (a - x) + 13 * (b - y) + c - z)
            · refine ⟨x8, ?_⟩
              refine bst (sR_1235_29 hS) ?_
              refine bst (l) ?_
              refine ifp (w3) ?_
              rfl
            · refine ⟨1 + aI h 52 (169 * (a - x) + 13 * (b - y) + c - z), ?_⟩
              refine bst (sR_1235_29 hS) ?_
              refine bst (l) ?_
              refine ifn (w3) ?_
              rfl
          · exact ⟨x8, by rw [if_neg w2]⟩
      obtain ⟨u, hu⟩ := st
      rw [hu]
      exact nx u
  have L60 : ∀ (a b c x : Nat), a ≤ 12 → b ≤ 12 → c ≤ 12 → x ≤ a → ∀ (g3 : Hs → Int32 → Int32 → Int32 → Int32 → Int32 → Option (Int32 × Hs)) (g12 : Hs → Int32 → Int32 → Int32 → Int32 → Int32 → Int32 → Option (Int32 × Hs)) (g21 : Hs → Int32 → Int32 → Int32 → Int32 → Int32 → Int32 → Int32 → Option (Int32 × Hs)) (g50 : Hs → Int32 → Int32 → Int32 → Int32 → Int32 → Int32 → Int32 → Int32 → Int32 → Option (Int32 × Hs)), (∀ h x8, Ke [] [52] [] [] h0 h → sz h = sz h0 → OKh [52] h0 (g50 h (iI f5) (iI f3) (iI f2) p (iI a) (iI b) (iI c) x8 (iI ((x : Int) + 1)))) → ∀ (e y fu : Nat) (h : Hs) (x8 : Int32), Ke [] [52] [] [] h0 h → sz h = sz h0 → y + e = b + 1 → e < fu → OKh [52] h0 (fX12_menFor_b60 N g3 g12 g21 g50 29 fu h (iI f5) (iI f3) (iI f2) p (iI a) (iI b) (iI c) x8 (iI x) (iI y)) := by
    intro a b c x ha hb hc hx g3 g12 g21 g50 G e
    induction e with
    | zero =>
      intro y fu h x8 ke s0 hz' hf
      obtain ⟨fu, rfl⟩ : ∃ m, fu = m + 1 := ⟨fu - 1, by omega⟩
      have a1 : iI (b : Int) < iI (y : Int) := (iI_lt (by omega) (by omega) (by omega) (by omega)).mpr (by omega)
      have st : fX12_menFor_b60 N g3 g12 g21 g50 29 (fu + 1) h (iI f5) (iI f3) (iI f2) p (iI a) (iI b) (iI c) x8 (iI x) (iI y) = g50 h (iI f5) (iI f3) (iI f2) p (iI a) (iI b) (iI c) x8 (iI ((x : Int) + 1)) := by
        show fX12_menFor_b60_body N g3 g12 g21 g50 (fX12_menFor_b60 N g3 g12 g21 g50 29 fu) 29 h (iI f5) (iI f3) (iI f2) p (iI a) (iI b) (iI c) x8 (iI x) (iI y) = _
        simp only [fX12_menFor_b60_body, lit, iI_add, Option.bind_some]
        refine ifp (a1) ?_
        rfl
      rw [st]
      exact G h x8 ke s0
    | succ e ih =>
      intro y fu h x8 ke s0 hz' hf
      obtain ⟨fu, rfl⟩ : ∃ m, fu = m + 1 := ⟨fu - 1, by omega⟩
      have a1 : ¬ iI (b : Int) < iI (y : Int) := fun q => by have := (iI_lt (by omega) (by omega) (by omega) (by omega)).mp q; omega
      have st : fX12_menFor_b60 N g3 g12 g21 g50 29 (fu + 1) h (iI f5) (iI f3) (iI f2) p (iI a) (iI b) (iI c) x8 (iI x) (iI y) = fX12_menFor_b70 N g3 g12 g21 g50 (fX12_menFor_b60 N g3 g12 g21 g50 29 fu) 29 N h (iI f5) (iI f3) (iI f2) p (iI a) (iI b) (iI c) x8 (iI x) (iI y) (iI 0) := by
        show fX12_menFor_b60_body N g3 g12 g21 g50 (fX12_menFor_b60 N g3 g12 g21 g50 29 fu) 29 h (iI f5) (iI f3) (iI f2) p (iI a) (iI b) (iI c) x8 (iI x) (iI y) = _
        simp only [fX12_menFor_b60_body, lit]
        refine ifn (a1) ?_
        rfl
      rw [st]
      exact L70 a b c x y ha hb hc hx (by omega) g3 g12 g21 g50 _ (fun h' x' k' s' => by
        have := ih (y + 1) fu h' x' k' s' (by omega) (by omega)
        simp only [Int.natCast_add, Int.natCast_one] at this
        exact this) (c + 1) 0 N h x8 ke s0 (by omega) (by omega)
  have L50 : ∀ (a b c : Nat), a ≤ 12 → b ≤ 12 → c ≤ 12 → ∀ (g3 : Hs → Int32 → Int32 → Int32 → Int32 → Int32 → Option (Int32 × Hs)) (g12 : Hs → Int32 → Int32 → Int32 → Int32 → Int32 → Int32 → Option (Int32 × Hs)) (g21 : Hs → Int32 → Int32 → Int32 → Int32 → Int32 → Int32 → Int32 → Option (Int32 × Hs)), (∀ h, Ke [] [52] [] [] h0 h → sz h = sz h0 → OKh [52] h0 (g21 h (iI f5) (iI f3) (iI f2) p (iI a) (iI b) (iI ((c : Int) + 1)))) → ∀ (e x fu : Nat) (h : Hs) (x8 : Int32), Ke [] [52] [] [] h0 h → sz h = sz h0 → x + e = a + 1 → e < fu → OKh [52] h0 (fX12_menFor_b50 N g3 g12 g21 29 fu h (iI f5) (iI f3) (iI f2) p (iI a) (iI b) (iI c) x8 (iI x)) := by
    intro a b c ha hb hc g3 g12 g21 G e
    induction e with
    | zero =>
      intro x fu h x8 ke s0 hz' hf
      obtain ⟨fu, rfl⟩ : ∃ m, fu = m + 1 := ⟨fu - 1, by omega⟩
      have hS := hS0.e hz ke (by decide)
      have a1 : iI (a : Int) < iI (x : Int) := (iI_lt (by omega) (by omega) (by omega) (by omega)).mpr (by omega)
      have ei : iI 169 * iI (a : Int) + iI 13 * iI (b : Int) + iI (c : Int) = iI ((169 * a + 13 * b + c : Nat) : Int) := by
        simp only [iI_mul, iI_add]
        congr 1
      have st : fX12_menFor_b50 N g3 g12 g21 29 (fu + 1) h (iI f5) (iI f3) (iI f2) p (iI a) (iI b) (iI c) x8 (iI x) = g21 (uA h 52 (169 * a + 13 * b + c) x8) (iI f5) (iI f3) (iI f2) p (iI a) (iI b) (iI ((c : Int) + 1)) := by
        show fX12_menFor_b50_body N g3 g12 g21 (fX12_menFor_b50 N g3 g12 g21 29 fu) 29 h (iI f5) (iI f3) (iI f2) p (iI a) (iI b) (iI c) x8 (iI x) = _
        simp only [fX12_menFor_b50_body, lit, Option.bind_some]
        refine ifp (a1) ?_
        refine bst (sR_1235_29 hS) ?_
        rw [ei]
        refine bst (sAv (ss_52 hS) (by omega) (by omega)) ?_
        rw [iI_add]
      rw [st]
      exact G _ (ke.b 52 _ _ (by decide)) s0
    | succ e ih =>
      intro x fu h x8 ke s0 hz' hf
      obtain ⟨fu, rfl⟩ : ∃ m, fu = m + 1 := ⟨fu - 1, by omega⟩
      have a1 : ¬ iI (a : Int) < iI (x : Int) := fun q => by have := (iI_lt (by omega) (by omega) (by omega) (by omega)).mp q; omega
      have st : fX12_menFor_b50 N g3 g12 g21 29 (fu + 1) h (iI f5) (iI f3) (iI f2) p (iI a) (iI b) (iI c) x8 (iI x) = fX12_menFor_b60 N g3 g12 g21 (fX12_menFor_b50 N g3 g12 g21 29 fu) 29 N h (iI f5) (iI f3) (iI f2) p (iI a) (iI b) (iI c) x8 (iI x) (iI 0) := by
        show fX12_menFor_b50_body N g3 g12 g21 (fX12_menFor_b50 N g3 g12 g21 29 fu) 29 h (iI f5) (iI f3) (iI f2) p (iI a) (iI b) (iI c) x8 (iI x) = _
        simp only [fX12_menFor_b50_body, lit]
        refine ifn (a1) ?_
        rfl
      rw [st]
      exact L60 a b c x ha hb hc (by omega) g3 g12 g21 _ (fun h' x' k' s' => by
        have := ih (x + 1) fu h' x' k' s' (by omega) (by omega)
        simp only [Int.natCast_add, Int.natCast_one] at this
        exact this) (b + 1) 0 N h x8 ke s0 (by omega) (by omega)
  have L21 : ∀ (a b : Nat), a ≤ 12 → b ≤ 12 → ∀ (g3 : Hs → Int32 → Int32 → Int32 → Int32 → Int32 → Option (Int32 × Hs)) (g12 : Hs → Int32 → Int32 → Int32 → Int32 → Int32 → Int32 → Option (Int32 × Hs)), (∀ h, Ke [] [52] [] [] h0 h → sz h = sz h0 → OKh [52] h0 (g12 h (iI f5) (iI f3) (iI f2) p (iI a) (iI ((b : Int) + 1)))) → ∀ (e c fu : Nat) (h : Hs), Ke [] [52] [] [] h0 h → sz h = sz h0 → c + e = f2 + 1 → e < fu → OKh [52] h0 (fX12_menFor_b21 N g3 g12 29 fu h (iI f5) (iI f3) (iI f2) p (iI a) (iI b) (iI c)) := by
    intro a b ha hb g3 g12 G e
    induction e with
    | zero =>
      intro c fu h ke s0 hz' hf
      obtain ⟨fu, rfl⟩ : ∃ m, fu = m + 1 := ⟨fu - 1, by omega⟩
      have a1 : iI (f2 : Int) < iI (c : Int) := (iI_lt (by omega) (by omega) (by omega) (by omega)).mpr (by omega)
      have st : fX12_menFor_b21 N g3 g12 29 (fu + 1) h (iI f5) (iI f3) (iI f2) p (iI a) (iI b) (iI c) = g12 h (iI f5) (iI f3) (iI f2) p (iI a) (iI ((b : Int) + 1)) := by
        show fX12_menFor_b21_body N g3 g12 (fX12_menFor_b21 N g3 g12 29 fu) 29 h (iI f5) (iI f3) (iI f2) p (iI a) (iI b) (iI c) = _
        simp only [fX12_menFor_b21_body, lit, iI_add, Option.bind_some]
        refine ifp (a1) ?_
        rfl
      rw [st]
      exact G h ke s0
    | succ e ih =>
      intro c fu h ke s0 hz' hf
      obtain ⟨fu, rfl⟩ : ∃ m, fu = m + 1 := ⟨fu - 1, by omega⟩
      have a1 : ¬ iI (f2 : Int) < iI (c : Int) := fun q => by have := (iI_lt (by omega) (by omega) (by omega) (by omega)).mp q; omega
      have st : ∃ u : Int32, fX12_menFor_b21 N g3 g12 29 (fu + 1) h (iI f5) (iI f3) (iI f2) p (iI a) (iI b) (iI c) = fX12_menFor_b50 N g3 g12 (fX12_menFor_b21 N g3 g12 29 fu) 29 N h (iI f5) (iI f3) (iI f2) p (iI a) (iI b) (iI c) u (iI 0) := by
        have un : fX12_menFor_b21 N g3 g12 29 (fu + 1) h (iI f5) (iI f3) (iI f2) p (iI a) (iI b) (iI c) = fX12_menFor_b21_body N g3 g12 (fX12_menFor_b21 N g3 g12 29 fu) 29 h (iI f5) (iI f3) (iI f2) p (iI a) (iI b) (iI c) := rfl
        rw [un]
        simp only [fX12_menFor_b21_body, fX12_menFor_b45, lit]
        rw [if_neg a1]
        by_cases w : ((iI (a : Int) + iI b) + iI c) = iI 0
        · exact ⟨_, by rw [if_pos w]⟩
        · exact ⟨_, by rw [if_neg w]⟩
      obtain ⟨u, hu⟩ := st
      rw [hu]
      exact L50 a b c ha hb (by omega) g3 g12 _ (fun h' k' s' => by
        have := ih (c + 1) fu h' k' s' (by omega) (by omega)
        simp only [Int.natCast_add, Int.natCast_one] at this
        exact this) (a + 1) 0 N h u ke s0 (by omega) (by omega)
  have L12 : ∀ (a : Nat), a ≤ 12 → ∀ (g3 : Hs → Int32 → Int32 → Int32 → Int32 → Int32 → Option (Int32 × Hs)), (∀ h, Ke [] [52] [] [] h0 h → sz h = sz h0 → OKh [52] h0 (g3 h (iI f5) (iI f3) (iI f2) p (iI ((a : Int) + 1)))) → ∀ (e b fu : Nat) (h : Hs), Ke [] [52] [] [] h0 h → sz h = sz h0 → b + e = f3 + 1 → e < fu → OKh [52] h0 (fX12_menFor_b12 N g3 29 fu h (iI f5) (iI f3) (iI f2) p (iI a) (iI b)) := by
    intro a ha g3 G e
    induction e with
    | zero =>
      intro b fu h ke s0 hz' hf
      obtain ⟨fu, rfl⟩ : ∃ m, fu = m + 1 := ⟨fu - 1, by omega⟩
      have a1 : iI (f3 : Int) < iI (b : Int) := (iI_lt (by omega) (by omega) (by omega) (by omega)).mpr (by omega)
      have st : fX12_menFor_b12 N g3 29 (fu + 1) h (iI f5) (iI f3) (iI f2) p (iI a) (iI b) = g3 h (iI f5) (iI f3) (iI f2) p (iI ((a : Int) + 1)) := by
        show fX12_menFor_b12_body N g3 (fX12_menFor_b12 N g3 29 fu) 29 h (iI f5) (iI f3) (iI f2) p (iI a) (iI b) = _
        simp only [fX12_menFor_b12_body, lit, iI_add, Option.bind_some]
        refine ifp (a1) ?_
        rfl
      rw [st]
      exact G h ke s0
    | succ e ih =>
      intro b fu h ke s0 hz' hf
      obtain ⟨fu, rfl⟩ : ∃ m, fu = m + 1 := ⟨fu - 1, by omega⟩
      have a1 : ¬ iI (f3 : Int) < iI (b : Int) := fun q => by have := (iI_lt (by omega) (by omega) (by omega) (by omega)).mp q; omega
      have st : fX12_menFor_b12 N g3 29 (fu + 1) h (iI f5) (iI f3) (iI f2) p (iI a) (iI b) = fX12_menFor_b21 N g3 (fX12_menFor_b12 N g3 29 fu) 29 N h (iI f5) (iI f3) (iI f2) p (iI a) (iI b) (iI 0) := by
        show fX12_menFor_b12_body N g3 (fX12_menFor_b12 N g3 29 fu) 29 h (iI f5) (iI f3) (iI f2) p (iI a) (iI b) = _
        simp only [fX12_menFor_b12_body, lit]
        refine ifn (a1) ?_
        rfl
      rw [st]
      exact L21 a b ha (by omega) g3 _ (fun h' k' s' => by
        have := ih (b + 1) fu h' k' s' (by omega) (by omega)
        simp only [Int.natCast_add, Int.natCast_one] at this
        exact this) (f2 + 1) 0 N h ke s0 (by omega) (by omega)
  have L3 : ∀ (e a fu : Nat) (h : Hs), Ke [] [52] [] [] h0 h → sz h = sz h0 → a + e = f5 + 1 → e < fu → OKh [52] h0 (fX12_menFor_b3 N 29 fu h (iI f5) (iI f3) (iI f2) p (iI a)) := by
    intro e
    induction e with
    | zero =>
      intro a fu h ke s0 hz' hf
      obtain ⟨fu, rfl⟩ : ∃ m, fu = m + 1 := ⟨fu - 1, by omega⟩
      have hS := hS0.e hz ke (by decide)
      have a1 : iI (f5 : Int) < iI (a : Int) := (iI_lt (by omega) (by omega) (by omega) (by omega)).mpr (by omega)
      have ei : iI 169 * iI (f5 : Int) + iI 13 * iI (f3 : Int) + iI (f2 : Int) = iI ((169 * f5 + 13 * f3 + f2 : Nat) : Int) := by
        simp only [iI_mul, iI_add]
        congr 1
      refine ⟨aI h 52 (169 * f5 + 13 * f3 + f2), h, ?_, ke, s0⟩
      show fX12_menFor_b3_body N (fX12_menFor_b3 N 29 fu) 29 h (iI f5) (iI f3) (iI f2) p (iI a) = _
      simp only [fX12_menFor_b3_body, lit]
      refine ifp (a1) ?_
      refine bst (sR_1235_29 hS) ?_
      rw [ei]
      refine bst (ld h _ ke (by omega)) ?_
      rfl
    | succ e ih =>
      intro a fu h ke s0 hz' hf
      obtain ⟨fu, rfl⟩ : ∃ m, fu = m + 1 := ⟨fu - 1, by omega⟩
      have a1 : ¬ iI (f5 : Int) < iI (a : Int) := fun q => by have := (iI_lt (by omega) (by omega) (by omega) (by omega)).mp q; omega
      have st : fX12_menFor_b3 N 29 (fu + 1) h (iI f5) (iI f3) (iI f2) p (iI a) = fX12_menFor_b12 N (fX12_menFor_b3 N 29 fu) 29 N h (iI f5) (iI f3) (iI f2) p (iI a) (iI 0) := by
        show fX12_menFor_b3_body N (fX12_menFor_b3 N 29 fu) 29 h (iI f5) (iI f3) (iI f2) p (iI a) = _
        simp only [fX12_menFor_b3_body, lit]
        refine ifn (a1) ?_
        rfl
      rw [st]
      exact L12 a (by omega) _ (fun h' k' s' => by
        have := ih (a + 1) fu h' k' s' (by omega) (by omega)
        simp only [Int.natCast_add, Int.natCast_one] at this
        exact this) (f3 + 1) 0 N h ke s0 (by omega) (by omega)
  exact L3 (f5 + 1) 0 N h0 Ke_rf rfl (by omega) (by omega)
