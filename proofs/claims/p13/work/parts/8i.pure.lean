/-! ===== the reference reads the lines ===== -/
def lkf (bt : Nat → Int) (L p : Nat) : Int := if p < L then sg (bt p) else -1
def TM (h : Hs) (L : Nat) (bt : Nat → Int) : Prop := gI h 1237 29 = iI L ∧ L ≤ 120 ∧ ∀ i, i < L → aI h 53 i = iI (sg (bt i)) ∧ 0 ≤ bt i ∧ bt i ≤ 255
theorem TM.e {F A FR AQ : List Nat} {h h2 : Hs} {L : Nat} {bt : Nat → Int} (hC : TM h L bt) (hz : 70 ≤ sz h) (k : Ke F A FR AQ h h2) (f1 : 1237 ∉ F) (a1 : 53 ∉ A) : TM h2 L bt := ⟨by rw [k.1 _ _ f1 (by omega)]; exact hC.1, hC.2.1, fun i hi => by rw [k.2.1 _ a1 (by omega)]; exact hC.2.2 i hi⟩
theorem lk_ok {h : Hs} {L : Nat} {bt : Nat → Int} (hC : TM h L bt) (p : Nat) : (-128 ≤ lkf bt L p ∧ lkf bt L p ≤ 127) ∧ (∀ c, 0 ≤ c → c ≤ 127 → (lkf bt L p = c ↔ pkf bt L p = c)) ∧ ((48 ≤ lkf bt L p ∧ lkf bt L p ≤ 57) ↔ (48 ≤ pkf bt L p ∧ pkf bt L p ≤ 57)) ∧ (48 ≤ pkf bt L p ∧ pkf bt L p ≤ 57 → lkf bt L p = pkf bt L p) := by
  unfold lkf pkf
  by_cases w : p < L
  · rw [if_pos w, if_pos w]
    have b := (hC.2.2 p w).2
    unfold sg
    by_cases v : bt p < 128
    · rw [if_pos v]
      exact ⟨by omega, fun c _ _ => Iff.rfl, Iff.rfl, fun _ => rfl⟩
    · rw [if_neg v]
      exact ⟨by omega, fun c _ _ => by omega, by omega, fun _ => by omega⟩
  · rw [if_neg w, if_neg w]
    exact ⟨by omega, fun c _ _ => Iff.rfl, Iff.rfl, fun _ => rfl⟩
theorem lAb {h : Hs} {a n i : Nat} {v : Int32} (hs : sh h a = (22, n)) (hi : i < n) (hn : n < 5000) (hv : aI h a i = v) : lA 22 h (some a) (iI i) = some v := by
  have e1 : ixb (iI (i : Int)) n = true := ixb_i (by omega) (by omega) (by omega)
  have e2 : (iI (i : Int)).toNatClampNeg = i := by rw [iI_cl (by omega) (by omega)]; simp
  simp [lA, hs, e1, e2, hv]
theorem v_look2 {N : Nat} {h : Hs} (hS : Sk h) {L : Nat} {bt : Nat → Int} (hC : TM h L bt) {p : Nat} (hp : p ≤ 1000) (g8 : gI h 1238 29 = iI p) : fX12_look N h 29 = some (iI (lkf bt L p), h) := by
  obtain ⟨c1, c2, c3⟩ := hC
  have cc : (sh h 29).1 = 12 := by rw [ss_29 hS]
  have o8 : oI 12 38 h (some 29) = some (iI p) := oIv cc g8
  have o7 : oI 12 37 h (some 29) = some (iI L) := oIv cc c1
  have le : iI (L : Int) ≤ iI (p : Int) ↔ (L : Int) ≤ p := iI_le (by omega) (by omega) (by omega) (by omega)
  simp only [fX12_look, fX12_look_b24, lit, iI_neg]
  unfold lkf
  by_cases w : p < L
  · rw [if_pos w]
    refine bst (o8) ?_
    refine bst (o7) ?_
    refine ifn (fun q => by have := le.mp q; omega) ?_
    refine bst (sR_1236_29 hS) ?_
    refine bst (o8) ?_
    refine bst (lAb (ss_53 hS) (by omega) (by omega) (c3 p w).1) ?_
    rfl
  · rw [if_neg w]
    refine bst (o8) ?_
    refine bst (o7) ?_
    refine ifp (le.mpr (by omega)) ?_
    rfl
theorem L_dgM {N : Nat} {L : Nat} {bt : Nat → Int} {g : Int32} : ∀ (f p : Nat) (v : Int) (fu : Nat) (h : Hs), Sk h → 70 ≤ sz h → TM h L bt → p + f ≤ 900 → f ≤ 4 → f < fu → gI h 1238 29 = iI p → gI h 1251 29 = iI v → 0 ≤ v → ∃ h', fX12_takes_b61 N 29 fu h g (iI ((4 - f : Nat) : Int)) = fX12_takes_b115 N 29 h' g (iI ((4 - f + ((dgs (pkf bt L) f p v).1 - p) : Nat) : Int)) ∧ Ke [1238, 1251] [] [] [] h h' ∧ sz h' = sz h ∧ gI h' 1238 29 = iI (((dgs (pkf bt L) f p v).1 : Nat) : Int) ∧ gI h' 1251 29 = iI (dgs (pkf bt L) f p v).2 := by
  intro f
  induction f with
  | zero =>
    intro p v fu h hS hz hC hp hf4 hf g6 g7 hv
    obtain ⟨fu, rfl⟩ : ∃ m, fu = m + 1 := ⟨fu - 1, by omega⟩
    refine ⟨h, ?_, Ke_rf, rfl, g6, g7⟩
    show fX12_takes_b61_body N (fX12_takes_b61 N 29 fu) 29 h g (iI ((4 - 0 : Nat) : Int)) = _
    simp only [fX12_takes_b61_body, lit]
    refine ifp (by decide) ?_
    simp [dgs]
  | succ f ih =>
    intro p v fu h hS hz hC hp hf4 hf g6 g7 hv
    obtain ⟨fu, rfl⟩ : ∃ m, fu = m + 1 := ⟨fu - 1, by omega⟩
    have a1 : ¬ iI 4 ≤ iI ((4 - (f + 1) : Nat) : Int) := fun q => by have := (iI_le (by omega) (by omega) (by omega) (by omega)).mp q; omega
    have vp := v_look2 (N := N) hS hC (by omega) g6
    obtain ⟨b, -, b3, b4⟩ := lk_ok hC p
    have rc12 : rc 12 h (some 29) = some 29 := rcv (by rw [ss_29 hS])
    have cc : (sh h 29).1 = 12 := by rw [ss_29 hS]
    have iw := v_inW (N := N) (h := h) (x := lkf bt L p) (a := 48) (b := 57) (by omega) (by omega) (by omega) (by omega) (by omega) (by omega)
    by_cases w : 48 ≤ pkf bt L p ∧ pkf bt L p ≤ 57
    · rw [if_pos (b3.mpr w)] at iw
      rw [b4 w] at vp
      have ed : dgs (pkf bt L) (f + 1) p v = dgs (pkf bt L) f (p + 1) (10 * v + pkf bt L p - 48) := by rw [dgs, if_pos w]
      rw [ed]
      rw [b4 w] at iw
      have ev : iI 10 * iI v + iI (pkf bt L p) - iI 48 = iI (10 * v + pkf bt L p - 48) := by rw [iI_mul, iI_add, iI_sub]
      obtain ⟨h2, eh2⟩ : ∃ h2, h2 = uI (uI h 1251 29 (iI (10 * v + pkf bt L p - 48))) 1238 29 (iI ((p + 1 : Nat) : Int)) := ⟨_, rfl⟩
      have ke2 : Ke [1238, 1251] [] [] [] h h2 := by rw [eh2]; exact (Ke_rf.u 1251 _ _ (by decide)).u 1238 _ _ (by decide)
      have g6b : gI (uI h 1251 29 (iI (10 * v + pkf bt L p - 48))) 1238 29 = iI p := by simp [HR, g6]
      obtain ⟨h', r1, r2, r3, r4, r5⟩ := ih (p + 1) (10 * v + pkf bt L p - 48) fu h2 (hS.e hz ke2 (by decide)) (by rw [eh2]; exact hz) (hC.e hz ke2 (by decide) (by decide)) (by omega) (by omega) (by omega) (by rw [eh2]; simp [HR]) (by rw [eh2]; simp [HR]) (by omega)
      have dp := dgs_p (pkf bt L) f (p + 1) (10 * v + pkf bt L p - 48)
      have en : 4 - (f + 1) + ((dgs (pkf bt L) f (p + 1) (10 * v + pkf bt L p - 48)).1 - p) = 4 - f + ((dgs (pkf bt L) f (p + 1) (10 * v + pkf bt L p - 48)).1 - (p + 1)) := by omega
      rw [en]
      refine ⟨h', ?_, ke2.tr r2, by rw [r3, eh2]; rfl, r4, r5⟩
      rw [← r1]
      show fX12_takes_b61_body N (fX12_takes_b61 N 29 fu) 29 h g (iI ((4 - (f + 1) : Nat) : Int)) = _
      have e4 : iI ((4 - (f + 1) : Nat) : Int) + iI 1 = iI ((4 - f : Nat) : Int) := by rw [iI_add]; congr 1; omega
      have e5 : iI (p : Int) + iI 1 = iI ((p + 1 : Nat) : Int) := by rw [iI_add]; congr 1
      simp only [fX12_takes_b61_body, lit, Option.bind_some]
      refine ifn (a1) ?_
      refine bst (rc12) ?_
      refine bst (vp) ?_
      refine bst (iw) ?_
      refine ifn (n10) ?_
      refine bst (oIv cc g7) ?_
      refine bst (rc12) ?_
      refine bst (vp) ?_
      rw [ev]
      refine bst (qIv cc) ?_
      refine bst (oIv (by rw [sh_uI]; exact cc) g6b) ?_
      rw [e5]
      refine bst (qIv (by rw [sh_uI]; exact cc)) ?_
      rw [← eh2, e4]
    · rw [if_neg (fun z => w (b3.mp z))] at iw
      have ed : dgs (pkf bt L) (f + 1) p v = (p, v) := by rw [dgs, if_neg w]
      rw [ed]
      refine ⟨h, ?_, Ke_rf, rfl, g6, g7⟩
      show fX12_takes_b61_body N (fX12_takes_b61 N 29 fu) 29 h g (iI ((4 - (f + 1) : Nat) : Int)) = _
      simp only [fX12_takes_b61_body, lit]
      refine ifn (a1) ?_
      refine bst (rc12) ?_
      refine bst (vp) ?_
      refine bst (iw) ?_
      refine ifp (rfl) ?_
      simp
theorem v_tkN {N : Nat} (hN : 100000000 ≤ N) {L : Nat} {bt : Nat → Int} {h : Hs} (hS : Sk h) (hz : 70 ≤ sz h) (hC : TM h L bt) {p : Nat} (hp : p ≤ 800) (g8 : gI h 1238 29 = iI p) (sg : Bool) : ∃ h', fX12_takes N h 29 (iI (b2 sg)) = some (iI (b2 (rdN (pkf bt L) sg p).1), h') ∧ Ke [1238, 1251] [] [] [] h h' ∧ sz h' = sz h ∧ gI h' 1238 29 = iI (((rdN (pkf bt L) sg p).2.1 : Nat) : Int) ∧ ((rdN (pkf bt L) sg p).1 = true → gI h' 1251 29 = iI (rdN (pkf bt L) sg p).2.2) := by
  have rc12 : rc 12 h (some 29) = some 29 := rcv (by rw [ss_29 hS])
  have cc : (sh h 29).1 = 12 := by rw [ss_29 hS]
  have vp := v_look2 (N := N) hS hC (by omega) g8
  obtain ⟨b, b1, -, -⟩ := lk_ok hC p
  have q32 : iI (lkf bt L p) = iI 32 ↔ lkf bt L p = 32 := iI_eq (by omega) (by omega) (by omega) (by omega)
  by_cases w : pkf bt L p = 32
  · have w' := q32.mpr ((b1 32 (by omega) (by omega)).mpr w)
    obtain ⟨h1, eh1⟩ : ∃ h1, h1 = uI h 1238 29 (iI ((p + 1 : Nat) : Int)) := ⟨_, rfl⟩
    have ke1 : Ke [1238, 1251] [] [] [] h h1 := by rw [eh1]; exact Ke_rf.u 1238 _ _ (by decide)
    have sz1 : sz h1 = sz h := by rw [eh1]; rfl
    have hS1 := hS.e hz ke1 (by decide)
    have hC1 := hC.e hz ke1 (by decide) (by decide)
    have g81 : gI h1 1238 29 = iI ((p + 1 : Nat) : Int) := by rw [eh1]; simp [HR]
    have e5 : iI (p : Int) + iI 1 = iI ((p + 1 : Nat) : Int) := by rw [iI_add]; congr 1
    have dig : ∀ (h2 : Hs) (q : Nat) (ng : Bool), Ke [1238, 1251] [] [] [] h h2 → sz h2 = sz h → q ≤ 810 → gI h2 1238 29 = iI q → ∃ h', fX12_takes_b54 N 29 h2 (iI (b2 ng)) = some (iI (b2 (decide (q < (dgs (pkf bt L) 4 q 0).1))), h') ∧ Ke [1238, 1251] [] [] [] h h' ∧ sz h' = sz h ∧ gI h' 1238 29 = iI (((dgs (pkf bt L) 4 q 0).1 : Nat) : Int) ∧ gI h' 1251 29 = iI (if ng then -(dgs (pkf bt L) 4 q 0).2 else (dgs (pkf bt L) 4 q 0).2) := by
      intro h2 q ng ke2 s2 hq g82
      have hS2 := hS.e hz ke2 (by decide)
      have cc2 : (sh h2 29).1 = 12 := by rw [ss_29 hS2]
      obtain ⟨h3, eh3⟩ : ∃ h3, h3 = uI h2 1251 29 (iI 0) := ⟨_, rfl⟩
      have ke3 : Ke [1238, 1251] [] [] [] h h3 := by rw [eh3]; exact ke2.u 1251 _ _ (by decide)
      have sz3 : sz h3 = sz h := by rw [eh3]; exact s2
      obtain ⟨h4, r1, r2, r3, r4, r5⟩ := L_dgM (N := N) (bt := bt) (L := L) (g := iI (b2 ng)) 4 q 0 N h3 (hS.e hz ke3 (by decide)) (by omega) (hC.e hz ke3 (by decide) (by decide)) (by omega) (by omega) (by omega) (by rw [eh3]; simp [HR, g82]) (by rw [eh3]; simp [HR]) (by omega)
      have st : fX12_takes_b54 N 29 h2 (iI (b2 ng)) = fX12_takes_b115 N 29 h4 (iI (b2 ng)) (iI (((dgs (pkf bt L) 4 q 0).1 - q : Nat) : Int)) := by
        have r1' : fX12_takes_b61 N 29 N h3 (iI (b2 ng)) (iI 0) = fX12_takes_b115 N 29 h4 (iI (b2 ng)) (iI (((dgs (pkf bt L) 4 q 0).1 - q : Nat) : Int)) := by
          rw [show 4 - 4 + ((dgs (pkf bt L) 4 q 0).1 - q) = (dgs (pkf bt L) 4 q 0).1 - q by omega] at r1
          exact r1
        simp only [fX12_takes_b54, lit]
        refine bst (qIv cc2) ?_
        rw [← eh3]
        exact r1'
      have dp := dgs_p (pkf bt L) 4 q 0
      have ke4 : Ke [1238, 1251] [] [] [] h h4 := ke3.tr r2
      have hS4 := hS.e hz ke4 (by decide)
      have cc4 : (sh h4 29).1 = 12 := by rw [ss_29 hS4]
      have lz : iI (((dgs (pkf bt L) 4 q 0).1 - q : Nat) : Int) ≤ iI 0 ↔ (((dgs (pkf bt L) 4 q 0).1 - q : Nat) : Int) ≤ 0 := iI_le (by omega) (by omega) (by omega) (by omega)
      have b132 : ∀ u : Int, fX12_takes_b132 N 29 h4 (iI (((dgs (pkf bt L) 4 q 0).1 - q : Nat) : Int)) (some 29) (iI u) = some (iI (b2 (decide (q < (dgs (pkf bt L) 4 q 0).1))), uI h4 1251 29 (iI u)) := by
        intro u
        simp only [fX12_takes_b132, fX12_takes_b144, lit]
        by_cases v : q < (dgs (pkf bt L) 4 q 0).1
        · rw [decide_eq_true v]
          refine bst (qIv cc4) ?_
          refine ifn (fun z => by have := lz.mp z; omega) ?_
          refine bst (zc_i1) ?_
          rfl
        · rw [decide_eq_false v]
          refine bst (qIv cc4) ?_
          refine ifp (lz.mpr (by omega)) ?_
          refine bst (zc_i0) ?_
          rfl
      refine ⟨uI h4 1251 29 (iI (if ng then -(dgs (pkf bt L) 4 q 0).2 else (dgs (pkf bt L) 4 q 0).2)), ?_, ke4.u 1251 _ _ (by decide), by show sz h4 = sz h; omega, by simp [HR, r4], by simp [HR]⟩
      rw [st]
      simp only [fX12_takes_b115, lit]
      cases ng with
      | false =>
        refine ifp (rfl) ?_
        refine bst (oIv cc4 r5) ?_
        exact b132 _
      | true =>
        refine ifn (n10) ?_
        refine bst (oIv cc4 r5) ?_
        rw [iI_neg]
        exact b132 _
    simp only [fX12_takes, fX12_takes_b38, lit]
    unfold rdN
    rw [if_neg (fun z => z w)]
    have b38 : ∃ h', fX12_takes_b39 N 29 h1 (iI 0) = some (iI (b2 (decide (p + 1 < (dgs (pkf bt L) 4 (p + 1) 0).1))), h') ∧ Ke [1238, 1251] [] [] [] h h' ∧ sz h' = sz h ∧ gI h' 1238 29 = iI (((dgs (pkf bt L) 4 (p + 1) 0).1 : Nat) : Int) ∧ gI h' 1251 29 = iI (dgs (pkf bt L) 4 (p + 1) 0).2 := by
      obtain ⟨h', r1, r2⟩ := dig h1 (p + 1) false ke1 sz1 (by omega) g81
      refine ⟨h', ?_, r2⟩
      simp only [fX12_takes_b39, lit]
      refine ifp (trivial) ?_
      exact r1
    cases sg with
    | false =>
      obtain ⟨h', r1, r2, r3, r4, r5⟩ := b38
      rw [if_neg (fun z => by cases z.1)]
      refine ⟨h', ?_, r2, r3, r4, fun _ => r5⟩
      refine bst (rc12) ?_
      refine bst (vp) ?_
      refine ifp (w') ?_
      refine bst (oIv cc g8) ?_
      rw [e5]
      refine bst (qIv cc) ?_
      rw [← eh1]
      refine ifp (rfl) ?_
      exact r1
    | true =>
      have vp1 := v_look2 (N := N) hS1 hC1 (by omega) g81
      obtain ⟨c, c1, -, -⟩ := lk_ok hC1 (p + 1)
      have q45 : iI (lkf bt L (p + 1)) = iI 45 ↔ lkf bt L (p + 1) = 45 := iI_eq (by omega) (by omega) (by omega) (by omega)
      have rc121 : rc 12 h1 (some 29) = some 29 := rcv (by rw [ss_29 hS1])
      have cc1 : (sh h1 29).1 = 12 := by rw [ss_29 hS1]
      by_cases v : pkf bt L (p + 1) = 45
      · rw [if_pos ⟨rfl, v⟩]
        have v' := q45.mpr ((c1 45 (by omega) (by omega)).mpr v)
        obtain ⟨h', r1, r2, r3, r4, r5⟩ := dig (uI h1 1238 29 (iI ((p + 2 : Nat) : Int))) (p + 2) true (ke1.u 1238 _ _ (by decide)) sz1 (by omega) (by simp [HR])
        have e6 : iI ((p + 1 : Nat) : Int) + iI 1 = iI ((p + 2 : Nat) : Int) := by rw [iI_add]; congr 1
        refine ⟨h', ?_, r2, r3, r4, fun _ => r5⟩
        refine bst (rc12) ?_
        refine bst (vp) ?_
        refine ifp (w') ?_
        refine bst (oIv cc g8) ?_
        rw [e5]
        refine bst (qIv cc) ?_
        rw [← eh1]
        refine ifn (n10) ?_
        refine bst (rc121) ?_
        refine bst (vp1) ?_
        refine ifp (v') ?_
        simp only [fX12_takes_b39, lit]
        refine ifn (n10) ?_
        refine bst (oIv cc1 g81) ?_
        rw [e6]
        refine bst (qIv cc1) ?_
        exact r1
      · rw [if_neg (fun z => v z.2)]
        obtain ⟨h', r1, r2, r3, r4, r5⟩ := b38
        refine ⟨h', ?_, r2, r3, r4, fun _ => r5⟩
        refine bst (rc12) ?_
        refine bst (vp) ?_
        refine ifp (w') ?_
        refine bst (oIv cc g8) ?_
        rw [e5]
        refine bst (qIv cc) ?_
        rw [← eh1]
        refine ifn (n10) ?_
        refine bst (rc121) ?_
        refine bst (vp1) ?_
        refine ifn (fun z => v ((c1 45 (by omega) (by omega)).mp (q45.mp z))) ?_
        exact r1
  · have er : rdN (pkf bt L) sg p = (false, p, 0) := by unfold rdN; rw [if_pos w]
    rw [er]
    refine ⟨h, ?_, Ke_rf, rfl, g8, fun q => by cases q⟩
    simp only [fX12_takes, lit]
    refine bst (rc12) ?_
    refine bst (vp) ?_
    refine ifn (fun z => w ((b1 32 (by omega) (by omega)).mp (q32.mp z))) ?_
    rfl
