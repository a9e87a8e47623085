/-! ===== change: the class's plan ===== -/
theorem hasB_z (p : Nat → Bool) : ∀ (d i : Nat), hasB p i (d + 1) = (hasB p i d || p (i + d))
  | 0, i => by simp [hasB]
  | d + 1, i => by
    rw [hasB, hasB_z p d (i + 1), hasB, Bool.or_assoc, show i + 1 + d = i + (d + 1) by omega]
theorem cntB_z (p : Nat → Bool) : ∀ (d i : Nat), cntB p i (d + 1) = cntB p i d + (if p (i + d) then 1 else 0)
  | 0, i => by simp [cntB]
  | d + 1, i => by
    rw [cntB, cntB_z p d (i + 1), cntB, show i + 1 + d = i + (d + 1) by omega]
    omega
theorem hasB_mo {p : Nat → Bool} {i k : Nat} (h : hasB p 0 i = true) (hk : i ≤ k) : hasB p 0 k = true := by
  obtain ⟨j, h1, h2, h3⟩ := (hasB_iff i 0).mp h
  exact (hasB_iff k 0).mpr ⟨j, h1, by omega, h3⟩
def bdf (mv : Nat → Bool) (ft : Nat → Int) (i : Nat) : Bool := mv i && decide (ft i < 0)
def crf (mv : Nat → Bool) (ft fv : Nat → Int) (i : Nat) : Int := if hasB (bdf mv ft) 0 i then -1 else if mv i then (if ft i < 0 then -2 else fv i) else -1
theorem L_planC {N : Nat} {h0 : Hs} (hS0 : Sk h0) (hz : 70 ≤ sz h0) {nt : Nat} {tA sA : Nat → Nat} {tl tw tg ls ms pa : Nat → Int} {sc : Nat → Nat → Int} (hT0 : RTh h0 nt tA tl tw tg ls ms pa) (hC0 : RSc h0 nt tA sA ls ms sc) {s : Nat} (hs : s < 10) {n : Int} {mv : Nat → Bool} {ft fd : Nat → Int} (hmv : ∀ i, mv i = decide (sc i s ≠ -1 ∧ sc i s ≠ pa i)) (hFT : ∀ i h, i < nt → Ke [105] [26, 27] [] [] h0 h → fX1_findTie N h 25 (some (tA i)) (iI (sc i s)) (iI n) = some (if ft i < 0 then (iI 0, ftH h 26 27 i (-2) (-2)) else (iI 1, ftH h 26 27 i (ft i) (fd i)))) : ∀ (e i : Nat) (c : Int) (fu : Nat) (h : Hs), Ke [105] [26, 27] [] [] h0 h → sz h = sz h0 → i + e = nt → e < fu → gI h 105 25 = iI (b2 (!hasB (bdf mv ft) 0 i)) → (∀ k, k < 40 → aI h 26 k = iI (if k < i then crf mv ft ft k else -1) ∧ aI h 27 k = iI (if k < i then crf mv ft fd k else -1)) → (hasB (bdf mv ft) 0 i = false → c = cntB mv 0 i) → ∃ (c' : Int) (h' : Hs), fX1_plan_b54 N 25 fu h (iI s) (iI n) (iI c) (iI i) = fX1_plan_b132 N 25 h' (iI c') ∧ (hasB (bdf mv ft) 0 nt = false → c' = cntB mv 0 nt) ∧ Ke [105] [26, 27] [] [] h0 h' ∧ sz h' = sz h0 ∧ gI h' 105 25 = iI (b2 (!hasB (bdf mv ft) 0 nt)) ∧ (∀ k, k < 40 → aI h' 26 k = iI (if k < nt then crf mv ft ft k else -1) ∧ aI h' 27 k = iI (if k < nt then crf mv ft fd k else -1)) := by
  have ct := hT0.1.2.2
  intro e
  induction e with
  | zero =>
    intro i c fu h ke sz0 hi hf g5 ga gc
    obtain ⟨fu, rfl⟩ : ∃ m, fu = m + 1 := ⟨fu - 1, by omega⟩
    have ei : i = nt := by omega
    subst ei
    have hS := hS0.e hz ke (by decide)
    have hT := hT0.e hz ke (by decide) (by decide) (by decide)
    have o7 : oI 5 7 h (some 14) = some (iI i) := oIv (by rw [ss_14 hS]) hT.1.1
    refine ⟨c, h, ?_, gc, ke, sz0, g5, ga⟩
    show fX1_plan_b54_body N (fX1_plan_b54 N 25 fu) 25 h (iI s) (iI n) (iI c) (iI i) = _
    simp only [fX1_plan_b54_body]
    refine bst (sR_100_25 hS) ?_
    refine bst (o7) ?_
    refine ifp (Int32.le_refl _) ?_
    rfl
  | succ e ih =>
    intro i c fu h ke sz0 hi hf g5 ga gc
    obtain ⟨fu, rfl⟩ : ∃ m, fu = m + 1 := ⟨fu - 1, by omega⟩
    have hS := hS0.e hz ke (by decide)
    have hT := hT0.e hz ke (by decide) (by decide) (by decide)
    have o7 : oI 5 7 h (some 14) = some (iI nt) := oIv (by rw [ss_14 hS]) hT.1.1
    have a1 : ¬ iI (nt : Int) ≤ iI (i : Int) := fun q => by have := (iI_le (by omega) (by omega) (by omega) (by omega)).mp q; omega
    have o5 : oI 1 5 h (some 25) = some (iI (b2 (!hasB (bdf mv ft) 0 i))) := oIv (by rw [ss_25 hS]) g5
    cases hb : hasB (bdf mv ft) 0 i with
    | true =>
      have hbn := hasB_mo hb (show i ≤ nt by omega)
      rw [hb] at o5
      have o5' : oI 1 5 h (some 25) = some (iI 0) := o5
      refine ⟨c, h, ?_, (fun q => by rw [hbn] at q; cases q), ke, sz0, by rw [g5, hb, hbn], fun k hk => ?_⟩
      · show fX1_plan_b54_body N (fX1_plan_b54 N 25 fu) 25 h (iI s) (iI n) (iI c) (iI i) = _
        simp only [fX1_plan_b54_body, lit]
        refine bst (sR_100_25 hS) ?_
        refine bst (o7) ?_
        refine ifn (a1) ?_
        refine bst (o5') ?_
        refine ifp (rfl) ?_
        rfl
      · obtain ⟨z1, z2⟩ := ga k hk
        rw [z1, z2]
        by_cases w1 : k < i
        · rw [if_pos w1, if_pos w1, if_pos (show k < nt by omega), if_pos (show k < nt by omega)]
          exact ⟨rfl, rfl⟩
        · rw [if_neg w1, if_neg w1]
          have hk2 := hasB_mo hb (show i ≤ k by omega)
          by_cases w2 : k < nt
          · rw [if_pos w2, if_pos w2]
            simp [crf, hk2]
          · rw [if_neg w2, if_neg w2]
            exact ⟨rfl, rfl⟩
    | false =>
      rw [hb] at o5
      have o5' : oI 1 5 h (some 25) = some (iI 1) := o5
      have ec := gc hb
      obtain ⟨⟨d1, d2, d3, d4⟩, ⟨-, -, -, -, -, -, g7⟩, -, bb⟩ := hT.2.1 i (by omega)
      have hC := hC0.e hz hT0.lt ke (by decide) (by decide) (fun k hk => by
        have := (hC0.1 k hk).1.2.1
        simp only [List.mem_cons, List.not_mem_nil, or_false]
        omega)
      obtain ⟨⟨x1, x2, x3, x4⟩, x5⟩ := hC.1 i (by omega)
      obtain ⟨x6, -, x7⟩ := x5 s hs
      have lq : lQ 23 h (some 15) (iI i) = some (some (tA i)) := lQv (ss_15 hS) (by omega) (by omega) d1
      have ls' : lA 20 h (some (sA i)) (iI s) = some (iI (sc i s)) := lAv x4 hs (by omega) x6
      have l1 : iI (sc i s) = iI (-1) ↔ sc i s = -1 := iI_eq (by omega) (by omega) (by omega) (by omega)
      have l2 : iI (sc i s) = iI (pa i) ↔ sc i s = pa i := iI_eq (by omega) (by omega) (by omega) (by omega)
      have o9 : oI 9 7 h (some (tA i)) = some (iI (pa i)) := oIv (by rw [d4]) g7
      have hz' : ∀ p : Nat → Bool, hasB p 0 (i + 1) = (hasB p 0 i || p i) := fun p => by rw [hasB_z, Nat.zero_add]
      have cz' : cntB mv 0 (i + 1) = cntB mv 0 i + (if mv i then 1 else 0) := by rw [cntB_z, Nat.zero_add]
      cases hm : mv i with
      | false =>
        have hbi : bdf mv ft i = false := by simp [bdf, hm]
        have hb1 : hasB (bdf mv ft) 0 (i + 1) = false := by rw [hz', hb, hbi]; rfl
        have cr0 : ∀ fv, crf mv ft fv i = -1 := fun fv => by simp [crf, hb, hm]
        obtain ⟨c', h', r1, r2⟩ := ih (i + 1) c fu h ke sz0 (by omega) (by omega) (by rw [hb1, ← hb]; exact g5) (fun k hk => by
          obtain ⟨z1, z2⟩ := ga k hk
          rw [z1, z2]
          by_cases w1 : k < i
          · rw [if_pos w1, if_pos w1, if_pos (show k < i + 1 by omega), if_pos (show k < i + 1 by omega)]
            exact ⟨rfl, rfl⟩
          · rw [if_neg w1, if_neg w1]
            by_cases w2 : k = i
            · subst w2
              rw [if_pos (Nat.lt_succ_self k), if_pos (Nat.lt_succ_self k), cr0, cr0]
              exact ⟨rfl, rfl⟩
            · rw [if_neg (by omega), if_neg (by omega)]
              exact ⟨rfl, rfl⟩) (fun _ => by rw [cz', hm, ec]; simp)
        simp only [Int.natCast_add, Int.natCast_one] at r1
        refine ⟨c', h', ?_, r2⟩
        rw [← r1]
        show fX1_plan_b54_body N (fX1_plan_b54 N 25 fu) 25 h (iI s) (iI n) (iI c) (iI i) = _
        simp only [fX1_plan_b54_body, fX1_plan_b126, lit, iI_neg, iI_add, Option.bind_some]
        by_cases w1 : sc i s = -1
        · skip
          refine bst (sR_100_25 hS) ?_
          refine bst (o7) ?_
          refine ifn (a1) ?_
          refine bst (o5') ?_
          refine ifn (n10) ?_
          refine bst (sR_100_25 hS) ?_
          refine bst (sR_500_14 hS) ?_
          refine bst (lq) ?_
          refine bst (oRv (by rw [d4]) x1) ?_
          refine bst (ls') ?_
          refine ifp (l1.mpr w1) ?_
          rfl
        · have w2 : sc i s = pa i := by
            rw [hmv] at hm
            exact Decidable.not_not.mp fun q => (of_decide_eq_false hm) ⟨w1, q⟩
          refine bst (sR_100_25 hS) ?_
          refine bst (o7) ?_
          refine ifn (a1) ?_
          refine bst (o5') ?_
          refine ifn (n10) ?_
          refine bst (sR_100_25 hS) ?_
          refine bst (sR_500_14 hS) ?_
          refine bst (lq) ?_
          refine bst (oRv (by rw [d4]) x1) ?_
          refine bst (ls') ?_
          refine ifn (fun q => w1 (l1.mp q)) ?_
          refine bst (o9) ?_
          refine ifp (l2.mpr w2) ?_
          rfl
      | true =>
        have hm2 := hm
        rw [hmv] at hm2
        obtain ⟨w1, w2⟩ := of_decide_eq_true hm2
        have fT := hFT i h (by omega) ke
        have rc1 : rc 1 h (some 25) = some 25 := rcv (by rw [ss_25 hS])
        obtain ⟨f1, f2, f3, ef, hv1, hv2, hv3⟩ : ∃ f1 f2 f3 : Int, fX1_findTie N h 25 (some (tA i)) (iI (sc i s)) (iI n) = some (iI f3, ftH h 26 27 i f1 f2) ∧ f1 = crf mv ft ft i ∧ f2 = crf mv ft fd i ∧ f3 = b2 (!hasB (bdf mv ft) 0 (i + 1)) := by
          by_cases w3 : ft i < 0
          · have hbi : bdf mv ft i = true := by simp [bdf, hm, w3]
            rw [if_pos w3] at fT
            exact ⟨-2, -2, 0, fT, by simp [crf, hb, hm, w3], by simp [crf, hb, hm, w3], by rw [hz', hb, hbi]; rfl⟩
          · have hbi : bdf mv ft i = false := by simp [bdf, hm, w3]
            rw [if_neg w3] at fT
            exact ⟨ft i, fd i, 1, fT, by simp [crf, hb, hm, w3], by simp [crf, hb, hm, w3], by rw [hz', hb, hbi]; rfl⟩
        have hb01 : f3 = 0 ∨ f3 = 1 := by
          rw [hv3]
          cases hasB (bdf mv ft) 0 (i + 1)
          · exact Or.inr rfl
          · exact Or.inl rfl
        obtain ⟨h2, eh2⟩ : ∃ h2, h2 = uI (ftH h 26 27 i f1 f2) 105 25 (iI f3) := ⟨_, rfl⟩
        have ke2 : Ke [105] [26, 27] [] [] h h2 := by rw [eh2]; exact ((Ke_rf.b 26 _ _ (by decide)).b 27 _ _ (by decide)).u 105 _ _ (by decide)
        obtain ⟨c', h', r1, r2⟩ := ih (i + 1) (c + 1) fu h2 (ke.tr ke2) (by rw [eh2]; exact sz0) (by omega) (by omega) (by rw [eh2, ← hv3]; simp [HR]) (fun k hk => by
          obtain ⟨z1, z2⟩ := ga k hk
          by_cases w3 : k = i
          · subst w3
            rw [if_pos (Nat.lt_succ_self k), if_pos (Nat.lt_succ_self k), eh2, ← hv1, ← hv2]
            simp [ftH, HR]
          · have y1 : aI h2 26 k = aI h 26 k := by rw [eh2]; simp [ftH, HR, w3]
            have y2 : aI h2 27 k = aI h 27 k := by rw [eh2]; simp [ftH, HR, w3]
            rw [y1, y2, z1, z2]
            by_cases w4 : k < i
            · rw [if_pos w4, if_pos w4, if_pos (show k < i + 1 by omega), if_pos (show k < i + 1 by omega)]
              exact ⟨rfl, rfl⟩
            · rw [if_neg w4, if_neg w4, if_neg (by omega), if_neg (by omega)]
              exact ⟨rfl, rfl⟩) (fun _ => by rw [cz', hm, ec]; simp)
        simp only [Int.natCast_add, Int.natCast_one] at r1
        refine ⟨c', h', ?_, r2⟩
        rw [← r1]
        show fX1_plan_b54_body N (fX1_plan_b54 N 25 fu) 25 h (iI s) (iI n) (iI c) (iI i) = _
        have z5 : qZ 1 5 (ftH h 26 27 i f1 f2) (some 25) (iI f3) = some h2 := by
          rw [eh2]
          exact qZv (by show (sh h 25).1 = 1; rw [ss_25 hS]) hb01
        simp only [fX1_plan_b54_body, fX1_plan_b126, lit, iI_neg, iI_add, Option.bind_some]
        refine bst (sR_100_25 hS) ?_
        refine bst (o7) ?_
        refine ifn (a1) ?_
        refine bst (o5') ?_
        refine ifn (n10) ?_
        refine bst (sR_100_25 hS) ?_
        refine bst (sR_500_14 hS) ?_
        refine bst (lq) ?_
        refine bst (oRv (by rw [d4]) x1) ?_
        refine bst (ls') ?_
        refine ifn (fun q => w1 (l1.mp q)) ?_
        refine bst (o9) ?_
        refine ifn (fun q => w2 (l2.mp q)) ?_
        refine bst (rc1) ?_
        refine bst (ef) ?_
        refine bst (z5) ?_
        rfl
/-- a thing's work -/
def wkf (td dr : Nat → Option Nat) (dn cr cd : Nat → Int) (i : Nat) : Int := if cr i < 0 then (match td i with
  | none => 0
  | some _ => 2) else match td i with
  | none => 3
  | some r => if (r : Int) = cr i ∧ dn r = 0 ∧ od (dr r) = cd i then 0 else 5
theorem wkf_4 (td dr : Nat → Option Nat) (dn cr cd : Nat → Int) (i : Nat) : wkf td dr dn cr cd i = 0 ∨ wkf td dr dn cr cd i = 2 ∨ wkf td dr dn cr cd i = 3 ∨ wkf td dr dn cr cd i = 5 := by
  unfold wkf
  by_cases w : cr i < 0
  · rw [if_pos w]
    cases td i with
    | none => exact Or.inl rfl
    | some r => exact Or.inr (Or.inl rfl)
  · rw [if_neg w]
    cases td i with
    | none => exact Or.inr (Or.inr (Or.inl rfl))
    | some r =>
      simp only
      by_cases v : (r : Int) = cr i ∧ dn r = 0 ∧ od (dr r) = cd i
      · rw [if_pos v]; exact Or.inl rfl
      · rw [if_neg v]; exact Or.inr (Or.inr (Or.inr rfl))
theorem v_ready {N : Nat} {h : Hs} (hS : Sk h) {nr nt nd : Nat} {rA tA dA rT : Nat → Nat} {wy gr hd ds : Nat → Int} {gn : Nat → Bool} {dr td : Nat → Option Nat} {sr dn : Nat → Int} (hD : RDr h nd dA ds) (hR : RRo h nr nt rA tA rT wy gr hd gn) (hC : RTc h nt nr tA dA rA dr td sr dn) (hL : RTl nt nd nr rT dr td) (hdn : ∀ r, r < nr → dr r ≠ none → -1000000000 ≤ dn r ∧ dn r ≤ 1000000000) {cr cd : Nat → Int} {i r : Nat} (hi : i < 40) (hin : i < nt) (htd : td i = some r) (h26 : aI h 26 i = iI (cr i)) (h27 : aI h 27 i = iI (cd i)) (b1 : -2 ≤ cr i ∧ cr i ≤ 100) (b2' : -2 ≤ cd i ∧ cd i ≤ 100) : fX1_isReady N h 25 (some (rA r)) (iI i) = some (if (r : Int) = cr i ∧ dn r = 0 ∧ od (dr r) = cd i then iI 1 else iI 0, h) := by
  obtain ⟨hr, hrt, hne⟩ := hL.2 i r hin htd
  obtain ⟨d, hde⟩ := Option.ne_none_iff_exists'.mp hne
  have hdl := (hL.1 r d hr hde).1
  have c3 := hR.1.2.2
  have cd3 := hD.1.2.2
  obtain ⟨⟨-, -, -, d4⟩, ⟨f0, -⟩, -⟩ := hR.2.1 r hr
  obtain ⟨⟨-, -, -, e4⟩, ⟨e0, -⟩, -⟩ := hD.2.1 d hdl
  obtain ⟨g1, g2⟩ := hC.1 r hr
  have g3 := (g2 hne).2
  have nb := hdn r hr hne
  rw [hde] at g1
  have o0 : oI 4 0 h (some (rA r)) = some (iI r) := oIv (by rw [d4]) f0
  have o7 : oI 4 7 h (some (rA r)) = some (iI (dn r)) := oIv (by rw [d4]) g3
  have o5 : oR 4 5 h (some (rA r)) = some (some (dA d)) := oRv (by rw [d4]) g1
  have l26 := lAv (ss_26 hS) hi (by omega) h26
  have l27 := lAv (ss_27 hS) hi (by omega) h27
  have q1 : iI (r : Int) = iI (cr i) ↔ (r : Int) = cr i := iI_eq (by omega) (by omega) (by omega) (by omega)
  have q2 : iI (dn r) = iI 0 ↔ dn r = 0 := iI_eq (by omega) (by omega) (by omega) (by omega)
  have q3 : iI (d : Int) = iI (cd i) ↔ (d : Int) = cd i := iI_eq (by omega) (by omega) (by omega) (by omega)
  have eo : od (dr r) = d := by rw [hde]; rfl
  rw [eo]
  simp only [fX1_isReady, fX1_isReady_b47, fX1_isReady_b48, lit]
  by_cases w1 : (r : Int) = cr i
  · by_cases w2 : dn r = 0
    · by_cases w3 : (d : Int) = cd i
      · rw [if_pos ⟨w1, w2, w3⟩]
        refine bst (o0) ?_
        refine bst (sR_101_25 hS) ?_
        refine bst (l26) ?_
        refine ifp (q1.mpr w1) ?_
        refine bst (o7) ?_
        refine ifp (q2.mpr w2) ?_
        refine bst (o5) ?_
        refine ifn (fun z => by cases z) ?_
        refine bst (o5) ?_
        refine bst (oIv (by rw [e4]) e0) ?_
        refine bst (sR_102_25 hS) ?_
        refine bst (l27) ?_
        refine ifp (q3.mpr w3) ?_
        refine bst (zc_i1) ?_
        rfl
      · rw [if_neg (fun z => w3 z.2.2)]
        refine bst (o0) ?_
        refine bst (sR_101_25 hS) ?_
        refine bst (l26) ?_
        refine ifp (q1.mpr w1) ?_
        refine bst (o7) ?_
        refine ifp (q2.mpr w2) ?_
        refine bst (o5) ?_
        refine ifn (fun z => by cases z) ?_
        refine bst (o5) ?_
        refine bst (oIv (by rw [e4]) e0) ?_
        refine bst (sR_102_25 hS) ?_
        refine bst (l27) ?_
        refine ifn (fun z => w3 (q3.mp z)) ?_
        refine bst (zc_i0) ?_
        rfl
    · rw [if_neg (fun z => w2 z.2.1)]
      refine bst (o0) ?_
      refine bst (sR_101_25 hS) ?_
      refine bst (l26) ?_
      refine ifp (q1.mpr w1) ?_
      refine bst (o7) ?_
      refine ifn (fun z => w2 (q2.mp z)) ?_
      refine bst (zc_i0) ?_
      rfl
  · rw [if_neg (fun z => w1 z.1)]
    refine bst (o0) ?_
    refine bst (sR_101_25 hS) ?_
    refine bst (l26) ?_
    refine ifn (fun z => w1 (q1.mp z)) ?_
    refine bst (zc_i0) ?_
    rfl
theorem L_cwC {N : Nat} {h0 : Hs} (hS0 : Sk h0) (hz : 70 ≤ sz h0) {nr nt nd : Nat} {rA tA dA rT : Nat → Nat} {wy gr hd ds : Nat → Int} {gn : Nat → Bool} {tl tw tg ls ms pa : Nat → Int} {dr td : Nat → Option Nat} {sr dn : Nat → Int} (hT0 : RTh h0 nt tA tl tw tg ls ms pa) (hD0 : RDr h0 nd dA ds) (hR0 : RRo h0 nr nt rA tA rT wy gr hd gn) (hC0 : RTc h0 nt nr tA dA rA dr td sr dn) (hL : RTl nt nd nr rT dr td) (hdn : ∀ r, r < nr → dr r ≠ none → -1000000000 ≤ dn r ∧ dn r ≤ 1000000000) {cr cd : Nat → Int} (hcb : ∀ i, i < nt → (-2 ≤ cr i ∧ cr i ≤ 100) ∧ -2 ≤ cd i ∧ cd i ≤ 100) (ha : ∀ i, i < nt → aI h0 26 i = iI (cr i) ∧ aI h0 27 i = iI (cd i)) : ∀ (e i : Nat) (a2 a3 a5 : Int) (fu : Nat) (h : Hs), Ke [106, 107, 108] [] [] [] h0 h → sz h = sz h0 → i + e = nt → e < fu → gI h 106 25 = iI a2 → gI h 107 25 = iI a3 → gI h 108 25 = iI a5 → ∃ h', fX1_countWorks_b17 N 25 fu h (iI i) = some h' ∧ Ke [106, 107, 108] [] [] [] h0 h' ∧ sz h' = sz h0 ∧ gI h' 106 25 = iI (a2 + cntB (fun i => decide (wkf td dr dn cr cd i = 2)) i e) ∧ gI h' 107 25 = iI (a3 + cntB (fun i => decide (wkf td dr dn cr cd i = 3)) i e) ∧ gI h' 108 25 = iI (a5 + cntB (fun i => decide (wkf td dr dn cr cd i = 5)) i e) := by
  have ct := hT0.1.2.2
  intro e
  induction e with
  | zero =>
    intro i a2 a3 a5 fu h ke sz0 hi hf g2 g3 g5
    obtain ⟨fu, rfl⟩ : ∃ m, fu = m + 1 := ⟨fu - 1, by omega⟩
    have hS := hS0.e hz ke (by decide)
    have hT := hT0.e hz ke (by decide) (by decide) (by decide)
    have o7 : oI 5 7 h (some 14) = some (iI nt) := oIv (by rw [ss_14 hS]) hT.1.1
    have a1 : iI (nt : Int) ≤ iI (i : Int) := (iI_le (by omega) (by omega) (by omega) (by omega)).mpr (by omega)
    refine ⟨h, ?_, ke, sz0, by simpa [cntB] using g2, by simpa [cntB] using g3, by simpa [cntB] using g5⟩
    show fX1_countWorks_b17_body N (fX1_countWorks_b17 N 25 fu) 25 h (iI i) = _
    simp only [fX1_countWorks_b17_body]
    refine bst (sR_100_25 hS) ?_
    refine bst (o7) ?_
    refine ifp (a1) ?_
    rfl
  | succ e ih =>
    intro i a2 a3 a5 fu h ke sz0 hi hf g2 g3 g5
    obtain ⟨fu, rfl⟩ : ∃ m, fu = m + 1 := ⟨fu - 1, by omega⟩
    have hS := hS0.e hz ke (by decide)
    have hT := hT0.e hz ke (by decide) (by decide) (by decide)
    have hD := hD0.e hz ke (by decide) (by decide) (by decide)
    have hR := hR0.e hz ke (by decide) (by decide) (by decide) (by decide)
    have hC := hC0.e hT0.lt hR0.lt ke (by decide) (by decide)
    have o7 : oI 5 7 h (some 14) = some (iI nt) := oIv (by rw [ss_14 hS]) hT.1.1
    have a1 : ¬ iI (nt : Int) ≤ iI (i : Int) := fun q => by have := (iI_le (by omega) (by omega) (by omega) (by omega)).mp q; omega
    obtain ⟨⟨d1, d2, d3, d4⟩, -⟩ := hT.2.1 i (by omega)
    have lq : lQ 23 h (some 15) (iI i) = some (some (tA i)) := lQv (ss_15 hS) (by omega) (by omega) d1
    have o9 : oR 9 9 h (some (tA i)) = some ((td i).map rA) := oRv (by rw [d4]) (hC.2 i (by omega))
    have h26 : aI h 26 i = iI (cr i) := by rw [ke.2.1 26 (by decide) (by omega)]; exact (ha i (by omega)).1
    have h27 : aI h 27 i = iI (cd i) := by rw [ke.2.1 27 (by decide) (by omega)]; exact (ha i (by omega)).2
    have l26 := lAv (ss_26 hS) (show i < 40 by omega) (by omega) h26
    obtain ⟨cb1, cb2⟩ := hcb i (by omega)
    have l0 : iI 0 ≤ iI (cr i) ↔ 0 ≤ cr i := iI_le (by omega) (by omega) (by omega) (by omega)
    have rc1 : rc 1 h (some 25) = some 25 := rcv (by rw [ss_25 hS])
    have c25 : (sh h 25).1 = 1 := by rw [ss_25 hS]
    -- one step: counts x2 x3 x5 are added
    have go : ∀ (x2 x3 x5 : Int) (h2 : Hs), Ke [106, 107, 108] [] [] [] h h2 → sz h2 = sz h → gI h2 106 25 = iI (a2 + x2) → gI h2 107 25 = iI (a3 + x3) → gI h2 108 25 = iI (a5 + x5) → x2 = (if decide (wkf td dr dn cr cd i = 2) then 1 else 0) → x3 = (if decide (wkf td dr dn cr cd i = 3) then 1 else 0) → x5 = (if decide (wkf td dr dn cr cd i = 5) then 1 else 0) → fX1_countWorks_b17 N 25 (fu + 1) h (iI i) = fX1_countWorks_b17 N 25 fu h2 (iI ((i : Int) + 1)) → ∃ h', fX1_countWorks_b17 N 25 (fu + 1) h (iI i) = some h' ∧ Ke [106, 107, 108] [] [] [] h0 h' ∧ sz h' = sz h0 ∧ gI h' 106 25 = iI (a2 + cntB (fun i => decide (wkf td dr dn cr cd i = 2)) i (e + 1)) ∧ gI h' 107 25 = iI (a3 + cntB (fun i => decide (wkf td dr dn cr cd i = 3)) i (e + 1)) ∧ gI h' 108 25 = iI (a5 + cntB (fun i => decide (wkf td dr dn cr cd i = 5)) i (e + 1)) := by
      intro x2 x3 x5 h2 k2 s2 y2 y3 y5 e2 e3 e5 st
      obtain ⟨h', r1, r2, r3, r4, r5, r6⟩ := ih (i + 1) (a2 + x2) (a3 + x3) (a5 + x5) fu h2 (ke.tr k2) (s2.trans sz0) (by omega) (by omega) y2 y3 y5
      simp only [Int.natCast_add, Int.natCast_one] at r1
      refine ⟨h', st.trans r1, r2, r3, ?_, ?_, ?_⟩
      · rw [r4, e2]
        congr 1
        simp only [cntB]
        split <;> omega
      · rw [r5, e3]
        congr 1
        simp only [cntB]
        split <;> omega
      · rw [r6, e5]
        congr 1
        simp only [cntB]
        split <;> omega
    by_cases w : cr i < 0
    · have w0 : ¬ iI 0 ≤ iI (cr i) := fun q => by have := l0.mp q; omega
      cases htd : td i with
      | none =>
        rw [htd] at o9
        have ek : wkf td dr dn cr cd i = 0 := by simp [wkf, w, htd]
        refine go 0 0 0 (uI h 106 25 (iI (a2 + 0))) (Ke_rf.u 106 _ _ (by decide)) rfl (by simp [HR]) (by simp [HR, g3]) (by simp [HR, g5]) (by simp [ek]) (by simp [ek]) (by simp [ek]) ?_
        show fX1_countWorks_b17_body N (fX1_countWorks_b17 N 25 fu) 25 h (iI i) = _
        simp only [fX1_countWorks_b17_body, fX1_countWorks_b64, fX1_countWorks_b107, lit, Option.bind_some]
        refine bst (sR_100_25 hS) ?_
        refine bst (o7) ?_
        refine ifn (a1) ?_
        refine bst (sR_100_25 hS) ?_
        refine bst (sR_500_14 hS) ?_
        refine bst (lq) ?_
        refine bst (o9) ?_
        refine bst (sR_101_25 hS) ?_
        refine bst (l26) ?_
        refine ifn (w0) ?_
        refine bst (oIv c25 g2) ?_
        refine ifp (rfl) ?_
        refine bst (qIv c25) ?_
        rw [iI_add, iI_add]
      | some r =>
        rw [htd] at o9
        have ek : wkf td dr dn cr cd i = 2 := by simp [wkf, w, htd]
        refine go 1 0 0 (uI h 106 25 (iI (a2 + 1))) (Ke_rf.u 106 _ _ (by decide)) rfl (by simp [HR]) (by simp [HR, g3]) (by simp [HR, g5]) (by simp [ek]) (by simp [ek]) (by simp [ek]) ?_
        show fX1_countWorks_b17_body N (fX1_countWorks_b17 N 25 fu) 25 h (iI i) = _
        simp only [fX1_countWorks_b17_body, fX1_countWorks_b64, fX1_countWorks_b107, lit, Option.bind_some]
        refine bst (sR_100_25 hS) ?_
        refine bst (o7) ?_
        refine ifn (a1) ?_
        refine bst (sR_100_25 hS) ?_
        refine bst (sR_500_14 hS) ?_
        refine bst (lq) ?_
        refine bst (o9) ?_
        refine bst (sR_101_25 hS) ?_
        refine bst (l26) ?_
        refine ifn (w0) ?_
        refine bst (oIv c25 g2) ?_
        refine ifn (fun q => by cases q) ?_
        refine bst (qIv c25) ?_
        rw [iI_add, iI_add]
    · have w0 : iI 0 ≤ iI (cr i) := l0.mpr (by omega)
      cases htd : td i with
      | none =>
        rw [htd] at o9
        have ek : wkf td dr dn cr cd i = 3 := by simp [wkf, w, htd]
        refine go 0 1 0 (uI h 107 25 (iI (a3 + 1))) (Ke_rf.u 107 _ _ (by decide)) rfl (by simp [HR, g2]) (by simp [HR]) (by simp [HR, g5]) (by simp [ek]) (by simp [ek]) (by simp [ek]) ?_
        show fX1_countWorks_b17_body N (fX1_countWorks_b17 N 25 fu) 25 h (iI i) = _
        simp only [fX1_countWorks_b17_body, fX1_countWorks_b107, lit, Option.bind_some]
        refine bst (sR_100_25 hS) ?_
        refine bst (o7) ?_
        refine ifn (a1) ?_
        refine bst (sR_100_25 hS) ?_
        refine bst (sR_500_14 hS) ?_
        refine bst (lq) ?_
        refine bst (o9) ?_
        refine bst (sR_101_25 hS) ?_
        refine bst (l26) ?_
        refine ifp (w0) ?_
        refine ifp (rfl) ?_
        refine bst (oIv c25 g3) ?_
        refine bst (qIv c25) ?_
        rw [iI_add, iI_add]
      | some r =>
        rw [htd] at o9
        have rd := v_ready (N := N) hS hD hR hC hL hdn (i := i) (by omega) (by omega) htd h26 h27 cb1 cb2
        by_cases v : (r : Int) = cr i ∧ dn r = 0 ∧ od (dr r) = cd i
        · rw [if_pos v] at rd
          have ek : wkf td dr dn cr cd i = 0 := by
            unfold wkf
            rw [if_neg w, htd]
            simp only [if_pos v]
          refine go 0 0 0 h Ke_rf rfl (by simpa using g2) (by simpa using g3) (by simpa using g5) (by simp [ek]) (by simp [ek]) (by simp [ek]) ?_
          show fX1_countWorks_b17_body N (fX1_countWorks_b17 N 25 fu) 25 h (iI i) = _
          simp only [fX1_countWorks_b17_body, fX1_countWorks_b107, lit, iI_add, Option.bind_some]
          refine bst (sR_100_25 hS) ?_
          refine bst (o7) ?_
          refine ifn (a1) ?_
          refine bst (sR_100_25 hS) ?_
          refine bst (sR_500_14 hS) ?_
          refine bst (lq) ?_
          refine bst (o9) ?_
          refine bst (sR_101_25 hS) ?_
          refine bst (l26) ?_
          refine ifp (w0) ?_
          refine ifn (fun q => by cases q) ?_
          refine bst (rc1) ?_
          refine bst (rd) ?_
          refine ifn (n10) ?_
          rfl
        · rw [if_neg v] at rd
          have ek : wkf td dr dn cr cd i = 5 := by
            unfold wkf
            rw [if_neg w, htd]
            simp only [if_neg v]
          refine go 0 0 1 (uI h 108 25 (iI (a5 + 1))) (Ke_rf.u 108 _ _ (by decide)) rfl (by simp [HR, g2]) (by simp [HR, g3]) (by simp [HR]) (by simp [ek]) (by simp [ek]) (by simp [ek]) ?_
          show fX1_countWorks_b17_body N (fX1_countWorks_b17 N 25 fu) 25 h (iI i) = _
          simp only [fX1_countWorks_b17_body, fX1_countWorks_b107, lit, Option.bind_some]
          refine bst (sR_100_25 hS) ?_
          refine bst (o7) ?_
          refine ifn (a1) ?_
          refine bst (sR_100_25 hS) ?_
          refine bst (sR_500_14 hS) ?_
          refine bst (lq) ?_
          refine bst (o9) ?_
          refine bst (sR_101_25 hS) ?_
          refine bst (l26) ?_
          refine ifp (w0) ?_
          refine ifn (fun q => by cases q) ?_
          refine bst (rc1) ?_
          refine bst (rd) ?_
          refine ifp (rfl) ?_
          refine bst (oIv c25 g5) ?_
          refine bst (qIv c25) ?_
          rw [iI_add, iI_add]
