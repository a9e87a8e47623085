/-! ===== hold ===== -/
theorem L_isCatch {N : Nat} {h : Hs} (hS : Sk h) {l n : Nat} {cp : Nat → Int} {x : Int} (hl : l < 16) (c1 : aI h 21 l = iI n) (hn : n ≤ 5) (c2 : ∀ k, k < n → aI h 20 (5 * l + k) = iI (cp (5 * l + k)) ∧ 0 ≤ cp (5 * l + k) ∧ cp (5 * l + k) ≤ 99) (hx : -1000 ≤ x ∧ x ≤ 1000) : ∀ (d i : Nat) (fu : Nat), i + d = n → d < fu → fX5_isCatch_b2 N 14 fu h (iI l) (iI x) (iI i) = some (if hasB (fun k => decide (cp (5 * l + k) = x)) i d then iI 1 else iI 0, h) := by
  intro d
  induction d with
  | zero =>
    intro i fu hi hf
    obtain ⟨fu, rfl⟩ : ∃ k, fu = k + 1 := ⟨fu - 1, by omega⟩
    show fX5_isCatch_b2_body N (fX5_isCatch_b2 N 14 fu) 14 h (iI l) (iI x) (iI i) = _
    have w : (n : Int) ≤ i := by omega
    simp only [fX5_isCatch_b2_body, lit]
    refine bst (sR_506_14 hS) ?_
    refine bst (lAv (ss_21 hS) hl (by decide) c1) ?_
    refine ifp ((iI_le (by omega) (by omega) (by omega) (by omega)).mpr w) ?_
    rfl
  | succ d ih =>
    intro i fu hi hf
    obtain ⟨fu, rfl⟩ : ∃ k, fu = k + 1 := ⟨fu - 1, by omega⟩
    show fX5_isCatch_b2_body N (fX5_isCatch_b2 N 14 fu) 14 h (iI l) (iI x) (iI i) = _
    have w : ¬ (n : Int) ≤ i := by omega
    have e5 := c2 i (by omega)
    have e3 : iI (l : Int) * iI 5 + iI (i : Int) = iI ((5 * l + i : Nat) : Int) := by
      rw [iI_mul, iI_add]
      exact congrArg iI (by omega)
    have q := ih (i + 1) fu (by omega) (by omega)
    have e6 : iI (i : Int) + iI 1 = iI ((i + 1 : Nat) : Int) := by
      rw [iI_add]
      exact congrArg iI (by omega)
    simp only [fX5_isCatch_b2_body, lit]
    refine bst (sR_506_14 hS) ?_
    refine bst (lAv (ss_21 hS) hl (by decide) c1) ?_
    refine ifn (fun z => w ((iI_le (by omega) (by omega) (by omega) (by omega)).mp z)) ?_
    refine bst (sR_505_14 hS) ?_
    rw [e3]
    refine bst (lAv (ss_20 hS) (by omega) (by decide) e5.1) ?_
    by_cases w2 : cp (5 * l + i) = x
    · have hq : hasB (fun k => decide (cp (5 * l + k) = x)) i (d + 1) = true := by simp [hasB, w2]
      rw [hq]
      exact ifp (by rw [w2]) rfl
    · have hq : hasB (fun k => decide (cp (5 * l + k) = x)) i (d + 1) = hasB (fun k => decide (cp (5 * l + k) = x)) (i + 1) d := by simp [hasB, w2]
      rw [hq]
      refine ifn (fun z => w2 ((iI_eq (by omega) (by omega) (by omega) (by omega)).mp z)) ?_
      refine bst rfl ?_
      rw [e6]
      exact q
theorem L_isCaught {N : Nat} {h : Hs} (hS : Sk h) {l n : Nat} {cp : Nat → Int} {x : Int} (hl : l < 16) (c1 : aI h 46 l = iI n) (hn : n ≤ 5) (c2 : ∀ k, k < n → aI h 47 (5 * l + k) = iI (cp (5 * l + k)) ∧ 0 ≤ cp (5 * l + k) ∧ cp (5 * l + k) ≤ 99) (hx : -1000 ≤ x ∧ x ≤ 1000) : ∀ (d i : Nat) (fu : Nat), i + d = n → d < fu → fX12_isCaught_b2 N 29 fu h (iI l) (iI x) (iI i) = some (if hasB (fun k => decide (cp (5 * l + k) = x)) i d then iI 1 else iI 0, h) := by
  intro d
  induction d with
  | zero =>
    intro i fu hi hf
    obtain ⟨fu, rfl⟩ : ∃ k, fu = k + 1 := ⟨fu - 1, by omega⟩
    show fX12_isCaught_b2_body N (fX12_isCaught_b2 N 29 fu) 29 h (iI l) (iI x) (iI i) = _
    have w : (n : Int) ≤ i := by omega
    simp only [fX12_isCaught_b2_body, lit]
    refine bst (sR_1226_29 hS) ?_
    refine bst (lAv (ss_46 hS) hl (by decide) c1) ?_
    refine ifp ((iI_le (by omega) (by omega) (by omega) (by omega)).mpr w) ?_
    rfl
  | succ d ih =>
    intro i fu hi hf
    obtain ⟨fu, rfl⟩ : ∃ k, fu = k + 1 := ⟨fu - 1, by omega⟩
    show fX12_isCaught_b2_body N (fX12_isCaught_b2 N 29 fu) 29 h (iI l) (iI x) (iI i) = _
    have w : ¬ (n : Int) ≤ i := by omega
    have e5 := c2 i (by omega)
    have e3 : iI 5 * iI (l : Int) + iI (i : Int) = iI ((5 * l + i : Nat) : Int) := by
      rw [iI_mul, iI_add]
      exact congrArg iI (by omega)
    have q := ih (i + 1) fu (by omega) (by omega)
    have e6 : iI (i : Int) + iI 1 = iI ((i + 1 : Nat) : Int) := by
      rw [iI_add]
      exact congrArg iI (by omega)
    simp only [fX12_isCaught_b2_body, lit]
    refine bst (sR_1226_29 hS) ?_
    refine bst (lAv (ss_46 hS) hl (by decide) c1) ?_
    refine ifn (fun z => w ((iI_le (by omega) (by omega) (by omega) (by omega)).mp z)) ?_
    refine bst (sR_1227_29 hS) ?_
    rw [e3]
    refine bst (lAv (ss_47 hS) (by omega) (by decide) e5.1) ?_
    by_cases w2 : cp (5 * l + i) = x
    · have hq : hasB (fun k => decide (cp (5 * l + k) = x)) i (d + 1) = true := by simp [hasB, w2]
      rw [hq]
      exact ifp (by rw [w2]) rfl
    · have hq : hasB (fun k => decide (cp (5 * l + k) = x)) i (d + 1) = hasB (fun k => decide (cp (5 * l + k) = x)) (i + 1) d := by simp [hasB, w2]
      rw [hq]
      refine ifn (fun z => w2 ((iI_eq (by omega) (by omega) (by omega) (by omega)).mp z)) ?_
      refine bst rfl ?_
      rw [e6]
      exact q
theorem t_hold {N : Nat} (hN : 100000000 ≤ N) {h : Hs} (hS : Sk h) (hC : ICat h) (p : Int32) : ∃ r h1 h2, fX11_hold N h 0 p = some (r, h1) ∧ fX12_hold N h1 29 p = some (r, h2) ∧ ICat h2 ∧ Kq [] [20, 21, 46, 47] h h2 := by
  obtain ⟨z, z1, z2, rfl⟩ := iI_ex p
  have hC0 := hC
  obtain ⟨cc, cp, c1⟩ := hC
  have wP : fX5_isStagePlace N h (iI z) = some (if 0 ≤ z ∧ z ≤ 1599 then iI 1 else iI 0, h) := by
    simp only [fX5_isStagePlace, lit]
    refine bst (v_isW z1 z2 (by omega) (by omega) (by omega) (by omega)) ?_
    by_cases w0 : 0 ≤ z ∧ z ≤ 1599
    · rw [if_pos w0]
      rfl
    · rw [if_neg w0]
      rfl
  have wM : ∀ h' : Hs, fX12_in N h' (iI z) (iI 0) (iI 1599) = some (if 0 ≤ z ∧ z ≤ 1599 then iI 1 else iI 0, h') := fun h' => v_inW z1 z2 (by omega) (by omega) (by omega) (by omega)
  have cl : ∀ (r : Int32) (h1 : Hs), fX5_addCatch N h 14 (iI z) = some (r, h1) → fX11_hold N h 0 (iI z) = some (r, h1) := fun r h1 A => by
    simp only [fX11_hold]
    refine bst (sR_1100_0 hS) ?_
    refine bst (rcv (by rw [ss_14 hS])) ?_
    refine bst (A) ?_
    rfl
  by_cases w : 0 ≤ z ∧ z ≤ 1599
  · rw [if_pos w] at wP
    have wM' : ∀ h' : Hs, fX12_in N h' (iI z) (iI 0) (iI 1599) = some (iI 1, h') := fun h' => (wM h').trans (by rw [if_pos w])
    have d1 := iI_dv (a := z) (b := 100) (by omega) (by omega) (by omega) (by omega)
    rw [Int.tdiv_eq_ediv_of_nonneg (by omega)] at d1
    obtain ⟨l, hl⟩ : ∃ l : Nat, (l : Int) = z / 100 := ⟨(z / 100).toNat, by omega⟩
    rw [← hl] at d1
    obtain ⟨x, hx⟩ : ∃ x, x = z - (l : Int) * 100 := ⟨_, rfl⟩
    have d2 : iI z - iI (l : Int) * iI 100 = iI x := by rw [iI_mul, iI_sub, hx]
    have bl : l < 16 := by omega
    have bx : 0 ≤ x ∧ x ≤ 99 := by omega
    obtain ⟨k1, k2, k3, k4⟩ := c1 l bl
    have hc := L_isCatch (N := N) hS bl k1 k3 (fun k hk => ⟨(k4 k hk).1, (k4 k hk).2.2⟩) (x := x) (by omega) (cc l) 0 N (by omega) (by omega)
    simp only [Int.natCast_zero] at hc
    have e3 : iI (l : Int) * iI 5 + iI (cc l : Int) = iI ((5 * l + cc l : Nat) : Int) := by
      rw [iI_mul, iI_add]
      exact congrArg iI (by omega)
    have e5 : iI 5 * iI (l : Int) + iI (cc l : Int) = iI ((5 * l + cc l : Nat) : Int) := by
      rw [iI_mul, iI_add]
      exact congrArg iI (by omega)
    have e7 : iI (cc l : Int) + iI 1 = iI ((cc l : Int) + 1) := iI_add _ _
    by_cases wc : hasB (fun k => decide (cp (5 * l + k) = x)) 0 (cc l) = true
    · have hr := L_isCaught (N := N) hS bl k2 k3 (fun k hk => ⟨(k4 k hk).2.1, (k4 k hk).2.2⟩) (x := x) (by omega) (cc l) 0 N (by omega) (by omega)
      simp only [Int.natCast_zero] at hr
      rw [if_pos wc] at hc hr
      refine ⟨iI (-1), h, h, cl _ _ ?_, ?_, hC0, Kq_rf⟩
      · simp only [fX5_addCatch, fX5_isCatch, lit, iI_neg, d1, d2]
        refine bst (wP) ?_
        refine ifn (n10) ?_
        refine bst (rfl) ?_
        refine bst (rfl) ?_
        refine bst (rcv (by rw [ss_14 hS])) ?_
        refine bst (hc) ?_
        refine ifn (n10) ?_
        rfl
      · simp only [fX12_hold, fX12_hold_b26, fX12_isCaught, lit, iI_neg, d1, d2]
        refine bst (wM' h) ?_
        refine ifn (n10) ?_
        refine bst (rcv (by rw [ss_29 hS])) ?_
        refine bst (hr) ?_
        refine ifn (n10) ?_
        rfl
    · rw [if_neg wc] at hc
      by_cases w5 : cc l < 5
      · obtain ⟨h1, hh1⟩ : ∃ h1, h1 = uA (uA h 20 (5 * l + cc l) (iI x)) 21 l (iI (cc l + 1)) := ⟨_, rfl⟩
        have kk : Kq [] [20, 21, 46, 47] h h1 := by rw [hh1]; exact (Kq_rf.b _ _ _ (by decide)).b _ _ _ (by decide)
        have hS1 := hS.k kk
        have k2' : aI h1 46 l = iI (cc l) := by rw [hh1]; simp [HR, k2]
        have hr := L_isCaught (N := N) hS1 bl k2' k3 (cp := cp) (fun k hk => ⟨by rw [hh1]; simp [HR, (k4 k hk).2.1], (k4 k hk).2.2⟩) (x := x) (by omega) (cc l) 0 N (by omega) (by omega)
        simp only [Int.natCast_zero] at hr
        rw [if_neg wc] at hr
        have w8 : (cc l : Int) < 5 := by omega
        have w9 : ¬ (cc l : Int) = 5 := by omega
        refine ⟨iI (cc l + 1), h1, uA (uA h1 47 (5 * l + cc l) (iI x)) 46 l (iI (cc l + 1)), cl _ _ ?_, ?_, ⟨fun m => if m = l then cc l + 1 else cc m, fun m => if m = 5 * l + cc l then x else cp m, fun m hm => ?_⟩, (kk.b _ _ _ (by decide)).b _ _ _ (by decide)⟩
        · subst hh1
          have hSa : Sk (uA h 20 (5 * l + cc l) (iI x)) := hS.k (Kq_uA _ _ _)
          have ka : aI (uA h 20 (5 * l + cc l) (iI x)) 21 l = iI (cc l) := by simp [HR, k1]
          have kb : aI (uA (uA h 20 (5 * l + cc l) (iI x)) 21 l (iI (cc l + 1))) 21 l = iI (cc l + 1) := by simp [HR]
          simp only [fX5_addCatch, fX5_isCatch, lit, iI_neg, d1, d2]
          refine bst (wP) ?_
          refine ifn (n10) ?_
          refine bst (rfl) ?_
          refine bst (rfl) ?_
          refine bst (rcv (by rw [ss_14 hS])) ?_
          refine bst (hc) ?_
          refine ifp (rfl) ?_
          refine bst (sR_506_14 hS) ?_
          refine bst (lAv (ss_21 hS) bl (by decide) k1) ?_
          refine ifp ((iI_lt (by omega) (by omega) (by omega) (by omega)).mpr w8) ?_
          refine bst (sR_505_14 hS) ?_
          refine bst (sR_506_14 hS) ?_
          refine bst (lAv (ss_21 hS) bl (by decide) k1) ?_
          rw [e3]
          refine bst (sAv (ss_20 hS) (by omega) (by decide)) ?_
          refine bst (sR_506_14 hSa) ?_
          refine bst (lAv (ss_21 hSa) bl (by decide) ka) ?_
          rw [e7]
          refine bst (sAv (ss_21 hSa) bl (by decide)) ?_
          refine bst (sR_506_14 hS1) ?_
          refine bst (lAv (ss_21 hS1) bl (by decide) kb) ?_
          rfl
        · have hS := hS1
          have hSb : Sk (uA h1 47 (5 * l + cc l) (iI x)) := hS.k (Kq_uA _ _ _)
          have hSc : Sk (uA (uA h1 47 (5 * l + cc l) (iI x)) 46 l (iI (cc l + 1))) := hSb.k (Kq_uA _ _ _)
          have kc : aI (uA h1 47 (5 * l + cc l) (iI x)) 46 l = iI (cc l) := by simp [HR, k2']
          have kd : aI (uA (uA h1 47 (5 * l + cc l) (iI x)) 46 l (iI (cc l + 1))) 46 l = iI (cc l + 1) := by simp [HR]
          simp only [fX12_hold, fX12_hold_b26, fX12_isCaught, lit, iI_neg, d1, d2]
          refine bst (wM' h1) ?_
          refine ifn (n10) ?_
          refine bst (rcv (by rw [ss_29 hS])) ?_
          refine bst (hr) ?_
          refine ifp (rfl) ?_
          refine bst (rfl) ?_
          refine bst (sR_1226_29 hS) ?_
          refine bst (lAv (ss_46 hS) bl (by decide) k2') ?_
          refine ifn (fun q => w9 ((iI_eq (by omega) (by omega) (by omega) (by omega)).mp q)) ?_
          refine bst (sR_1227_29 hS) ?_
          refine bst (sR_1226_29 hS) ?_
          refine bst (lAv (ss_46 hS) bl (by decide) k2') ?_
          rw [e5]
          refine bst (sAv (ss_47 hS) (by omega) (by decide)) ?_
          refine bst (sR_1226_29 hSb) ?_
          refine bst (lAv (ss_46 hSb) bl (by decide) kc) ?_
          rw [e7]
          refine bst (sAv (ss_46 hSb) bl (by decide)) ?_
          refine bst (sR_1226_29 hSc) ?_
          refine bst (lAv (ss_46 hSc) bl (by decide) kd) ?_
          rfl
        · obtain ⟨m1, m2, m3, m4⟩ := c1 m hm
          by_cases em : m = l
          · subst em
            simp only [if_true]
            refine ⟨by rw [hh1]; simp [HR], by simp [HR], by omega, fun k hk => ?_⟩
            by_cases ek : k = cc m
            · subst ek
              simp only [if_true]
              rw [hh1]
              simp [HR]
              omega
            · have ek2 : ¬ 5 * m + k = 5 * m + cc m := by omega
              have := m4 k (by omega)
              simp only [ek2, if_false]
              rw [hh1]
              simp [HR, ek, this]
          · simp only [em, if_false]
            refine ⟨by rw [hh1]; simp [HR, em, m1], by rw [hh1]; simp [HR, em, m2], m3, fun k hk => ?_⟩
            have ek2 : ¬ 5 * m + k = 5 * l + cc l := by omega
            have := m4 k hk
            simp only [ek2, if_false]
            rw [hh1]
            simp [HR, ek2, this]
      · have w8 : ¬ (cc l : Int) < 5 := by omega
        have w9 : (cc l : Int) = 5 := by omega
        have hr := L_isCaught (N := N) hS bl k2 k3 (fun k hk => ⟨(k4 k hk).2.1, (k4 k hk).2.2⟩) (x := x) (by omega) (cc l) 0 N (by omega) (by omega)
        simp only [Int.natCast_zero] at hr
        rw [if_neg wc] at hr
        refine ⟨iI (-3), h, h, cl _ _ ?_, ?_, hC0, Kq_rf⟩
        · simp only [fX5_addCatch, fX5_isCatch, lit, iI_neg, d1, d2]
          refine bst (wP) ?_
          refine ifn (n10) ?_
          refine bst (rfl) ?_
          refine bst (rfl) ?_
          refine bst (rcv (by rw [ss_14 hS])) ?_
          refine bst (hc) ?_
          refine ifp (rfl) ?_
          refine bst (sR_506_14 hS) ?_
          refine bst (lAv (ss_21 hS) bl (by decide) k1) ?_
          refine ifn (fun q => w8 ((iI_lt (by omega) (by omega) (by omega) (by omega)).mp q)) ?_
          rfl
        · simp only [fX12_hold, fX12_hold_b26, fX12_isCaught, lit, iI_neg, d1, d2]
          refine bst (wM' h) ?_
          refine ifn (n10) ?_
          refine bst (rcv (by rw [ss_29 hS])) ?_
          refine bst (hr) ?_
          refine ifp (rfl) ?_
          refine bst (rfl) ?_
          refine bst (sR_1226_29 hS) ?_
          refine bst (lAv (ss_46 hS) bl (by decide) k2) ?_
          refine ifp ((by rw [w9])) ?_
          rfl
  · rw [if_neg w] at wP
    have wM' : ∀ h' : Hs, fX12_in N h' (iI z) (iI 0) (iI 1599) = some (iI 0, h') := fun h' => (wM h').trans (by rw [if_neg w])
    refine ⟨iI (-1), h, h, cl _ _ ?_, ?_, hC0, Kq_rf⟩
    · simp only [fX5_addCatch, fX5_isCatch, lit, iI_neg]
      refine bst (wP) ?_
      refine ifp (rfl) ?_
      rfl
    · simp only [fX12_hold, fX12_hold_b26, fX12_isCaught, lit, iI_neg]
      refine bst (wM' h) ?_
      refine ifp (rfl) ?_
      rfl
