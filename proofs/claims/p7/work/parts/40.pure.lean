/-! ===== hold ===== -/
def hasB (p : Nat → Bool) (i : Nat) : Nat → Bool
  | 0 => false
  | d + 1 => p i || hasB p (i + 1) d
theorem L_isCatch {N : Nat} {h : Hs} (hS : Sk h) {l n : Nat} {cp : Nat → Int} {x : Int} (hl : l < 16) (c1 : aI h 21 l = iI n) (hn : n ≤ 5) (c2 : ∀ k, k < n → aI h 20 (5 * l + k) = iI (cp (5 * l + k)) ∧ 0 ≤ cp (5 * l + k) ∧ cp (5 * l + k) ≤ 99) (hx : -1000 ≤ x ∧ x ≤ 1000) : ∀ (d i : Nat) (fu : Nat), i + d = n → d < fu → fX5_isCatch_b2 N 14 fu h (iI l) (iI x) (iI i) = some (if hasB (fun k => decide (cp (5 * l + k) = x)) i d then iI 1 else iI 0, h) := by
  intro d
  induction d with
  | zero =>
    intro i fu hi hf
    obtain ⟨fu, rfl⟩ : ∃ k, fu = k + 1 := ⟨fu - 1, by omega⟩
    show fX5_isCatch_b2_body N (fX5_isCatch_b2 N 14 fu) 14 h (iI l) (iI x) (iI i) = _
    have e1 : ixb (iI (l : Int)) 16 = true := ixb_i (by omega) (by omega) (by omega)
    have e2 : (iI (l : Int)).toNatClampNeg = l := by rw [iI_cl (by omega) (by omega)]; simp
    have w : (n : Int) ≤ i := by omega
    simp (disch := omega) [oI, oR, qI, qZ, qR, rc, lit, iI_add, iI_sub, iI_mul, iI_neg, iI_le, iI_lt, iI_eq, v_isW, v_inW, bz, HR, Sk_rw hS, fX5_isCatch_b2_body, lA, e1, e2, c1, w, hasB]
  | succ d ih =>
    intro i fu hi hf
    obtain ⟨fu, rfl⟩ : ∃ k, fu = k + 1 := ⟨fu - 1, by omega⟩
    show fX5_isCatch_b2_body N (fX5_isCatch_b2 N 14 fu) 14 h (iI l) (iI x) (iI i) = _
    have e1 : ixb (iI (l : Int)) 16 = true := ixb_i (by omega) (by omega) (by omega)
    have e2 : (iI (l : Int)).toNatClampNeg = l := by rw [iI_cl (by omega) (by omega)]; simp
    have w : ¬ (n : Int) ≤ i := by omega
    have e3 : ixb (iI ((l : Int) * 5 + i)) 80 = true := ixb_i (by omega) (by omega) (by omega)
    have e4 : (iI ((l : Int) * 5 + i)).toNatClampNeg = 5 * l + i := by rw [iI_cl (by omega) (by omega)]; omega
    have e5 := c2 i (by omega)
    have q := ih (i + 1) fu (by omega) (by omega)
    simp only [Int.natCast_add, Int.natCast_one] at q
    by_cases w2 : cp (5 * l + i) = x
    · simp (disch := omega) [oI, oR, qI, qZ, qR, rc, lit, iI_add, iI_sub, iI_mul, iI_neg, iI_le, iI_lt, iI_eq, v_isW, v_inW, bz, HR, Sk_rw hS, fX5_isCatch_b2_body, lA, e1, e2, e3, e4, e5, c1, w, w2, hasB]
    · simp (disch := omega) [oI, oR, qI, qZ, qR, rc, lit, iI_add, iI_sub, iI_mul, iI_neg, iI_le, iI_lt, iI_eq, v_isW, v_inW, bz, HR, Sk_rw hS, fX5_isCatch_b2_body, lA, e1, e2, e3, e4, e5, c1, w, w2, hasB, q]
theorem L_isCaught {N : Nat} {h : Hs} (hS : Sk h) {l n : Nat} {cp : Nat → Int} {x : Int} (hl : l < 16) (c1 : aI h 46 l = iI n) (hn : n ≤ 5) (c2 : ∀ k, k < n → aI h 47 (5 * l + k) = iI (cp (5 * l + k)) ∧ 0 ≤ cp (5 * l + k) ∧ cp (5 * l + k) ≤ 99) (hx : -1000 ≤ x ∧ x ≤ 1000) : ∀ (d i : Nat) (fu : Nat), i + d = n → d < fu → fX12_isCaught_b2 N 29 fu h (iI l) (iI x) (iI i) = some (if hasB (fun k => decide (cp (5 * l + k) = x)) i d then iI 1 else iI 0, h) := by
  intro d
  induction d with
  | zero =>
    intro i fu hi hf
    obtain ⟨fu, rfl⟩ : ∃ k, fu = k + 1 := ⟨fu - 1, by omega⟩
    show fX12_isCaught_b2_body N (fX12_isCaught_b2 N 29 fu) 29 h (iI l) (iI x) (iI i) = _
    have e1 : ixb (iI (l : Int)) 16 = true := ixb_i (by omega) (by omega) (by omega)
    have e2 : (iI (l : Int)).toNatClampNeg = l := by rw [iI_cl (by omega) (by omega)]; simp
    have w : (n : Int) ≤ i := by omega
    simp (disch := omega) [oI, oR, qI, qZ, qR, rc, lit, iI_add, iI_sub, iI_mul, iI_neg, iI_le, iI_lt, iI_eq, v_isW, v_inW, bz, HR, Sk_rw hS, fX12_isCaught_b2_body, lA, e1, e2, c1, w, hasB]
  | succ d ih =>
    intro i fu hi hf
    obtain ⟨fu, rfl⟩ : ∃ k, fu = k + 1 := ⟨fu - 1, by omega⟩
    show fX12_isCaught_b2_body N (fX12_isCaught_b2 N 29 fu) 29 h (iI l) (iI x) (iI i) = _
    have e1 : ixb (iI (l : Int)) 16 = true := ixb_i (by omega) (by omega) (by omega)
    have e2 : (iI (l : Int)).toNatClampNeg = l := by rw [iI_cl (by omega) (by omega)]; simp
    have w : ¬ (n : Int) ≤ i := by omega
    have e3 : ixb (iI (5 * (l : Int) + i)) 80 = true := ixb_i (by omega) (by omega) (by omega)
    have e4 : (iI (5 * (l : Int) + i)).toNatClampNeg = 5 * l + i := by rw [iI_cl (by omega) (by omega)]; omega
    have e5 := c2 i (by omega)
    have q := ih (i + 1) fu (by omega) (by omega)
    simp only [Int.natCast_add, Int.natCast_one] at q
    by_cases w2 : cp (5 * l + i) = x
    · simp (disch := omega) [oI, oR, qI, qZ, qR, rc, lit, iI_add, iI_sub, iI_mul, iI_neg, iI_le, iI_lt, iI_eq, v_isW, v_inW, bz, HR, Sk_rw hS, fX12_isCaught_b2_body, lA, e1, e2, e3, e4, e5, c1, w, w2, hasB]
    · simp (disch := omega) [oI, oR, qI, qZ, qR, rc, lit, iI_add, iI_sub, iI_mul, iI_neg, iI_le, iI_lt, iI_eq, v_isW, v_inW, bz, HR, Sk_rw hS, fX12_isCaught_b2_body, lA, e1, e2, e3, e4, e5, c1, w, w2, hasB, q]
theorem t_hold {N : Nat} (hN : 100000000 ≤ N) {h : Hs} (hS : Sk h) (hC : ICat h) (p : Int32) : ∃ r h1 h2, fX11_hold N h 0 p = some (r, h1) ∧ fX12_hold N h1 29 p = some (r, h2) ∧ ICat h2 ∧ Kq [] [20, 21, 46, 47] h h2 := by
  obtain ⟨z, z1, z2, rfl⟩ := iI_ex p
  have hC0 := hC
  obtain ⟨cc, cp, c1⟩ := hC
  by_cases w : 0 ≤ z ∧ z ≤ 1599
  · have d1 := iI_dv (a := z) (b := 100) (by omega) (by omega) (by omega) (by omega)
    rw [Int.tdiv_eq_ediv_of_nonneg (by omega)] at d1
    obtain ⟨l, hl⟩ : ∃ l : Nat, (l : Int) = z / 100 := ⟨(z / 100).toNat, by omega⟩
    rw [← hl] at d1
    obtain ⟨x, hx⟩ : ∃ x, x = z - (l : Int) * 100 := ⟨_, rfl⟩
    have d2 : iI z - iI (l : Int) * iI 100 = iI x := by rw [iI_mul, iI_sub, hx]
    have bl : l < 16 := by omega
    have bx : 0 ≤ x ∧ x ≤ 99 := by omega
    obtain ⟨k1, k2, k3, k4⟩ := c1 l bl
    have hc := L_isCatch (N := N) hS bl k1 k3 (fun k hk => ⟨(k4 k hk).1, (k4 k hk).2.2⟩) (x := x) (by omega) (cc l) 0 N (by omega) (by omega)
    have e1 : ixb (iI (l : Int)) 16 = true := ixb_i (by omega) (by omega) (by omega)
    have e2 : (iI (l : Int)).toNatClampNeg = l := by rw [iI_cl (by omega) (by omega)]; simp
    simp only [Int.natCast_zero] at hc
    by_cases wc : hasB (fun k => decide (cp (5 * l + k) = x)) 0 (cc l) = true
    · have hr := L_isCaught (N := N) hS bl k2 k3 (fun k hk => ⟨(k4 k hk).2.1, (k4 k hk).2.2⟩) (x := x) (by omega) (cc l) 0 N (by omega) (by omega)
      simp only [Int.natCast_zero] at hr
      rw [if_pos wc] at hc hr
      refine ⟨-1, h, h, ?_, ?_, hC0, Kq_rf⟩
      · simp (disch := omega) [oI, oR, qI, qZ, qR, rc, lit, iI_add, iI_sub, iI_mul, iI_neg, iI_le, iI_lt, iI_eq, v_isW, v_inW, bz, HR, Sk_rw hS, fX11_hold, fX5_addCatch, fX5_isStagePlace, fX5_isCatch, w, zc_i1, d1, hx.symm, hc]
      · simp (disch := omega) [oI, oR, qI, qZ, qR, rc, lit, iI_add, iI_sub, iI_mul, iI_neg, iI_le, iI_lt, iI_eq, v_isW, v_inW, bz, HR, Sk_rw hS, fX12_hold, fX12_hold_b26, fX12_isCaught, w, d1, hx.symm, hr]
    · rw [if_neg wc] at hc
      by_cases w5 : cc l < 5
      · have e3 : ixb (iI ((l : Int) * 5 + (cc l : Int))) 80 = true := ixb_i (by omega) (by omega) (by omega)
        have e4 : (iI ((l : Int) * 5 + (cc l : Int))).toNatClampNeg = 5 * l + cc l := by rw [iI_cl (by omega) (by omega)]; omega
        have e5 : ixb (iI (5 * (l : Int) + (cc l : Int))) 80 = true := ixb_i (by omega) (by omega) (by omega)
        have e6 : (iI (5 * (l : Int) + (cc l : Int))).toNatClampNeg = 5 * l + cc l := by rw [iI_cl (by omega) (by omega)]; omega
        obtain ⟨h1, hh1⟩ : ∃ h1, h1 = uA (uA h 20 (5 * l + cc l) (iI x)) 21 l (iI (cc l + 1)) := ⟨_, rfl⟩
        have kk : Kq [] [20, 21, 46, 47] h h1 := by rw [hh1]; exact (Kq_rf.b _ _ _ (by decide)).b _ _ _ (by decide)
        have hS1 := hS.k kk
        have k2' : aI h1 46 l = iI (cc l) := by rw [hh1]; simp [HR, k2]
        have hr := L_isCaught (N := N) hS1 bl k2' k3 (cp := cp) (fun k hk => ⟨by rw [hh1]; simp [HR, (k4 k hk).2.1], (k4 k hk).2.2⟩) (x := x) (by omega) (cc l) 0 N (by omega) (by omega)
        simp only [Int.natCast_zero] at hr
        rw [if_neg wc] at hr
        refine ⟨iI (cc l + 1), h1, uA (uA h1 47 (5 * l + cc l) (iI x)) 46 l (iI (cc l + 1)), ?_, ?_, ⟨fun m => if m = l then cc l + 1 else cc m, fun m => if m = 5 * l + cc l then x else cp m, fun m hm => ?_⟩, (kk.b _ _ _ (by decide)).b _ _ _ (by decide)⟩
        · rw [hh1]
          have w6 : (cc l : Int) < 5 := by omega
          simp (disch := omega) [oI, oR, qI, qZ, qR, rc, lit, iI_add, iI_sub, iI_mul, iI_neg, iI_le, iI_lt, iI_eq, v_isW, v_inW, bz, HR, Sk_rw hS, fX11_hold, fX5_addCatch, fX5_isStagePlace, fX5_isCatch, w, zc_i1, d1, hx.symm, hc, lA, sA, e1, e2, e3, e4, k1, w6]
        · have w6 : ¬ (cc l : Int) = 5 := by omega
          have hS := hS1
          simp (disch := omega) [oI, oR, qI, qZ, qR, rc, lit, iI_add, iI_sub, iI_mul, iI_neg, iI_le, iI_lt, iI_eq, v_isW, v_inW, bz, HR, Sk_rw hS, fX12_hold, fX12_isCaught, w, d1, hx.symm, hr, lA, sA, e1, e2, e5, e6, k2', w6]
        · obtain ⟨m1, m2, m3, m4⟩ := c1 m hm
          by_cases em : m = l
          · subst em
            simp only [if_true]
            refine ⟨by rw [hh1]; simp [HR], by simp [HR], by omega, fun k hk => ?_⟩
            by_cases ek : k = cc m
            · subst ek
              simp only [if_true]
              rw [hh1]
              simp [HR]
              omega
            · have ek2 : ¬ 5 * m + k = 5 * m + cc m := by omega
              have := m4 k (by omega)
              simp only [ek2, if_false]
              rw [hh1]
              simp [HR, ek, this]
          · simp only [em, if_false]
            refine ⟨by rw [hh1]; simp [HR, em, m1], by rw [hh1]; simp [HR, em, m2], m3, fun k hk => ?_⟩
            have ek2 : ¬ 5 * m + k = 5 * l + cc l := by omega
            have := m4 k hk
            simp only [ek2, if_false]
            rw [hh1]
            simp [HR, ek2, this]
      · have w6 : ¬ (cc l : Int) < 5 := by omega
        have w7 : (cc l : Int) = 5 := by omega
        have hr := L_isCaught (N := N) hS bl k2 k3 (fun k hk => ⟨(k4 k hk).2.1, (k4 k hk).2.2⟩) (x := x) (by omega) (cc l) 0 N (by omega) (by omega)
        simp only [Int.natCast_zero] at hr
        rw [if_neg wc] at hr
        refine ⟨-3, h, h, ?_, ?_, hC0, Kq_rf⟩
        · simp (disch := omega) [oI, oR, qI, qZ, qR, rc, lit, iI_add, iI_sub, iI_mul, iI_neg, iI_le, iI_lt, iI_eq, v_isW, v_inW, bz, HR, Sk_rw hS, fX11_hold, fX5_addCatch, fX5_isStagePlace, fX5_isCatch, w, zc_i1, d1, hx.symm, hc, lA, e1, e2, k1, w6]
        · simp (disch := omega) [oI, oR, qI, qZ, qR, rc, lit, iI_add, iI_sub, iI_mul, iI_neg, iI_le, iI_lt, iI_eq, v_isW, v_inW, bz, HR, Sk_rw hS, fX12_hold, fX12_isCaught, w, d1, hx.symm, hr, lA, e1, e2, k2, w7]
  · refine ⟨-1, h, h, ?_, ?_, hC0, Kq_rf⟩
    · simp (disch := omega) [oI, oR, qI, qZ, qR, rc, lit, iI_add, iI_sub, iI_mul, iI_neg, iI_le, iI_lt, iI_eq, v_isW, v_inW, bz, HR, Sk_rw hS, fX11_hold, fX5_addCatch, fX5_isStagePlace, w, zc_i0]
    · simp (disch := omega) [oI, oR, qI, qZ, qR, rc, lit, iI_add, iI_sub, iI_mul, iI_neg, iI_le, iI_lt, iI_eq, v_isW, v_inW, bz, HR, Sk_rw hS, fX12_hold, fX12_hold_b26, w]
