/-! ===== load, spare ===== -/
def ldv (g r : Int) : Int := (g + r - 1).tdiv r
theorem ldv_b {g r : Int} (hg : 0 ≤ g ∧ g ≤ 999) (hr : 1 ≤ r ∧ r ≤ 5) : 0 ≤ ldv g r ∧ ldv g r ≤ 1003 := by
  unfold ldv
  rw [Int.tdiv_eq_ediv_of_nonneg (by omega)]
  constructor
  · exact Int.ediv_nonneg (by omega) (by omega)
  · exact Int.le_trans (Int.ediv_le_self _ (by omega)) (by omega)
theorem v_load {N : Nat} {h : Hs} {nr nt : Nat} {rA tA rT : Nat → Nat} {wy gr hd : Nat → Int} {gn : Nat → Bool} {tl tw tg ls ms pa : Nat → Int} (hR : RRo h nr nt rA tA rT wy gr hd gn) (hT : RTh h nt tA tl tw tg ls ms pa) {r : Nat} (hr : r < nr) : fX4_load N h (rA r) = some (iI (ldv (tg (rT r)) (gr r)), h) := by
  obtain ⟨⟨-, -, -, d4⟩, ⟨f0, f1, f2, f3, f4, f8⟩, -, q1, q2, q3, q4, q5⟩ := hR.2.1 r hr
  obtain ⟨⟨-, -, -, t4⟩, ⟨-, -, -, g3, -⟩, -, b1, b2', b3, b4, b5, b6, -⟩ := hT.2.1 (rT r) q1
  have e1 : ¬ gr r = 0 := by omega
  have e2 : iI (tg (rT r) + gr r - 1) / iI (gr r) = iI (ldv (tg (rT r)) (gr r)) := iI_div (by omega) (by omega) (by omega) (by omega)
  simp (disch := omega) [fX4_load, fX11_quotientUp, fX11_quotientUp_b15, oR, oI, d4, f1, t4, g3, f3, lit, iI_eq, e1, iI_add, iI_sub, dv, e2]
theorem v_spare {N : Nat} {h : Hs} {nr nt : Nat} {rA tA rT : Nat → Nat} {wy gr hd : Nat → Int} {gn : Nat → Bool} {tl tw tg ls ms pa : Nat → Int} (hR : RRo h nr nt rA tA rT wy gr hd gn) (hT : RTh h nt tA tl tw tg ls ms pa) {r : Nat} (hr : r < nr) : fX4_spare N h (rA r) = some (iI (hd r - ldv (tg (rT r)) (gr r)), h) := by
  have e := v_load (N := N) hR hT hr
  obtain ⟨⟨-, -, -, d4⟩, ⟨f0, f1, f2, f3, f4, f8⟩, -⟩ := hR.2.1 r hr
  simp [fX4_spare, oI, rc, d4, f4, e, iI_sub]
theorem v_loadM {N : Nat} {h : Hs} (hS : Sk h) {nr nt : Nat} {rA tA rT : Nat → Nat} {wy gr hd : Nat → Int} {gn : Nat → Bool} {tl tw tg ls ms pa : Nat → Int} (hR : RRo h nr nt rA tA rT wy gr hd gn) (hT : RTh h nt tA tl tw tg ls ms pa) {r : Nat} (hr : r < nr) : fX12_load N h 29 (iI r) = some (iI (ldv (tg (rT r)) (gr r)), h) := by
  obtain ⟨-, -, ⟨f0, f1, f2, f3, f4⟩, q1, q2, q3, q4, q5⟩ := hR.2.1 r hr
  obtain ⟨-, -, ⟨-, -, g3, -⟩, b1, b2', b3, b4, b5, b6, -⟩ := hT.2.1 (rT r) q1
  have c3 := hR.1.2.2
  have c4 := hT.1.2.2
  have e1 : ixb (iI (r : Int)) 40 = true := ixb_i (by omega) (by omega) (by omega)
  have e2 : (iI (r : Int)).toNatClampNeg = r := by rw [iI_cl (by omega) (by omega)]; simp
  have e3 : ixb (iI ((rT r : Nat) : Int)) 40 = true := ixb_i (by omega) (by omega) (by omega)
  have e4 : (iI ((rT r : Nat) : Int)).toNatClampNeg = rT r := by rw [iI_cl (by omega) (by omega)]; simp
  have e5 : ¬ gr r = 0 := by omega
  have e6 : iI (tg (rT r) + gr r - 1) / iI (gr r) = iI (ldv (tg (rT r)) (gr r)) := iI_div (by omega) (by omega) (by omega) (by omega)
  simp (disch := omega) [fX12_load, oR, lA, Sk_rw hS, e1, e2, e3, e4, f0, f1, g3, lit, iI_eq, e5, iI_add, iI_sub, dv, e6]
theorem t_ofRope {N : Nat} {h : Hs} (hS : Sk h) {nr nt nd : Nat} {rA tA dA rT : Nat → Nat} {wy gr hd : Nat → Int} {gn : Nat → Bool} {tl tw tg ls ms pa ds : Nat → Int} {dr td : Nat → Option Nat} {sr dn : Nat → Int} (hT : RTh h nt tA tl tw tg ls ms pa) (hD : RDr h nd dA ds) (hR : RRo h nr nt rA tA rT wy gr hd gn) (hI : RTi h nt nd nr tA dA rA rT dr td sr dn) (p1 p2 : Int32) : ∃ r, fX11_ofRope N h 0 p1 p2 = some (r, h) ∧ fX12_ofRope N h 29 p1 p2 = some (r, h) := by
  obtain ⟨z, z1, z2, rfl⟩ := iI_ex p1
  obtain ⟨x, x1, x2, rfl⟩ := iI_ex p2
  have c3 := hR.1.2.2
  have ir := v_isRope (N := N) hS hR.1.2.1 c3 z1 z2
  by_cases w : 0 ≤ z ∧ z ≤ (nr : Int) - 1
  · obtain ⟨r, rfl⟩ : ∃ r : Nat, z = r := ⟨z.toNat, by omega⟩
    have hr : r < nr := by omega
    rw [if_pos w] at ir
    have ry := v_ropeY (N := N) hS hR hr
    have lc := v_load (N := N) hR hT hr
    have lm := v_loadM (N := N) hS hR hT hr
    have e1 : ixb (iI (r : Int)) 40 = true := ixb_i (by omega) (by omega) (by omega)
    have e2 : (iI (r : Int)).toNatClampNeg = r := by rw [iI_cl (by omega) (by omega)]; simp
    obtain ⟨⟨-, -, -, d4⟩, ⟨f0, f1, f2, f3, f4, f8⟩, ⟨m0, m1, m2, m3, m4⟩, q1, q2, q3, q4, q5⟩ := hR.2.1 r hr
    obtain ⟨⟨-, -, -, t4⟩, ⟨t0, -⟩, -⟩ := hT.2.1 (rT r) q1
    obtain ⟨i1, i2, i3⟩ := hI.1 r hr
    have n10 : ¬ iI 1 = iI 0 := by decide
    by_cases a0 : x = 0
    · subst a0
      refine ⟨iI (rT r), ?_, ?_⟩
      · simp (disch := omega) [oI, oR, qI, qZ, qR, rc, lit, iI_add, iI_sub, iI_mul, iI_neg, iI_le, iI_lt, iI_eq, v_isW, v_inW, bz, HR, Sk_rw hS, fX11_ofRope, fX11_ofRope_b23, ry, d4, fX4_tell, f1, t4, t0]
      · simp (disch := omega) [oI, oR, qI, qZ, qR, rc, lit, iI_add, iI_sub, iI_mul, iI_neg, iI_le, iI_lt, iI_eq, v_isW, v_inW, bz, HR, Sk_rw hS, fX12_ofRope, ir, lA, e1, e2, m0, n10]
    · by_cases a1 : x = 1
      · subst a1
        refine ⟨iI (gr r), ?_, ?_⟩
        · simp (disch := omega) [oI, oR, qI, qZ, qR, rc, lit, iI_add, iI_sub, iI_mul, iI_neg, iI_le, iI_lt, iI_eq, v_isW, v_inW, bz, HR, Sk_rw hS, fX11_ofRope, fX11_ofRope_b23, ry, d4, fX4_tell, f3]
        · simp (disch := omega) [oI, oR, qI, qZ, qR, rc, lit, iI_add, iI_sub, iI_mul, iI_neg, iI_le, iI_lt, iI_eq, v_isW, v_inW, bz, HR, Sk_rw hS, fX12_ofRope, ir, lA, e1, e2, m1, n10]
      · by_cases a2 : x = 2
        · subst a2
          refine ⟨iI (wy r), ?_, ?_⟩
          · simp (disch := omega) [oI, oR, qI, qZ, qR, rc, lit, iI_add, iI_sub, iI_mul, iI_neg, iI_le, iI_lt, iI_eq, v_isW, v_inW, bz, HR, Sk_rw hS, fX11_ofRope, fX11_ofRope_b23, ry, d4, fX4_tell, f2]
          · simp (disch := omega) [oI, oR, qI, qZ, qR, rc, lit, iI_add, iI_sub, iI_mul, iI_neg, iI_le, iI_lt, iI_eq, v_isW, v_inW, bz, HR, Sk_rw hS, fX12_ofRope, ir, lA, e1, e2, m2, n10]
        · by_cases a3 : x = 3
          · subst a3
            refine ⟨iI (hd r), ?_, ?_⟩
            · simp (disch := omega) [oI, oR, qI, qZ, qR, rc, lit, iI_add, iI_sub, iI_mul, iI_neg, iI_le, iI_lt, iI_eq, v_isW, v_inW, bz, HR, Sk_rw hS, fX11_ofRope, fX11_ofRope_b23, ry, d4, fX4_tell, f4]
            · simp (disch := omega) [oI, oR, qI, qZ, qR, rc, lit, iI_add, iI_sub, iI_mul, iI_neg, iI_le, iI_lt, iI_eq, v_isW, v_inW, bz, HR, Sk_rw hS, fX12_ofRope, ir, lA, e1, e2, m3, n10]
          · by_cases a4 : x = 4
            · subst a4
              refine ⟨iI (ldv (tg (rT r)) (gr r)), ?_, ?_⟩
              · simp (disch := omega) [oI, oR, qI, qZ, qR, rc, lit, iI_add, iI_sub, iI_mul, iI_neg, iI_le, iI_lt, iI_eq, v_isW, v_inW, bz, HR, Sk_rw hS, fX11_ofRope, fX11_ofRope_b23, ry, d4, fX4_tell, lc]
              · simp (disch := omega) [oI, oR, qI, qZ, qR, rc, lit, iI_add, iI_sub, iI_mul, iI_neg, iI_le, iI_lt, iI_eq, v_isW, v_inW, bz, HR, Sk_rw hS, fX12_ofRope, ir, lm, n10]
            · by_cases a5 : x = 5
              · subst a5
                refine ⟨iI (od (dr r)), ?_, ?_⟩
                · cases hdr : dr r with
                  | none =>
                    rw [hdr] at i1
                    simp (disch := omega) [oI, oR, qI, qZ, qR, rc, lit, iI_add, iI_sub, iI_mul, iI_neg, iI_le, iI_lt, iI_eq, v_isW, v_inW, bz, HR, Sk_rw hS, fX11_ofRope, fX11_ofRope_b23, ry, d4, fX4_tell, fX4_tell_b94, i1, od]
                  | some d =>
                    rw [hdr] at i1
                    obtain ⟨⟨-, -, -, u4⟩, ⟨u5, -⟩, -⟩ := hD.2.1 d (i3 d hdr).1
                    simp (disch := omega) [oI, oR, qI, qZ, qR, rc, lit, iI_add, iI_sub, iI_mul, iI_neg, iI_le, iI_lt, iI_eq, v_isW, v_inW, bz, HR, Sk_rw hS, fX11_ofRope, fX11_ofRope_b23, ry, d4, fX4_tell, fX4_tell_b94, i1, od, u4, u5]
                · simp (disch := omega) [oI, oR, qI, qZ, qR, rc, lit, iI_add, iI_sub, iI_mul, iI_neg, iI_le, iI_lt, iI_eq, v_isW, v_inW, bz, HR, Sk_rw hS, fX12_ofRope, ir, lA, e1, e2, i2, n10]
              · by_cases a6 : x = 6
                · subst a6
                  cases hdr : dr r with
                  | none =>
                    rw [hdr] at i1 i2
                    simp only [od] at i2
                    refine ⟨iI 0, ?_, ?_⟩
                    · simp (disch := omega) [oI, oR, qI, qZ, qR, rc, lit, iI_add, iI_sub, iI_mul, iI_neg, iI_le, iI_lt, iI_eq, v_isW, v_inW, bz, HR, Sk_rw hS, fX11_ofRope, fX11_ofRope_b23, ry, d4, fX4_tell, fX4_tell_b110, i1]
                    · simp (disch := omega) [oI, oR, qI, qZ, qR, rc, lit, iI_add, iI_sub, iI_mul, iI_neg, iI_le, iI_lt, iI_eq, v_isW, v_inW, bz, HR, Sk_rw hS, fX12_ofRope, fX12_ofRope_b120, ir, lA, e1, e2, i2, n10]
                  | some d =>
                    rw [hdr] at i1 i2
                    simp only [od] at i2
                    obtain ⟨j1, j2, j3, j4, j5, j6⟩ := i3 d hdr
                    have hnd := hD.1.2.2
                    have j7 : (0 : Int) ≤ d := by omega
                    refine ⟨iI (dn r), ?_, ?_⟩
                    · simp (disch := omega) [oI, oR, qI, qZ, qR, rc, lit, iI_add, iI_sub, iI_mul, iI_neg, iI_le, iI_lt, iI_eq, v_isW, v_inW, bz, HR, Sk_rw hS, fX11_ofRope, fX11_ofRope_b23, ry, d4, fX4_tell, fX4_tell_b110, i1, j3]
                    · simp (disch := omega) [oI, oR, qI, qZ, qR, rc, lit, iI_add, iI_sub, iI_mul, iI_neg, iI_le, iI_lt, iI_eq, v_isW, v_inW, bz, HR, Sk_rw hS, fX12_ofRope, fX12_ofRope_b120, ir, lA, e1, e2, i2, n10, j4, j7]
                · by_cases a7 : x = 7
                  · subst a7
                    refine ⟨iI (b2 (gn r)), ?_, ?_⟩
                    · cases hg : gn r with
                      | false =>
                        rw [hg] at f8
                        simp only [b2] at f8
                        simp (disch := omega) [oI, oR, qI, qZ, qR, rc, lit, iI_add, iI_sub, iI_mul, iI_neg, iI_le, iI_lt, iI_eq, v_isW, v_inW, bz, HR, Sk_rw hS, fX11_ofRope, fX11_ofRope_b23, ry, d4, fX4_tell, fX4_tell_b123, f8, b2]
                      | true =>
                        rw [hg] at f8
                        simp only [b2] at f8
                        simp (disch := omega) [oI, oR, qI, qZ, qR, rc, lit, iI_add, iI_sub, iI_mul, iI_neg, iI_le, iI_lt, iI_eq, v_isW, v_inW, bz, HR, Sk_rw hS, fX11_ofRope, fX11_ofRope_b23, ry, d4, fX4_tell, fX4_tell_b123, f8, b2]
                    · cases hg : gn r with
                      | false =>
                        rw [hg] at m4
                        simp only [b2] at m4
                        simp (disch := omega) [oI, oR, qI, qZ, qR, rc, lit, iI_add, iI_sub, iI_mul, iI_neg, iI_le, iI_lt, iI_eq, v_isW, v_inW, bz, HR, Sk_rw hS, fX12_ofRope, fX12_ofRope_b135, ir, lA, e1, e2, m4, n10, b2]
                      | true =>
                        rw [hg] at m4
                        simp only [b2] at m4
                        simp (disch := omega) [oI, oR, qI, qZ, qR, rc, lit, iI_add, iI_sub, iI_mul, iI_neg, iI_le, iI_lt, iI_eq, v_isW, v_inW, bz, HR, Sk_rw hS, fX12_ofRope, fX12_ofRope_b135, ir, lA, e1, e2, m4, n10, b2]
                  · refine ⟨iI (-2000000000), ?_, ?_⟩
                    · simp (disch := omega) [oI, oR, qI, qZ, qR, rc, lit, iI_add, iI_sub, iI_mul, iI_neg, iI_le, iI_lt, iI_eq, v_isW, v_inW, bz, HR, Sk_rw hS, fX11_ofRope, fX11_ofRope_b23, ry, d4, fX4_tell, a0, a1, a2, a3, a4, a5, a6, a7]
                    · simp (disch := omega) [oI, oR, qI, qZ, qR, rc, lit, iI_add, iI_sub, iI_mul, iI_neg, iI_le, iI_lt, iI_eq, v_isW, v_inW, bz, HR, Sk_rw hS, fX12_ofRope, ir, n10, a0, a1, a2, a3, a4, a5, a6, a7]
  · rw [if_neg w] at ir
    have rn := v_ropeN (N := N) hS hR z1 z2 w
    refine ⟨iI (-2000000000), ?_, ?_⟩
    · simp (disch := omega) [oI, oR, qI, qZ, qR, rc, lit, iI_add, iI_sub, iI_mul, iI_neg, iI_le, iI_lt, iI_eq, v_isW, v_inW, bz, HR, Sk_rw hS, fX11_ofRope, fX11_ofRope_b23, rn]
    · simp only [fX12_ofRope, rc, Sk_rw hS, if_true, Option.bind_some, ir, lit, iI_neg]
