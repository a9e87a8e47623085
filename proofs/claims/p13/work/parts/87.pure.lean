/-! ===== snap: class beside reference ===== -/
theorem sZv {h : Hs} {a n i : Nat} {v : Int} (hs : sh h a = (21, n)) (hi : i < n) (hn : n < 5000) (hv : v = 0 ∨ v = 1) : sZ h (some a) (iI i) (iI v) = some (uA h a i (iI v)) := by
  have e1 : ixb (iI (i : Int)) n = true := ixb_i (by omega) (by omega) (by omega)
  have e2 : (iI (i : Int)).toNatClampNeg = i := by rw [iI_cl (by omega) (by omega)]; simp
  have e : vp_nar .boolean (iI v) = iI v := by
    rcases hv with rfl | rfl <;> decide
  simp [sZ, hs, e1, e2, e]
theorem t_snap {N : Nat} (hN : 100000000 ≤ N) {h : Hs} (hS : Sk h) (hz : 70 ≤ sz h) {nr nt nd : Nat} {rA tA dA rT : Nat → Nat} {wy gr hd ds : Nat → Int} {gn : Nat → Bool} {tl tw tg ls ms pa : Nat → Int} {dr td : Nat → Option Nat} {sr dn : Nat → Int} {cc : Nat → Nat} {cp : Nat → Int} (hT : RTh h nt tA tl tw tg ls ms pa) (hnd : nd ≤ 20) (hR : RRo h nr nt rA tA rT wy gr hd gn) (hI : RTi h nt nd nr tA dA rA rT dr td sr dn) (hK : ICp h cc cp) (hB : ICan h) (hG : ∀ r, nr ≤ r → r < 40 → aI h 44 r = iI 0) (hdn : ∀ r, r < nr → dr r ≠ none → -1000000000 ≤ dn r ∧ dn r ≤ 1000000000) (hsl : ∀ r, r < nr → dr r ≠ none → ls (rT r) ≤ sr r ∧ sr r ≤ ms (rT r)) (hA : ∀ r, r < nr → dr r ≠ none → pa (rT r) = sr r + wy r * (dn r).tdiv (100 * gr r)) (p : Int32) : ∃ a h1 h2 pa' gn' dr' td', fX11_snap N h 0 p = some (a, h1) ∧ fX12_snap N h1 29 p = some (a, h2) ∧ RTh h2 nt tA tl tw tg ls ms pa' ∧ RRo h2 nr nt rA tA rT wy gr hd gn' ∧ RTi h2 nt nd nr tA dA rA rT dr' td' sr dn ∧ ICn h h2 ∧ (∀ r, nr ≤ r → r < 40 → aI h2 44 r = iI 0) ∧ (∀ r, r < nr → dr' r ≠ none → dr r ≠ none ∧ pa' (rT r) = pa (rT r)) ∧ Ke [407, 408, 907, 1106, 1243] [33, 42, 44] [405, 909] [] h h2 ∧ sz h2 = sz h := by
  obtain ⟨z, y1, y2, rfl⟩ := iI_ex p
  obtain ⟨hC, hM, hL⟩ := RTi_iff.mp hI
  have hB0 := hB
  obtain ⟨c, k1, k2, k3⟩ := hB
  have ct := hT.1.2.2
  have cr := hR.1.2.2
  have rc5 : rc 5 h (some 14) = some 14 := rcv (by rw [ss_14 hS])
  have rc11 : rc 11 h (some 0) = some 0 := rcv (by rw [ss_0 hS])
  have rc12 : rc 12 h (some 29) = some 29 := rcv (by rw [ss_29 hS])
  have ir := v_isRope (N := N) hS hR.1.2.1 cr y1 y2
  have no : ∀ v : Int, v = -1 ∨ v = -2 → fX5_breakRope N h 14 (iI z) = some (iI v, h) → fX11_snap N h 0 (iI z) = some (iI v, h) := by
    intro v hv e
    have dd := v_deed (N := N) hS (r := iI v) (z := 0) (Or.inl rfl)
    rw [if_neg (by decide)] at dd
    have l0 : iI v < iI 0 := (iI_lt (by omega) (by omega) (by omega) (by omega)).mpr (by omega)
    simp only [fX11_snap, fX11_snap_b20, lit]
    refine bst (sR_1100_0 hS) ?_
    refine bst (rc5) ?_
    refine bst (e) ?_
    refine ifp (l0) ?_
    refine bst (rc11) ?_
    refine bst (dd) ?_
    rfl
  by_cases w : 0 ≤ z ∧ z ≤ (nr : Int) - 1
  · obtain ⟨r, rfl⟩ : ∃ i : Nat, z = i := ⟨z.toNat, by omega⟩
    have hr : r < nr := by omega
    rw [if_pos w] at ir
    have ry := v_ropeY (N := N) hS hR hr
    obtain ⟨⟨d1, d2, d3, d4⟩, ⟨f0, f1, f2, f3, f4, f8⟩, ⟨m0, m1, m2, m3, m4⟩, q1, q2, q3, q4, q5⟩ := hR.2.1 r hr
    obtain ⟨x1, x2⟩ := hM r hr
    obtain ⟨v1, v2⟩ := hC.1 r hr
    cases hdr : dr r with
    | none =>
      rw [hdr] at x1 v1
      simp only [od] at x1
      refine ⟨iI (-2), h, h, pa, gn, dr, td, no (-2) (by omega) ?_, ?_, hT, hR, hI, hB0.n, hG, fun r _ hn => ⟨hn, rfl⟩, Ke_rf, rfl⟩
      · simp only [fX5_breakRope, lit, iI_neg]
        refine bst (rc5) ?_
        refine bst (ry) ?_
        refine ifn (fun q => by cases q) ?_
        refine bst (oRv (by rw [d4]) v1) ?_
        refine ifp (rfl) ?_
        rfl
      · have w0 : ¬ iI 0 ≤ iI (-1) := by decide
        simp only [fX12_snap, lit, iI_neg]
        refine bst (rc12) ?_
        refine bst (ir) ?_
        refine ifn (n10) ?_
        refine bst (sR_1216_29 hS) ?_
        refine bst (lAv (ss_42 hS) (by omega) (by omega) x1) ?_
        refine ifn (w0) ?_
        rfl
    | some e0 =>
      have hne : dr r ≠ none := by rw [hdr]; exact fun q => by cases q
      obtain ⟨hel, htr⟩ := hL.1 r e0 hr hdr
      obtain ⟨x3, x4⟩ := x2 hne
      obtain ⟨v3, v4⟩ := v2 hne
      rw [hdr] at x1 v1
      simp only [od] at x1
      obtain ⟨t, et⟩ : ∃ t, t = rT r := ⟨_, rfl⟩
      have ht : t < nt := by rw [et]; exact q1
      obtain ⟨⟨t1, t2, t3, t4⟩, ⟨g0, g1, g2, g3, g4, g5, g7⟩, ⟨a0, a1, a2, a3, a4, a5⟩, bb⟩ := hT.2.1 t ht
      have nb := hdn r hr hne
      have sb := hsl r hr hne
      have hAr := hA r hr hne
      rw [← et] at sb hAr x4 f1 m0 htr
      obtain ⟨M, hM0, hMd⟩ : ∃ M : Int, 0 ≤ M ∧ ((dn r ≤ 0 ∧ M = 0) ∨ (0 < dn r ∧ pa t = sr r + wy r * M)) := by
        by_cases q : dn r ≤ 0
        · exact ⟨0, by omega, Or.inl ⟨q, rfl⟩⟩
        · refine ⟨(dn r).tdiv (100 * gr r), ?_, Or.inr ⟨by omega, hAr⟩⟩
          rw [Int.tdiv_eq_ediv_of_nonneg (by omega)]
          exact Int.ediv_nonneg (by omega) (by omega)
      have hMb : M ≤ 100 := by
        rcases hMd with ⟨_, q⟩ | ⟨_, q⟩
        · omega
        · rcases q2 with q2 | q2 <;> rw [q2] at q <;> omega
      have hend : ls t ≤ pa t + -wy r * M ∧ pa t + -wy r * M ≤ ms t := by
        rcases hMd with ⟨_, q⟩ | ⟨_, q⟩
        · rw [q, Int.mul_zero]; omega
        · rw [Int.neg_mul]; omega
      have hdd : -wy r = 1 ∨ -wy r = -1 := by omega
      have eM : ((M.toNat : Nat) : Int) = M := by omega
      have epa : updO pa t (pa t) = pa := by
        funext j
        by_cases e : j = t
        · rw [e, updO_s]
        · rw [updO_n _ _ e]
      -- the class
      have vl := v_loosen (N := N) (dA := dA) hR hT hr
      rw [← et] at vl
      have hCl := hC.loose hL hT.2.2 hR.2.2 hr q1 (iI 0)
      rw [← et] at hCl
      have ke1 : Ke [407] [] [405, 909] [] h (uR (uI (uR h 405 (rA r) none) 407 (rA r) (iI 0)) 909 (tA t) none) := ((Ke_rf.r 405 _ _ (by decide)).u 407 _ _ (by decide)).r 909 _ _ (by decide)
      have sz1 : sz (uR (uI (uR h 405 (rA r) none) 407 (rA r) (iI 0)) 909 (tA t) none) = sz h := rfl
      have sh1 : ∀ a, sh (uR (uI (uR h 405 (rA r) none) 407 (rA r) (iI 0)) 909 (tA t) none) a = sh h a := fun _ => rfl
      generalize uR (uI (uR h 405 (rA r) none) 407 (rA r) (iI 0)) 909 (tA t) none = h1 at vl hCl ke1 sz1 sh1
      obtain ⟨h2, eh2⟩ : ∃ h2, h2 = uI h1 408 (rA r) (iI 1) := ⟨_, rfl⟩
      have ke2 : Ke [408] [] [] [] h1 h2 := by rw [eh2]; exact Ke_rf.u 408 _ _ (by decide)
      have sz2 : sz h2 = sz h := by rw [eh2]; exact sz1
      have sh2 : ∀ a, sh h2 a = sh h a := fun a => by rw [eh2]; exact sh1 a
      have ke12 : Ke [407, 408] [] [405, 909] [] h h2 := (ke1.w (by decide) (by decide) (by decide) (by decide)).tr (ke2.w (by decide) (by decide) (by decide) (by decide))
      have hS2 := hS.e hz ke12 (by decide)
      have hTo2 : RTo h2 nt tA tl tw tg ls ms (updO pa t (pa t)) := by rw [epa]; exact hT.o.e hz ke12 (by decide) (by decide)
      obtain ⟨h3, r1, ke3, sz3, hTo3⟩ := L_fall (N := N) hN ht (dd := -wy r) hdd (most := M) (by omega) M.toNat (pa t) 0 N h2 hS2 (by omega) hTo2 (hK.e hz ke12 (by decide)) (by omega) (by omega) (by rw [eM]; exact hend.1) (by rw [eM]; exact hend.2) (by omega)
      obtain ⟨K, eK⟩ : ∃ K : Nat, K = fallN (canF tl tw pa nt cc cp (-wy r) t) (-wy r) M.toNat (pa t) := ⟨_, rfl⟩
      have hKb : K ≤ M.toNat := by rw [eK]; exact fallN_le _ _ _ _
      rw [← eK, Int.zero_add] at r1
      rw [← eK] at hTo3
      have hz3 : 70 ≤ sz h3 := by omega
      have ke13 : Ke [407, 408, 907] [] [405, 909] [] h h3 := (ke12.w (by decide) (by decide) (by decide) (by decide)).tr (ke3.w (by decide) (by decide) (by decide) (by decide))
      have hS3 := hS.e hz ke13 (by decide)
      have b48 : ∀ u0 : Int32, u0 = iI M → fX5_breakRope_b48 N 14 h (some (rA r)) u0 = some (iI K, h3) := by
        intro u0 hu0
        have rc4 : rc 4 h (some (rA r)) = some (rA r) := rcv (by rw [d4])
        have z8 : qZ 4 8 h1 (some (rA r)) (iI 1) = some h2 := by rw [eh2]; exact qZv (by rw [sh1, d4]) (by omega)
        have o1 : oR 4 1 h2 (some (rA r)) = some (some (tA t)) := oRv (by rw [sh2, d4]) (by rw [ke12.2.2.1 401 _ (by decide) d3]; exact f1)
        have o2 : oI 4 2 h2 (some (rA r)) = some (iI (wy r)) := oIv (by rw [sh2, d4]) (by rw [ke12.1 402 _ (by decide) d3]; exact f2)
        have fl : fX5_fall N h2 14 (some (tA t)) (iI (-wy r)) (iI M) = some (iI K, h3) := r1
        rw [hu0]
        simp only [fX5_breakRope_b48, lit]
        refine bst (rc4) ?_
        refine bst (vl) ?_
        refine bst (z8) ?_
        refine bst (o1) ?_
        refine bst (o2) ?_
        refine bst (rcv (by rw [ss_14 hS2])) ?_
        rw [iI_neg]
        refine bst (fl) ?_
        rfl
      have br : fX5_breakRope N h 14 (iI (r : Int)) = some (iI K, h3) := by
        have o7 : oI 4 7 h (some (rA r)) = some (iI (dn r)) := oIv (by rw [d4]) v4
        have ld : iI (dn r) ≤ iI 0 ↔ dn r ≤ 0 := iI_le (by omega) (by omega) (by omega) (by omega)
        have o5 : oR 4 5 h (some (rA r)) = some (some (dA e0)) := oRv (by rw [d4]) v1
        simp only [fX5_breakRope, lit, iI_neg]
        rcases hMd with ⟨q, q'⟩ | ⟨q, q'⟩
        · skip
          refine bst (rc5) ?_
          refine bst (ry) ?_
          refine ifn (fun q => by cases q) ?_
          refine bst (o5) ?_
          refine ifn (fun q => by cases q) ?_
          refine bst (o7) ?_
          refine ifp (ld.mpr q) ?_
          exact b48 _ (by rw [q'])
        · have ab : (if iI 0 ≤ iI (pa t) - iI (sr r) then iI (pa t) - iI (sr r) else iI 0 - (iI (pa t) - iI (sr r))) = iI M := by
            rw [iI_sub]
            by_cases v : 0 ≤ pa t - sr r
            · rw [if_pos ((iI_le (by omega) (by omega) (by omega) (by omega)).mpr v)]
              congr 1
              rcases q2 with q2 | q2 <;> rw [q2] at q' <;> omega
            · rw [if_neg (fun s => v ((iI_le (by omega) (by omega) (by omega) (by omega)).mp s)), iI_sub]
              congr 1
              rcases q2 with q2 | q2 <;> rw [q2] at q' <;> omega
          refine bst (rc5) ?_
          refine bst (ry) ?_
          refine ifn (fun q => by cases q) ?_
          refine bst (o5) ?_
          refine ifn (fun q => by cases q) ?_
          refine bst (o7) ?_
          refine ifn (fun s => by have := ld.mp s; omega) ?_
          refine bst (oRv (by rw [d4]) f1) ?_
          refine bst (oIv (by rw [t4]) g7) ?_
          refine bst (oIv (by rw [d4]) v3) ?_
          exact b48 _ ab
      obtain ⟨h4, eh4⟩ : ∃ h4, h4 = uI h3 1106 0 (iI 0) := ⟨_, rfl⟩
      have ke4 : Ke [1106] [] [] [] h3 h4 := by rw [eh4]; exact Ke_rf.u 1106 _ _ (by decide)
      have sz4 : sz h4 = sz h := by rw [eh4]; exact sz3.trans sz2
      have ke14 : Ke [407, 408, 907, 1106] [] [405, 909] [] h h4 := (ke13.w (by decide) (by decide) (by decide) (by decide)).tr (ke4.w (by decide) (by decide) (by decide) (by decide))
      have hS4 := hS.e hz ke14 (by decide)
      have hz4 : 70 ≤ sz h4 := by omega
      have cl : fX11_snap N h 0 (iI (r : Int)) = some (iI K, h4) := by
        have dd := v_deed (N := N) hS3 (r := iI K) (z := 1) (Or.inr rfl)
        rw [if_pos rfl, ← eh4] at dd
        have l0 : ¬ iI (K : Int) < iI 0 := fun s => by have := (iI_lt (by omega) (by omega) (by omega) (by omega)).mp s; omega
        simp only [fX11_snap, fX11_snap_b20, lit]
        refine bst (sR_1100_0 hS) ?_
        refine bst (rc5) ?_
        refine bst (br) ?_
        refine ifn (l0) ?_
        refine bst (rcv (by rw [ss_0 hS3])) ?_
        refine bst (dd) ?_
        rfl
      -- the reference
      have ka : ∀ a, a < 70 → aI h4 a = aI h a := fun a ha => ke14.2.1 a (by simp) (by omega)
      obtain ⟨h5, eh5⟩ : ∃ h5, h5 = uI (uA (uA h4 42 r (iI (-1))) 44 r (iI 1)) 1243 29 (iI 0) := ⟨_, rfl⟩
      have ke5 : Ke [1243] [42, 44] [] [] h4 h5 := by rw [eh5]; exact ((Ke_rf.b 42 _ _ (by decide)).b 44 _ _ (by decide)).u 1243 _ _ (by decide)
      have sz5 : sz h5 = sz h := by rw [eh5]; exact sz4
      have hS5 := hS4.e hz4 ke5 (by decide)
      have kb : ∀ a, a < 70 → a ∉ [42, 44] → aI h5 a = aI h a := fun a ha hn => by rw [ke5.2.1 a hn (by omega), ka a ha]
      have ke15 : Ke [407, 408, 907, 1106, 1243] [42, 44] [405, 909] [] h h5 := (ke14.w (by decide) (by decide) (by decide) (by decide)).tr (ke5.w (by decide) (by decide) (by decide) (by decide))
      obtain ⟨h6, r2, ke6, sz6, hP6⟩ := L_fallM (N := N) hN (fun i hi => (show 0 ≤ pa i ∧ pa i ≤ 100 by have := (hT.2.1 i hi).2.2.2; omega)) ht (show r < 40 by omega) (dd := -wy r) (wr := wy r) hdd rfl (most := M) (by omega) M.toNat (pa t) 0 N h5 hS5 (by omega) (hT.q.e hz ke15 (by decide) (by decide)) (fun i hi => by rw [epa, kb 33 (by decide) (by decide)]; exact (hT.2.1 i hi).2.2.1.2.2.2.1) (by rw [kb 40 (by decide) (by decide)]; exact m2) (hK.e hz ke15 (by decide)) (by omega) (by omega) (by omega) (by omega) (by rw [eM]; omega) (by rw [eM]; omega) (by omega)
      rw [← eK, Int.zero_add] at r2
      rw [← eK] at hP6
      have ke16 : Ke [407, 408, 907, 1106, 1243] [33, 42, 44] [405, 909] [] h h6 := (ke15.w (by decide) (by decide) (by decide) (by decide)).tr (ke6.w (by decide) (by decide) (by decide) (by decide))
      have rf : fX12_snap N h4 29 (iI (r : Int)) = some (iI K, h6) := by
        have ir4 := v_isRope (N := N) hS4 (by rw [ke14.1 1211 29 (by decide) (by omega)]; exact hR.1.2.1) cr (z := r) (by omega) (by omega)
        rw [if_pos w] at ir4
        have b85 : ∀ u : Int32, u = iI M → fX12_snap_b85 N 29 h4 (iI (r : Int)) (iI (t : Int)) u = some (iI K, h6) := by
          intro u hu
          have s42 : sA h4 (some 42) (iI (r : Int)) (iI (-1)) = some (uA h4 42 r (iI (-1))) := sAv (ss_42 hS4) (by omega) (by omega)
          have hSx : Sk (uA h4 42 r (iI (-1))) := hS4.e hz4 (F := []) (A := [42]) (FR := []) (AQ := []) (Ke_rf.b 42 _ _ (by decide)) (by decide)
          have s44 : sZ (uA h4 42 r (iI (-1))) (some 44) (iI (r : Int)) (iI 1) = some (uA (uA h4 42 r (iI (-1))) 44 r (iI 1)) := sZv (ss_44 hSx) (by omega) (by omega) (by omega)
          have z43 : qZ 12 43 (uA (uA h4 42 r (iI (-1))) 44 r (iI 1)) (some 29) (iI 0) = some h5 := by rw [eh5]; exact qZv (by rw [sh_uA, sh_uA, ss_29 hS4]) (by omega)
          rw [hu]
          simp only [fX12_snap_b85, lit, iI_neg]
          refine bst (sR_1216_29 hS4) ?_
          refine bst (s42) ?_
          refine bst (sR_1218_29 hSx) ?_
          refine bst (s44) ?_
          refine bst (z43) ?_
          exact r2
        have l42 := lAv (ss_42 hS4) (show r < 40 by omega) (by omega) (v := iI (e0 : Int)) (by rw [ka 42 (by decide)]; exact x1)
        have l38 := lAv (ss_38 hS4) (show r < 40 by omega) (by omega) (v := iI (t : Int)) (by rw [ka 38 (by decide)]; exact m0)
        have l33 := lAv (ss_33 hS4) (show t < 40 by omega) (by omega) (v := iI (pa t)) (by rw [ka 33 (by decide)]; exact a3)
        have l36 := lAv (ss_36 hS4) (show t < 40 by omega) (by omega) (v := iI (sr r)) (by rw [ka 36 (by decide)]; exact x4)
        have l43 := lAv (ss_43 hS4) (show r < 40 by omega) (by omega) (v := iI (dn r)) (by rw [ka 43 (by decide)]; exact x3)
        have w2 : iI 0 ≤ iI (e0 : Int) := (iI_le (by omega) (by omega) (by omega) (by omega)).mpr (by omega)
        have ld : iI 0 < iI (dn r) ↔ 0 < dn r := iI_lt (by omega) (by omega) (by omega) (by omega)
        have b73 : ∀ u : Int32, (0 < dn r → u = iI M) → fX12_snap_b73 N 29 h4 (iI (r : Int)) (iI (t : Int)) u = some (iI K, h6) := by
          intro u hu
          simp only [fX12_snap_b73, lit]
          by_cases v : 0 < dn r
          · skip
            refine bst (sR_1217_29 hS4) ?_
            refine bst (l43) ?_
            refine ifp (ld.mpr v) ?_
            exact b85 _ (hu v)
          · have : M = 0 := by omega
            refine bst (sR_1217_29 hS4) ?_
            refine bst (l43) ?_
            refine ifn (fun s => v (ld.mp s)) ?_
            exact b85 _ (by rw [this])
        have lv : iI (sr r) ≤ iI (pa t) ↔ sr r ≤ pa t := iI_le (by omega) (by omega) (by omega) (by omega)
        simp only [fX12_snap, lit]
        by_cases v : sr r ≤ pa t
        · have e9 : 0 < dn r → iI (pa t) - iI (sr r) = iI M := fun q => by
            rw [iI_sub]
            congr 1
            rcases hMd with ⟨q0, _⟩ | ⟨_, q'⟩
            · omega
            · rcases q2 with q2 | q2 <;> rw [q2] at q' <;> omega
          refine bst (rcv (by rw [ss_29 hS4])) ?_
          refine bst (ir4) ?_
          refine ifn (n10) ?_
          refine bst (sR_1216_29 hS4) ?_
          refine bst (l42) ?_
          refine ifp (w2) ?_
          refine bst (sR_1212_29 hS4) ?_
          refine bst (l38) ?_
          refine bst (sR_1205_29 hS4) ?_
          refine bst (l33) ?_
          refine bst (sR_1208_29 hS4) ?_
          refine bst (l36) ?_
          refine ifp (lv.mpr v) ?_
          refine bst (sR_1205_29 hS4) ?_
          refine bst (l33) ?_
          refine bst (sR_1208_29 hS4) ?_
          refine bst (l36) ?_
          exact b73 _ e9
        · have e9 : 0 < dn r → iI (sr r) - iI (pa t) = iI M := fun q => by
            rw [iI_sub]
            congr 1
            rcases hMd with ⟨q0, _⟩ | ⟨_, q'⟩
            · omega
            · rcases q2 with q2 | q2 <;> rw [q2] at q' <;> omega
          refine bst (rcv (by rw [ss_29 hS4])) ?_
          refine bst (ir4) ?_
          refine ifn (n10) ?_
          refine bst (sR_1216_29 hS4) ?_
          refine bst (l42) ?_
          refine ifp (w2) ?_
          refine bst (sR_1212_29 hS4) ?_
          refine bst (l38) ?_
          refine bst (sR_1205_29 hS4) ?_
          refine bst (l33) ?_
          refine bst (sR_1208_29 hS4) ?_
          refine bst (l36) ?_
          refine ifn (fun s => v (lv.mp s)) ?_
          refine bst (sR_1208_29 hS4) ?_
          refine bst (l36) ?_
          refine bst (sR_1205_29 hS4) ?_
          refine bst (l33) ?_
          exact b73 _ e9
      have ke36 : Ke [1106, 1243] [33, 42, 44] [] [] h3 h6 := (ke4.w (by decide) (by decide) (by decide) (by decide)).tr ((ke5.w (by decide) (by decide) (by decide) (by decide)).tr (ke6.w (by decide) (by decide) (by decide) (by decide)))
      have hM5 : RTm h5 nr rT (updO dr r none) sr dn := by
        have := (hM.e hz ke14 (by decide)).loose hr
        refine this.e (by show 70 ≤ sz h4; omega) (F := [1243]) (A := [44]) (FR := []) (AQ := []) (by rw [eh5]; exact (Ke_rf.b 44 _ _ (by decide)).u 1243 _ _ (by decide)) (by decide)
      refine ⟨iI K, h4, h6, updO pa t (pa t + -wy r * K), updO gn r true, updO dr r none, updO td t none, cl, rf, ?_, ?_, ?_, ?_, ?_, ?_, ke16, by omega⟩
      · refine RTh_of (hTo3.e (by omega) ke36 (by decide) (by decide)) (by rw [ke16.1 1201 29 (by decide) (by omega)]; exact hT.1.2.1) (fun i hi => ?_)
        obtain ⟨-, -, ⟨z0, z1, z2, z3, z4, z5⟩, -⟩ := hT.2.1 i hi
        rw [ke16.2.1 30 (by decide) (by omega), ke16.2.1 31 (by decide) (by omega), ke16.2.1 32 (by decide) (by omega), ke16.2.1 34 (by decide) (by omega), ke16.2.1 35 (by decide) (by omega), hP6 i hi]
        exact ⟨z0, z1, z2, rfl, z4, z5⟩
      · refine ⟨⟨by rw [ke16.1 509 14 (by decide) (by omega)]; exact hR.1.1, by rw [ke16.1 1211 29 (by decide) (by omega)]; exact hR.1.2.1, cr⟩, fun s hs => ?_, hR.2.2⟩
        obtain ⟨⟨e1, e2, e3, e4⟩, ⟨w0, w1, w2, w3, w4, w8⟩, ⟨u0, u1, u2, u3, u4⟩, uu⟩ := hR.2.1 s hs
        refine ⟨⟨by rw [ke16.2.2.2.1 17 (by decide) (by omega)]; exact e1, e2, by omega, by rw [ke16.2.2.2.2.1 _ e3]; exact e4⟩, ⟨by rw [ke16.1 400 _ (by decide) e3]; exact w0, by rw [ke16.2.2.1 401 _ (by decide) e3]; exact w1, by rw [ke16.1 402 _ (by decide) e3]; exact w2, by rw [ke16.1 403 _ (by decide) e3]; exact w3, by rw [ke16.1 404 _ (by decide) e3]; exact w4, ?_⟩, ⟨by rw [ke16.2.1 38 (by decide) (by omega)]; exact u0, by rw [ke16.2.1 39 (by decide) (by omega)]; exact u1, by rw [ke16.2.1 40 (by decide) (by omega)]; exact u2, by rw [ke16.2.1 41 (by decide) (by omega)]; exact u3, ?_⟩, uu⟩
        · rw [ke36.1 408 _ (by decide) (by omega), ke3.1 408 _ (by decide) (by omega), eh2]
          by_cases e : s = r
          · subst e
            rw [updO_s]
            simp [HR, b2]
          · have na : ¬ rA s = rA r := fun q => e (hR.2.2 s r hs hr q)
            rw [updO_n _ _ e]
            have : gI h1 408 (rA s) = gI h 408 (rA s) := ke1.1 408 _ (by decide) e3
            simp [HR, na, this, w8]
        · rw [ke6.2.1 44 (by decide) (by omega), eh5]
          by_cases e : s = r
          · subst e
            rw [updO_s]
            simp [HR, b2]
          · rw [updO_n _ _ e]
            simp [HR, e, ka 44 (by decide), u4]
      · refine RTi_iff.mpr ⟨?_, hM5.e (by omega) ke6 (by decide), ?_⟩
        · have ke_1 : Ke [408, 907, 1106, 1243] [33, 42, 44] [] [] h1 h6 := (ke2.w (by decide) (by decide) (by decide) (by decide)).tr ((ke3.w (by decide) (by decide) (by decide) (by decide)).tr (ke36.w (by decide) (by decide) (by decide) (by decide)))
          exact hCl.e (fun i hi => by have := hT.lt i hi; omega) (fun s hs => by have := hR.lt s hs; omega) ke_1 (by decide) (by decide)
        · have := hL.loose hr hdr
          rw [← et] at this
          exact this
      · refine ⟨0, ?_, ?_, Or.inl rfl⟩
        · rw [ke6.1 1106 0 (by decide) (by omega), ke5.1 1106 0 (by decide) (by omega), eh4]
          simp [HR]
        · rw [ke6.1 1243 29 (by decide) (by omega), eh5]
          simp [HR]
      · intro s s1 s2
        have e : ¬ s = r := by omega
        rw [ke6.2.1 44 (by decide) (by omega), eh5]
        simp [HR, e, ka 44 (by decide), hG s s1 s2]
      · intro s hs hn
        by_cases e : s = r
        · subst e
          rw [updO_s] at hn
          exact absurd rfl hn
        · rw [updO_n _ _ e] at hn
          refine ⟨hn, ?_⟩
          obtain ⟨d0, hd0⟩ := Option.ne_none_iff_exists'.mp hn
          have hts := (hL.1 s d0 hs hd0).2
          have ne : rT s ≠ t := fun q => by
            rw [q, htr] at hts
            exact e (Option.some.inj hts).symm
          rw [updO_n _ _ ne]
  · rw [if_neg w] at ir
    have rn := v_ropeN (N := N) hS hR y1 y2 w
    refine ⟨iI (-1), h, h, pa, gn, dr, td, no (-1) (by omega) ?_, ?_, hT, hR, hI, hB0.n, hG, fun r _ hn => ⟨hn, rfl⟩, Ke_rf, rfl⟩
    · simp only [fX5_breakRope, lit, iI_neg]
      refine bst (rc5) ?_
      refine bst (rn) ?_
      refine ifp (rfl) ?_
      rfl
    · simp only [fX12_snap, lit, iI_neg]
      refine bst (rc12) ?_
      refine bst (ir) ?_
      refine ifp (rfl) ?_
      rfl
