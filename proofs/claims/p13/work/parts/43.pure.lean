theorem v_drum {N : Nat} {h : Hs} {i s : Int32} : fX2_init N (nw h (2, 0)) (sz h) i s = some (uI (uI (nw h (2, 0)) 200 (sz h) i) 201 (sz h) s) := by
  have e3 : (sh (nw h (2, 0)) (sz h)).1 = 2 := by rw [sh_nwS]
  simp [fX2_init, qI, HR, e3]
theorem t_drum {N : Nat} {h : Hs} (hS : Sk h) (hz : 70 ≤ sz h) {nd : Nat} {dA : Nat → Nat} {ds : Nat → Int} (hC : RDr h nd dA ds) (hB : ICan h) (p : Int32) : ∃ r h1 h2 nd' dA' ds', fX11_drum N h 0 p = some (r, h1) ∧ fX12_drum N h1 29 p = some (r, h2) ∧ RDr h2 nd' dA' ds' ∧ nd ≤ nd' ∧ (∀ i, i < nd → dA' i = dA i ∧ ds' i = ds i) ∧ ICn h h2 ∧ Ke [508, 1209, 200, 201, 1106, 1243] [37] [] [16] h h2 ∧ sz h2 ≤ sz h + 1 := by
  obtain ⟨z, z1, z2, rfl⟩ := iI_ex p
  have hC0 := hC
  have hB0 := hB
  obtain ⟨⟨c1, c2, c3⟩, c4, c5⟩ := hC
  by_cases w : 1 ≤ z ∧ z ≤ 20
  · by_cases w3 : nd < 20
    · obtain ⟨h0, hh0⟩ : ∃ h0, h0 = uI (uI (nw h (2, 0)) 200 (sz h) (iI nd)) 201 (sz h) (iI z) := ⟨_, rfl⟩
      have ke0 : Ke [508, 1209, 200, 201, 1106, 1243] [37] [] [16] h h0 := by
        rw [hh0]
        exact ((Ke_rf.n _).u _ _ _ (by decide)).u _ _ _ (by decide)
      have kv := v_drum (N := N) (h := h) (i := iI nd) (s := iI z)
      rw [← hh0] at kv
      have hS0 := hS.e hz ke0 (fun f hf => absurd hf List.not_mem_nil)
      have z0 : sz h0 = sz h + 1 := by rw [hh0]; rfl
      have x0 : gI (nw h (2, 0)) 508 14 = iI nd := by rw [gI_nw (by omega)]; exact c1
      have x0s : (sh (nw h (2, 0)) 14).1 = 5 := by rw [sh_nw (by omega)]; simp [Sk_rw hS]
      have x1 : gI h0 508 14 = iI nd := by rw [hh0]; simp [HR, x0]
      have x2 : (sh h0 (sz h)).1 = 2 := by rw [hh0]; simp [HR, sh_nwS]
      have e1 : ixb (iI (nd : Int)) 20 = true := ixb_i (by omega) (by omega) (by omega)
      have e2 : (iI (nd : Int)).toNatClampNeg = nd := by rw [iI_cl (by omega) (by omega)]; simp
      obtain ⟨hq, hhq⟩ : ∃ hq, hq = uI (uQ h0 16 nd (some (sz h))) 508 14 (iI (nd + 1)) := ⟨_, rfl⟩
      have keq : Ke [508, 1209, 200, 201, 1106, 1243] [37] [] [16] h hq := by
        rw [hhq]
        exact (ke0.q _ _ _ (by decide)).u _ _ _ (by decide)
      have hSq := hS.e hz keq (fun f hf => absurd hf List.not_mem_nil)
      have dd := v_deed (N := N) hSq (r := iI nd) (z := 1) (Or.inr rfl)
      simp only [if_true] at dd
      obtain ⟨h1, hh1⟩ : ∃ h1, h1 = uI hq 1106 0 (iI 0) := ⟨_, rfl⟩
      rw [← hh1] at dd
      have ke1 : Ke [508, 1209, 200, 201, 1106, 1243] [37] [] [16] h h1 := by
        rw [hh1]
        exact keq.u _ _ _ (by decide)
      have hS1 := hS.e hz ke1 (fun f hf => absurd hf List.not_mem_nil)
      have y1 : gI h1 1209 29 = iI nd := by rw [hh1, hhq, hh0]; simp [HR]; rw [gI_nw (by omega)]; exact c2
      obtain ⟨h2, hh2⟩ : ∃ h2, h2 = uI (uI (uA h1 37 nd (iI z)) 1209 29 (iI (nd + 1))) 1243 29 (iI 0) := ⟨_, rfl⟩
      have ke2 : Ke [508, 1209, 200, 201, 1106, 1243] [37] [] [16] h h2 := by
        rw [hh2]
        exact ((ke1.b _ _ _ (by decide)).u _ _ _ (by decide)).u _ _ _ (by decide)
      refine ⟨iI nd, h1, h2, nd + 1, fun i => if i = nd then sz h else dA i, fun i => if i = nd then z else ds i, ?_, ?_, ?_, by omega, fun i hi => ?_, ⟨0, ?_, ?_, Or.inl rfl⟩, ke2, ?_⟩
      · have w4 : (nd : Int) < 20 := by omega
        have w5 : ¬ (nd : Int) < 0 := by omega
        have w6 : fX5_addDrum N h 14 (iI z) = some (iI nd, hq) := by
          rw [hhq]
          simp (disch := omega) [fX5_addDrum, v_isW, w, oI, oR, rc, Sk_rw hS, c1, lit, iI_lt, iI_eq, w4, x0, x0s, kv, sQ, qI, Sk_rw hS0, e1, e2, x1, x2, HR, iI_add]
        simp (disch := omega) [fX11_drum, fX11_drum_b20, oR, rc, Sk_rw hS, Sk_rw hSq, w6, lit, iI_lt, w5, dd]
      · have w4 : ¬ (nd : Int) = 20 := by omega
        rw [hh2]
        simp (disch := omega) [fX12_drum, v_inW, w, oI, oR, rc, Sk_rw hS1, y1, lit, iI_eq, w4, sA, qI, qZ, e1, e2, HR, iI_add, iI_sub]
      · refine ⟨⟨?_, ?_, by omega⟩, fun i hi => ?_, fun i j hi hj => ?_⟩
        · rw [hh2, hh1, hhq]; simp [HR]
        · rw [hh2]; simp [HR]
        · by_cases ei : i = nd
          · subst ei
            simp only [if_true]
            refine ⟨⟨?_, hz, ?_, ?_⟩, ⟨?_, ?_⟩, ?_, w.1, w.2⟩
            · rw [hh2, hh1, hhq]; simp [HR]
            · rw [hh2, hh1, hhq]; simp [HR, z0]
            · rw [hh2, hh1, hhq, hh0]; simp [HR, sh_nwS]
            · rw [hh2, hh1, hhq, hh0]; simp [HR]
            · rw [hh2, hh1, hhq, hh0]; simp [HR]
            · rw [hh2]; simp [HR]
          · obtain ⟨⟨d1, d2, d3, d4⟩, ⟨d5, d6⟩, d7, d8⟩ := c4 i (by omega)
            have en : ¬ dA i = sz h := by omega
            simp only [ei, if_false]
            refine ⟨⟨?_, d2, ?_, ?_⟩, ⟨?_, ?_⟩, ?_, d8⟩
            · rw [hh2, hh1, hhq, hh0]; simp [HR, ei]; rw [aR_nw (by omega)]; exact d1
            · have := ke2.2.2.2.2.2; omega
            · rw [ke2.2.2.2.2.1 _ d3]; exact d4
            · rw [hh2, hh1, hhq, hh0]; simp [HR, en]; rw [gI_nw d3]; exact d5
            · rw [hh2, hh1, hhq, hh0]; simp [HR, en]; rw [gI_nw d3]; exact d6
            · rw [hh2, hh1, hhq, hh0]; simp [HR, ei]; rw [aI_nw (by omega)]; exact d7
        · by_cases ei : i = nd
          · by_cases ej : j = nd
            · intro _; omega
            · have := (c4 j (by omega)).1.2.2.1
              simp only [ei, ej, if_true, if_false]
              intro q9; omega
          · by_cases ej : j = nd
            · have := (c4 i (by omega)).1.2.2.1
              simp only [ei, ej, if_true, if_false]
              intro q9; omega
            · simp only [ei, ej, if_false]
              exact c5 i j (by omega) (by omega)
      · have ei : ¬ i = nd := by omega
        simp [ei]
      · rw [hh2, hh1]; simp [HR]
      · rw [hh2]; simp [HR]
      · rw [hh2, hh1, hhq]; simp [HR, z0]
    · have w4 : ¬ (nd : Int) < 20 := by omega
      have w5 : (nd : Int) = 20 := by omega
      have dd := v_deed (N := N) hS (r := iI (-3)) (z := 0) (Or.inl rfl)
      have e5 : ¬ (0 : Int) = 1 := by omega
      simp only [e5, if_false] at dd
      refine ⟨iI (-3), h, h, nd, dA, ds, ?_, ?_, hC0, Nat.le_refl _, fun _ _ => ⟨rfl, rfl⟩, hB0.n, Ke_rf, by omega⟩
      · simp (disch := omega) [oI, oR, qI, qZ, qR, rc, lit, iI_add, iI_sub, iI_mul, iI_neg, iI_le, iI_lt, iI_eq, v_isW, v_inW, bz, HR, Sk_rw hS, fX11_drum, fX11_drum_b20, fX5_addDrum, c1, w, w4, dd]
      · simp (disch := omega) [oI, oR, qI, qZ, qR, rc, lit, iI_add, iI_sub, iI_mul, iI_neg, iI_le, iI_lt, iI_eq, v_isW, v_inW, bz, HR, Sk_rw hS, fX12_drum, c2, w, w5]
  · have dd := v_deed (N := N) hS (r := iI (-1)) (z := 0) (Or.inl rfl)
    have e5 : ¬ (0 : Int) = 1 := by omega
    simp only [e5, if_false] at dd
    refine ⟨iI (-1), h, h, nd, dA, ds, ?_, ?_, hC0, Nat.le_refl _, fun _ _ => ⟨rfl, rfl⟩, hB0.n, Ke_rf, by omega⟩
    · simp (disch := omega) [oI, oR, qI, qZ, qR, rc, lit, iI_add, iI_sub, iI_mul, iI_neg, iI_le, iI_lt, iI_eq, v_isW, v_inW, bz, HR, Sk_rw hS, fX11_drum, fX11_drum_b20, fX5_addDrum, w, dd]
    · simp (disch := omega) [oI, oR, qI, qZ, qR, rc, lit, iI_add, iI_sub, iI_mul, iI_neg, iI_le, iI_lt, iI_eq, v_isW, v_inW, bz, HR, Sk_rw hS, fX12_drum, w]
