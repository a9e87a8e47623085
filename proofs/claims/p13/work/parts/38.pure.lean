theorem t_want {N : Nat} {h : Hs} (hS : Sk h) (hz : 70 ≤ sz h) (hC : IStk h) (p1 p2 : Int32) : ∃ r h1 h2, fX11_want N h 0 p1 p2 = some (r, h1) ∧ fX12_want N h1 29 p1 p2 = some (r, h2) ∧ IStk h2 ∧ Ke [605, 1259, 300, 301, 302] [66, 67] [] [11] h h2 := by
  obtain ⟨s, s1, s2, rfl⟩ := iI_ex p1
  obtain ⟨q, q1, q2, rfl⟩ := iI_ex p2
  have hC0 := hC
  obtain ⟨nf, nv, ng, fA, vA, fh, fw, fp, vh, vw, vp, gv, ⟨c1, c2, c3, c4, c5, c6⟩, b1, b2, b3, r1, r2, r3⟩ := hC
  by_cases w1 : 100 ≤ s ∧ s ≤ 9999 ∧ s % 100 ≠ 0
  · by_cases w2 : 0 ≤ q ∧ q ≤ 9
    · by_cases w3 : nv < 6
      · obtain ⟨h0, hh0⟩ : ∃ h0, h0 = uI (uI (uI (nw h (3, 0)) 300 (sz h) (iI (s / 100))) 301 (sz h) (iI (s % 100))) 302 (sz h) (iI q) := ⟨_, rfl⟩
        have ke0 : Ke [605, 1259, 300, 301, 302] [66, 67] [] [11] h h0 := by
          rw [hh0]
          exact (((Ke_rf.n _).u _ _ _ (by decide)).u _ _ _ (by decide)).u _ _ _ (by decide)
        have kv := v_panel (N := N) (h := h) (q := q) w1.1 w1.2.1
        rw [← hh0] at kv
        have hS0 := hS.e hz ke0 (fun f hf => absurd hf List.not_mem_nil)
        have z0 : sz h0 = sz h + 1 := by rw [hh0]; rfl
        have x1 : gI h0 605 9 = iI nv := by rw [hh0]; simp [HR]; rw [gI_nw (by omega)]; exact c2
        have x2 : (sh h0 (sz h)).1 = 3 := by rw [hh0]; simp [HR, sh_nwS]
        have e1 : ixb (iI (nv : Int)) 6 = true := ixb_i (by omega) (by omega) (by omega)
        have e2 : (iI (nv : Int)).toNatClampNeg = nv := by rw [iI_cl (by omega) (by omega)]; simp
        obtain ⟨h1, hh1⟩ : ∃ h1, h1 = uI (uQ h0 11 nv (some (sz h))) 605 9 (iI (nv + 1)) := ⟨_, rfl⟩
        have ke1 : Ke [605, 1259, 300, 301, 302] [66, 67] [] [11] h h1 := by
          rw [hh1]
          exact (ke0.q _ _ _ (by decide)).u _ _ _ (by decide)
        have hS1 := hS.e hz ke1 (fun f hf => absurd hf List.not_mem_nil)
        have y1 : gI h1 1259 29 = iI nv := by rw [hh1, hh0]; simp [HR]; rw [gI_nw (by omega)]; exact c5
        obtain ⟨h2, hh2⟩ : ∃ h2, h2 = uI (uA (uA h1 66 nv (iI s)) 67 nv (iI q)) 1259 29 (iI (nv + 1)) := ⟨_, rfl⟩
        have ke2 : Ke [605, 1259, 300, 301, 302] [66, 67] [] [11] h h2 := by
          rw [hh2]
          exact ((ke1.b _ _ _ (by decide)).b _ _ _ (by decide)).u _ _ _ (by decide)
        refine ⟨iI (nv + 1), h1, h2, ?_, ?_, ?_, ke2⟩
        · have w4 : (nv : Int) < 6 := by omega
          rw [hh1]
          have hP := v_isPanel (N := N) (h := h) s1 s2 q1 q2
          rw [if_pos ⟨w1, w2⟩] at hP
          simp (disch := omega) [fX11_want, fX6_addWant, hP, oI, oR, rc, Sk_rw hS, c2, lit, iI_lt, iI_eq, w4, kv, sQ, qI, Sk_rw hS0, e1, e2, x1, x2, HR, iI_add]
        · have w4 : ¬ (nv : Int) = 6 := by omega
          rw [hh2]
          have hP := v_isSize (N := N) (h := h1) s1 s2
          rw [if_pos w1] at hP
          have hI := v_inW (N := N) (h := h1) (x := q) (a := 0) (b := 9) (by omega) (by omega) (by omega) (by omega) (by omega) (by omega)
          rw [if_pos w2] at hI
          simp (disch := omega) [fX12_want, hP, hI, oI, oR, rc, Sk_rw hS1, y1, lit, iI_lt, iI_eq, w4, sA, qI, e1, e2, HR, iI_add, iI_sub]
        · have o0 : ∀ a, a < sz h → gI h2 300 a = gI h 300 a ∧ gI h2 301 a = gI h 301 a ∧ gI h2 302 a = gI h 302 a := fun a ha => by
            have e9 : ¬ a = sz h := by omega
            rw [hh2, hh1, hh0]
            simp [HR, e9, gI_nw ha]
          refine ⟨nf, nv + 1, ng, fA, fun i => if i = nv then sz h else vA i, fh, fw, fp, fun i => if i = nv then s / 100 else vh i, fun i => if i = nv then s % 100 else vw i, fun i => if i = nv then q else vp i, gv, ⟨?_, ?_, ?_, ?_, ?_, ?_⟩, b1, by omega, b3, r1.oth hz ke2 (by omega) (by omega) (by omega) (by decide) (by decide) (by decide) o0, ?_, ?_⟩
          · rw [ke2.1 _ _ (by decide) (by omega)]; exact c1
          · rw [hh2, hh1]; simp [HR]
          · rw [ke2.1 _ _ (by decide) (by omega)]; exact c3
          · rw [ke2.1 _ _ (by decide) (by omega)]; exact c4
          · rw [hh2]; simp [HR]
          · rw [ke2.1 _ _ (by decide) (by omega)]; exact c6
          · refine r2.add hz ke2 (by omega) (by omega) (by omega) w1.1 w1.2.1 w1.2.2 w2.1 w2.2 ?_ ?_ ?_ ?_ ?_ ?_ ?_ o0 ?_ ?_ ?_ ?_
            · rw [hh2, hh1]; simp [HR, z0]
            · rw [hh2, hh1]; simp [HR]
            · intro i hi
              rw [hh2, hh1, hh0]
              simp [HR, hi]
              rw [aR_nw (by omega)]
            · rw [hh2, hh1, hh0]; simp [HR, sh_nwS]
            · rw [hh2, hh1, hh0]; simp [HR]
            · rw [hh2, hh1, hh0]; simp [HR]
            · rw [hh2, hh1, hh0]; simp [HR]
            · rw [hh2]; simp [HR]
            · rw [hh2]; simp [HR]
            · intro i hi
              rw [hh2, hh1, hh0]
              simp [HR, hi]
              rw [aI_nw (by omega)]
            · intro i hi
              rw [hh2, hh1, hh0]
              simp [HR, hi]
              rw [aI_nw (by omega)]
          · intro i hi
            rw [ke2.2.1 _ (by decide) (by omega), ke2.2.1 _ (by decide) (by omega)]
            exact r3 i hi
      · have w4 : ¬ (nv : Int) < 6 := by omega
        have w5 : (nv : Int) = 6 := by omega
        refine ⟨-3, h, h, ?_, ?_, hC0, Ke_rf⟩
        · have hP := v_isPanel (N := N) (h := h) s1 s2 q1 q2
          rw [if_pos ⟨w1, w2⟩] at hP
          simp (disch := omega) [fX11_want, fX6_addWant, hP, oI, oR, rc, Sk_rw hS, c2, lit, iI_lt, iI_eq, w4]
        · have hP := v_isSize (N := N) (h := h) s1 s2
          rw [if_pos w1] at hP
          have hI := v_inW (N := N) (h := h) (x := q) (a := 0) (b := 9) (by omega) (by omega) (by omega) (by omega) (by omega) (by omega)
          rw [if_pos w2] at hI
          simp (disch := omega) [fX12_want, hP, hI, oI, oR, rc, Sk_rw hS, c5, lit, iI_lt, iI_eq, w5]
    · refine ⟨-1, h, h, ?_, ?_, hC0, Ke_rf⟩
      · have hP := v_isPanel (N := N) (h := h) s1 s2 q1 q2
        rw [if_neg (fun z => w2 z.2)] at hP
        simp [fX11_want, fX6_addWant, hP, oR, rc, Sk_rw hS, lit]
      · have hP := v_isSize (N := N) (h := h) s1 s2
        rw [if_pos w1] at hP
        have hI := v_inW (N := N) (h := h) (x := q) (a := 0) (b := 9) (by omega) (by omega) (by omega) (by omega) (by omega) (by omega)
        rw [if_neg w2] at hI
        simp (disch := omega) [fX12_want, fX12_want_b17, hP, hI, lit, iI_eq]
  · refine ⟨-1, h, h, ?_, ?_, hC0, Ke_rf⟩
    · have hP := v_isPanel (N := N) (h := h) s1 s2 q1 q2
      rw [if_neg (fun z => w1 z.1)] at hP
      simp [fX11_want, fX6_addWant, hP, oR, rc, Sk_rw hS, lit]
    · have hP := v_isSize (N := N) (h := h) s1 s2
      rw [if_neg w1] at hP
      simp [fX12_want, fX12_want_b17, hP, lit]
