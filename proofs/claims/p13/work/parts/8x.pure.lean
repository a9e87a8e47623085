/-! ===== paint: both ===== -/
theorem wdt_b {e : Nat} (he : e < 6) : wdt e ≤ 294074 := by
  have : e = 0 ∨ e = 1 ∨ e = 2 ∨ e = 3 ∨ e = 4 ∨ e = 5 := by omega
  rcases this with rfl | rfl | rfl | rfl | rfl | rfl <;> decide
theorem v_stop {N fu : Nat} {h : Hs} {x1 : Int32} {b : Int} (b1 : -1 ≤ b ∧ b ≤ 1000000) : fX12_paint_b21 N 29 (fu + 1) h x1 (iI b) (iI (-1)) = some (iI (if b < 0 then -2 else b), h) := by
  show fX12_paint_b21_body N (fX12_paint_b21 N 29 fu) 29 h x1 (iI b) (iI (-1)) = _
  have a1 : iI (-1) < iI 0 := by decide
  have lb : iI 0 ≤ iI b ↔ 0 ≤ b := iI_le (by omega) (by omega) (by omega) (by omega)
  simp only [fX12_paint_b21_body, fX12_paint_b161, fX12_paint_b171, lit, iI_neg]
  by_cases w : b < 0
  · rw [if_pos w]
    refine ifp (a1) ?_
    refine ifn (fun z => by have := lb.mp z; omega) ?_
    rfl
  · rw [if_neg w]
    refine ifp (a1) ?_
    refine ifp (lb.mpr (by omega)) ?_
    rfl
theorem t_paint {N : Nat} (hN : 100000000 ≤ N) {h : Hs} (hS : Sk h) (hz : 70 ≤ sz h) (hK : IStk h) : ∃ a h1 h2, fX11_paint N h 0 = some (a, h1) ∧ fX12_paint N h1 29 = some (a, h2) ∧ IStk h2 ∧ Ke [605, 606, 1259, 1263] [12, 13, 68, 69] [] [] h h2 ∧ sz h2 = sz h := by
  obtain ⟨nf, nv, ng, fA, vA, fh, fw, fp, vh, vw, vp, gv, ⟨c1, c2, c3, c4, c5, c6⟩, b1, b2', b3, r1, r2, r3⟩ := hK
  have pF : PF h nf fA fh fw fp := fun i hi => ⟨(r1 i hi).1, (r1 i hi).2.2.2⟩
  have pV : PV h nv vA vh vw vp := fun i hi => ⟨(r2 i hi).1, (r2 i hi).2.2.2⟩
  have qF : QF h 64 65 nf fh fw fp := fun i hi => (r1 i hi).2
  have qV : QF h 66 67 nv vh vw vp := fun i hi => (r2 i hi).2
  obtain ⟨h1, e1, ke1, s1, x5, xN, xY⟩ := v_paintC (N := N) hN hS hz b1 b2' c1 c2 pF pV
  have hS1 := hS.e hz ke1 (by decide)
  have hz1 : 70 ≤ sz h1 := by omega
  have o59 : oI 12 59 h1 (some 29) = some (iI nv) := oIv (by rw [ss_29 hS1]) ((ke1.1 1259 29 (by decide) (by omega)).trans c5)
  obtain ⟨h2, eh2⟩ : ∃ h2, h2 = uI h1 1259 29 (iI 0) := ⟨_, rfl⟩
  have z2 : qI 12 59 h1 (some 29) (iI 0) = some h2 := by rw [eh2]; exact qIv (by rw [ss_29 hS1])
  have ke12 : Ke [1259] [] [] [] h1 h2 := by rw [eh2]; exact Ke_rf.u 1259 _ _ (by decide)
  have s2 : sz h2 = sz h := by rw [eh2]; exact s1
  have g29 : gI h2 1259 29 = iI 0 := by rw [eh2]; simp [HR]
  have hS2 := hS1.e hz1 ke12 (by decide)
  obtain ⟨h4, eh4⟩ : ∃ h4, h4 = uA h2 68 0 (iI (-1)) := ⟨_, rfl⟩
  have z4 : sA h2 (some 68) (iI 0) (iI (-1)) = some h4 := by rw [eh4]; exact sAv (i := 0) (ss_68 hS2) (by omega) (by omega)
  have ke24 : Ke [] [68] [] [] h2 h4 := by rw [eh4]; exact Ke_rf.b 68 _ _ (by decide)
  have s4 : sz h4 = sz h := by rw [eh4]; exact s2
  have h40 : aI h4 68 0 = iI (((0 : Nat) : Int) - 1) := by rw [eh4]; simp [HR]
  have ke4 : Ke [605, 606, 1259] [12, 13, 68] [] [] h h4 := ((ke1.w (by decide) (by decide) (by decide) (by decide)).tr (ke12.w (by decide) (by decide) (by decide) (by decide))).tr (ke24.w (by decide) (by decide) (by decide) (by decide))
  have ke14 : Ke [1259] [68] [] [] h1 h4 := (ke12.w (by decide) (by decide) (by decide) (by decide)).tr (ke24.w (by decide) (by decide) (by decide) (by decide))
  have hS4 := hS.e hz ke4 (by decide)
  have hz4 : 70 ≤ sz h4 := by omega
  have st : fX12_paint N h1 29 = fX12_paint_b21 N 29 N h4 (iI nv) (iI (-1)) (iI 0) := by
    simp only [fX12_paint, lit, iI_neg]
    refine bst (o59) ?_
    refine bst (z2) ?_
    refine bst (sR_1262_29 hS2) ?_
    refine bst (z4) ?_
    rfl
  -- what remains, given where the search ends
  have fin : ∀ (hx : Hs) (ng' : Nat) (gv' : Nat → Int), Ke [1263] [68, 69] [] [] h4 hx → sz hx = sz h → ng' ≤ 6 → gI h1 606 9 = iI ng' → gI hx 1263 29 = iI ng' → (∀ i, i < ng' → aI h1 12 i = iI (gv' i) ∧ aI hx 69 i = iI (gv' i)) → IStk hx ∧ Ke [605, 606, 1259, 1263] [12, 13, 68, 69] [] [] h hx ∧ sz hx = sz h := by
    intro hx ng' gv' kx sx n6 g6 g63 ga
    have kh : Ke [605, 606, 1259, 1263] [12, 13, 68, 69] [] [] h hx := (ke4.w (by decide) (by decide) (by decide) (by decide)).tr (kx.w (by decide) (by decide) (by decide) (by decide))
    refine ⟨⟨nf, 0, ng', fA, vA, fh, fw, fp, vh, vw, vp, gv', ⟨(kh.1 604 9 (by decide) (by omega)).trans c1, ?_, ?_, (kh.1 1256 29 (by decide) (by omega)).trans c4, ?_, g63⟩, b1, by omega, n6, r1.e hz kh (by omega) (by omega) (by omega) (by decide) (by decide) (by decide) (by decide) (by decide) (by decide), fun i hi => by omega, fun i hi => ⟨?_, (ga i hi).2⟩⟩, kh, sx⟩
    · rw [kx.1 605 9 (by decide) (by omega), ke14.1 605 9 (by decide) (by omega)]; exact x5
    · rw [kx.1 606 9 (by decide) (by omega), ke14.1 606 9 (by decide) (by omega)]; exact g6
    · rw [kx.1 1259 29 (by decide) (by omega), ke24.1 1259 29 (by decide) (by omega)]; exact g29
    · rw [kx.2.1 12 (by decide) (by omega), ke14.2.1 12 (by decide) (by omega)]; exact (ga i hi).1
  have g463 : gI h4 1263 29 = iI ng := (ke4.1 1263 29 (by decide) (by omega)).trans c6
  have a469 : ∀ i, aI h4 69 i = aI h 69 i := fun i => by rw [ke4.2.1 69 (by decide) (by omega)]
  by_cases w : nv = 0
  · subst w
    rw [if_pos (Or.inl rfl)] at e1
    obtain ⟨y1, y2⟩ := xN (Or.inl rfl)
    have rl : fX12_paint N h1 29 = some (iI (-2), h4) := by
      obtain ⟨fu, rfl⟩ : ∃ m, N = m + 1 := ⟨N - 1, by omega⟩
      rw [st]
      show fX12_paint_b21_body (fu + 1) (fX12_paint_b21 (fu + 1) 29 fu) 29 h4 (iI ((0 : Nat) : Int)) (iI (-1)) (iI 0) = _
      have a1 : ¬ iI 0 < iI 0 := by decide
      have a2 : iI ((0 : Nat) : Int) ≤ iI 0 := by decide
      have a3 : ¬ iI 0 ≤ iI (-1) := by decide
      simp only [fX12_paint_b21_body, fX12_paint_b161, fX12_paint_b171, lit, iI_neg]
      refine ifn (a1) ?_
      refine ifp (a2) ?_
      refine ifn (a3) ?_
      rfl
    obtain ⟨t1, t2, t3⟩ := fin h4 ng gv Ke_rf s4 b3 (y1.trans c3) g463 (fun i hi => ⟨(y2 i).trans (r3 i hi).1, (a469 i).trans (r3 i hi).2⟩)
    exact ⟨iI (-2), h1, h4, e1, rl, t1, t2, t3⟩
  · obtain ⟨e, rfl⟩ : ∃ e, nv = e + 1 := ⟨nv - 1, by omega⟩
    have wb := wdt_b (show e < 6 by omega)
    have w2 : nf * wdt e ≤ 12 * 294074 := Nat.mul_le_mul b1 wb
    obtain ⟨h5, fu', p1, p2, p3, p4, p5, -⟩ := L_dfs (N := N) hN hS4 hz4 b1 b2' ((ke4.1 1256 29 (by decide) (by omega)).trans c4) (qF.e hz ke4 (by omega) (by omega) (by decide) (by decide)) (qV.e hz ke4 (by omega) (by omega) (by decide) (by decide)) e nf 0 0 (fun _ => 0) (-1, fun _ => 0) N h4 (by omega) (by omega) (fun k hk => by omega) h40 ⟨by simp only [csP]; omega, by simp only [csP]; omega⟩ ⟨by simp only; omega, by simp only; omega, fun _ => ⟨rfl, fun _ => rfl⟩, fun z => by simp only at z; omega⟩ (by omega) Ke_rf rfl
    have all := fld_all (ct := (ctf fh fw fp vh vw vp)) (nf := nf) (nv := e + 1) (e := e) (T := 0) (P := 0) (by omega) (gl := glf (ctf fh fw fp vh vw vp) nf (e + 1) (fun _ => 0) 0 e 0) (-1, fun _ => 0)
    rw [Nat.sub_self] at all
    have gg : ∀ k, glf (ctf fh fw fp vh vw vp) nf (e + 1) (fun _ => 0) 0 e 0 (gf1 (ctf fh fw fp vh vw vp) nf (e + 1) e 0) k = gvs (ctf fh fw fp vh vw vp) nf (e + 1) (e + 1) 0 k := fun k => by
      unfold glf
      rw [if_neg (by omega)]
      cases k with
      | zero => rw [if_pos rfl]; rfl
      | succ k => rw [if_neg (by omega), Nat.zero_add, Nat.add_sub_cancel]; rfl
    have bb := bsm_b (ctf fh fw fp vh vw vp) nf (e + 1) (e + 1) 0
    simp only [mkP, csP] at p2 p5
    rw [all] at p2 p5
    generalize bsm (ctf fh fw fp vh vw vp) nf (e + 1) (e + 1) 0 = X at *
    obtain ⟨fu', rfl⟩ : ∃ m, fu' = m + 1 := ⟨fu' - 1, by omega⟩
    have em : (((0 : Nat) : Int) - 1) = -1 := by omega
    rw [em] at p2
    by_cases m : X < 1000000
    · have cnd : X < 1000000 ∧ (((-1 : Int), (fun _ => 0 : Nat → Nat)).1 < 0 ∨ 0 + X < ((-1 : Int), (fun _ => 0 : Nat → Nat)).1) := ⟨m, Or.inl (by decide)⟩
      rw [if_pos cnd] at p2 p5
      have nw' : ¬ (e + 1 = 0 ∨ 1000000 ≤ X) := by omega
      rw [if_neg nw'] at e1
      obtain ⟨y1, y2⟩ := xY nw'
      simp only [Int.zero_add] at p2 p5
      obtain ⟨-, -, -, p58⟩ := p5
      obtain ⟨k1, k2⟩ := p58 bb.1
      rw [v_stop (by omega), if_neg (by omega)] at p2
      obtain ⟨t1, t2, t3⟩ := fin h5 (e + 1) (fun k => (gvs (ctf fh fw fp vh vw vp) nf (e + 1) (e + 1) 0 k : Nat)) p3 (p4.trans s4) b2' y1 k1 (fun i hi => ⟨y2 i hi, by rw [k2 i hi]; simp only [gg]⟩)
      exact ⟨iI X, h1, h5, e1, st.trans p2, t1, t2, t3⟩
    · have cnd : ¬ (X < 1000000 ∧ (((-1 : Int), (fun _ => 0 : Nat → Nat)).1 < 0 ∨ 0 + X < ((-1 : Int), (fun _ => 0 : Nat → Nat)).1)) := fun z => m z.1
      rw [if_neg cnd] at p2 p5
      have yw : e + 1 = 0 ∨ 1000000 ≤ X := Or.inr (by omega)
      rw [if_pos yw] at e1
      obtain ⟨y1, y2⟩ := xN yw
      obtain ⟨-, -, p57, -⟩ := p5
      obtain ⟨k1, k2⟩ := p57 (by decide)
      rw [v_stop (by simp only; omega), if_pos (by decide)] at p2
      obtain ⟨t1, t2, t3⟩ := fin h5 ng gv p3 (p4.trans s4) b3 (y1.trans c3) (k1.trans g463) (fun i hi => ⟨(y2 i).trans (r3 i hi).1, (k2 i).trans ((a469 i).trans (r3 i hi).2)⟩)
      exact ⟨iI (-2), h1, h5, e1, st.trans p2, t1, t2, t3⟩
