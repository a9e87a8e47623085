/-! ===== tie and untie: class beside reference ===== -/
theorem t_tie {N : Nat} (hN : 100000000 ≤ N) {h : Hs} (hS : Sk h) (hz : 70 ≤ sz h) {nr nt nd : Nat} {rA tA dA rT : Nat → Nat} {wy gr hd : Nat → Int} {gn : Nat → Bool} {tl tw tg ls ms pa ds : Nat → Int} {dr td : Nat → Option Nat} {sr dn : Nat → Int} (hT : RTh h nt tA tl tw tg ls ms pa) (hD : RDr h nd dA ds) (hR : RRo h nr nt rA tA rT wy gr hd gn) (hI : RTi h nt nd nr tA dA rA rT dr td sr dn) (hB : ICan h) (p1 p2 : Int32) :
    ∃ (a : Int32) (h1 h2 : Hs) (dr' td' : Nat → Option Nat) (sr' dn' : Nat → Int), fX11_tie N h 0 p1 p2 = some (a, h1) ∧ fX12_tie N h1 29 p1 p2 = some (a, h2) ∧ RTi h2 nt nd nr tA dA rA rT dr' td' sr' dn' ∧ ICn h h2 ∧ Ke [406, 407, 1106, 1243] [36, 42, 43] [405, 909] [] h h2 ∧ sz h2 = sz h ∧ ((dr' = dr ∧ td' = td ∧ sr' = sr ∧ dn' = dn) ∨ ∃ r d : Nat, r < nr ∧ d < nd ∧ gn r = false ∧ td (rT r) = none ∧ dr' = updO dr r (some d) ∧ td' = updO td (rT r) (some r) ∧ sr' = updO sr r (pa (rT r)) ∧ dn' = updO dn r 0) := by
  obtain ⟨z, z1, z2, rfl⟩ := iI_ex p1
  obtain ⟨y, y1, y2, rfl⟩ := iI_ex p2
  obtain ⟨hC, hM, hL⟩ := RTi_iff.mp hI
  obtain ⟨c, b1, b2, b3⟩ := hB
  have bt : ∀ i, i < nt → tA i < sz h := fun i hi => (hT.2.1 i hi).1.2.2.1
  have br : ∀ r, r < nr → rA r < sz h := fun r hr => (hR.2.1 r hr).1.2.2.1
  obtain ⟨cN, cY⟩ := c_tie (N := N) hS hz hR hT hD hC z y z1 z2 y1 y2
  obtain ⟨mN, mY⟩ := m_tie hN hS hz hR hT hD hM hL z y z1 z2 y1 y2
  have no : ∀ v : Int, v = -1 ∨ v = -2 → fX5_tieRope N h 14 (iI z) (iI y) = some (iI v, h) → fX12_tieNow N h 29 (iI z) (iI y) = some (iI v, h) → fX11_tie N h 0 (iI z) (iI y) = some (iI v, h) ∧ fX12_tie N h 29 (iI z) (iI y) = some (iI v, uI h 1243 29 (iI c)) := by
    intro v hv e1 e2
    have t1 := v_tieC hS hS (by omega) (by omega) e1
    have t2 := v_tieR hS hS (by omega) (by omega) b2 b3 e2
    rw [if_pos (by omega)] at t1 t2
    exact ⟨t1, t2⟩
  have kw : Ke [406, 407, 1106, 1243] [36, 42, 43] [405, 909] [] h (uI h 1243 29 (iI c)) := Ke_rf.u _ _ _ (by decide)
  have kn : Ke [1243] [] [] [] h (uI h 1243 29 (iI c)) := Ke_rf.u _ _ _ (by decide)
  have iw : RTi (uI h 1243 29 (iI c)) nt nd nr tA dA rA rT dr td sr dn := hI.e hz bt br kn (by decide) (by decide) (by decide)
  have cw : ICn h (uI h 1243 29 (iI c)) := ⟨c, by simp [HR, b1], by simp [HR], b3.imp id (fun e => ⟨e, by rw [b1, e]⟩)⟩
  by_cases w : (0 ≤ z ∧ z ≤ (nr : Int) - 1) ∧ 0 ≤ y ∧ y ≤ (nd : Int) - 1
  · obtain ⟨r, hzr⟩ : ∃ r : Nat, z = r := ⟨z.toNat, by omega⟩
    obtain ⟨d, hyd⟩ : ∃ d : Nat, y = d := ⟨y.toNat, by omega⟩
    have hr : r < nr := by omega
    have hd' : d < nd := by omega
    by_cases w2 : gn r = false ∧ td (rT r) = none ∧ ldv (tg (rT r)) (gr r) ≤ hd r
    · have e1 := (cY r d hzr hyd hr hd').2 w2
      obtain ⟨w3, w4, w5⟩ := w2
      obtain ⟨-, -, -, q1, q2, q3, q4, q5, q6⟩ := hR.2.1 r hr
      have bb := (hT.2.1 (rT r) q1).2.2.2
      have lb := ldv_b (g := tg (rT r)) (r := gr r) (by omega) (by omega)
      have v1 : 0 ≤ hd r - ldv (tg (rT r)) (gr r) := by omega
      have v2 : hd r - ldv (tg (rT r)) (gr r) ≤ 9999 := by omega
      have k1 := Ke_tieH (h := h) (ra := rA r) (ta := tA (rT r)) (da := dA d) (p := pa (rT r))
      have hS1 := hS.e hz k1 (by decide)
      have hC1 := RTc.tie (d := d) (dA := dA) (nd := nd) (rT := rT) hC hT.2.2 hR.2.2 hr q1 (pa (rT r))
      have c1 := v_tieC hS hS1 (by omega) (by omega) e1
      rw [if_neg (by omega)] at c1
      obtain ⟨ha, hha⟩ : ∃ ha, ha = tieH h (rA r) (tA (rT r)) (dA d) (pa (rT r)) := ⟨_, rfl⟩
      rw [← hha] at c1 hC1 k1 hS1
      have sa : sz ha = sz h := by rw [hha]; rfl
      have k2 : Ke [406, 407, 1106] [] [405, 909] [] h (uI ha 1106 0 (iI 0)) := by
        rw [hha]
        exact ((((Ke_rf.r _ _ _ (by decide)).u _ _ _ (by decide)).u _ _ _ (by decide)).r _ _ _ (by decide)).u _ _ _ (by decide)
      have kx : Ke [406, 407, 1106, 1243] [36, 42, 43] [405, 909] [] h (uI ha 1106 0 (iI 0)) := by
        rw [hha]
        exact ((((Ke_rf.r _ _ _ (by decide)).u _ _ _ (by decide)).u _ _ _ (by decide)).r _ _ _ (by decide)).u _ _ _ (by decide)
      have ka : Ke [1106, 1243] [36, 42, 43] [] [] ha (uI ha 1106 0 (iI 0)) := Ke_rf.u _ _ _ (by decide)
      have c11 : gI (uI ha 1106 0 (iI 0)) 1106 0 = iI 0 := by simp [HR]
      obtain ⟨hb, hhb⟩ : ∃ hb, hb = uI ha 1106 0 (iI 0) := ⟨_, rfl⟩
      rw [← hhb] at c1 k2 kx ka c11
      have sb : sz hb = sz h := by rw [hhb]; exact sa
      have zb : 70 ≤ sz hb := by omega
      have hS2 := hS.e hz k2 (by decide)
      have hR2 := hR.e hz k2 (by decide) (by decide) (by decide) (by decide)
      have hT2 := hT.e hz k2 (by decide) (by decide) (by decide)
      have hD2 := hD.e hz k2 (by decide) (by decide) (by decide)
      have hM2 := hM.e hz k2 (by decide)
      have e2 := ((m_tie hN hS2 zb hR2 hT2 hD2 hM2 hL z y z1 z2 y1 y2).2 r d hzr hyd hr hd').2 ⟨w3, w4, w5⟩
      have k3 : Ke [1243] [36, 42, 43] [] [] hb (tieM hb r (rT r) d (pa (rT r))) := (Kq_tieM.w (fun _ q => absurd q List.not_mem_nil) (fun _ q => q)).e
      have kb : Ke [1106, 1243] [36, 42, 43] [] [] hb (tieM hb r (rT r) d (pa (rT r))) := (Kq_tieM.w (fun _ q => absurd q List.not_mem_nil) (fun _ q => q)).e
      have kc : Ke [406, 407, 1106, 1243] [36, 42, 43] [405, 909] [] hb (tieM hb r (rT r) d (pa (rT r))) := (Kq_tieM.w (fun _ q => absurd q List.not_mem_nil) (fun _ q => q)).e
      have hS3 := hS2.e zb k3 (by decide)
      have hM3 : RTm (tieM hb r (rT r) d (pa (rT r))) nr rT (updO dr r (some d)) (updO sr r (pa (rT r))) (updO dn r 0) := RTm.tie hM2 hL hr w4 (pa (rT r))
      have g43 : gI (tieM hb r (rT r) d (pa (rT r))) 1243 29 = iI c := by
        rw [(Kq_tieM (h := hb) (r := r) (t := rT r) (d := d) (p := pa (rT r))).1 1243 29 (by decide), k2.1 1243 29 (by decide) (by omega)]
        exact b2
      have c12 : gI (tieM hb r (rT r) d (pa (rT r))) 1106 0 = iI 0 := by
        rw [(Kq_tieM (h := hb) (r := r) (t := rT r) (d := d) (p := pa (rT r))).1 1106 0 (by decide)]
        exact c11
      have sc : sz (tieM hb r (rT r) d (pa (rT r))) = sz h := sb
      have m1 := v_tieR hS2 hS3 (by omega) (by omega) g43 b3 e2
      rw [if_neg (by omega)] at m1
      obtain ⟨hc, hhc⟩ : ∃ hc, hc = tieM hb r (rT r) d (pa (rT r)) := ⟨_, rfl⟩
      rw [← hhc] at m1 k3 kb kc hS3 hM3 c12 sc
      refine ⟨_, hb, uI hc 1243 29 (iI 0), updO dr r (some d), updO td (rT r) (some r), updO sr r (pa (rT r)), updO dn r 0, c1, m1, RTi_iff.mpr ⟨?_, ?_, RTl.tie hL hr hd' w4⟩, ⟨0, ?_, ?_, Or.inl rfl⟩, (kx.tr kc).u _ _ _ (by decide), sc, Or.inr ⟨r, d, hr, hd', w3, w4, rfl, rfl, rfl, rfl⟩⟩
      · exact hC1.e (fun i hi => by rw [sa]; exact bt i hi) (fun q hq => by rw [sa]; exact br q hq) ((ka.tr kb).u 1243 29 (iI 0) (by decide)) (by decide) (by decide)
      · exact hM3.e (by omega) ((Ke_rf (F := [1243]) (A := []) (FR := []) (AQ := [])).u 1243 29 (iI 0) (by decide)) (by decide)
      · simp [HR, c12]
      · simp [HR]
    · have e := no (-2) (Or.inr rfl) ((cY r d hzr hyd hr hd').1 w2) ((mY r d hzr hyd hr hd').1 w2)
      exact ⟨_, h, _, dr, td, sr, dn, e.1, e.2, iw, cw, kw, rfl, Or.inl ⟨rfl, rfl, rfl, rfl⟩⟩
  · have e := no (-1) (Or.inl rfl) (cN w) (mN w)
    exact ⟨_, h, _, dr, td, sr, dn, e.1, e.2, iw, cw, kw, rfl, Or.inl ⟨rfl, rfl, rfl, rfl⟩⟩
theorem t_untie {N : Nat} {h : Hs} (hS : Sk h) (hz : 70 ≤ sz h) {nr nt nd : Nat} {rA tA dA rT : Nat → Nat} {wy gr hd : Nat → Int} {gn : Nat → Bool} {tl tw tg ls ms pa : Nat → Int} {dr td : Nat → Option Nat} {sr dn : Nat → Int} (hT : RTh h nt tA tl tw tg ls ms pa) (hnd : nd ≤ 20) (hR : RRo h nr nt rA tA rT wy gr hd gn) (hI : RTi h nt nd nr tA dA rA rT dr td sr dn) (hB : ICan h) (hdn : ∀ r, r < nr → dr r ≠ none → -1000000000 ≤ dn r ∧ dn r ≤ 1000000000) (p1 : Int32) :
    ∃ (a : Int32) (h1 h2 : Hs) (dr' td' : Nat → Option Nat), fX11_untie N h 0 p1 = some (a, h1) ∧ fX12_untie N h1 29 p1 = some (a, h2) ∧ RTi h2 nt nd nr tA dA rA rT dr' td' sr dn ∧ ICn h h2 ∧ Ke [407, 1106, 1243] [42] [405, 909] [] h h2 ∧ sz h2 = sz h ∧ ((dr' = dr ∧ td' = td) ∨ ∃ r d : Nat, r < nr ∧ dr r = some d ∧ dr' = updO dr r none ∧ td' = updO td (rT r) none) := by
  obtain ⟨z, z1, z2, rfl⟩ := iI_ex p1
  obtain ⟨hC, hM, hL⟩ := RTi_iff.mp hI
  obtain ⟨c, b1, b2, b3⟩ := hB
  have bt : ∀ i, i < nt → tA i < sz h := fun i hi => (hT.2.1 i hi).1.2.2.1
  have br : ∀ r, r < nr → rA r < sz h := fun r hr => (hR.2.1 r hr).1.2.2.1
  rcases c_untie (N := N) (nd := nd) (rT := rT) hS hR hT hC z z1 z2 with ⟨w, e1⟩ | ⟨r, d0, hzr, hr, hd0, e1⟩
  · have e2 := (m_untie (N := N) hS hR hM hL hnd z z1 z2).1 w
    have t1 := v_untieC hS hS (by omega) (by omega) e1
    have t2 := v_untieR hS hS (by omega) (by omega) b2 b3 e2
    rw [if_pos rfl] at t1 t2
    have kn : Ke [1243] [] [] [] h (uI h 1243 29 (iI c)) := Ke_rf.u _ _ _ (by decide)
    exact ⟨_, h, _, dr, td, t1, t2, hI.e hz bt br kn (by decide) (by decide) (by decide), ⟨c, by simp [HR, b1], by simp [HR], b3.imp id (fun e => ⟨e, by rw [b1, e]⟩)⟩, Ke_rf.u _ _ _ (by decide), rfl, Or.inl ⟨rfl, rfl⟩⟩
  · obtain ⟨-, -, -, q1, -⟩ := hR.2.1 r hr
    have hne : dr r ≠ none := by rw [hd0]; exact fun q => by cases q
    have bd := hdn r hr hne
    obtain ⟨ha, hha⟩ : ∃ ha, ha = uR (uI (uR h 405 (rA r) none) 407 (rA r) (iI 0)) 909 (tA (rT r)) none := ⟨_, rfl⟩
    have k1 : Ke [407] [] [405, 909] [] h ha := by
      rw [hha]
      exact ((Ke_rf.r _ _ _ (by decide)).u _ _ _ (by decide)).r _ _ _ (by decide)
    have kx : Ke [407, 1106, 1243] [42] [405, 909] [] h ha := by
      rw [hha]
      exact ((Ke_rf.r _ _ _ (by decide)).u _ _ _ (by decide)).r _ _ _ (by decide)
    have hC1 := RTc.loose (dA := dA) hC hL hT.2.2 hR.2.2 hr q1 (iI 0)
    have sa : sz ha = sz h := by rw [hha]; rfl
    rw [← hha] at e1 hC1
    have hS1 := hS.e hz k1 (by decide)
    have c1 := v_untieC hS hS1 (by omega) (by omega) e1
    rw [if_neg (by omega)] at c1
    obtain ⟨hb, hhb⟩ : ∃ hb, hb = uI ha 1106 0 (iI 0) := ⟨_, rfl⟩
    have ka : Ke [1106, 1243] [42] [] [] ha hb := by
      rw [hhb]
      exact Ke_rf.u _ _ _ (by decide)
    have k2 : Ke [407, 1106, 1243] [42] [405, 909] [] h hb := by
      rw [hhb]
      exact kx.u _ _ _ (by decide)
    have k4 : Ke [407, 1106] [] [405, 909] [] h hb := by
      rw [hhb, hha]
      exact (((Ke_rf.r _ _ _ (by decide)).u _ _ _ (by decide)).r _ _ _ (by decide)).u _ _ _ (by decide)
    have c11 : gI hb 1106 0 = iI 0 := by rw [hhb]; simp [HR]
    rw [← hhb] at c1
    have sb : sz hb = sz h := by rw [hhb]; exact sa
    have hS2 := hS.e hz k4 (by decide)
    have hR2 := hR.e hz k4 (by decide) (by decide) (by decide) (by decide)
    have hM2 := hM.e hz k4 (by decide)
    have e2 := (m_untie (N := N) hS2 hR2 hM2 hL hnd z z1 z2).2 r d0 hzr hr hd0
    have hM3 := RTm.loose hM2 hr
    have g43 : gI (uA hb 42 r (iI (-1))) 1243 29 = iI c := by
      rw [show gI (uA hb 42 r (iI (-1))) 1243 29 = gI hb 1243 29 from rfl, k4.1 1243 29 (by decide) (by omega)]
      exact b2
    have hS3 : Sk (uA hb 42 r (iI (-1))) := hS2.k (Kq_uA 42 _ _)
    have m1 := v_untieR hS2 hS3 (by omega) (by omega) g43 b3 e2
    rw [if_neg (by omega)] at m1
    refine ⟨_, hb, uI (uA hb 42 r (iI (-1))) 1243 29 (iI 0), updO dr r none, updO td (rT r) none, c1, m1, RTi_iff.mpr ⟨?_, ?_, RTl.loose hL hr hd0⟩, ⟨0, ?_, ?_, Or.inl rfl⟩, (k2.b _ _ _ (by decide)).u _ _ _ (by decide), sb, Or.inr ⟨r, d0, hr, hd0, rfl, rfl⟩⟩
    · exact hC1.e (fun i hi => by rw [sa]; exact bt i hi) (fun q hq => by rw [sa]; exact br q hq) ((ka.b 42 r (iI (-1)) (by decide)).u 1243 29 (iI 0) (by decide)) (by decide) (by decide)
    · exact hM3.e (by show 70 ≤ sz hb; omega) ((Ke_rf (F := [1243]) (A := []) (FR := []) (AQ := [])).u 1243 29 (iI 0) (by decide)) (by decide)
    · simp [HR, c11]
    · simp [HR]
