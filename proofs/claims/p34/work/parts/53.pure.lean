/-! ===== tie and untie: class beside reference ===== -/
theorem t_tie {N : Nat} (hN : 100000000 ≤ N) {h : Hs} (hS : Sk h) (hz : 70 ≤ sz h) {nr nt nd : Nat} {rA tA dA rT : Nat → Nat} {wy gr hd : Nat → Int} {gn : Nat → Bool} {tl tw tg ls ms pa ds : Nat → Int} {dr td : Nat → Option Nat} {sr dn : Nat → Int} (hT : RTh h nt tA tl tw tg ls ms pa) (hD : RDr h nd dA ds) (hR : RRo h nr nt rA tA rT wy gr hd gn) (hI : RTi h nt nd nr tA dA rA rT dr td sr dn) (hB : ICan h) (p1 p2 : Int32) :
    ∃ (a : Int32) (h1 h2 : Hs) (dr' td' : Nat → Option Nat) (sr' dn' : Nat → Int), fX11_tie N h 0 p1 p2 = some (a, h1) ∧ fX12_tie N h1 29 p1 p2 = some (a, h2) ∧ RTi h2 nt nd nr tA dA rA rT dr' td' sr' dn' ∧ ICn h h2 ∧ Ke [406, 407, 1106, 1243] [36, 42, 43] [405, 909] [] h h2 ∧ sz h2 = sz h ∧ ((dr' = dr ∧ td' = td ∧ sr' = sr ∧ dn' = dn) ∨ ∃ r d : Nat, r < nr ∧ d < nd ∧ gn r = false ∧ td (rT r) = none ∧ dr' = updO dr r (some d) ∧ td' = updO td (rT r) (some r) ∧ sr' = updO sr r (pa (rT r)) ∧ dn' = updO dn r 0) := by
  obtain ⟨z, z1, z2, rfl⟩ := iI_ex p1
  obtain ⟨y, y1, y2, rfl⟩ := iI_ex p2
  obtain ⟨hC, hM, hL⟩ := RTi_iff.mp hI
  obtain ⟨c, b1, b2, b3⟩ := hB
  have bt : ∀ i, i < nt → tA i < sz h := fun i hi => (hT.2.1 i hi).1.2.2.1
  have br : ∀ r, r < nr → rA r < sz h := fun r hr => (hR.2.1 r hr).1.2.2.1
  obtain ⟨cN, cY⟩ := c_tie (N := N) hS hz hR hT hD hC z y z1 z2 y1 y2
  obtain ⟨mN, mY⟩ := m_tie hN hS hz hR hT hD hM hL z y z1 z2 y1 y2
  have no : ∀ v : Int, v = -1 ∨ v = -2 → fX5_tieRope N h 14 (iI z) (iI y) = some (iI v, h) → fX12_tieNow N h 29 (iI z) (iI y) = some (iI v, h) → fX11_tie N h 0 (iI z) (iI y) = some (iI v, h) ∧ fX12_tie N h 29 (iI z) (iI y) = some (iI v, uI h 1243 29 (iI c)) := by
    intro v hv e1 e2
    have t1 := v_tieC hS hS (by omega) (by omega) e1
    have t2 := v_tieR hS hS (by omega) (by omega) b2 b3 e2
    rw [if_pos (by omega)] at t1 t2
    exact ⟨t1, t2⟩
  have kw : Ke [406, 407, 1106, 1243] [36, 42, 43] [405, 909] [] h (uI h 1243 29 (iI c)) := Ke_rf.u _ _ _ (by decide)
  have kn : Ke [1243] [] [] [] h (uI h 1243 29 (iI c)) := Ke_rf.u _ _ _ (by decide)
  have iw : RTi (uI h 1243 29 (iI c)) nt nd nr tA dA rA rT dr td sr dn := hI.e hz bt br kn (by decide) (by decide) (by decide)
  have cw : ICn h (uI h 1243 29 (iI c)) := ⟨c, by simp [HR, b1], by simp [HR], b3.imp id (fun e => ⟨e, by rw [b1, e]⟩)⟩
  by_cases w : (0 ≤ z ∧ z ≤ (nr : Int) - 1) ∧ 0 ≤ y ∧ y ≤ (nd : Int) - 1
  · obtain ⟨r, hzr⟩ : ∃ r : Nat, z = r := ⟨z.toNat, by omega⟩
    obtain ⟨d, hyd⟩ : ∃ d : Nat, y = d := ⟨y.toNat, by omega⟩
    have hr : r < nr := by omega
    have hd' : d < nd := by omega
    by_cases w2 : gn r = false ∧ td (rT r) = none ∧ ldv (tg (rT r)) (gr r) ≤ hd r
    · have e1 := (cY r d hzr hyd hr hd').2 w2
      obtain ⟨w3, w4, w5⟩ := w2
      obtain ⟨-, -, -, q1, q2, q3, q4, q5, q6⟩ := hR.2.1 r hr
      have bb := (hT.2.1 (rT r) q1).2.2.2
      have lb := ldv_b (g := tg (rT r)) (r := gr r) (by omega) (by omega)
      have v1 : 0 ≤ hd r - ldv (tg (rT r)) (gr r) := by omega
      have v2 : hd r - ldv (tg (rT r)) (gr r) ≤ 9999 := by omega
      have k1 := Ke_tieH (h := h) (ra := rA r) (ta := tA (rT r)) (da := dA d) (p := pa (rT r))
      have hS1 := hS.e hz k1 (by decide)
      have hC1 := RTc.tie (d := d) (dA := dA) (nd := nd) (rT := rT) hC hT.2.2 hR.2.2 hr q1 (pa (rT r))
      have c1 := v_tieC hS hS1 (by omega) (by omega) e1
      rw [if_neg (by omega)] at c1
      obtain ⟨ha, hha⟩ : ∃ ha, ha = tieH h (rA r) (tA (rT r)) (dA d) (pa (rT r)) := ⟨_, rfl⟩
      rw [← hha] at c1 hC1 k1 hS1
      have sa : sz ha = sz h := by rw [hha]; rfl
      have k2 : Ke [406, 407, 1106] [] [405, 909] [] h (uI ha 1106 0 (iI 0)) := by
        rw [hha]
        exact ((((Ke_rf.r _ _ _ (by decide)).u _ _ _ (by decide)).u _ _ _ (by decide)).r _ _ _ (by decide)).u _ _ _ (by decide)
      have kx : Ke [406, 407, 1106, 1243] [36, 42, 43] [405, 909] [] h (uI ha 1106 0 (iI 0)) := by
        rw [hha]
        exact ((((Ke_rf.r _ _ _ (by decide)).u _ _ _ (by decide)).u _ _ _ (by decide)).r _ _ _ (by decide)).u _ _ _ (by decide)
      have ka : Ke [1106, 1243] [36, 42, 43] [] [] ha (uI ha 1106 0 (iI 0)) := Ke_rf.u _ _ _ (by decide)
      have c11 : gI (uI ha 1106 0 (iI 0)) 1106 0 = iI 0 := by simp [HR]
      obtain ⟨hb, hhb⟩ : ∃ hb, hb = uI ha 1106 0 (iI 0) := ⟨_, rfl⟩
      rw [← hhb] at c1 k2 kx ka c11
      have sb : sz hb = sz h := by rw [hhb]; exact sa
      have zb : 70 ≤ sz hb := by omega
      have hS2 := hS.e hz k2 (by decide)
      have hR2 := hR.e hz k2 (by decide) (by decide) (by decide) (by decide)
      have hT2 := hT.e hz k2 (by decide) (by decide) (by decide)
      have hD2 := hD.e hz k2 (by decide) (by decide) (by decide)
      have hM2 := hM.e hz k2 (by decide)
      have e2 := ((m_tie hN hS2 zb hR2 hT2 hD2 hM2 hL z y z1 z2 y1 y2).2 r d hzr hyd hr hd').2 ⟨w3, w4, w5⟩
      have k3 : Ke [1243] [36, 42, 43] [] [] hb (tieM hb r (rT r) d (pa (rT r))) := (Kq_tieM.w (fun _ q => absurd q List.not_mem_nil) (fun _ q => q)).e
      have kb : Ke [1106, 1243] [36, 42, 43] [] [] hb (tieM hb r (rT r) d (pa (rT r))) := (Kq_tieM.w (fun _ q => absurd q List.not_mem_nil) (fun _ q => q)).e
      have kc : Ke [406, 407, 1106, 1243] [36, 42, 43] [405, 909] [] hb (tieM hb r (rT r) d (pa (rT r))) := (Kq_tieM.w (fun _ q => absurd q List.not_mem_nil) (fun _ q => q)).e
      have hS3 := hS2.e zb k3 (by decide)
      have hM3 : RTm (tieM hb r (rT r) d (pa (rT r))) nr rT (updO dr r (some d)) (updO sr r (pa (rT r))) (updO dn r 0) := RTm.tie hM2 hL hr w4 (pa (rT r))
      have g43 : gI (tieM hb r (rT r) d (pa (rT r))) 1243 29 = iI c := by
        rw [(Kq_tieM (h := hb) (r := r) (t := rT r) (d := d) (p := pa (rT r))).1 1243 29 (by decide), k2.1 1243 29 (by decide) (by omega)]
        exact b2
      have c12 : gI (tieM hb r (rT r) d (pa (rT r))) 1106 0 = iI 0 := by
        rw [(Kq_tieM (h := hb) (r := r) (t := rT r) (d := d) (p := pa (rT r))).1 1106 0 (by decide)]
        exact c11
      have sc : sz (tieM hb r (rT r) d (pa (rT r))) = sz h := sb
      have m1 := v_tieR hS2 hS3 (by omega) (by omega) g43 b3 e2
      rw [if_neg (by omega)] at m1
      obtain ⟨hc, hhc⟩ : ∃ hc, hc = tieM hb r (rT r) d (pa (rT r)) := ⟨_, rfl⟩
      rw [← hhc] at m1 k3 kb kc hS3 hM3 c12 sc
      refine ⟨_, hb, uI hc 1243 29 (iI 0), updO dr r (some d), updO td (rT r) (some r), updO sr r (pa (rT r)), updO dn r 0, c1, m1, RTi_iff.mpr ⟨?_, ?_, RTl.tie hL hr hd' w4⟩, ⟨0, ?_, ?_, Or.inl rfl⟩, (kx.tr kc).u _ _ _ (by decide), sc, Or.inr ⟨r, d, hr, hd', w3, w4, rfl, rfl, rfl, rfl⟩⟩
      · exact hC1.e (fun i hi => by rw [sa]; exact bt i hi) (fun q hq => by rw [sa]; exact br q hq) ((ka.tr kb).u 1243 29 (iI 0) (by decide)) (by decide) (by decide)
      · exact hM3.e (by omega) ((Ke_rf (F := [1243]) (A := []) (FR := []) (AQ := [])).u 1243 29 (iI 0) (by decide)) (by decide)
      · simp [HR, c12]
      · simp [HR]
    · have e := no (-2) (Or.inr rfl) ((cY r d hzr hyd hr hd').1 w2) ((mY r d hzr hyd hr hd').1 w2)
      exact ⟨_, h, _, dr, td, sr, dn, e.1, e.2, iw, cw, kw, rfl, Or.inl ⟨rfl, rfl, rfl, rfl⟩⟩
  · have e := no (-1) (Or.inl rfl) (cN w) (mN w)
    exact ⟨_, h, _, dr, td, sr, dn, e.1, e.2, iw, cw, kw, rfl, Or.inl ⟨rfl, rfl, rfl, rfl⟩⟩
theorem t_untie {N : Nat} {h : Hs} (hS : Sk h) (hz : 70 ≤ sz h) {nr nt nd : Nat} {rA tA dA rT : Nat → Nat} {wy gr hd : Nat → Int} {gn : Nat → Bool} {tl tw tg ls ms pa : Nat → Int} {dr td : Nat → Option Nat} {sr dn : Nat → Int} (hT : RTh h nt tA tl tw tg ls ms pa) (hnd : nd ≤ 20) (hR : RRo h nr nt rA tA rT wy gr hd gn) (hI : RTi h nt nd nr tA dA rA rT dr td sr dn) (hB : ICan h) (hdn : ∀ r, r < nr → dr r ≠ none → -1000000000 ≤ dn r ∧ dn r ≤ 1000000000) (p1 : Int32) :
    ∃ (a : Int32) (h1 h2 : Hs) (dr' td' : Nat → Option Nat), fX11_untie N h 0 p1 = some (a, h1) ∧ fX12_untie N h1 29 p1 = some (a, h2) ∧ RTi h2 nt nd nr tA dA rA rT dr' td' sr dn ∧ ICn h h2 ∧ Ke [407, 1106, 1243] [42] [405, 909] [] h h2 ∧ sz h2 = sz h ∧ ((dr' = dr ∧ td' = td) ∨ ∃ r d : Nat, r < nr ∧ dr r = some d ∧ dr' = updO dr r none ∧ td' = updO td (rT r) none) := by
  obtain ⟨z, z1, z2, rfl⟩ := iI_ex p1
  obtain ⟨hC, hM, hL⟩ := RTi_iff.mp hI
  obtain ⟨c, b1, b2, b3⟩ := hB
  have bt : ∀ i, i < nt → tA i < sz h := fun i hi => (hT.2.1 i hi).1.2.2.1
  have br : ∀ r, r < nr → rA r < sz h := fun r hr => (hR.2.1 r hr).1.2.2.1
  rcases c_untie (N := N) (nd := nd) (rT := rT) hS hR hT hC z z1 z2 with ⟨w, e1⟩ | ⟨r, d0, hzr, hr, hd0, e1⟩
  · have e2 := (m_untie (N := N) hS hR hM hL hnd z z1 z2).1 w
    have t1 := v_untieC hS hS (by omega) (by omega) e1
    have t2 := v_untieR hS hS (by omega) (by omega) b2 b3 e2
    rw [if_pos rfl] at t1 t2
    have kn : Ke [1243] [] [] [] h (uI h 1243 29 (iI c)) := Ke_rf.u _ _ _ (by decide)
    exact ⟨_, h, _, dr, td, t1, t2, hI.e hz bt br kn (by decide) (by decide) (by decide), ⟨c, by simp [HR, b1], by simp [HR], b3.imp id (fun e => ⟨e, by rw [b1, e]⟩)⟩, Ke_rf.u _ _ _ (by decide), rfl, Or.inl ⟨rfl, rfl⟩⟩
  · obtain ⟨-, -, -, q1, -⟩ := hR.2.1 r hr
    have hne : dr r ≠ none := by rw [hd0]; exact fun q => by cases q
    have bd := hdn r hr hne
    obtain ⟨ha, hha⟩ : ∃ ha, ha = uR (uI (uR h 405 (rA r) none) 407 (rA r) (iI 0)) 909 (tA (rT r)) none := ⟨_, rfl⟩
    have k1 : Ke [407] [] [405, 909] [] h ha := by
      rw [hha]
      exact ((Ke_rf.r _ _ _ (by decide)).u _ _ _ (by decide)).r _ _ _ (by decide)
    have kx : Ke [407, 1106, 1243] [42] [405, 909] [] h ha := by
      rw [hha]
      exact ((Ke_rf.r _ _ _ (by decide)).u _ _ _ (by decide)).r _ _ _ (by decide)
    have hC1 := RTc.loose (dA := dA) hC hL hT.2.2 hR.2.2 hr q1 (iI 0)
    have sa : sz ha = sz h := by rw [hha]; rfl
    rw [← hha] at e1 hC1
    have hS1 := hS.e hz k1 (by decide)
    have c1 := v_untieC hS hS1 (by omega) (by omega) e1
    rw [if_neg (by omega)] at c1
    obtain ⟨hb, hhb⟩ : ∃ hb, hb = uI ha 1106 0 (iI 0) := ⟨_, rfl⟩
    have ka : Ke [1106, 1243] [42] [] [] ha hb := by
      rw [hhb]
      exact Ke_rf.u _ _ _ (by decide)
    have k2 : Ke [407, 1106, 1243] [42] [405, 909] [] h hb := by
      rw [hhb]
      exact kx.u _ _ _ (by decide)
    have k4 : Ke [407, 1106] [] [405, 909] [] h hb := by
      rw [hhb, hha]
      exact (((Ke_rf.r _ _ _ (by decide)).u _ _ _ (by decide)).r _ _ _ (by decide)).u _ _ _ (by decide)
    have c11 : gI hb 1106 0 = iI 0 := by rw [hhb]; simp [HR]
    rw [← hhb] at c1
    have sb : sz hb = sz h := by rw [hhb]; exact sa
    have hS2 := hS.e hz k4 (by decide)
    have hR2 := hR.e hz k4 (by decide) (by decide) (by decide) (by decide)
    have hM2 := hM.e hz k4 (by decide)
    have e2 := (m_untie (N := N) hS2 hR2 hM2 hL hnd z z1 z2).2 r d0 hzr hr hd0
    have hM3 := RTm.loose hM2 hr
    have g43 : gI (uA hb 42 r (iI (-1))) 1243 29 = iI c := by
      rw [show gI (uA hb 42 r (iI (-1))) 1243 29 = gI hb 1243 29 from rfl, k4.1 1243 29 (by decide) (by omega)]
      exact b2
    have hS3 : Sk (uA hb 42 r (iI (-1))) := hS2.k (Kq_uA 42 _ _)
    have m1 := v_untieR hS2 hS3 (by omega) (by omega) g43 b3 e2
    rw [if_neg (by omega)] at m1
    refine ⟨_, hb, uI (uA hb 42 r (iI (-1))) 1243 29 (iI 0), updO dr r none, updO td (rT r) none, c1, m1, RTi_iff.mpr ⟨?_, ?_, RTl.loose hL hr hd0⟩, ⟨0, ?_, ?_, Or.inl rfl⟩, (k2.b _ _ _ (by decide)).u _ _ _ (by decide), sb, Or.inr ⟨r, d0, hr, hd0, rfl, rfl⟩⟩
    · exact hC1.e (fun i hi => by rw [sa]; exact bt i hi) (fun q hq => by rw [sa]; exact br q hq) ((ka.b 42 r (iI (-1)) (by decide)).u 1243 29 (iI 0) (by decide)) (by decide) (by decide)
    · exact hM3.e (by show 70 ≤ sz hb; omega) ((Ke_rf (F := [1243]) (A := []) (FR := []) (AQ := [])).u 1243 29 (iI 0) (by decide)) (by decide)
    · simp [HR, c11]
    · simp [HR]
/-! ===== rope ===== -/
theorem qIv {h : Hs} {c j a : Nat} {v : Int32} (hs : (sh h a).1 = c) : qI c j h (some a) v = some (uI h (100 * c + j) a v) := by
  simp [qI, hs]
theorem sQv {h : Hs} {t c a n i q : Nat} (hs : sh h a = (t, n)) (hi : i < n) (hn : n < 5000) (hq : (sh h q).1 = c) : sQ t c h (some a) (iI i) (some q) = some (uQ h a i (some q)) := by
  have e1 : ixb (iI (i : Int)) n = true := ixb_i (by omega) (by omega) (by omega)
  have e2 : (iI (i : Int)).toNatClampNeg = i := by rw [iI_cl (by omega) (by omega)]; simp
  simp [sQ, hs, e1, e2, hq]
def ropeO (h : Hs) (nr ta : Nat) (w g x : Int) : Hs := uI (uI (uI (uR (uI (nw h (4, 0)) 400 (sz h) (iI nr)) 401 (sz h) (some ta)) 402 (sz h) (iI w)) 403 (sz h) (iI g)) 404 (sz h) (iI x)
def ropeH (h : Hs) (nr ta : Nat) (w g x : Int) : Hs := uI (uQ (ropeO h nr ta w g x) 17 nr (some (sz h))) 509 14 (iI (nr + 1))
def ropeM (h : Hs) (nr i : Nat) (w g x : Int) : Hs := uI (uI (uA (uA (uA (uA (uA h 38 nr (iI i)) 39 nr (iI g)) 40 nr (iI w)) 41 nr (iI x)) 42 nr (iI (-1))) 1211 29 (iI (nr + 1))) 1243 29 (iI 0)
theorem Ke_ropeO {h : Hs} {nr ta : Nat} {w g x : Int} : Ke [400, 402, 403, 404, 509] [] [401] [17] h (ropeO h nr ta w g x) := (((((Ke_rf.n _).u _ _ _ (by decide)).r _ _ _ (by decide)).u _ _ _ (by decide)).u _ _ _ (by decide)).u _ _ _ (by decide)
theorem Ke_ropeH {h : Hs} {nr ta : Nat} {w g x : Int} : Ke [400, 402, 403, 404, 509] [] [401] [17] h (ropeH h nr ta w g x) := (Ke_ropeO.q _ _ _ (by decide)).u _ _ _ (by decide)
theorem Kq_ropeM {h : Hs} {nr i : Nat} {w g x : Int} : Kq [1211, 1243] [38, 39, 40, 41, 42] h (ropeM h nr i w g x) := ((((((Kq_rf.b _ _ _ (by decide)).b _ _ _ (by decide)).b _ _ _ (by decide)).b _ _ _ (by decide)).b _ _ _ (by decide)).u _ _ _ (by decide)).u _ _ _ (by decide)
theorem v_ropeI {N : Nat} {h : Hs} {nr ta : Nat} {w g x : Int} : fX4_init N (nw h (4, 0)) (sz h) (iI nr) (some ta) (iI w) (iI g) (iI x) = some (ropeO h nr ta w g x) := by
  have e3 : (sh (nw h (4, 0)) (sz h)).1 = 4 := by rw [sh_nwS]
  simp [fX4_init, qI, qR, HR, e3, ropeO]
theorem c_rope {N : Nat} {h : Hs} (hS : Sk h) (hz : 70 ≤ sz h) {nr nt : Nat} {rA tA rT : Nat → Nat} {wy gr hd : Nat → Int} {gn : Nat → Bool} {tl tw tg ls ms pa : Nat → Int} (hR : RRo h nr nt rA tA rT wy gr hd gn) (hT : RTh h nt tA tl tw tg ls ms pa) (z y x g m : Int) (z1 : -2147483648 ≤ z) (z2 : z < 2147483648) (x1 : -2147483648 ≤ x) (x2 : x < 2147483648) (g1 : -1000000000 ≤ g) (g2 : g < 1000000000) (m1 : -10 < m) (m2 : m < 10) (dv : iI y / iI 10 = iI g) (mm : iI y - iI g * iI 10 = iI m) :
    (¬ ((0 ≤ z ∧ z ≤ (nt : Int) - 1) ∧ (1 ≤ g ∧ g ≤ 5) ∧ (1 ≤ m ∧ m ≤ 2) ∧ (1 ≤ x ∧ x ≤ 9999)) → fX5_addRope N h 14 (iI z) (iI y) (iI x) = some (iI (-1), h)) ∧ (∀ i : Nat, z = i → i < nt → 1 ≤ g ∧ g ≤ 5 → 1 ≤ m ∧ m ≤ 2 → 1 ≤ x ∧ x ≤ 9999 → (¬ nr < 40 → fX5_addRope N h 14 (iI z) (iI y) (iI x) = some (iI (-3), h)) ∧ (nr < 40 → fX5_addRope N h 14 (iI z) (iI y) (iI x) = some (iI nr, ropeH h nr (tA i) (if m = 1 then 1 else -1) g x))) := by
  obtain ⟨⟨c1, c2, c3⟩, -, -⟩ := hR
  have wg := v_isW (N := N) (h := h) (x := g) (a := 1) (b := 5) (by omega) (by omega) (by omega) (by omega) (by omega) (by omega)
  have wm := v_isW (N := N) (h := h) (x := m) (a := 1) (b := 2) (by omega) (by omega) (by omega) (by omega) (by omega) (by omega)
  have wx := v_isW (N := N) (h := h) (x := x) (a := 1) (b := 9999) (by omega) (by omega) (by omega) (by omega) (by omega) (by omega)
  have o9 : oI 5 9 h (some 14) = some (iI nr) := oIv (by rw [ss_14 hS]) c1
  have ex : ∃ o : Option Nat, fX5_thingNumbered N h 14 (iI z) = some (o, h) ∧ (o = none ∨ (0 ≤ z ∧ z ≤ (nt : Int) - 1)) := by
    by_cases w : 0 ≤ z ∧ z ≤ (nt : Int) - 1
    · obtain ⟨i, rfl⟩ : ∃ i : Nat, z = i := ⟨z.toNat, by omega⟩
      exact ⟨_, v_thingY (N := N) hS hT (i := i) (by omega), Or.inr w⟩
    · exact ⟨_, v_thingN (N := N) hS hT z1 z2 w, Or.inl rfl⟩
  obtain ⟨o, eo, ho⟩ := ex
  simp only [fX5_addRope, fX5_addRope_b43, fX5_addRope_b44, fX5_addRope_b67, fX5_addRope_b110, lit, iI_neg, dv, mm, Option.bind_some]
  refine ⟨fun hn => ?_, fun i hzi hi gg mg xg => ⟨fun hf => ?_, fun hf => ?_⟩⟩
  · by_cases a1 : 1 ≤ g ∧ g ≤ 5
    · rw [if_pos a1] at wg
      by_cases a2 : 1 ≤ m ∧ m ≤ 2
      · rw [if_pos a2] at wm
        cases o with
        | none =>
          refine bst (rcv (by rw [ss_14 hS])) ?_
          refine bst (eo) ?_
          refine bst (wg) ?_
          refine ifn (n10) ?_
          refine bst (wm) ?_
          refine ifn (n10) ?_
          refine ifp (rfl) ?_
          rfl
        | some t =>
          rcases ho with q | a3
          · cases q
          · rw [if_neg (fun q => hn ⟨a3, a1, a2, q⟩)] at wx
            refine bst (rcv (by rw [ss_14 hS])) ?_
            refine bst (eo) ?_
            refine bst (wg) ?_
            refine ifn (n10) ?_
            refine bst (wm) ?_
            refine ifn (n10) ?_
            refine ifn (fun q => by cases q) ?_
            refine ifn (n10) ?_
            refine bst (wx) ?_
            refine ifp (rfl) ?_
            rfl
      · rw [if_neg a2] at wm
        by_cases a4 : o = none
        · skip
          refine bst (rcv (by rw [ss_14 hS])) ?_
          refine bst (eo) ?_
          refine bst (wg) ?_
          refine ifn (n10) ?_
          refine bst (wm) ?_
          refine ifp (rfl) ?_
          refine ifp (a4) ?_
          rfl
        · skip
          refine bst (rcv (by rw [ss_14 hS])) ?_
          refine bst (eo) ?_
          refine bst (wg) ?_
          refine ifn (n10) ?_
          refine bst (wm) ?_
          refine ifp (rfl) ?_
          refine ifn (a4) ?_
          refine ifp (trivial) ?_
          rfl
    · rw [if_neg a1] at wg
      by_cases a4 : o = none
      · skip
        refine bst (rcv (by rw [ss_14 hS])) ?_
        refine bst (eo) ?_
        refine bst (wg) ?_
        refine ifp (rfl) ?_
        refine ifp (a4) ?_
        rfl
      · skip
        refine bst (rcv (by rw [ss_14 hS])) ?_
        refine bst (eo) ?_
        refine bst (wg) ?_
        refine ifp (rfl) ?_
        refine ifn (a4) ?_
        refine ifp (trivial) ?_
        rfl
  · rw [if_pos gg] at wg
    rw [if_pos mg] at wm
    rw [if_pos xg] at wx
    subst hzi
    have et := v_thingY (N := N) hS hT hi
    have w4 : ¬ iI (nr : Int) < iI 40 := fun q => by have := (iI_lt (by omega) (by omega) (by omega) (by omega)).mp q; omega
    refine bst (rcv (by rw [ss_14 hS])) ?_
    refine bst (et) ?_
    refine bst (wg) ?_
    refine ifn (n10) ?_
    refine bst (wm) ?_
    refine ifn (n10) ?_
    refine ifn (fun q => by cases q) ?_
    refine ifn (n10) ?_
    refine bst (wx) ?_
    refine ifn (n10) ?_
    refine bst (o9) ?_
    refine ifn (w4) ?_
    rfl
  · rw [if_pos gg] at wg
    rw [if_pos mg] at wm
    rw [if_pos xg] at wx
    subst hzi
    have et := v_thingY (N := N) hS hT hi
    have w4 : iI (nr : Int) < iI 40 := (iI_lt (by omega) (by omega) (by omega) (by omega)).mpr (by omega)
    have o9n : oI 5 9 (nw h (4, 0)) (some 14) = some (iI nr) := oIv (by rw [sh_nw (by omega), ss_14 hS]) (by rw [gI_nw (by omega)]; exact c1)
    have fin : ∀ w : Int, (fX4_init N (nw h (4, 0)) (sz h) (iI nr) (some (tA i)) (iI w) (iI g) (iI x)).bind (fun r1 => (sQ 25 4 r1 (some 17) (iI nr) (some (sz h))).bind fun h3 => (oI 5 9 h3 (some 14)).bind fun v4 => (qI 5 9 h3 (some 14) (v4 + iI 1)).bind fun h5 => some (v4, h5)) = some (iI nr, ropeH h nr (tA i) w g x) := by
      intro w
      have ko := Ke_ropeO (h := h) (nr := nr) (ta := tA i) (w := w) (g := g) (x := x)
      have so : (sh (ropeO h nr (tA i) w g x) (sz h)).1 = 4 := by simp [ropeO, HR, sh_nwS]
      have ri := v_ropeI (N := N) (h := h) (nr := nr) (ta := tA i) (w := w) (g := g) (x := x)
      have rq : ropeH h nr (tA i) w g x = uI (uQ (ropeO h nr (tA i) w g x) 17 nr (some (sz h))) 509 14 (iI (nr + 1)) := rfl
      have go : gI (ropeO h nr (tA i) w g x) 509 14 = iI nr := by simp only [ropeO, HR]; simp [HR]; rw [gI_nw (by omega)]; exact c1
      rw [rq]
      generalize ropeO h nr (tA i) w g x = h0 at ko so ri go ⊢
      have hS0 := hS.e hz ko (by decide)
      have s14 : (sh (uQ h0 17 nr (some (sz h))) 14).1 = 5 := by
        rw [show sh (uQ h0 17 nr (some (sz h))) 14 = sh h0 14 from rfl, ss_14 hS0]
      refine bst ri ?_
      refine bst (sQv (ss_17 hS0) (by omega) (by omega) so) ?_
      refine bst (oIv s14 (v := iI nr) go) ?_
      refine bst (qIv s14) ?_
      rw [iI_add]
    by_cases m9 : m = 1
    · have w5 : iI m = iI 1 := by rw [m9]
      rw [if_pos m9]
      refine bst (rcv (by rw [ss_14 hS])) ?_
      refine bst (et) ?_
      refine bst (wg) ?_
      refine ifn (n10) ?_
      refine bst (wm) ?_
      refine ifn (n10) ?_
      refine ifn (fun q => by cases q) ?_
      refine ifn (n10) ?_
      refine bst (wx) ?_
      refine ifn (n10) ?_
      refine bst (o9) ?_
      refine ifp (w4) ?_
      refine bst (sR_502_14 hS) ?_
      refine bst (o9) ?_
      refine bst (o9n) ?_
      refine ifp (w5) ?_
      exact fin 1
    · have w5 : ¬ iI m = iI 1 := fun q => m9 ((iI_eq (by omega) (by omega) (by omega) (by omega)).mp q)
      rw [if_neg m9]
      refine bst (rcv (by rw [ss_14 hS])) ?_
      refine bst (et) ?_
      refine bst (wg) ?_
      refine ifn (n10) ?_
      refine bst (wm) ?_
      refine ifn (n10) ?_
      refine ifn (fun q => by cases q) ?_
      refine ifn (n10) ?_
      refine bst (wx) ?_
      refine ifn (n10) ?_
      refine bst (o9) ?_
      refine ifp (w4) ?_
      refine bst (sR_502_14 hS) ?_
      refine bst (o9) ?_
      refine bst (o9n) ?_
      refine ifn (w5) ?_
      exact fin (-1)
theorem m_rope {N : Nat} {h : Hs} (hS : Sk h) {nr nt : Nat} (c2 : gI h 1211 29 = iI nr) (c3 : nr ≤ 40) (t2 : gI h 1201 29 = iI nt) (t3 : nt ≤ 40) (z y x g m : Int) (z1 : -2147483648 ≤ z) (z2 : z < 2147483648) (y1 : -2147483648 ≤ y) (y2 : y < 2147483648) (x1 : -2147483648 ≤ x) (x2 : x < 2147483648) (g1 : -1000000000 ≤ g) (g2 : g < 1000000000) (m1 : -10 < m) (m2 : m < 10) (dv : iI y / iI 10 = iI g) (mm : iI y - iI g * iI 10 = iI m) (gy : 1 ≤ g → 0 ≤ y) :
    (¬ ((0 ≤ z ∧ z ≤ (nt : Int) - 1) ∧ (1 ≤ g ∧ g ≤ 5) ∧ (1 ≤ m ∧ m ≤ 2) ∧ (1 ≤ x ∧ x ≤ 9999)) → fX12_rope N h 29 (iI z) (iI y) (iI x) = some (iI (-1), h)) ∧ (∀ i : Nat, z = i → i < nt → 1 ≤ g ∧ g ≤ 5 → 1 ≤ m ∧ m ≤ 2 → 1 ≤ x ∧ x ≤ 9999 → (¬ nr < 40 → fX12_rope N h 29 (iI z) (iI y) (iI x) = some (iI (-3), h)) ∧ (nr < 40 → fX12_rope N h 29 (iI z) (iI y) (iI x) = some (iI nr, ropeM h nr i (if m = 1 then 1 else -1) g x))) := by
  have wg := v_inW (N := N) (h := h) (x := g) (a := 1) (b := 5) (by omega) (by omega) (by omega) (by omega) (by omega) (by omega)
  have wm := v_inW (N := N) (h := h) (x := m) (a := 1) (b := 2) (by omega) (by omega) (by omega) (by omega) (by omega) (by omega)
  have wx := v_inW (N := N) (h := h) (x := x) (a := 1) (b := 9999) (by omega) (by omega) (by omega) (by omega) (by omega) (by omega)
  have o9 : oI 12 11 h (some 29) = some (iI nr) := oIv (by rw [ss_29 hS]) c2
  have it := v_isThing (N := N) hS t2 t3 z1 z2
  have ly : iI y < iI 0 ↔ y < 0 := iI_lt y1 y2 (by omega) (by omega)
  simp only [fX12_rope, fX12_rope_b47, fX12_rope_b105, lit, iI_neg, dv, mm]
  refine ⟨fun hn => ?_, fun i hzi hi gg mg xg => ⟨fun hf => ?_, fun hf => ?_⟩⟩
  · by_cases a0 : 0 ≤ z ∧ z ≤ (nt : Int) - 1
    · rw [if_pos a0] at it
      by_cases a1 : 1 ≤ g ∧ g ≤ 5
      · rw [if_pos a1] at wg
        have ny : ¬ iI y < iI 0 := fun q => by have := ly.mp q; have := gy a1.1; omega
        by_cases a2 : 1 ≤ m ∧ m ≤ 2
        · rw [if_pos a2] at wm
          rw [if_neg (fun q => hn ⟨a0, a1, a2, q⟩)] at wx
          refine bst (rcv (by rw [ss_29 hS])) ?_
          refine bst (it) ?_
          refine ifn (n10) ?_
          refine bst (wg) ?_
          refine ifn (n10) ?_
          refine ifn (ny) ?_
          refine bst (wm) ?_
          refine ifn (n10) ?_
          refine bst (wx) ?_
          refine ifp (rfl) ?_
          rfl
        · rw [if_neg a2] at wm
          refine bst (rcv (by rw [ss_29 hS])) ?_
          refine bst (it) ?_
          refine ifn (n10) ?_
          refine bst (wg) ?_
          refine ifn (n10) ?_
          refine ifn (ny) ?_
          refine bst (wm) ?_
          refine ifp (rfl) ?_
          rfl
      · rw [if_neg a1] at wg
        refine bst (rcv (by rw [ss_29 hS])) ?_
        refine bst (it) ?_
        refine ifn (n10) ?_
        refine bst (wg) ?_
        refine ifp (rfl) ?_
        rfl
    · rw [if_neg a0] at it
      refine bst (rcv (by rw [ss_29 hS])) ?_
      refine bst (it) ?_
      refine ifp (rfl) ?_
      rfl
  · subst hzi
    rw [if_pos (by omega)] at it
    rw [if_pos gg] at wg
    rw [if_pos mg] at wm
    rw [if_pos xg] at wx
    have ny : ¬ iI y < iI 0 := fun q => by have := ly.mp q; have := gy gg.1; omega
    have w4 : iI (nr : Int) = iI 40 := by rw [show (nr : Int) = 40 by omega]
    refine bst (rcv (by rw [ss_29 hS])) ?_
    refine bst (it) ?_
    refine ifn (n10) ?_
    refine bst (wg) ?_
    refine ifn (n10) ?_
    refine ifn (ny) ?_
    refine bst (wm) ?_
    refine ifn (n10) ?_
    refine bst (wx) ?_
    refine ifn (n10) ?_
    refine bst (o9) ?_
    refine ifp (w4) ?_
    rfl
  · subst hzi
    rw [if_pos (by omega)] at it
    rw [if_pos gg] at wg
    rw [if_pos mg] at wm
    rw [if_pos xg] at wx
    have ny : ¬ iI y < iI 0 := fun q => by have := ly.mp q; have := gy gg.1; omega
    have w4 : ¬ iI (nr : Int) = iI 40 := fun q => by have := (iI_eq (by omega) (by omega) (by omega) (by omega)).mp q; omega
    have hA : Sk (uA h 38 nr (iI i)) := hS.k (Kq_uA 38 _ _)
    have hB : Sk (uA (uA h 38 nr (iI i)) 39 nr (iI g)) := hA.k (Kq_uA 39 _ _)
    have oA : ∀ h' : Hs, Sk h' → gI h' 1211 29 = iI nr → oI 12 11 h' (some 29) = some (iI nr) := fun h' s e => oIv (by rw [ss_29 s]) e
    have fin : ∀ w : Int, (sA (uA (uA h 38 nr (iI i)) 39 nr (iI g)) (some 40) (iI nr) (iI w)).bind (fun h1 => (oR 12 15 h1 (some 29)).bind fun o2 => (oI 12 11 h1 (some 29)).bind fun v3 => (sA h1 o2 v3 (iI x)).bind fun h4 => (oR 12 16 h4 (some 29)).bind fun o5 => (oI 12 11 h4 (some 29)).bind fun v6 => (sA h4 o5 v6 (iI (-1))).bind fun h7 => (oI 12 11 h7 (some 29)).bind fun v8 => (qI 12 11 h7 (some 29) (v8 + iI 1)).bind fun h9 => (qZ 12 43 h9 (some 29) (iI 0)).bind fun h10 => (oI 12 11 h10 (some 29)).bind fun v11 => some (v11 - iI 1, h10)) = some (iI nr, ropeM h nr i w g x) := by
      intro w
      have hC : Sk (uA (uA (uA h 38 nr (iI i)) 39 nr (iI g)) 40 nr (iI w)) := hB.k (Kq_uA 40 _ _)
      have hD : Sk (uA (uA (uA (uA h 38 nr (iI i)) 39 nr (iI g)) 40 nr (iI w)) 41 nr (iI x)) := hC.k (Kq_uA 41 _ _)
      have hE : Sk (uA (uA (uA (uA (uA h 38 nr (iI i)) 39 nr (iI g)) 40 nr (iI w)) 41 nr (iI x)) 42 nr (iI (-1))) := hD.k (Kq_uA 42 _ _)
      obtain ⟨hc, ec⟩ : ∃ hc, hc = uA (uA (uA h 38 nr (iI i)) 39 nr (iI g)) 40 nr (iI w) := ⟨_, rfl⟩
      have rq : ropeM h nr i w g x = uI (uI (uA (uA (uA (uA (uA h 38 nr (iI i)) 39 nr (iI g)) 40 nr (iI w)) 41 nr (iI x)) 42 nr (iI (-1))) 1211 29 (iI (nr + 1))) 1243 29 (iI 0) := rfl
      refine bst (sAv (ss_40 hB) (by omega) (by omega)) ?_
      rw [rq]
      refine bst (sR_1215_29 hC) ?_
      refine bst (oA _ hC c2) ?_
      refine bst (sAv (ss_41 hC) (by omega) (by omega)) ?_
      refine bst (sR_1216_29 hD) ?_
      refine bst (oA _ hD c2) ?_
      refine bst (sAv (ss_42 hD) (by omega) (by omega)) ?_
      refine bst (oA _ hE c2) ?_
      refine bst (qIv (by rw [ss_29 hE])) ?_
      rw [iI_add]
      generalize uA (uA (uA (uA (uA h 38 nr (iI i)) 39 nr (iI g)) 40 nr (iI w)) 41 nr (iI x)) 42 nr (iI (-1)) = he at hE ⊢
      have hF : Sk (uI he 1211 29 (iI ((nr : Int) + 1))) := hE.k (Kq_uI 1211 _ _)
      refine bst (qZv (v := 0) (by rw [ss_29 hF]) (Or.inl rfl)) ?_
      refine bst (oIv (v := iI ((nr : Int) + 1)) (by rw [ss_29 (hF.k (Kq_uI 1243 _ _))]) (by simp [HR])) ?_
      rw [iI_sub]
      simp
    by_cases m9 : m = 1
    · have w5 : iI m = iI 1 := by rw [m9]
      rw [if_pos m9]
      refine bst (rcv (by rw [ss_29 hS])) ?_
      refine bst (it) ?_
      refine ifn (n10) ?_
      refine bst (wg) ?_
      refine ifn (n10) ?_
      refine ifn (ny) ?_
      refine bst (wm) ?_
      refine ifn (n10) ?_
      refine bst (wx) ?_
      refine ifn (n10) ?_
      refine bst (o9) ?_
      refine ifn (w4) ?_
      refine bst (sR_1212_29 hS) ?_
      refine bst (o9) ?_
      refine bst (sAv (ss_38 hS) (by omega) (by omega)) ?_
      refine bst (sR_1213_29 hA) ?_
      refine bst (oA _ hA c2) ?_
      refine bst (sAv (ss_39 hA) (by omega) (by omega)) ?_
      refine bst (sR_1214_29 hB) ?_
      refine bst (oA _ hB c2) ?_
      refine ifp (w5) ?_
      exact fin 1
    · have w5 : ¬ iI m = iI 1 := fun q => m9 ((iI_eq (by omega) (by omega) (by omega) (by omega)).mp q)
      rw [if_neg m9]
      refine bst (rcv (by rw [ss_29 hS])) ?_
      refine bst (it) ?_
      refine ifn (n10) ?_
      refine bst (wg) ?_
      refine ifn (n10) ?_
      refine ifn (ny) ?_
      refine bst (wm) ?_
      refine ifn (n10) ?_
      refine bst (wx) ?_
      refine ifn (n10) ?_
      refine bst (o9) ?_
      refine ifn (w4) ?_
      refine bst (sR_1212_29 hS) ?_
      refine bst (o9) ?_
      refine bst (sAv (ss_38 hS) (by omega) (by omega)) ?_
      refine bst (sR_1213_29 hA) ?_
      refine bst (oA _ hA c2) ?_
      refine bst (sAv (ss_39 hA) (by omega) (by omega)) ?_
      refine bst (sR_1214_29 hB) ?_
      refine bst (oA _ hB c2) ?_
      refine ifn (w5) ?_
      exact fin (-1)
theorem v_ropeC {N : Nat} {h h1 : Hs} (hS : Sk h) (hS1 : Sk h1) {p1 p2 p3 : Int32} {v : Int} (b1 : -2147483648 ≤ v) (b2 : v < 2147483648) (e : fX5_addRope N h 14 p1 p2 p3 = some (iI v, h1)) : fX11_rope N h 0 p1 p2 p3 = some (iI v, if v < 0 then h1 else uI h1 1106 0 (iI 0)) := by
  have d0 := v_deed (N := N) hS1 (r := iI v) (z := 0) (Or.inl rfl)
  have d1 := v_deed (N := N) hS1 (r := iI v) (z := 1) (Or.inr rfl)
  rw [if_neg (by decide)] at d0
  rw [if_pos rfl] at d1
  have lt : iI v < iI 0 ↔ v < 0 := iI_lt (by omega) (by omega) (by omega) (by omega)
  have rc1 : rc 11 h1 (some 0) = some 0 := rcv (by rw [ss_0 hS1])
  have rc5 : rc 5 h (some 14) = some 14 := rcv (by rw [ss_14 hS])
  simp only [fX11_rope, fX11_rope_b25, lit]
  by_cases w : v < 0
  · rw [if_pos w]
    refine bst (sR_1100_0 hS) ?_
    refine bst (rc5) ?_
    refine bst (e) ?_
    refine ifp (lt.mpr w) ?_
    refine bst (rc1) ?_
    refine bst (d0) ?_
    rfl
  · rw [if_neg w]
    refine bst (sR_1100_0 hS) ?_
    refine bst (rc5) ?_
    refine bst (e) ?_
    refine ifn (fun q => w (lt.mp q)) ?_
    refine bst (rc1) ?_
    refine bst (d1) ?_
    rfl
/-- both have made rope nr -/
def ropeB (h : Hs) (nr i ta : Nat) (w g x : Int) : Hs := ropeM (uI (ropeH h nr ta w g x) 1106 0 (iI 0)) nr i w g x
theorem Ke_ropeB {h : Hs} {nr i ta : Nat} {w g x : Int} : Ke [400, 402, 403, 404, 509, 1106, 1211, 1243] [38, 39, 40, 41, 42] [401] [17] h (ropeB h nr i ta w g x) := (((((((((((((((Ke_rf.n _).u _ _ _ (by decide)).r _ _ _ (by decide)).u _ _ _ (by decide)).u _ _ _ (by decide)).u _ _ _ (by decide)).q _ _ _ (by decide)).u _ _ _ (by decide)).u _ _ _ (by decide)).b _ _ _ (by decide)).b _ _ _ (by decide)).b _ _ _ (by decide)).b _ _ _ (by decide)).b _ _ _ (by decide)).u _ _ _ (by decide)).u _ _ _ (by decide)
theorem RRo.add {h : Hs} {nr nt : Nat} {rA tA rT : Nat → Nat} {wy gr hd : Nat → Int} {gn : Nat → Bool} (hz : 70 ≤ sz h) (hR : RRo h nr nt rA tA rT wy gr hd gn) (hG : ∀ r, nr ≤ r → r < 40 → aI h 44 r = iI 0) {i : Nat} {w g x : Int} (hn : nr < 40) (hi : i < nt) (hw : w = 1 ∨ w = -1) (hg : 1 ≤ g ∧ g ≤ 5) (hx : 1 ≤ x ∧ x ≤ 9999) : RRo (ropeB h nr i (tA i) w g x) (nr + 1) nt (updO rA nr (sz h)) tA (updO rT nr i) (updO wy nr w) (updO gr nr g) (updO hd nr x) (updO gn nr false) := by
  obtain ⟨⟨c1, c2, c3⟩, c4, c5⟩ := hR
  have ke := Ke_ropeB (h := h) (nr := nr) (i := i) (ta := tA i) (w := w) (g := g) (x := x)
  have k6 := ke.2.2.2.2.2
  have g44 : aI (ropeB h nr i (tA i) w g x) 44 = aI h 44 := ke.2.1 44 (by decide) (by omega)
  refine ⟨⟨?_, ?_, by omega⟩, fun r hr => ?_, fun q r hq hr => ?_⟩
  · simp [ropeB, ropeM, ropeH, HR]
  · simp [ropeB, ropeM, ropeH, HR]
  · by_cases e : r = nr
    · subst e
      simp only [updO_s]
      refine ⟨⟨?_, hz, ?_, ?_⟩, ⟨?_, ?_, ?_, ?_, ?_, ?_⟩, ⟨?_, ?_, ?_, ?_, ?_⟩, hi, hw, hg.1, hg.2, hx.1, hx.2⟩
      · simp [ropeB, ropeM, ropeH, HR]
      · show sz h < sz h + 1
        omega
      · simp [ropeB, ropeM, ropeH, ropeO, HR, sh_nwS]
      · simp [ropeB, ropeM, ropeH, ropeO, HR]
      · simp [ropeB, ropeM, ropeH, ropeO, HR]
      · simp [ropeB, ropeM, ropeH, ropeO, HR]
      · simp [ropeB, ropeM, ropeH, ropeO, HR]
      · simp [ropeB, ropeM, ropeH, ropeO, HR]
      · simp [ropeB, ropeM, ropeH, ropeO, HR, gI_nwS, b2, lit]
      · simp [ropeB, ropeM, HR]
      · simp [ropeB, ropeM, HR]
      · simp [ropeB, ropeM, HR]
      · simp [ropeB, ropeM, HR]
      · rw [g44]
        exact hG _ (Nat.le_refl _) hn
    · obtain ⟨⟨d1, d2, d3, d4⟩, ⟨f0, f1, f2, f3, f4, f8⟩, ⟨m0, m1, m2, m3, m4⟩, q0⟩ := c4 r (by omega)
      have ne : ¬ rA r = sz h := by omega
      simp only [updO_n _ _ e]
      refine ⟨⟨?_, d2, by omega, ?_⟩, ⟨?_, ?_, ?_, ?_, ?_, ?_⟩, ⟨?_, ?_, ?_, ?_, ?_⟩, q0⟩
      · simp [ropeB, ropeM, ropeH, ropeO, HR, e]
        rw [aR_nw (by omega)]
        exact d1
      · rw [ke.2.2.2.2.1 _ d3]
        exact d4
      · simp [ropeB, ropeM, ropeH, ropeO, HR, ne]
        rw [gI_nw d3]
        exact f0
      · simp [ropeB, ropeM, ropeH, ropeO, HR, ne]
        rw [gR_nw d3]
        exact f1
      · simp [ropeB, ropeM, ropeH, ropeO, HR, ne]
        rw [gI_nw d3]
        exact f2
      · simp [ropeB, ropeM, ropeH, ropeO, HR, ne]
        rw [gI_nw d3]
        exact f3
      · simp [ropeB, ropeM, ropeH, ropeO, HR, ne]
        rw [gI_nw d3]
        exact f4
      · rw [ke.1 408 _ (by decide) d3]
        exact f8
      · simp [ropeB, ropeM, ropeH, ropeO, HR, e]
        rw [aI_nw (by omega)]
        exact m0
      · simp [ropeB, ropeM, ropeH, ropeO, HR, e]
        rw [aI_nw (by omega)]
        exact m1
      · simp [ropeB, ropeM, ropeH, ropeO, HR, e]
        rw [aI_nw (by omega)]
        exact m2
      · simp [ropeB, ropeM, ropeH, ropeO, HR, e]
        rw [aI_nw (by omega)]
        exact m3
      · rw [g44]
        exact m4
  · by_cases e1 : q = nr
    · by_cases e2 : r = nr
      · intro _
        omega
      · subst e1
        rw [updO_s, updO_n _ _ e2]
        have := (c4 r (by omega)).1.2.2.1
        intro q9
        omega
    · by_cases e2 : r = nr
      · subst e2
        rw [updO_s, updO_n _ _ e1]
        have := (c4 q (by omega)).1.2.2.1
        intro q9
        omega
      · rw [updO_n _ _ e1, updO_n _ _ e2]
        exact c5 q r (by omega) (by omega)
theorem RTi.add {h : Hs} {nt nd nr : Nat} {tA dA rA rT : Nat → Nat} {dr td : Nat → Option Nat} {sr dn : Nat → Int} (hz : 70 ≤ sz h) (ht : ∀ i, i < nt → tA i < sz h) (hr : ∀ r, r < nr → rA r < sz h) (hI : RTi h nt nd nr tA dA rA rT dr td sr dn) {i : Nat} {w g x : Int} : RTi (ropeB h nr i (tA i) w g x) nt nd (nr + 1) tA dA (updO rA nr (sz h)) (updO rT nr i) (updO dr nr none) td sr dn := by
  obtain ⟨c1, c2⟩ := hI
  have ke := Ke_ropeB (h := h) (nr := nr) (i := i) (ta := tA i) (w := w) (g := g) (x := x)
  refine ⟨fun r hr' => ?_, fun j hj => ?_⟩
  · by_cases e : r = nr
    · subst e
      simp only [updO_s]
      refine ⟨?_, ?_, fun d hd => by cases hd⟩
      · simp [ropeB, ropeM, ropeH, ropeO, HR, gR_nwS]
      · simp [ropeB, ropeM, HR, od]
    · obtain ⟨g1, g2, g3⟩ := c1 r (by omega)
      have lr := hr r (by omega)
      simp only [updO_n _ _ e]
      refine ⟨?_, ?_, fun d hd => ?_⟩
      · rw [ke.2.2.1 405 _ (by decide) lr]
        exact g1
      · simp [ropeB, ropeM, ropeH, ropeO, HR, e]
        rw [aI_nw (by omega)]
        exact g2
      · obtain ⟨e1, e2, e3, e4, e5, e6⟩ := g3 d hd
        refine ⟨e1, ?_, ?_, ?_, ?_, e6⟩
        · rw [ke.1 406 _ (by decide) lr]
          exact e2
        · rw [ke.1 407 _ (by decide) lr]
          exact e3
        · rw [ke.2.1 43 (by decide) (by omega)]
          exact e4
        · rw [ke.2.1 36 (by decide) (by omega)]
          exact e5
  · obtain ⟨g1, g2⟩ := c2 j hj
    refine ⟨?_, fun r hr' => ?_⟩
    · rw [ke.2.2.1 909 _ (by decide) (ht j hj), g1]
      cases htd : td j with
      | none => rfl
      | some q =>
        have := (g2 q htd).1
        simp only [Option.map_some]
        rw [updO_n _ _ (by omega)]
    · obtain ⟨e1, e2, e3⟩ := g2 r hr'
      rw [updO_n _ _ (by omega), updO_n _ _ (by omega)]
      exact ⟨by omega, e2, e3⟩
theorem t_rope {N : Nat} {h : Hs} (hS : Sk h) (hz : 70 ≤ sz h) {nr nt nd : Nat} {rA tA dA rT : Nat → Nat} {wy gr hd : Nat → Int} {gn : Nat → Bool} {tl tw tg ls ms pa : Nat → Int} {dr td : Nat → Option Nat} {sr dn : Nat → Int} (hT : RTh h nt tA tl tw tg ls ms pa) (hR : RRo h nr nt rA tA rT wy gr hd gn) (hI : RTi h nt nd nr tA dA rA rT dr td sr dn) (hB : ICan h) (hG : ∀ r, nr ≤ r → r < 40 → aI h 44 r = iI 0) (p1 p2 p3 : Int32) :
    ∃ (a : Int32) (h1 h2 : Hs), fX11_rope N h 0 p1 p2 p3 = some (a, h1) ∧ fX12_rope N h1 29 p1 p2 p3 = some (a, h2) ∧ ICan h2 ∧ Ke [400, 402, 403, 404, 509, 1106, 1211, 1243] [38, 39, 40, 41, 42] [401] [17] h h2 ∧ sz h2 ≤ sz h + 1 ∧ (h2 = h ∨ ∃ (i : Nat) (w g x : Int), nr < 40 ∧ gI h2 1106 0 = iI 0 ∧ i < nt ∧ RRo h2 (nr + 1) nt (updO rA nr (sz h)) tA (updO rT nr i) (updO wy nr w) (updO gr nr g) (updO hd nr x) (updO gn nr false) ∧ RTi h2 nt nd (nr + 1) tA dA (updO rA nr (sz h)) (updO rT nr i) (updO dr nr none) td sr dn ∧ (∀ r, nr + 1 ≤ r → r < 40 → aI h2 44 r = iI 0)) := by
  obtain ⟨z, z1, z2, rfl⟩ := iI_ex p1
  obtain ⟨y, y1, y2, rfl⟩ := iI_ex p2
  obtain ⟨x, x1, x2, rfl⟩ := iI_ex p3
  have dv := iI_dv (a := y) (b := 10) y1 y2 (by omega) (by omega)
  have tc := td_cases y 10
  obtain ⟨g, hg⟩ : ∃ g, g = y.tdiv 10 := ⟨_, rfl⟩
  rw [← hg] at dv tc
  obtain ⟨m, hm⟩ : ∃ m, m = y - g * 10 := ⟨_, rfl⟩
  have mm : iI y - iI g * iI 10 = iI m := by rw [iI_mul, iI_sub, hm]
  have gb1 : -1000000000 ≤ g := by omega
  have gb2 : g < 1000000000 := by omega
  have mb1 : -10 < m := by omega
  have mb2 : m < 10 := by omega
  have gy : 1 ≤ g → 0 ≤ y := by omega
  obtain ⟨cN, cY⟩ := c_rope (N := N) hS hz hR hT z y x g m z1 z2 x1 x2 gb1 gb2 mb1 mb2 dv mm
  obtain ⟨mN, mY⟩ := m_rope (N := N) hS hR.1.2.1 hR.1.2.2 hT.1.2.1 hT.1.2.2 z y x g m z1 z2 y1 y2 x1 x2 gb1 gb2 mb1 mb2 dv mm gy
  have c3 := hR.1.2.2
  by_cases w : (0 ≤ z ∧ z ≤ (nt : Int) - 1) ∧ (1 ≤ g ∧ g ≤ 5) ∧ (1 ≤ m ∧ m ≤ 2) ∧ (1 ≤ x ∧ x ≤ 9999)
  · obtain ⟨w0, wg, wm, wx⟩ := w
    obtain ⟨i, hzi⟩ : ∃ i : Nat, z = i := ⟨z.toNat, by omega⟩
    have hi : i < nt := by omega
    by_cases hn : nr < 40
    · have e1 := (cY i hzi hi wg wm wx).2 hn
      obtain ⟨u, hu⟩ : ∃ u : Int, u = if m = 1 then 1 else -1 := ⟨_, rfl⟩
      rw [← hu] at e1
      have hw : u = 1 ∨ u = -1 := by
        rw [hu]
        by_cases m9 : m = 1
        · exact Or.inl (if_pos m9)
        · exact Or.inr (if_neg m9)
      have k1 := Ke_ropeH (h := h) (nr := nr) (ta := tA i) (w := u) (g := g) (x := x)
      have hS1 := hS.e hz k1 (by decide)
      have r1 := v_ropeC hS hS1 (by omega) (by omega) e1
      rw [if_neg (by omega)] at r1
      have k2 : Ke [400, 402, 403, 404, 509, 1106] [] [401] [17] h (uI (ropeH h nr (tA i) u g x) 1106 0 (iI 0)) := ((((((((Ke_rf.n _).u _ _ _ (by decide)).r _ _ _ (by decide)).u _ _ _ (by decide)).u _ _ _ (by decide)).u _ _ _ (by decide)).q _ _ _ (by decide)).u _ _ _ (by decide)).u _ _ _ (by decide)
      have hS2 := hS.e hz k2 (by decide)
      have a1 : gI (uI (ropeH h nr (tA i) u g x) 1106 0 (iI 0)) 1211 29 = iI nr := by
        rw [k2.1 1211 29 (by decide) (by omega)]
        exact hR.1.2.1
      have a2 : gI (uI (ropeH h nr (tA i) u g x) 1106 0 (iI 0)) 1201 29 = iI nt := by
        rw [k2.1 1201 29 (by decide) (by omega)]
        exact hT.1.2.1
      have e2 := ((m_rope (N := N) hS2 a1 c3 a2 hT.1.2.2 z y x g m z1 z2 y1 y2 x1 x2 gb1 gb2 mb1 mb2 dv mm gy).2 i hzi hi wg wm wx).2 hn
      rw [← hu] at e2
      have kb := Ke_ropeB (h := h) (nr := nr) (i := i) (ta := tA i) (w := u) (g := g) (x := x)
      refine ⟨_, _, ropeB h nr i (tA i) u g x, r1, e2, ⟨0, ?_, ?_, Or.inl rfl⟩, kb, ?_, Or.inr ⟨i, u, g, x, hn, by simp [ropeB, ropeM, HR], hi, RRo.add hz hR hG hn hi hw wg wx, RTi.add hz (fun i hi => (hT.2.1 i hi).1.2.2.1) (fun r hr => (hR.2.1 r hr).1.2.2.1) hI, fun r hr hr2 => ?_⟩⟩
      · simp [ropeB, ropeM, HR]
      · simp [ropeB, ropeM, HR]
      · show sz h + 1 ≤ sz h + 1
        omega
      · rw [kb.2.1 44 (by decide) (by omega)]
        exact hG r (by omega) hr2
    · have e1 := (cY i hzi hi wg wm wx).1 hn
      have e2 := (mY i hzi hi wg wm wx).1 hn
      have r1 := v_ropeC hS hS (by omega) (by omega) e1
      rw [if_pos (by omega)] at r1
      exact ⟨_, h, h, r1, e2, hB, Ke_rf, by omega, Or.inl rfl⟩
  · have r1 := v_ropeC hS hS (by omega) (by omega) (cN w)
    rw [if_pos (by omega)] at r1
    exact ⟨_, h, h, r1, mN w, hB, Ke_rf, by omega, Or.inl rfl⟩
/-! ===== count and scene ===== -/
theorem L_tiedC {N : Nat} {h : Hs} (hS : Sk h) {nr nt : Nat} {rA tA dA rT : Nat → Nat} {wy gr hd : Nat → Int} {gn : Nat → Bool} {dr td : Nat → Option Nat} {sr dn : Nat → Int} (hR : RRo h nr nt rA tA rT wy gr hd gn) (hC : RTc h nt nr tA dA rA dr td sr dn) : ∀ (d j : Nat) (c : Int) (fu : Nat), j + d = nr → d < fu → fX5_tiedCount_b4 N 14 fu h (iI c) (iI j) = some (iI (c + cntB (fun r => (dr r).isSome) j d), h) := by
  obtain ⟨⟨c1, c2, c3⟩, c4, -⟩ := hR
  have o9 : oI 5 9 h (some 14) = some (iI nr) := oIv (by rw [ss_14 hS]) c1
  intro d
  induction d with
  | zero =>
    intro j c fu hj hf
    obtain ⟨fu, rfl⟩ : ∃ k, fu = k + 1 := ⟨fu - 1, by omega⟩
    show fX5_tiedCount_b4_body N (fX5_tiedCount_b4 N 14 fu) 14 h (iI c) (iI j) = _
    have w : iI (nr : Int) ≤ iI (j : Int) := (iI_le (by omega) (by omega) (by omega) (by omega)).mpr (by omega)
    simp only [fX5_tiedCount_b4_body]
    refine bst (o9) ?_
    refine ifp (w) ?_
    simp [cntB]
  | succ d ih =>
    intro j c fu hj hf
    obtain ⟨fu, rfl⟩ : ∃ k, fu = k + 1 := ⟨fu - 1, by omega⟩
    show fX5_tiedCount_b4_body N (fX5_tiedCount_b4 N 14 fu) 14 h (iI c) (iI j) = _
    have w : ¬ iI (nr : Int) ≤ iI (j : Int) := fun q => by have := (iI_le (by omega) (by omega) (by omega) (by omega)).mp q; omega
    obtain ⟨⟨d1, d2, d3, d4⟩, -⟩ := c4 j (by omega)
    have g1 := (hC.1 j (by omega)).1
    have o5 : oR 4 5 h (some (rA j)) = some ((dr j).map dA) := oRv (by rw [d4]) g1
    have q := ih (j + 1)
    simp only [Int.natCast_add, Int.natCast_one] at q
    simp only [fX5_tiedCount_b4_body, fX5_tiedCount_b27, lit, iI_add, Option.bind_some]
    cases hd : dr j with
    | none =>
      rw [hd] at o5
      have e := q c fu (by omega) (by omega)
      refine bst (o9) ?_
      refine ifn (w) ?_
      refine bst (sR_502_14 hS) ?_
      refine bst (lQv (ss_17 hS) (by omega) (by omega) d1) ?_
      refine bst (o5) ?_
      refine ifp (rfl) ?_
      rw [e]
      simp [cntB, hd]
    | some t =>
      rw [hd] at o5
      have e := q (c + 1) fu (by omega) (by omega)
      refine bst (o9) ?_
      refine ifn (w) ?_
      refine bst (sR_502_14 hS) ?_
      refine bst (lQv (ss_17 hS) (by omega) (by omega) d1) ?_
      refine bst (o5) ?_
      refine ifn (fun q => by cases q) ?_
      rw [e]
      simp [cntB, hd]
      congr 1
      omega
theorem L_tiedN {N : Nat} {h : Hs} (hS : Sk h) {nr nt nd : Nat} {rA tA rT : Nat → Nat} {wy gr hd : Nat → Int} {gn : Nat → Bool} {dr td : Nat → Option Nat} {sr dn : Nat → Int} (hR : RRo h nr nt rA tA rT wy gr hd gn) (hM : RTm h nr rT dr sr dn) (hL : RTl nt nd nr rT dr td) (hnd : nd ≤ 20) : ∀ (d j : Nat) (c : Int) (fu : Nat), j + d = nr → d < fu → fX12_count_b73 N 29 fu h (iI c) (iI j) = some (iI (c + cntB (fun r => (dr r).isSome) j d), h) := by
  obtain ⟨⟨c1, c2, c3⟩, c4, -⟩ := hR
  have o9 : oI 12 11 h (some 29) = some (iI nr) := oIv (by rw [ss_29 hS]) c2
  intro d
  induction d with
  | zero =>
    intro j c fu hj hf
    obtain ⟨fu, rfl⟩ : ∃ k, fu = k + 1 := ⟨fu - 1, by omega⟩
    show fX12_count_b73_body N (fX12_count_b73 N 29 fu) 29 h (iI c) (iI j) = _
    have w : iI (nr : Int) ≤ iI (j : Int) := (iI_le (by omega) (by omega) (by omega) (by omega)).mpr (by omega)
    simp only [fX12_count_b73_body]
    refine bst (o9) ?_
    refine ifp (w) ?_
    simp [cntB]
  | succ d ih =>
    intro j c fu hj hf
    obtain ⟨fu, rfl⟩ : ∃ k, fu = k + 1 := ⟨fu - 1, by omega⟩
    show fX12_count_b73_body N (fX12_count_b73 N 29 fu) 29 h (iI c) (iI j) = _
    have w : ¬ iI (nr : Int) ≤ iI (j : Int) := fun q => by have := (iI_le (by omega) (by omega) (by omega) (by omega)).mp q; omega
    have g1 := (hM j (by omega)).1
    have q := ih (j + 1)
    simp only [Int.natCast_add, Int.natCast_one] at q
    simp only [fX12_count_b73_body, fX12_count_b96, lit, iI_add, Option.bind_some]
    cases hd : dr j with
    | none =>
      rw [hd] at g1
      simp only [od] at g1
      have e := q (c + 0) fu (by omega) (by omega)
      have w2 : iI (-1) < iI 0 := by decide
      refine bst (o9) ?_
      refine ifn (w) ?_
      refine bst (sR_1216_29 hS) ?_
      refine bst (lAv (ss_42 hS) (by omega) (by omega) g1) ?_
      refine ifp (w2) ?_
      rw [e]
      simp [cntB, hd]
    | some t =>
      have tl := (hL.1 j t (by omega) hd).1
      rw [hd] at g1
      simp only [od] at g1
      have e := q (c + 1) fu (by omega) (by omega)
      have w2 : ¬ iI (t : Int) < iI 0 := fun q => by have := (iI_lt (by omega) (by omega) (by omega) (by omega)).mp q; omega
      refine bst (o9) ?_
      refine ifn (w) ?_
      refine bst (sR_1216_29 hS) ?_
      refine bst (lAv (ss_42 hS) (by omega) (by omega) g1) ?_
      refine ifn (w2) ?_
      rw [e]
      simp [cntB, hd]
      congr 1
      omega
theorem t_count {N : Nat} (hN : 100000000 ≤ N) {h : Hs} (hS : Sk h) {nr nt nd : Nat} {rA tA dA rT : Nat → Nat} {wy gr hd : Nat → Int} {gn : Nat → Bool} {tl tw tg ls ms pa ds : Nat → Int} {dr td : Nat → Option Nat} {sr dn : Nat → Int} (hT : RTh h nt tA tl tw tg ls ms pa) (hD : RDr h nd dA ds) (hR : RRo h nr nt rA tA rT wy gr hd gn) (hI : RTi h nt nd nr tA dA rA rT dr td sr dn) (hC : ICand h) (hK : IStk h) {L : Nat} {bt : Nat → Int} (hP : RTape h L bt) {sf we : Int32} (s1 : gI h 511 14 = sf) (s2 : gI h 1221 29 = sf) (s3 : gI h 512 14 = we) (s4 : gI h 1222 29 = we) (p : Int32) : ∃ a, fX11_count N h 0 p = some (a, h) ∧ fX12_count N h 29 p = some (a, h) := by
  obtain ⟨hCc, hM, hL⟩ := RTi_iff.mp hI
  obtain ⟨n, T, ln, lt, ⟨k1, k2, k3, k4⟩, -⟩ := hC
  obtain ⟨nf, nv, ng, fA, vA, fh, fw, fp, vh, vw, vp, gv, ⟨j1, j2, j3, j4, j5, j6⟩, -⟩ := hK
  obtain ⟨t1, t2, -⟩ := hP
  have c3 := hR.1.2.2
  have la := L_tiedC (N := N) hS hR hCc nr 0 0 N (by omega) (by omega)
  have lb := L_tiedN (N := N) hS hR hM hL hD.1.2.2 nr 0 0 N (by omega) (by omega)
  simp only [Int.natCast_zero] at la lb
  have oC : ∀ {c j a : Nat} {v : Int32}, (sh h a).1 = c → gI h (100 * c + j) a = v → oI c j h (some a) = some v := oIv
  have rc5 : rc 5 h (some 14) = some 14 := rcv (by rw [ss_14 hS])
  simp only [fX11_count, fX12_count, fX5_tiedCount, lit, iI_neg]
  by_cases w0 : p = iI 0
  · refine ⟨iI nt, ?_, ?_⟩
    · skip
      refine ifp (w0) ?_
      refine bst (sR_1100_0 hS) ?_
      refine bst (oIv (by rw [ss_14 hS]) hT.1.1) ?_
      rfl
    · skip
      refine ifp (w0) ?_
      refine bst (oIv (by rw [ss_29 hS]) hT.1.2.1) ?_
      rfl
  by_cases w1 : p = iI 1
  · refine ⟨iI nd, ?_, ?_⟩
    · skip
      refine ifn (w0) ?_
      refine ifp (w1) ?_
      refine bst (sR_1100_0 hS) ?_
      refine bst (oIv (by rw [ss_14 hS]) hD.1.1) ?_
      rfl
    · skip
      refine ifn (w0) ?_
      refine ifp (w1) ?_
      refine bst (oIv (by rw [ss_29 hS]) hD.1.2.1) ?_
      rfl
  by_cases w2 : p = iI 2
  · refine ⟨iI nr, ?_, ?_⟩
    · skip
      refine ifn (w0) ?_
      refine ifn (w1) ?_
      refine ifp (w2) ?_
      refine bst (sR_1100_0 hS) ?_
      refine bst (oIv (by rw [ss_14 hS]) hR.1.1) ?_
      rfl
    · skip
      refine ifn (w0) ?_
      refine ifn (w1) ?_
      refine ifp (w2) ?_
      refine bst (oIv (by rw [ss_29 hS]) hR.1.2.1) ?_
      rfl
  by_cases w3 : p = iI 3
  · refine ⟨iI (0 + cntB (fun r => (dr r).isSome) 0 nr), ?_, ?_⟩
    rotate_left
    · skip
      refine ifn (w0) ?_
      refine ifn (w1) ?_
      refine ifn (w2) ?_
      refine ifp (w3) ?_
      exact lb
    · skip
      refine ifn (w0) ?_
      refine ifn (w1) ?_
      refine ifn (w2) ?_
      refine ifp (w3) ?_
      refine bst (sR_1100_0 hS) ?_
      refine bst (rc5) ?_
      refine bst (la) ?_
      rfl
  by_cases w4 : p = iI 4
  · refine ⟨sf, ?_, ?_⟩
    · skip
      refine ifn (w0) ?_
      refine ifn (w1) ?_
      refine ifn (w2) ?_
      refine ifn (w3) ?_
      refine ifp (w4) ?_
      refine bst (sR_1100_0 hS) ?_
      refine bst (oIv (by rw [ss_14 hS]) s1) ?_
      rfl
    · skip
      refine ifn (w0) ?_
      refine ifn (w1) ?_
      refine ifn (w2) ?_
      refine ifn (w3) ?_
      refine ifp (w4) ?_
      refine bst (oIv (by rw [ss_29 hS]) s2) ?_
      rfl
  by_cases w5 : p = iI 5
  · refine ⟨iI T, ?_, ?_⟩
    · skip
      refine ifn (w0) ?_
      refine ifn (w1) ?_
      refine ifn (w2) ?_
      refine ifn (w3) ?_
      refine ifn (w4) ?_
      refine ifp (w5) ?_
      refine bst (sR_1104_0 hS) ?_
      refine bst (oIv (by rw [ss_6 hS]) k2) ?_
      rfl
    · skip
      refine ifn (w0) ?_
      refine ifn (w1) ?_
      refine ifn (w2) ?_
      refine ifn (w3) ?_
      refine ifn (w4) ?_
      refine ifp (w5) ?_
      refine bst (oIv (by rw [ss_29 hS]) k4) ?_
      rfl
  by_cases w6 : p = iI 6
  · refine ⟨iI n, ?_, ?_⟩
    · skip
      refine ifn (w0) ?_
      refine ifn (w1) ?_
      refine ifn (w2) ?_
      refine ifn (w3) ?_
      refine ifn (w4) ?_
      refine ifn (w5) ?_
      refine ifp (w6) ?_
      refine bst (sR_1104_0 hS) ?_
      refine bst (oIv (by rw [ss_6 hS]) k1) ?_
      rfl
    · skip
      refine ifn (w0) ?_
      refine ifn (w1) ?_
      refine ifn (w2) ?_
      refine ifn (w3) ?_
      refine ifn (w4) ?_
      refine ifn (w5) ?_
      refine ifp (w6) ?_
      refine bst (oIv (by rw [ss_29 hS]) k3) ?_
      rfl
  by_cases w7 : p = iI 7
  · refine ⟨iI nf, ?_, ?_⟩
    · skip
      refine ifn (w0) ?_
      refine ifn (w1) ?_
      refine ifn (w2) ?_
      refine ifn (w3) ?_
      refine ifn (w4) ?_
      refine ifn (w5) ?_
      refine ifn (w6) ?_
      refine ifp (w7) ?_
      refine bst (sR_1105_0 hS) ?_
      refine bst (oIv (by rw [ss_9 hS]) j1) ?_
      rfl
    · skip
      refine ifn (w0) ?_
      refine ifn (w1) ?_
      refine ifn (w2) ?_
      refine ifn (w3) ?_
      refine ifn (w4) ?_
      refine ifn (w5) ?_
      refine ifn (w6) ?_
      refine ifp (w7) ?_
      refine bst (oIv (by rw [ss_29 hS]) j4) ?_
      rfl
  by_cases w8 : p = iI 8
  · refine ⟨iI L, ?_, ?_⟩
    · skip
      refine ifn (w0) ?_
      refine ifn (w1) ?_
      refine ifn (w2) ?_
      refine ifn (w3) ?_
      refine ifn (w4) ?_
      refine ifn (w5) ?_
      refine ifn (w6) ?_
      refine ifn (w7) ?_
      refine ifp (w8) ?_
      refine bst (sR_1103_0 hS) ?_
      refine bst (oIv (by rw [ss_1 hS]) t1) ?_
      rfl
    · skip
      refine ifn (w0) ?_
      refine ifn (w1) ?_
      refine ifn (w2) ?_
      refine ifn (w3) ?_
      refine ifn (w4) ?_
      refine ifn (w5) ?_
      refine ifn (w6) ?_
      refine ifn (w7) ?_
      refine ifp (w8) ?_
      refine bst (oIv (by rw [ss_29 hS]) t2) ?_
      rfl
  by_cases w9 : p = iI 9
  · refine ⟨we, ?_, ?_⟩
    · skip
      refine ifn (w0) ?_
      refine ifn (w1) ?_
      refine ifn (w2) ?_
      refine ifn (w3) ?_
      refine ifn (w4) ?_
      refine ifn (w5) ?_
      refine ifn (w6) ?_
      refine ifn (w7) ?_
      refine ifn (w8) ?_
      refine ifp (w9) ?_
      refine bst (sR_1100_0 hS) ?_
      refine bst (oIv (by rw [ss_14 hS]) s3) ?_
      rfl
    · skip
      refine ifn (w0) ?_
      refine ifn (w1) ?_
      refine ifn (w2) ?_
      refine ifn (w3) ?_
      refine ifn (w4) ?_
      refine ifn (w5) ?_
      refine ifn (w6) ?_
      refine ifn (w7) ?_
      refine ifn (w8) ?_
      refine ifp (w9) ?_
      refine bst (oIv (by rw [ss_29 hS]) s4) ?_
      rfl
  refine ⟨iI (-2000000000), ?_, ?_⟩
  · skip
    refine ifn (w0) ?_
    refine ifn (w1) ?_
    refine ifn (w2) ?_
    refine ifn (w3) ?_
    refine ifn (w4) ?_
    refine ifn (w5) ?_
    refine ifn (w6) ?_
    refine ifn (w7) ?_
    refine ifn (w8) ?_
    refine ifn (w9) ?_
    rfl
  · skip
    refine ifn (w0) ?_
    refine ifn (w1) ?_
    refine ifn (w2) ?_
    refine ifn (w3) ?_
    refine ifn (w4) ?_
    refine ifn (w5) ?_
    refine ifn (w6) ?_
    refine ifn (w7) ?_
    refine ifn (w8) ?_
    refine ifn (w9) ?_
    rfl
/-- scene: both note where thing i stands in scene s -/
theorem t_scene {N : Nat} {h : Hs} (hS : Sk h) (hz : 70 ≤ sz h) {nt : Nat} {tA sA : Nat → Nat} {tl tw tg ls ms pa : Nat → Int} {sc : Nat → Nat → Int} (hT : RTh h nt tA tl tw tg ls ms pa) (hC : RSc h nt tA sA ls ms sc) (p1 p2 p3 : Int32) :
    ∃ (a : Int32) (h1 h2 : Hs) (A : List Nat) (sc' : Nat → Nat → Int), fX11_scene N h 0 p1 p2 p3 = some (a, h1) ∧ fX12_scene N h1 29 p1 p2 p3 = some (a, h2) ∧ RSc h2 nt tA sA ls ms sc' ∧ Kq [] A h h2 ∧ (∀ q ∈ A, q = 48 ∨ 70 ≤ q) := by
  obtain ⟨z, z1, z2, rfl⟩ := iI_ex p1
  obtain ⟨y, y1, y2, rfl⟩ := iI_ex p2
  obtain ⟨x, x1, x2, rfl⟩ := iI_ex p3
  have t3 := hT.1.2.2
  have ws := v_isW (N := N) (h := h) (x := z) (a := 0) (b := 9) z1 z2 (by omega) (by omega) (by omega) (by omega)
  have ms' := fun h' : Hs => v_inW (N := N) (h := h') (x := z) (a := 0) (b := 9) z1 z2 (by omega) (by omega) (by omega) (by omega)
  have xe : iI x = iI (-1) ↔ x = -1 := iI_eq x1 x2 (by omega) (by omega)
  have rc5 : rc 5 h (some 14) = some 14 := rcv (by rw [ss_14 hS])
  simp only [fX11_scene, fX11_scene_b27, fX12_scene, fX12_scene_b42, fX12_scene_b45, lit, iI_neg]
  by_cases w0 : 0 ≤ y ∧ y ≤ (nt : Int) - 1
  · obtain ⟨i, rfl⟩ : ∃ i : Nat, y = i := ⟨y.toNat, by omega⟩
    have hi : i < nt := by omega
    have et := v_thingY (N := N) hS hT hi
    have it := v_isThing (N := N) hS hT.1.2.1 t3 y1 y2
    rw [if_pos w0] at it
    obtain ⟨⟨d1, d2, d3, d4⟩, ⟨g0, g1, g2, g3, g4, g5, g7⟩, ⟨m0, m1, m2, m3, m4, m5⟩, bb⟩ := hT.2.1 i hi
    obtain ⟨⟨s1, s2, s3, s4⟩, s5⟩ := hC.1 i hi
    have rc9 : rc 9 h (some (tA i)) = some (tA i) := rcv (by rw [d4])
    have wx := v_isW (N := N) (h := h) (x := x) (a := ls i) (b := ms i) x1 x2 (by omega) (by omega) (by omega) (by omega)
    have mx := v_inW (N := N) (h := h) (x := x) (a := ls i) (b := ms i) x1 x2 (by omega) (by omega) (by omega) (by omega)
    have o4 : oI 9 4 h (some (tA i)) = some (iI (ls i)) := oIv (by rw [d4]) g4
    have o5 : oI 9 5 h (some (tA i)) = some (iI (ms i)) := oIv (by rw [d4]) g5
    have o6 : oR 9 6 h (some (tA i)) = some (some (sA i)) := oRv (by rw [d4]) s1
    by_cases wz : 0 ≤ z ∧ z ≤ 9
    · rw [if_pos wz] at ws
      obtain ⟨s, rfl⟩ : ∃ s : Nat, z = s := ⟨z.toNat, by omega⟩
      have hs : s < 10 := by omega
      obtain ⟨v1, v2, v3⟩ := s5 s hs
      by_cases ok : x = -1 ∨ (ls i ≤ x ∧ x ≤ ms i)
      · have hS1 : Sk (uA h (sA i) s (iI x)) := hS.k (Kq_uA _ _ _)
        have ce : fX9_tellScene N h (tA i) (iI s) (iI x) = some (iI (sc i s), uA h (sA i) s (iI x)) := by
          simp only [fX9_tellScene, fX9_tellScene_b20, fX9_tellScene_b25, fX9_tellScene_b40, lit, iI_neg]
          by_cases x9 : x = -1
          · skip
            refine ifp (xe.mpr x9) ?_
            refine bst (ws) ?_
            refine ifn (n10) ?_
            refine ifn (n10) ?_
            refine bst (o6) ?_
            refine bst (lAv s4 (by omega) (by omega) v1) ?_
            refine bst (o6) ?_
            refine bst (sAv s4 (by omega) (by omega)) ?_
            rfl
          · rw [if_pos (by omega)] at wx
            refine ifn (fun q => x9 (xe.mp q)) ?_
            refine bst (o4) ?_
            refine bst (o5) ?_
            refine bst (wx) ?_
            refine ifn (n10) ?_
            refine bst (ws) ?_
            refine ifn (n10) ?_
            refine ifn (n10) ?_
            refine bst (o6) ?_
            refine bst (lAv s4 (by omega) (by omega) v1) ?_
            refine bst (o6) ?_
            refine bst (sAv s4 (by omega) (by omega)) ?_
            rfl
        have ne : sA i ≠ 48 := by omega
        have k1 : Kq [] [sA i, 48] h (uA h (sA i) s (iI x)) := Kq_rf.b _ _ _ (by simp)
        have it1 := v_isThing (N := N) (h := uA h (sA i) s (iI x)) hS1 hT.1.2.1 t3 y1 y2
        rw [if_pos w0] at it1
        have ix : iI 40 * iI (s : Int) + iI (i : Int) = iI ((40 * s + i : Nat) : Int) := by rw [iI_mul, iI_add]; congr 1
        have v2' : aI (uA h (sA i) s (iI x)) 48 (40 * s + i) = iI (sc i s) := by
          have n2 : ¬ 48 = sA i := fun q => ne q.symm
          simp [HR, n2, v2]
        have m4' : aI (uA h (sA i) s (iI x)) 34 i = iI (ls i) := by
          have n2 : ¬ 34 = sA i := by omega
          simp [HR, n2, m4]
        have m5' : aI (uA h (sA i) s (iI x)) 35 i = iI (ms i) := by
          have n2 : ¬ 35 = sA i := by omega
          simp [HR, n2, m5]
        refine ⟨iI (sc i s), uA h (sA i) s (iI x), uA (uA h (sA i) s (iI x)) 48 (40 * s + i) (iI x), [sA i, 48], fun j q => if j = i ∧ q = s then x else sc j q, ?_, ?_, ⟨fun j hj => ⟨(hC.1 j hj).1, fun q hq => ?_⟩, hC.2⟩, k1.b _ _ _ (by simp), fun q hq => ?_⟩
        · skip
          refine bst (sR_1100_0 hS) ?_
          refine bst (rc5) ?_
          refine bst (et) ?_
          refine ifn (fun q => by cases q) ?_
          refine bst (rc9) ?_
          refine bst (ce) ?_
          rfl
        · have mz := ms' (uA h (sA i) s (iI x))
          rw [if_pos wz] at mz
          have mx1 := v_inW (N := N) (h := uA h (sA i) s (iI x)) (x := x) (a := ls i) (b := ms i) x1 x2 (by omega) (by omega) (by omega) (by omega)
          have rcm : rc 12 (uA h (sA i) s (iI x)) (some 29) = some 29 := rcv (by rw [ss_29 hS1])
          simp only [ix]
          by_cases x9 : x = -1
          · skip
            refine bst (mz) ?_
            refine ifn (n10) ?_
            refine bst (rcm) ?_
            refine bst (it1) ?_
            refine ifn (n10) ?_
            refine ifp (xe.mpr x9) ?_
            refine bst (sR_1228_29 hS1) ?_
            refine bst (lAv (ss_48 hS1) (by omega) (by omega) v2') ?_
            refine bst (sR_1228_29 hS1) ?_
            refine bst (sAv (ss_48 hS1) (by omega) (by omega)) ?_
            rfl
          · rw [if_pos (by omega)] at mx1
            refine bst (mz) ?_
            refine ifn (n10) ?_
            refine bst (rcm) ?_
            refine bst (it1) ?_
            refine ifn (n10) ?_
            refine ifn (fun q => x9 (xe.mp q)) ?_
            refine bst (sR_1206_29 hS1) ?_
            refine bst (lAv (ss_34 hS1) (by omega) (by omega) m4') ?_
            refine bst (sR_1207_29 hS1) ?_
            refine bst (lAv (ss_35 hS1) (by omega) (by omega) m5') ?_
            refine bst (mx1) ?_
            refine ifn (n10) ?_
            refine bst (sR_1228_29 hS1) ?_
            refine bst (lAv (ss_48 hS1) (by omega) (by omega) v2') ?_
            refine bst (sR_1228_29 hS1) ?_
            refine bst (sAv (ss_48 hS1) (by omega) (by omega)) ?_
            rfl
        · obtain ⟨⟨-, n2, -, -⟩, n5⟩ := hC.1 j hj
          obtain ⟨u1, u2, u3⟩ := n5 q hq
          have n48 : ¬ sA j = 48 := by omega
          have n84 : ¬ 48 = sA i := fun q => ne q.symm
          by_cases e : j = i ∧ q = s
          · obtain ⟨e1, e2⟩ := e
            subst e1 e2
            simp only [and_self, if_true]
            refine ⟨?_, ?_, ok⟩
            · simp [HR, n48]
            · simp [HR]
          · have e3 : ¬ 40 * q + j = 40 * s + i := by omega
            simp only [e, if_false]
            refine ⟨?_, ?_, u3⟩
            · by_cases e1 : j = i
              · subst e1
                have e2 : ¬ q = s := fun z => e ⟨rfl, z⟩
                simp [HR, n48, e2, u1]
              · have e2 : ¬ sA j = sA i := fun z => e1 (hC.2 j i hj hi z)
                simp [HR, n48, e2, u1]
            · simp [HR, e3, n84, u2]
        · rcases List.mem_cons.mp hq with e | e
          · exact Or.inr (by omega)
          · exact Or.inl (List.mem_singleton.mp e)
      · have x9 : ¬ x = -1 := fun q => ok (Or.inl q)
        have xn : ¬ (ls i ≤ x ∧ x ≤ ms i) := fun q => ok (Or.inr q)
        rw [if_neg xn] at wx mx
        have ce : fX9_tellScene N h (tA i) (iI s) (iI x) = some (iI (-2), h) := by
          simp only [fX9_tellScene, fX9_tellScene_b20, fX9_tellScene_b25, fX9_tellScene_b40, lit, iI_neg]
          refine ifn (fun q => x9 (xe.mp q)) ?_
          refine bst (o4) ?_
          refine bst (o5) ?_
          refine bst (wx) ?_
          refine ifp (rfl) ?_
          refine bst (ws) ?_
          refine ifn (n10) ?_
          refine ifp (trivial) ?_
          rfl
        refine ⟨iI (-2), h, h, [], sc, ?_, ?_, hC, Kq_rf, fun q hq => absurd hq List.not_mem_nil⟩
        · skip
          refine bst (sR_1100_0 hS) ?_
          refine bst (rc5) ?_
          refine bst (et) ?_
          refine ifn (fun q => by cases q) ?_
          refine bst (rc9) ?_
          refine bst (ce) ?_
          rfl
        · have mz := ms' h
          rw [if_pos wz] at mz
          refine bst (mz) ?_
          refine ifn (n10) ?_
          refine bst (rcv (by rw [ss_29 hS])) ?_
          refine bst (it) ?_
          refine ifn (n10) ?_
          refine ifn (fun q => x9 (xe.mp q)) ?_
          refine bst (sR_1206_29 hS) ?_
          refine bst (lAv (ss_34 hS) (by omega) (by omega) m4) ?_
          refine bst (sR_1207_29 hS) ?_
          refine bst (lAv (ss_35 hS) (by omega) (by omega) m5) ?_
          refine bst (mx) ?_
          refine ifp (rfl) ?_
          rfl
    · rw [if_neg wz] at ws
      have ce : fX9_tellScene N h (tA i) (iI z) (iI x) = some (iI (-2), h) := by
        simp only [fX9_tellScene, fX9_tellScene_b20, fX9_tellScene_b25, fX9_tellScene_b40, lit, iI_neg]
        by_cases x9 : x = -1
        · skip
          refine ifp (xe.mpr x9) ?_
          refine bst (ws) ?_
          refine ifp (rfl) ?_
          rfl
        · by_cases xn : ls i ≤ x ∧ x ≤ ms i
          · rw [if_pos xn] at wx
            refine ifn (fun q => x9 (xe.mp q)) ?_
            refine bst (o4) ?_
            refine bst (o5) ?_
            refine bst (wx) ?_
            refine ifn (n10) ?_
            refine bst (ws) ?_
            refine ifp (rfl) ?_
            rfl
          · rw [if_neg xn] at wx
            refine ifn (fun q => x9 (xe.mp q)) ?_
            refine bst (o4) ?_
            refine bst (o5) ?_
            refine bst (wx) ?_
            refine ifp (rfl) ?_
            refine bst (ws) ?_
            refine ifp (rfl) ?_
            rfl
      refine ⟨iI (-2), h, h, [], sc, ?_, ?_, hC, Kq_rf, fun q hq => absurd hq List.not_mem_nil⟩
      · skip
        refine bst (sR_1100_0 hS) ?_
        refine bst (rc5) ?_
        refine bst (et) ?_
        refine ifn (fun q => by cases q) ?_
        refine bst (rc9) ?_
        refine bst (ce) ?_
        rfl
      · have mz := ms' h
        rw [if_neg wz] at mz
        refine bst (mz) ?_
        refine ifp (rfl) ?_
        rfl
  · have et := v_thingN (N := N) hS hT y1 y2 w0
    have it := v_isThing (N := N) hS hT.1.2.1 t3 y1 y2
    rw [if_neg w0] at it
    refine ⟨iI (-2), h, h, [], sc, ?_, ?_, hC, Kq_rf, fun q hq => absurd hq List.not_mem_nil⟩
    · skip
      refine bst (sR_1100_0 hS) ?_
      refine bst (rc5) ?_
      refine bst (et) ?_
      refine ifp (rfl) ?_
      rfl
    · have mz := ms' h
      by_cases wz : 0 ≤ z ∧ z ≤ 9
      · rw [if_pos wz] at mz
        refine bst (mz) ?_
        refine ifn (n10) ?_
        refine bst (rcv (by rw [ss_29 hS])) ?_
        refine bst (it) ?_
        refine ifp (rfl) ?_
        rfl
      · rw [if_neg wz] at mz
        refine bst (mz) ?_
        refine ifp (rfl) ?_
        rfl
/-! ===== what stands in the way; thing ===== -/
theorem v_overlap {N : Nat} {h : Hs} {a b c d : Int} (a1 : -100000 ≤ a) (a2 : a ≤ 100000) (b1 : -100000 ≤ b) (b2 : b ≤ 100000) (c1 : -100000 ≤ c) (c2 : c ≤ 100000) (d1 : -100000 ≤ d) (d2 : d ≤ 100000) : fX11_overlap N h (iI a) (iI b) (iI c) (iI d) = some (if a < c + d ∧ c < a + b then iI 1 else iI 0, h) := by
  simp only [fX11_overlap, fX11_overlap_b18, fX11_overlap_b19, lit, iI_add]
  by_cases w1 : c + d ≤ a
  · rw [if_neg (show ¬ (a < c + d ∧ c < a + b) by omega)]
    refine ifp ((iI_le (by omega) (by omega) (by omega) (by omega)).mpr w1) ?_
    refine bst (zc_i0) ?_
    rfl
  · have n1 : ¬ iI (c + d) ≤ iI a := fun q => w1 ((iI_le (by omega) (by omega) (by omega) (by omega)).mp q)
    by_cases w2 : a + b ≤ c
    · rw [if_neg (show ¬ (a < c + d ∧ c < a + b) by omega)]
      refine ifn (n1) ?_
      refine ifp ((iI_le (by omega) (by omega) (by omega) (by omega)).mpr w2) ?_
      refine bst (zc_i0) ?_
      rfl
    · have n2 : ¬ iI (a + b) ≤ iI c := fun q => w2 ((iI_le (by omega) (by omega) (by omega) (by omega)).mp q)
      rw [if_pos (show a < c + d ∧ c < a + b by omega)]
      refine ifn (n1) ?_
      refine ifn (n2) ?_
      refine bst (zc_i1) ?_
      rfl
/-- thing k stands on layer l where from x on w places are wanted; ex: who asks -/
def metB (tl tw pa : Nat → Int) (ex : Option Nat) (l x w : Int) (k : Nat) : Bool := decide (ex ≠ some k ∧ tl k = l ∧ x < pa k + tw k ∧ pa k < x + w)
theorem L_isClear {N : Nat} {h : Hs} (hS : Sk h) {nt : Nat} {tA : Nat → Nat} {tl tw tg ls ms pa : Nat → Int} (hC : RTh h nt tA tl tw tg ls ms pa) {ex : Option Nat} (hex : ∀ k, ex = some k → k < nt) {l x w : Int} (l1 : 0 ≤ l) (l2 : l ≤ 15) (x1 : -1000 ≤ x) (x2 : x ≤ 1000) (w1 : 0 ≤ w) (w2 : w ≤ 1000) : ∀ (d i : Nat) (fu : Nat), i + d = nt → d < fu → fX5_isClear_b3 N 14 fu h (ex.map tA) (iI l) (iI x) (iI w) (iI i) = some (if hasB (metB tl tw pa ex l x w) i d then iI 0 else iI 1, h) := by
  obtain ⟨⟨c1, c2, c3⟩, c4, c5⟩ := hC
  have o9 : oI 5 7 h (some 14) = some (iI nt) := oIv (by rw [ss_14 hS]) c1
  intro d
  induction d with
  | zero =>
    intro i fu hi hf
    obtain ⟨fu, rfl⟩ : ∃ k, fu = k + 1 := ⟨fu - 1, by omega⟩
    show fX5_isClear_b3_body N (fX5_isClear_b3 N 14 fu) 14 h (ex.map tA) (iI l) (iI x) (iI w) (iI i) = _
    have a1 : iI (nt : Int) ≤ iI (i : Int) := (iI_le (by omega) (by omega) (by omega) (by omega)).mpr (by omega)
    simp only [fX5_isClear_b3_body, lit]
    refine bst (o9) ?_
    refine ifp (a1) ?_
    simp [hasB]
  | succ d ih =>
    intro i fu hi hf
    obtain ⟨fu, rfl⟩ : ∃ k, fu = k + 1 := ⟨fu - 1, by omega⟩
    show fX5_isClear_b3_body N (fX5_isClear_b3 N 14 fu) 14 h (ex.map tA) (iI l) (iI x) (iI w) (iI i) = _
    have a1 : ¬ iI (nt : Int) ≤ iI (i : Int) := fun q => by have := (iI_le (by omega) (by omega) (by omega) (by omega)).mp q; omega
    obtain ⟨⟨d1, d2, d3, d4⟩, ⟨g0, g1, g2, g3, g4, g5, g7⟩, -, bb⟩ := c4 i (by omega)
    have e := ih (i + 1) fu (by omega) (by omega)
    simp only [Int.natCast_add, Int.natCast_one] at e
    have oq : lQ 23 h (some 15) (iI i) = some (some (tA i)) := lQv (ss_15 hS) (by omega) (by omega) d1
    have o1 : oI 9 1 h (some (tA i)) = some (iI (tl i)) := oIv (by rw [d4]) g1
    have o2 : oI 9 2 h (some (tA i)) = some (iI (tw i)) := oIv (by rw [d4]) g2
    have o7 : oI 9 7 h (some (tA i)) = some (iI (pa i)) := oIv (by rw [d4]) g7
    have le : iI (tl i) = iI l ↔ tl i = l := iI_eq (by omega) (by omega) (by omega) (by omega)
    have ov := v_overlap (N := N) (h := h) (a := x) (b := w) (c := pa i) (d := tw i) (by omega) (by omega) (by omega) (by omega) (by omega) (by omega) (by omega) (by omega)
    have exi : some (tA i) = ex.map tA ↔ ex = some i := by
      constructor
      · intro q
        cases hx : ex with
        | none => rw [hx] at q; cases q
        | some k =>
          rw [hx] at q
          have q2 : tA i = tA k := Option.some.inj q
          rw [c5 i k (by omega) (hex k hx) q2]
      · intro q
        rw [q]
        rfl
    simp only [fX5_isClear_b3_body, fX5_isClear_b40, fX5_isClear_b41, fX5_isClear_b69, lit, iI_add, Option.bind_some]
    by_cases u1 : ex = some i
    · have mb : metB tl tw pa ex l x w i = false := decide_eq_false (fun q => q.1 u1)
      simp only [hasB, mb, Bool.false_or]
      refine bst (o9) ?_
      refine ifn (a1) ?_
      refine bst (sR_500_14 hS) ?_
      refine bst (oq) ?_
      refine ifp (exi.mpr u1) ?_
      refine ifp (trivial) ?_
      exact e
    · by_cases u2 : tl i = l
      · by_cases u3 : x < pa i + tw i ∧ pa i < x + w
        · have mb : metB tl tw pa ex l x w i = true := decide_eq_true ⟨u1, u2, u3⟩
          rw [if_pos u3] at ov
          simp only [hasB, mb, Bool.true_or, if_true]
          refine bst (o9) ?_
          refine ifn (a1) ?_
          refine bst (sR_500_14 hS) ?_
          refine bst (oq) ?_
          refine ifn (fun q => u1 (exi.mp q)) ?_
          refine bst (o1) ?_
          refine ifp (le.mpr u2) ?_
          refine ifn (n10) ?_
          refine bst (o7) ?_
          refine bst (o2) ?_
          refine bst (ov) ?_
          refine ifn (n10) ?_
          rfl
        · have mb : metB tl tw pa ex l x w i = false := decide_eq_false (fun q => u3 q.2.2)
          rw [if_neg u3] at ov
          simp only [hasB, mb, Bool.false_or]
          refine bst (o9) ?_
          refine ifn (a1) ?_
          refine bst (sR_500_14 hS) ?_
          refine bst (oq) ?_
          refine ifn (fun q => u1 (exi.mp q)) ?_
          refine bst (o1) ?_
          refine ifp (le.mpr u2) ?_
          refine ifn (n10) ?_
          refine bst (o7) ?_
          refine bst (o2) ?_
          refine bst (ov) ?_
          refine ifp (rfl) ?_
          exact e
      · have mb : metB tl tw pa ex l x w i = false := decide_eq_false (fun q => u2 q.2.1)
        simp only [hasB, mb, Bool.false_or]
        refine bst (o9) ?_
        refine ifn (a1) ?_
        refine bst (sR_500_14 hS) ?_
        refine bst (oq) ?_
        refine ifn (fun q => u1 (exi.mp q)) ?_
        refine bst (o1) ?_
        refine ifn (fun q => u2 (le.mp q)) ?_
        refine ifp (trivial) ?_
        exact e
theorem v_isClear {N : Nat} (hN : 100000000 ≤ N) {h : Hs} (hS : Sk h) {nt : Nat} {tA : Nat → Nat} {tl tw tg ls ms pa : Nat → Int} (hC : RTh h nt tA tl tw tg ls ms pa) {ex : Option Nat} (hex : ∀ k, ex = some k → k < nt) {l x w : Int} (l1 : 0 ≤ l) (l2 : l ≤ 15) (x1 : -1000 ≤ x) (x2 : x ≤ 1000) (w1 : 0 ≤ w) (w2 : w ≤ 1000) : fX5_isClear N h 14 (ex.map tA) (iI l) (iI x) (iI w) = some (if hasB (metB tl tw pa ex l x w) 0 nt then iI 0 else iI 1, h) := by
  have c3 := hC.1.2.2
  exact L_isClear hS hC hex l1 l2 x1 x2 w1 w2 nt 0 N (by omega) (by omega)
/-- the reference's loop over the things, in `thing` -/
theorem L_thingM {N : Nat} {h : Hs} (hS : Sk h) {nt : Nat} {tl tw pa : Nat → Int} (c2 : gI h 1201 29 = iI nt) (c3 : nt ≤ 40) (c4 : ∀ i, i < nt → (aI h 30 i = iI (tl i) ∧ aI h 31 i = iI (tw i) ∧ aI h 33 i = iI (pa i)) ∧ 0 ≤ tl i ∧ tl i ≤ 15 ∧ 1 ≤ tw i ∧ tw i ≤ 60 ∧ 0 ≤ pa i ∧ pa i ≤ 100) {z y g l x w : Int} (l1 : 0 ≤ l) (l2 : l ≤ 15) (x1 : -1000 ≤ x) (x2 : x ≤ 1000) (w1 : 0 ≤ w) (w2 : w ≤ 1000) (dv : iI z / iI 100 = iI l) {E : Option (Int32 × Hs)} (hE : ∀ fu, 0 < fu → fX12_thing_b86 N 29 fu h (iI z) (iI w) (iI y) (iI g) (iI x) (iI nt) = E) : ∀ (d i : Nat) (fu : Nat), i + d = nt → d < fu → fX12_thing_b86 N 29 fu h (iI z) (iI w) (iI y) (iI g) (iI x) (iI i) = if hasB (metB tl tw pa none l x w) i d then some (iI (-2), h) else E := by
  have o9 : oI 12 1 h (some 29) = some (iI nt) := oIv (by rw [ss_29 hS]) c2
  intro d
  induction d with
  | zero =>
    intro i fu hi hf
    have : i = nt := by omega
    subst this
    simp only [hasB]
    exact hE fu hf
  | succ d ih =>
    intro i fu hi hf
    obtain ⟨fu, rfl⟩ : ∃ k, fu = k + 1 := ⟨fu - 1, by omega⟩
    show fX12_thing_b86_body N (fX12_thing_b86 N 29 fu) 29 h (iI z) (iI w) (iI y) (iI g) (iI x) (iI i) = _
    have a1 : ¬ iI (nt : Int) ≤ iI (i : Int) := fun q => by have := (iI_le (by omega) (by omega) (by omega) (by omega)).mp q; omega
    obtain ⟨⟨g0, g1, g3⟩, bb⟩ := c4 i (by omega)
    have e := ih (i + 1) fu (by omega) (by omega)
    simp only [Int.natCast_add, Int.natCast_one] at e
    have le : iI (tl i) = iI l ↔ tl i = l := iI_eq (by omega) (by omega) (by omega) (by omega)
    have q1 := lAv (ss_30 hS) (show i < 40 by omega) (by omega) g0
    have q3 := lAv (ss_33 hS) (show i < 40 by omega) (by omega) g3
    have q2 := lAv (ss_31 hS) (show i < 40 by omega) (by omega) g1
    have u5 : iI (pa i) + iI (tw i) ≤ iI x ↔ pa i + tw i ≤ x := by rw [iI_add]; exact iI_le (by omega) (by omega) (by omega) (by omega)
    have u6 : iI (x + w) ≤ iI (pa i) ↔ x + w ≤ pa i := iI_le (by omega) (by omega) (by omega) (by omega)
    simp only [fX12_thing_b86_body, fX12_thing_b146, lit, iI_neg, iI_add, dv, Option.bind_some]
    by_cases u2 : tl i = l
    · by_cases u3 : pa i + tw i ≤ x
      · have mb : metB tl tw pa none l x w i = false := decide_eq_false (fun q => by omega)
        simp only [hasB, mb, Bool.false_or]
        refine bst (o9) ?_
        refine ifn (a1) ?_
        refine bst (sR_1202_29 hS) ?_
        refine bst (q1) ?_
        refine ifp (le.mpr u2) ?_
        refine bst (sR_1205_29 hS) ?_
        refine bst (q3) ?_
        refine bst (sR_1203_29 hS) ?_
        refine bst (q2) ?_
        refine ifp (u5.mpr u3) ?_
        exact e
      · by_cases u4 : x + w ≤ pa i
        · have mb : metB tl tw pa none l x w i = false := decide_eq_false (fun q => by omega)
          simp only [hasB, mb, Bool.false_or]
          refine bst (o9) ?_
          refine ifn (a1) ?_
          refine bst (sR_1202_29 hS) ?_
          refine bst (q1) ?_
          refine ifp (le.mpr u2) ?_
          refine bst (sR_1205_29 hS) ?_
          refine bst (q3) ?_
          refine bst (sR_1203_29 hS) ?_
          refine bst (q2) ?_
          refine ifn (fun q => u3 (u5.mp q)) ?_
          refine bst (sR_1205_29 hS) ?_
          refine bst (q3) ?_
          refine ifp (u6.mpr u4) ?_
          exact e
        · have mb : metB tl tw pa none l x w i = true := decide_eq_true ⟨by simp, u2, by omega, by omega⟩
          simp only [hasB, mb, Bool.true_or, if_true]
          refine bst (o9) ?_
          refine ifn (a1) ?_
          refine bst (sR_1202_29 hS) ?_
          refine bst (q1) ?_
          refine ifp (le.mpr u2) ?_
          refine bst (sR_1205_29 hS) ?_
          refine bst (q3) ?_
          refine bst (sR_1203_29 hS) ?_
          refine bst (q2) ?_
          refine ifn (fun q => u3 (u5.mp q)) ?_
          refine bst (sR_1205_29 hS) ?_
          refine bst (q3) ?_
          refine ifn (fun q => u4 (u6.mp q)) ?_
          rfl
    · have mb : metB tl tw pa none l x w i = false := decide_eq_false (fun q => u2 q.2.1)
      simp only [hasB, mb, Bool.false_or]
      refine bst (o9) ?_
      refine ifn (a1) ?_
      refine bst (sR_1202_29 hS) ?_
      refine bst (q1) ?_
      refine ifn (fun q => u2 (le.mp q)) ?_
      exact e
theorem L_fill {N : Nat} {a n : Nat} {v : Int} (hn : n < 5000) : ∀ (d i : Nat) (fu : Nat) (h : Hs), sh h a = (20, n) → i + d = n → d < fu → fJ7_fill_53178_b5 N fu h (some a) (iI v) (iI i) (iI n) = some (wA h a (fun j => if i ≤ j ∧ j < n then iI v else aI h a j)) := by
  intro d
  induction d with
  | zero =>
    intro i fu h hs hi hf
    obtain ⟨fu, rfl⟩ : ∃ k, fu = k + 1 := ⟨fu - 1, by omega⟩
    show fJ7_fill_53178_b5_body N (fJ7_fill_53178_b5 N fu) h (some a) (iI v) (iI i) (iI n) = _
    have a1 : iI (n : Int) ≤ iI (i : Int) := (iI_le (by omega) (by omega) (by omega) (by omega)).mpr (by omega)
    have ef : (fun j => if i ≤ j ∧ j < n then iI v else aI h a j) = fun j => aI h a j := by
      funext j
      rw [if_neg (by omega)]
    rw [ef, show (fun j => aI h a j) = aI h a from rfl, wA_self]
    simp only [fJ7_fill_53178_b5_body]
    refine ifp (a1) ?_
    rfl
  | succ d ih =>
    intro i fu h hs hi hf
    obtain ⟨fu, rfl⟩ : ∃ k, fu = k + 1 := ⟨fu - 1, by omega⟩
    show fJ7_fill_53178_b5_body N (fJ7_fill_53178_b5 N fu) h (some a) (iI v) (iI i) (iI n) = _
    have a1 : ¬ iI (n : Int) ≤ iI (i : Int) := fun q => by have := (iI_le (by omega) (by omega) (by omega) (by omega)).mp q; omega
    have e := ih (i + 1) fu (uA h a i (iI v)) hs (by omega) (by omega)
    simp only [Int.natCast_add, Int.natCast_one] at e
    simp only [fJ7_fill_53178_b5_body, lit, iI_add, Option.bind_some]
    refine ifn (a1) ?_
    refine bst (sAv hs (by omega) (by omega)) ?_
    rw [e]
    rw [uA_wA, wA_wA]
    congr 2
    funext j
    simp only [aI_wA, if_true]
    by_cases e1 : j = i
    · rw [if_neg (by omega), if_pos e1, if_pos (by omega)]
    · by_cases e2 : i ≤ j ∧ j < n
      · rw [if_pos (by omega), if_pos e2]
      · rw [if_neg (by omega), if_neg e1, if_neg e2]
theorem v_fill {N : Nat} (hN : 100000000 ≤ N) {h : Hs} {a n : Nat} {v : Int} (hn : n < 5000) (hs : sh h a = (20, n)) : fJ7_fill_53178 N h (some a) (iI v) = some (wA h a (fun j => if j < n then iI v else aI h a j)) := by
  have e := L_fill (N := N) (v := v) hn n 0 N h hs (by omega) (by omega)
  simp only [Int.natCast_zero] at e
  have eo : oL h (some a) = some (iI n) := by
    simp only [oL, hs, if_true]
    rfl
  simp only [fJ7_fill_53178, lit]
  refine bst (eo) ?_
  rw [e]
  congr 2
  funext j
  simp
/-- the class's new thing -/
def thingO (h : Hs) (nt : Nat) (l x w lo hi g : Int) : Hs := wA (uI (uI (uI (uI (uI (uI (uI (uR (nw (nw h (9, 0)) (20, 10)) 906 (sz h) (some (sz h + 1))) 900 (sz h) (iI nt)) 901 (sz h) (iI l)) 907 (sz h) (iI x)) 902 (sz h) (iI w)) 904 (sz h) (iI lo)) 905 (sz h) (iI hi)) 903 (sz h) (iI g)) (sz h + 1) (fun j => if j < 10 then iI (-1) else iI 0)
theorem v_thingI {N : Nat} (hN : 100000000 ≤ N) {h : Hs} {nt : Nat} {l x w lo hi g : Int} : fX9_init N (nw h (9, 0)) (sz h) (iI nt) (iI l) (iI x) (iI w) (iI lo) (iI hi) (iI g) = some (thingO h nt l x w lo hi g) := by
  have z1 : sz (nw h (9, 0)) = sz h + 1 := rfl
  have e1 : sh (nw (nw h (9, 0)) (20, 10)) (sz h) = (9, 0) := by
    rw [sh_nw (by rw [z1]; omega), sh_nwS]
  have e2 : sh (nw (nw h (9, 0)) (20, 10)) (sz h + 1) = (20, 10) := by
    rw [← z1, sh_nwS]
  have e3 : ∀ j, aI (nw (nw h (9, 0)) (20, 10)) (sz h + 1) j = 0 := fun j => by
    rw [← z1, aI_nwS]
  simp only [fX9_init, lit, iI_neg, Option.bind_some, z1, qI, qR, HR, e1, if_true]
  obtain ⟨hq, ehq⟩ : ∃ hq, hq = uI (uI (uI (uI (uI (uI (uI (uR (nw (nw h (9, 0)) (20, 10)) 906 (sz h) (some (sz h + 1))) 900 (sz h) (iI nt)) 901 (sz h) (iI l)) 907 (sz h) (iI x)) 902 (sz h) (iI w)) 904 (sz h) (iI lo)) 905 (sz h) (iI hi)) 903 (sz h) (iI g) := ⟨_, rfl⟩
  have s1 : (sh hq (sz h)).1 = 9 := by rw [ehq]; simp only [HR, e1]
  have s2 : sh hq (sz h + 1) = (20, 10) := by rw [ehq]; simp only [HR, e2]
  have r6 : gR hq 906 (sz h) = some (sz h + 1) := by rw [ehq]; simp [HR]
  have a9 : ∀ j, aI hq (sz h + 1) j = 0 := fun j => by rw [ehq]; simp only [HR, e3]
  have fi := v_fill (N := N) hN (v := -1) (by omega) s2
  have o6 : oR 9 6 hq (some (sz h)) = some (some (sz h + 1)) := oRv s1 r6
  have tq : thingO h nt l x w lo hi g = wA hq (sz h + 1) (fun j => if j < 10 then iI (-1) else aI hq (sz h + 1) j) := by
    rw [ehq, thingO]
    congr 1
    funext j
    simp only [HR, e3, lit]
  rw [tq]
  simp only [← ehq]
  refine bst (o6) ?_
  refine bst (fi) ?_
  rfl
