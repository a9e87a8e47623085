/-! ===== paint: the reference's steps ===== -/
theorem L_cp {N : Nat} {G : Hs → Int32 → Int32 → Int32 → Option (Int32 × Hs)} {nv : Nat} (hnv : nv ≤ 6) {c : Nat → Nat} {x2 x3 : Int32} : ∀ (e k fu : Nat) (h : Hs), Sk h → 70 ≤ sz h → k + e = nv → e < fu → (∀ g, g < nv → aI h 68 g = iI (c g)) → (∀ g, g < k → aI h 69 g = iI (c g)) → ∃ h', fX12_paint_b132 N G 29 fu h (iI nv) x2 x3 (iI k) = G h' (iI nv) x2 x3 ∧ Ke [] [69] [] [] h h' ∧ sz h' = sz h ∧ ∀ g, g < nv → aI h' 69 g = iI (c g) := by
  intro e
  induction e with
  | zero =>
    intro k fu h hS hz hk hfu h8 h9
    obtain ⟨fu, rfl⟩ : ∃ m, fu = m + 1 := ⟨fu - 1, by omega⟩
    refine ⟨h, ?_, Ke_rf, rfl, fun g hg => h9 g (by omega)⟩
    show fX12_paint_b132_body N G (fX12_paint_b132 N G 29 fu) 29 h (iI nv) x2 x3 (iI k) = _
    have a1 : iI (nv : Int) ≤ iI (k : Int) := (iI_le (by omega) (by omega) (by omega) (by omega)).mpr (by omega)
    simp only [fX12_paint_b132_body]
    refine ifp (a1) ?_
    rfl
  | succ e ih =>
    intro k fu h hS hz hk hfu h8 h9
    obtain ⟨fu, rfl⟩ : ∃ m, fu = m + 1 := ⟨fu - 1, by omega⟩
    have a1 : ¬ iI (nv : Int) ≤ iI (k : Int) := fun z => by have := (iI_le (by omega) (by omega) (by omega) (by omega)).mp z; omega
    have l8 := lAv (ss_68 hS) (show k < 6 by omega) (by omega) (h8 k (by omega))
    have s9 : sA h (some 69) (iI (k : Int)) (iI (c k)) = some (uA h 69 k (iI (c k))) := sAv (ss_69 hS) (show k < 6 by omega) (by omega)
    have ke : Ke [] [69] [] [] h (uA h 69 k (iI (c k))) := Ke_rf.b 69 k _ (by decide)
    obtain ⟨h', q1, q2, q3, q4⟩ := ih (k + 1) fu (uA h 69 k (iI (c k))) (hS.e hz ke (by decide)) hz (by omega) (by omega) (fun g hg => by have := h8 g hg; simp [HR, this]) (fun g hg => by
      by_cases w : g = k
      · subst w; simp [HR]
      · have := h9 g (by omega)
        simp [HR, w, this])
    refine ⟨h', ?_, ke.tr q2, q3, q4⟩
    show fX12_paint_b132_body N G (fX12_paint_b132 N G 29 fu) 29 h (iI nv) x2 x3 (iI k) = _
    simp only [Int.natCast_add, Int.natCast_one] at q1
    simp only [fX12_paint_b132_body, lit, iI_add, Option.bind_some]
    refine ifn (a1) ?_
    refine bst (sR_1264_29 hS) ?_
    refine bst (sR_1262_29 hS) ?_
    refine bst (l8) ?_
    refine bst (s9) ?_
    exact q1
theorem v_over {N : Nat} {h : Hs} (hS : Sk h) (hz : 70 ≤ sz h) {nf nv d fu : Nat} {b : Int} (hf : nf ≤ 12) (hnv : nv ≤ 6) (g6 : gI h 1256 29 = iI nf) (hd : d < nv) (h8 : aI h 68 d = iI ((nf : Int) - 1)) : fX12_paint_b21 N 29 (fu + 1) h (iI nv) (iI b) (iI d) = fX12_paint_b21 N 29 fu (uA h 68 d (iI nf)) (iI nv) (iI b) (iI ((d : Int) - 1)) := by
  show fX12_paint_b21_body N (fX12_paint_b21 N 29 fu) 29 h (iI nv) (iI b) (iI d) = _
  have a1 : ¬ iI (d : Int) < iI 0 := fun z => by have := (iI_lt (by omega) (by omega) (by omega) (by omega)).mp z; omega
  have a2 : ¬ iI (nv : Int) ≤ iI 0 := fun z => by have := (iI_le (by omega) (by omega) (by omega) (by omega)).mp z; omega
  have a3 : ¬ iI (nf : Int) < iI (nf : Int) := fun z => by have := (iI_lt (by omega) (by omega) (by omega) (by omega)).mp z; omega
  have ke : Ke [] [68] [] [] h (uA h 68 d (iI nf)) := Ke_rf.b 68 d _ (by decide)
  have hS3 := hS.e hz ke (by decide)
  have g63 := (ke.1 1256 29 (by decide) (by omega)).trans g6
  have h83 : aI (uA h 68 d (iI nf)) 68 d = iI nf := by simp [HR]
  have l8 := lAv (ss_68 hS) (show d < 6 by omega) (by omega) h8
  have st : sA h (some 68) (iI (d : Int)) (iI ((nf : Int) - 1) + iI 1) = some (uA h 68 d (iI nf)) := by
    rw [iI_add, Int.sub_add_cancel]
    exact sAv (ss_68 hS) (show d < 6 by omega) (by omega)
  generalize uA h 68 d (iI nf) = h3 at *
  have l83 := lAv (ss_68 hS3) (show d < 6 by omega) (by omega) h83
  have em : iI (d : Int) + iI (-1) = iI ((d : Int) - 1) := by rw [iI_add]; rfl
  simp only [fX12_paint_b21_body, lit, iI_neg, em, Option.bind_some]
  refine ifn (a1) ?_
  refine ifn (a2) ?_
  refine bst (sR_1262_29 hS) ?_
  refine bst (l8) ?_
  refine bst (st) ?_
  refine bst (sR_1262_29 hS3) ?_
  refine bst (l83) ?_
  refine bst (oIv (by rw [ss_29 hS3]) g63) ?_
  refine ifn (a3) ?_
  rfl
theorem v_cand {N : Nat} (hN : 100000000 ≤ N) {h : Hs} (hS : Sk h) (hz : 70 ≤ sz h) {nf nv d fu i : Nat} {b : Int} {fh fw fp vh vw vp : Nat → Int} (hf : nf ≤ 12) (hnv : nv ≤ 6) (g6 : gI h 1256 29 = iI nf) (qF : QF h 64 65 nf fh fw fp) (qV : QF h 66 67 nv vh vw vp) (hd : d < nv) (hi : i < nf) {c : Nat → Nat} (hc : ∀ k, k < d → aI h 68 k = iI (c k) ∧ c k < nf) (h8 : aI h 68 d = iI ((i : Int) - 1)) (b1 : -1 ≤ b ∧ b ≤ 1000000) (P1 : 0 ≤ csP (ctf fh fw fp vh vw vp) c d ∧ csP (ctf fh fw fp vh vw vp) c d ≤ 1000000) : fX12_paint_b21 N 29 (fu + 1) h (iI nv) (iI b) (iI d) = if ctf fh fw fp vh vw vp i d < 0 ∨ (mkP c d).testBit i = true ∨ (0 ≤ b ∧ b ≤ csP (ctf fh fw fp vh vw vp) c d + ctf fh fw fp vh vw vp i d) then fX12_paint_b21 N 29 fu (uA h 68 d (iI i)) (iI nv) (iI b) (iI d) else fX12_paint_b98 N (fX12_paint_b21 N 29 fu) 29 (uA h 68 d (iI i)) (iI nv) (iI b) (iI d) := by
  show fX12_paint_b21_body N (fX12_paint_b21 N 29 fu) 29 h (iI nv) (iI b) (iI d) = _
  have a1 : ¬ iI (d : Int) < iI 0 := fun z => by have := (iI_lt (by omega) (by omega) (by omega) (by omega)).mp z; omega
  have a2 : ¬ iI (nv : Int) ≤ iI 0 := fun z => by have := (iI_le (by omega) (by omega) (by omega) (by omega)).mp z; omega
  have a3 : iI (i : Int) < iI (nf : Int) := (iI_lt (by omega) (by omega) (by omega) (by omega)).mpr (by omega)
  have ke : Ke [] [68] [] [] h (uA h 68 d (iI i)) := Ke_rf.b 68 d _ (by decide)
  have hS3 := hS.e hz ke (by decide)
  have g63 := (ke.1 1256 29 (by decide) (by omega)).trans g6
  have qF3 := qF.e hz ke (by omega) (by omega) (by decide) (by decide)
  have qV3 := qV.e hz ke (by omega) (by omega) (by decide) (by decide)
  have h83 : aI (uA h 68 d (iI i)) 68 d = iI i := by simp [HR]
  have h8k : ∀ k, k < d → aI (uA h 68 d (iI i)) 68 k = iI (c k) := fun k hk => by
    have w : k ≠ d := by omega
    have := (hc k hk).1
    simp [HR, w, this]
  have l8 := lAv (ss_68 hS) (show d < 6 by omega) (by omega) h8
  have st : sA h (some 68) (iI (d : Int)) (iI ((i : Int) - 1) + iI 1) = some (uA h 68 d (iI i)) := by
    rw [iI_add, Int.sub_add_cancel]
    exact sAv (ss_68 hS) (show d < 6 by omega) (by omega)
  generalize uA h 68 d (iI i) = h3 at *
  have l83 := lAv (ss_68 hS3) (show d < 6 by omega) (by omega) h83
  have fb := qF i hi
  have vb := qV d hd
  have cb := ctf_b (fh := fh) (fw := fw) (fp := fp) (vh := vh) (vw := vw) (vp := vp) (i := i) (j := d) ⟨fb.2.2.1, fb.2.2.2.1, fb.2.2.2.2.1, fb.2.2.2.2.2.1⟩ ⟨vb.2.2.1, vb.2.2.2.1, vb.2.2.2.2.1, vb.2.2.2.2.2.1⟩
  have co := v_cost (N := N) hS3 hf hnv qF3 qV3 hi hd
  have ud : ∀ k, k < d → updO c d i k = c k := fun k hk => updO_n _ _ (by omega)
  have tk := v_tk (N := N) hN hS3 (c := updO c d i) (d := d) (by omega) (fun k hk => by
    by_cases w : k = d
    · subst w; rw [updO_s]; exact ⟨h83, by omega⟩
    · rw [ud k (by omega)]; exact ⟨h8k k (by omega), by have := (hc k (by omega)).2; omega⟩)
  rw [updO_s, mkP_e d ud] at tk
  have cc := v_ct (N := N) hN hS3 hf hnv qF3 qV3 (c := updO c d i) (d := d + 1) (by omega) (fun k hk => by
    by_cases w : k = d
    · subst w; rw [updO_s]; exact ⟨h83, hi⟩
    · rw [ud k (by omega)]; exact ⟨h8k k (by omega), (hc k (by omega)).2⟩)
  simp only [csP, Int.natCast_add, Int.natCast_one] at cc
  rw [updO_s, csP_e d ud] at cc
  have lc : iI (ctf fh fw fp vh vw vp i d) < iI 0 ↔ ctf fh fw fp vh vw vp i d < 0 := iI_lt (by omega) (by omega) (by omega) (by omega)
  have lb : iI b < iI 0 ↔ b < 0 := iI_lt (by omega) (by omega) (by omega) (by omega)
  have ls : iI (csP (ctf fh fw fp vh vw vp) c d + ctf fh fw fp vh vw vp i d) < iI b ↔ csP (ctf fh fw fp vh vw vp) c d + ctf fh fw fp vh vw vp i d < b := iI_lt (by omega) (by omega) (by omega) (by omega)
  have rc12 : rc 12 h3 (some 29) = some 29 := rcv (by rw [ss_29 hS3])
  have z10 : ¬ iI (b2 true) = iI 0 := by decide
  have z00 : iI (b2 false) = iI 0 := by decide
  simp only [fX12_paint_b21_body, lit, iI_neg, iI_add]
  by_cases w1 : ctf fh fw fp vh vw vp i d < 0
  · rw [if_pos (Or.inl w1 : ctf fh fw fp vh vw vp i d < 0 ∨ (mkP c d).testBit i = true ∨ (0 ≤ b ∧ b ≤ csP (ctf fh fw fp vh vw vp) c d + ctf fh fw fp vh vw vp i d))]
    refine ifn (a1) ?_
    refine ifn (a2) ?_
    refine bst (sR_1262_29 hS) ?_
    refine bst (l8) ?_
    refine bst (st) ?_
    refine bst (sR_1262_29 hS3) ?_
    refine bst (l83) ?_
    refine bst (oIv (by rw [ss_29 hS3]) g63) ?_
    refine ifp (a3) ?_
    refine bst (sR_1262_29 hS3) ?_
    refine bst (l83) ?_
    refine bst (rc12) ?_
    refine bst (co) ?_
    refine ifp (lc.mpr w1) ?_
    rfl
  · cases w2 : (mkP c d).testBit i with
    | true =>
      rw [w2] at tk
      rw [if_pos (Or.inr (Or.inl rfl) : ctf fh fw fp vh vw vp i d < 0 ∨ true = true ∨ (0 ≤ b ∧ b ≤ csP (ctf fh fw fp vh vw vp) c d + ctf fh fw fp vh vw vp i d))]
      refine ifn (a1) ?_
      refine ifn (a2) ?_
      refine bst (sR_1262_29 hS) ?_
      refine bst (l8) ?_
      refine bst (st) ?_
      refine bst (sR_1262_29 hS3) ?_
      refine bst (l83) ?_
      refine bst (oIv (by rw [ss_29 hS3]) g63) ?_
      refine ifp (a3) ?_
      refine bst (sR_1262_29 hS3) ?_
      refine bst (l83) ?_
      refine bst (rc12) ?_
      refine bst (co) ?_
      refine ifn (fun z => w1 (lc.mp z)) ?_
      refine bst (rc12) ?_
      refine bst (tk) ?_
      refine ifn (z10) ?_
      rfl
    | false =>
      rw [w2] at tk
      by_cases w3 : 0 ≤ b ∧ b ≤ csP (ctf fh fw fp vh vw vp) c d + ctf fh fw fp vh vw vp i d
      · rw [if_pos (Or.inr (Or.inr w3) : ctf fh fw fp vh vw vp i d < 0 ∨ false = true ∨ (0 ≤ b ∧ b ≤ csP (ctf fh fw fp vh vw vp) c d + ctf fh fw fp vh vw vp i d))]
        refine ifn (a1) ?_
        refine ifn (a2) ?_
        refine bst (sR_1262_29 hS) ?_
        refine bst (l8) ?_
        refine bst (st) ?_
        refine bst (sR_1262_29 hS3) ?_
        refine bst (l83) ?_
        refine bst (oIv (by rw [ss_29 hS3]) g63) ?_
        refine ifp (a3) ?_
        refine bst (sR_1262_29 hS3) ?_
        refine bst (l83) ?_
        refine bst (rc12) ?_
        refine bst (co) ?_
        refine ifn (fun z => w1 (lc.mp z)) ?_
        refine bst (rc12) ?_
        refine bst (tk) ?_
        refine ifp (z00) ?_
        refine ifn (fun z => by have := lb.mp z; omega) ?_
        refine bst (rc12) ?_
        refine bst (cc) ?_
        refine ifn (fun z => by have := ls.mp z; omega) ?_
        rfl
      · have nn : ¬ (ctf fh fw fp vh vw vp i d < 0 ∨ false = true ∨ (0 ≤ b ∧ b ≤ csP (ctf fh fw fp vh vw vp) c d + ctf fh fw fp vh vw vp i d)) := fun z => z.elim w1 (fun z => z.elim (fun z => by cases z) w3)
        rw [if_neg nn]
        by_cases w4 : b < 0
        · skip
          refine ifn (a1) ?_
          refine ifn (a2) ?_
          refine bst (sR_1262_29 hS) ?_
          refine bst (l8) ?_
          refine bst (st) ?_
          refine bst (sR_1262_29 hS3) ?_
          refine bst (l83) ?_
          refine bst (oIv (by rw [ss_29 hS3]) g63) ?_
          refine ifp (a3) ?_
          refine bst (sR_1262_29 hS3) ?_
          refine bst (l83) ?_
          refine bst (rc12) ?_
          refine bst (co) ?_
          refine ifn (fun z => w1 (lc.mp z)) ?_
          refine bst (rc12) ?_
          refine bst (tk) ?_
          refine ifp (z00) ?_
          refine ifp (lb.mpr w4) ?_
          rfl
        · skip
          refine ifn (a1) ?_
          refine ifn (a2) ?_
          refine bst (sR_1262_29 hS) ?_
          refine bst (l8) ?_
          refine bst (st) ?_
          refine bst (sR_1262_29 hS3) ?_
          refine bst (l83) ?_
          refine bst (oIv (by rw [ss_29 hS3]) g63) ?_
          refine ifp (a3) ?_
          refine bst (sR_1262_29 hS3) ?_
          refine bst (l83) ?_
          refine bst (rc12) ?_
          refine bst (co) ?_
          refine ifn (fun z => w1 (lc.mp z)) ?_
          refine bst (rc12) ?_
          refine bst (tk) ?_
          refine ifp (z00) ?_
          refine ifn (fun z => w4 (lb.mp z)) ?_
          refine bst (rc12) ?_
          refine bst (cc) ?_
          refine ifp (ls.mpr (by omega)) ?_
          rfl
