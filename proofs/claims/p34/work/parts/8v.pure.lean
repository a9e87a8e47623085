/-! ===== paint: the reference's steps ===== -/
theorem L_cp {N : Nat} {G : Hs → Int32 → Int32 → Int32 → Option (Int32 × Hs)} {nv : Nat} (hnv : nv ≤ 6) {c : Nat → Nat} {x2 x3 : Int32} : ∀ (e k fu : Nat) (h : Hs), Sk h → 70 ≤ sz h → k + e = nv → e < fu → (∀ g, g < nv → aI h 68 g = iI (c g)) → (∀ g, g < k → aI h 69 g = iI (c g)) → ∃ h', fX12_paint_b132 N G 29 fu h (iI nv) x2 x3 (iI k) = G h' (iI nv) x2 x3 ∧ Ke [] [69] [] [] h h' ∧ sz h' = sz h ∧ ∀ g, g < nv → aI h' 69 g = iI (c g) := by
  intro e
  induction e with
  | zero =>
    intro k fu h hS hz hk hfu h8 h9
    obtain ⟨fu, rfl⟩ : ∃ m, fu = m + 1 := ⟨fu - 1, by omega⟩
    refine ⟨h, ?_, Ke_rf, rfl, fun g hg => h9 g (by omega)⟩
    show fX12_paint_b132_body N G (fX12_paint_b132 N G 29 fu) 29 h (iI nv) x2 x3 (iI k) = _
    have a1 : iI (nv : Int) ≤ iI (k : Int) := (iI_le (by omega) (by omega) (by omega) (by omega)).mpr (by omega)
    simp only [fX12_paint_b132_body]
    refine ifp (a1) ?_
    rfl
  | succ e ih =>
    intro k fu h hS hz hk hfu h8 h9
    obtain ⟨fu, rfl⟩ : ∃ m, fu = m + 1 := ⟨fu - 1, by omega⟩
    have a1 : ¬ iI (nv : Int) ≤ iI (k : Int) := fun z => by have := (iI_le (by omega) (by omega) (by omega) (by omega)).mp z; omega
    have l8 := lAv (ss_68 hS) (show k < 6 by omega) (by omega) (h8 k (by omega))
    have s9 : sA h (some 69) (iI (k : Int)) (iI (c k)) = some (uA h 69 k (iI (c k))) := sAv (ss_69 hS) (show k < 6 by omega) (by omega)
    have ke : Ke [] [69] [] [] h (uA h 69 k (iI (c k))) := Ke_rf.b 69 k _ (by decide)
    obtain ⟨h', q1, q2, q3, q4⟩ := ih (k + 1) fu (uA h 69 k (iI (c k))) (hS.e hz ke (by decide)) hz (by omega) (by omega) (fun g hg => by have := h8 g hg; simp [HR, this]) (fun g hg => by
      by_cases w : g = k
      · subst w; simp [HR]
      · have := h9 g (by omega)
        simp [HR, w, this])
    refine ⟨h', ?_, ke.tr q2, q3, q4⟩
    show fX12_paint_b132_body N G (fX12_paint_b132 N G 29 fu) 29 h (iI nv) x2 x3 (iI k) = _
    simp only [Int.natCast_add, Int.natCast_one] at q1
    simp only [fX12_paint_b132_body, lit, iI_add, Option.bind_some]
    refine ifn (a1) ?_
    refine bst (sR_1264_29 hS) ?_
    refine bst (sR_1262_29 hS) ?_
    refine bst (l8) ?_
    refine bst (s9) ?_
    exact q1
theorem v_over {N : Nat} {h : Hs} (hS : Sk h) (hz : 70 ≤ sz h) {nf nv d fu : Nat} {b : Int} (hf : nf ≤ 12) (hnv : nv ≤ 6) (g6 : gI h 1256 29 = iI nf) (hd : d < nv) (h8 : aI h 68 d = iI ((nf : Int) - 1)) : fX12_paint_b21 N 29 (fu + 1) h (iI nv) (iI b) (iI d) = fX12_paint_b21 N 29 fu (uA h 68 d (iI nf)) (iI nv) (iI b) (iI ((d : Int) - 1)) := by
  show fX12_paint_b21_body N (fX12_paint_b21 N 29 fu) 29 h (iI nv) (iI b) (iI d) = _
  have a1 : ¬ iI (d : Int) < iI 0 := fun z => by have := (iI_lt (by omega) (by omega) (by omega) (by omega)).mp z; omega
  have a2 : ¬ iI (nv : Int) ≤ iI 0 := fun z => by have := (iI_le (by omega) (by omega) (by omega) (by omega)).mp z; omega
  have a3 : ¬ iI (nf : Int) < iI (nf : Int) := fun z => by have := (iI_lt (by omega) (by omega) (by omega) (by omega)).mp z; omega
  have ke : Ke [] [68] [] [] h (uA h 68 d (iI nf)) := Ke_rf.b 68 d _ (by decide)
  have hS3 := hS.e hz ke (by decide)
  have g63 := (ke.1 1256 29 (by decide) (by omega)).trans g6
  have h83 : aI (uA h 68 d (iI nf)) 68 d = iI nf := by simp [HR]
  have l8 := lAv (ss_68 hS) (show d < 6 by omega) (by omega) h8
  have st : sA h (some 68) (iI (d : Int)) (iI ((nf : Int) - 1) + iI 1) = some (uA h 68 d (iI nf)) := by
    rw [iI_add, Int.sub_add_cancel]
    exact sAv (ss_68 hS) (show d < 6 by omega) (by omega)
  generalize uA h 68 d (iI nf) = h3 at *
  have l83 := lAv (ss_68 hS3) (show d < 6 by omega) (by omega) h83
  have em : iI (d : Int) + iI (-1) = iI ((d : Int) - 1) := by rw [iI_add]; rfl
  simp only [fX12_paint_b21_body, lit, iI_neg, em, Option.bind_some]
  refine ifn (a1) ?_
  refine ifn (a2) ?_
  refine bst (sR_1262_29 hS) ?_
  refine bst (l8) ?_
  refine bst (st) ?_
  refine bst (sR_1262_29 hS3) ?_
  refine bst (l83) ?_
  refine bst (oIv (by rw [ss_29 hS3]) g63) ?_
  refine ifn (a3) ?_
  rfl
theorem v_cand {N : Nat} (hN : 100000000 ≤ N) {h : Hs} (hS : Sk h) (hz : 70 ≤ sz h) {nf nv d fu i : Nat} {b : Int} {fh fw fp vh vw vp : Nat → Int} (hf : nf ≤ 12) (hnv : nv ≤ 6) (g6 : gI h 1256 29 = iI nf) (qF : QF h 64 65 nf fh fw fp) (qV : QF h 66 67 nv vh vw vp) (hd : d < nv) (hi : i < nf) {c : Nat → Nat} (hc : ∀ k, k < d → aI h 68 k = iI (c k) ∧ c k < nf) (h8 : aI h 68 d = iI ((i : Int) - 1)) (b1 : -1 ≤ b ∧ b ≤ 1000000) (P1 : 0 ≤ csP (ctf fh fw fp vh vw vp) c d ∧ csP (ctf fh fw fp vh vw vp) c d ≤ 1000000) : fX12_paint_b21 N 29 (fu + 1) h (iI nv) (iI b) (iI d) = if ctf fh fw fp vh vw vp i d < 0 ∨ (mkP c d).testBit i = true ∨ (0 ≤ b ∧ b ≤ csP (ctf fh fw fp vh vw vp) c d + ctf fh fw fp vh vw vp i d) then fX12_paint_b21 N 29 fu (uA h 68 d (iI i)) (iI nv) (iI b) (iI d) else fX12_paint_b98 N (fX12_paint_b21 N 29 fu) 29 (uA h 68 d (iI i)) (iI nv) (iI b) (iI d) := by
  show fX12_paint_b21_body N (fX12_paint_b21 N 29 fu) 29 h (iI nv) (iI b) (iI d) = _
  have a1 : ¬ iI (d : Int) < iI 0 := fun z => by have := (iI_lt (by omega) (by omega) (by omega) (by omega)).mp z; omega
  have a2 : ¬ iI (nv : Int) ≤ iI 0 := fun z => by have := (iI_le (by omega) (by omega) (by omega) (by omega)).mp z; omega
  have a3 : iI (i : Int) < iI (nf : Int) := (iI_lt (by omega) (by omega) (by omega) (by omega)).mpr (by omega)
  have ke : Ke [] [68] [] [] h (uA h 68 d (iI i)) := Ke_rf.b 68 d _ (by decide)
  have hS3 := hS.e hz ke (by decide)
  have g63 := (ke.1 1256 29 (by decide) (by omega)).trans g6
  have qF3 := qF.e hz ke (by omega) (by omega) (by decide) (by decide)
  have qV3 := qV.e hz ke (by omega) (by omega) (by decide) (by decide)
  have h83 : aI (uA h 68 d (iI i)) 68 d = iI i := by simp [HR]
  have h8k : ∀ k, k < d → aI (uA h 68 d (iI i)) 68 k = iI (c k) := fun k hk => by
    have w : k ≠ d := by omega
    have := (hc k hk).1
    simp [HR, w, this]
  have l8 := lAv (ss_68 hS) (show d < 6 by omega) (by omega) h8
  have st : sA h (some 68) (iI (d : Int)) (iI ((i : Int) - 1) + iI 1) = some (uA h 68 d (iI i)) := by
    rw [iI_add, Int.sub_add_cancel]
    exact sAv (ss_68 hS) (show d < 6 by omega) (by omega)
  generalize uA h 68 d (iI i) = h3 at *
  have l83 := lAv (ss_68 hS3) (show d < 6 by omega) (by omega) h83
  have fb := qF i hi
  have vb := qV d hd
  have cb := ctf_b (fh := fh) (fw := fw) (fp := fp) (vh := vh) (vw := vw) (vp := vp) (i := i) (j := d) ⟨fb.2.2.1, fb.2.2.2.1, fb.2.2.2.2.1, fb.2.2.2.2.2.1⟩ ⟨vb.2.2.1, vb.2.2.2.1, vb.2.2.2.2.1, vb.2.2.2.2.2.1⟩
  have co := v_cost (N := N) hS3 hf hnv qF3 qV3 hi hd
  have ud : ∀ k, k < d → updO c d i k = c k := fun k hk => updO_n _ _ (by omega)
  have tk := v_tk (N := N) hN hS3 (c := updO c d i) (d := d) (by omega) (fun k hk => by
    by_cases w : k = d
    · subst w; rw [updO_s]; exact ⟨h83, by omega⟩
    · rw [ud k (by omega)]; exact ⟨h8k k (by omega), by have := (hc k (by omega)).2; omega⟩)
  rw [updO_s, mkP_e d ud] at tk
  have cc := v_ct (N := N) hN hS3 hf hnv qF3 qV3 (c := updO c d i) (d := d + 1) (by omega) (fun k hk => by
    by_cases w : k = d
    · subst w; rw [updO_s]; exact ⟨h83, hi⟩
    · rw [ud k (by omega)]; exact ⟨h8k k (by omega), (hc k (by omega)).2⟩)
  simp only [csP, Int.natCast_add, Int.natCast_one] at cc
  rw [updO_s, csP_e d ud] at cc
  have lc : iI (ctf fh fw fp vh vw vp i d) < iI 0 ↔ ctf fh fw fp vh vw vp i d < 0 := iI_lt (by omega) (by omega) (by omega) (by omega)
  have lb : iI b < iI 0 ↔ b < 0 := iI_lt (by omega) (by omega) (by omega) (by omega)
  have ls : iI (csP (ctf fh fw fp vh vw vp) c d + ctf fh fw fp vh vw vp i d) < iI b ↔ csP (ctf fh fw fp vh vw vp) c d + ctf fh fw fp vh vw vp i d < b := iI_lt (by omega) (by omega) (by omega) (by omega)
  have rc12 : rc 12 h3 (some 29) = some 29 := rcv (by rw [ss_29 hS3])
  have z10 : ¬ iI (b2 true) = iI 0 := by decide
  have z00 : iI (b2 false) = iI 0 := by decide
  simp only [fX12_paint_b21_body, lit, iI_neg, iI_add]
  by_cases w1 : ctf fh fw fp vh vw vp i d < 0
  · rw [if_pos (Or.inl w1 : ctf fh fw fp vh vw vp i d < 0 ∨ (mkP c d).testBit i = true ∨ (0 ≤ b ∧ b ≤ csP (ctf fh fw fp vh vw vp) c d + ctf fh fw fp vh vw vp i d))]
    refine ifn (a1) ?_
    refine ifn (a2) ?_
    refine bst (sR_1262_29 hS) ?_
    refine bst (l8) ?_
    refine bst (st) ?_
    refine bst (sR_1262_29 hS3) ?_
    refine bst (l83) ?_
    refine bst (oIv (by rw [ss_29 hS3]) g63) ?_
    refine ifp (a3) ?_
    refine bst (sR_1262_29 hS3) ?_
    refine bst (l83) ?_
    refine bst (rc12) ?_
    refine bst (co) ?_
    refine ifp (lc.mpr w1) ?_
    rfl
  · cases w2 : (mkP c d).testBit i with
    | true =>
      rw [w2] at tk
      rw [if_pos (Or.inr (Or.inl rfl) : ctf fh fw fp vh vw vp i d < 0 ∨ true = true ∨ (0 ≤ b ∧ b ≤ csP (ctf fh fw fp vh vw vp) c d + ctf fh fw fp vh vw vp i d))]
      refine ifn (a1) ?_
      refine ifn (a2) ?_
      refine bst (sR_1262_29 hS) ?_
      refine bst (l8) ?_
      refine bst (st) ?_
      refine bst (sR_1262_29 hS3) ?_
      refine bst (l83) ?_
      refine bst (oIv (by rw [ss_29 hS3]) g63) ?_
      refine ifp (a3) ?_
      refine bst (sR_1262_29 hS3) ?_
      refine bst (l83) ?_
      refine bst (rc12) ?_
      refine bst (co) ?_
      refine ifn (fun z => w1 (lc.mp z)) ?_
      refine bst (rc12) ?_
      refine bst (tk) ?_
      refine ifn (z10) ?_
      rfl
    | false =>
      rw [w2] at tk
      by_cases w3 : 0 ≤ b ∧ b ≤ csP (ctf fh fw fp vh vw vp) c d + ctf fh fw fp vh vw vp i d
      · rw [if_pos (Or.inr (Or.inr w3) : ctf fh fw fp vh vw vp i d < 0 ∨ false = true ∨ (0 ≤ b ∧ b ≤ csP (ctf fh fw fp vh vw vp) c d + ctf fh fw fp vh vw vp i d))]
        refine ifn (a1) ?_
        refine ifn (a2) ?_
        refine bst (sR_1262_29 hS) ?_
        refine bst (l8) ?_
        refine bst (st) ?_
        refine bst (sR_1262_29 hS3) ?_
        refine bst (l83) ?_
        refine bst (oIv (by rw [ss_29 hS3]) g63) ?_
        refine ifp (a3) ?_
        refine bst (sR_1262_29 hS3) ?_
        refine bst (l83) ?_
        refine bst (rc12) ?_
        refine bst (co) ?_
        refine ifn (fun z => w1 (lc.mp z)) ?_
        refine bst (rc12) ?_
        refine bst (tk) ?_
        refine ifp (z00) ?_
        refine ifn (fun z => by have := lb.mp z; omega) ?_
        refine bst (rc12) ?_
        refine bst (cc) ?_
        refine ifn (fun z => by have := ls.mp z; omega) ?_
        rfl
      · have nn : ¬ (ctf fh fw fp vh vw vp i d < 0 ∨ false = true ∨ (0 ≤ b ∧ b ≤ csP (ctf fh fw fp vh vw vp) c d + ctf fh fw fp vh vw vp i d)) := fun z => z.elim w1 (fun z => z.elim (fun z => by cases z) w3)
        rw [if_neg nn]
        by_cases w4 : b < 0
        · skip
          refine ifn (a1) ?_
          refine ifn (a2) ?_
          refine bst (sR_1262_29 hS) ?_
          refine bst (l8) ?_
          refine bst (st) ?_
          refine bst (sR_1262_29 hS3) ?_
          refine bst (l83) ?_
          refine bst (oIv (by rw [ss_29 hS3]) g63) ?_
          refine ifp (a3) ?_
          refine bst (sR_1262_29 hS3) ?_
          refine bst (l83) ?_
          refine bst (rc12) ?_
          refine bst (co) ?_
          refine ifn (fun z => w1 (lc.mp z)) ?_
          refine bst (rc12) ?_
          refine bst (tk) ?_
          refine ifp (z00) ?_
          refine ifp (lb.mpr w4) ?_
          rfl
        · skip
          refine ifn (a1) ?_
          refine ifn (a2) ?_
          refine bst (sR_1262_29 hS) ?_
          refine bst (l8) ?_
          refine bst (st) ?_
          refine bst (sR_1262_29 hS3) ?_
          refine bst (l83) ?_
          refine bst (oIv (by rw [ss_29 hS3]) g63) ?_
          refine ifp (a3) ?_
          refine bst (sR_1262_29 hS3) ?_
          refine bst (l83) ?_
          refine bst (rc12) ?_
          refine bst (co) ?_
          refine ifn (fun z => w1 (lc.mp z)) ?_
          refine bst (rc12) ?_
          refine bst (tk) ?_
          refine ifp (z00) ?_
          refine ifn (fun z => w4 (lb.mp z)) ?_
          refine bst (rc12) ?_
          refine bst (cc) ?_
          refine ifp (ls.mpr (by omega)) ?_
          rfl
/-! ===== paint: the reference's search ===== -/
def wdt : Nat → Nat
  | 0 => 1
  | e + 1 => 12 * wdt e + 2
def glf (ct : Nat → Nat → Int) (nf nv : Nat) (c : Nat → Nat) (d e T i k : Nat) : Nat := if k < d then c k else if k = d then i else gvs ct nf nv e (T ||| 2 ^ i) (k - (d + 1))
def RB (h0 h : Hs) (nv : Nat) (r : Int × (Nat → Nat)) : Prop := -1 ≤ r.1 ∧ r.1 ≤ 200000 ∧ (r.1 < 0 → gI h 1263 29 = gI h0 1263 29 ∧ ∀ k, aI h 69 k = aI h0 69 k) ∧ (0 ≤ r.1 → gI h 1263 29 = iI nv ∧ ∀ k, k < nv → aI h 69 k = iI (r.2 k))
theorem RB.e {F A FR AQ : List Nat} {h0 h h2 : Hs} {nv : Nat} {r : Int × (Nat → Nat)} (hB : RB h0 h nv r) (hz : 70 ≤ sz h) (k : Ke F A FR AQ h h2) (f1 : 1263 ∉ F) (a1 : 69 ∉ A) : RB h0 h2 nv r := by
  unfold RB
  rw [k.1 1263 29 f1 (by omega), k.2.1 69 a1 (by omega)]
  exact hB
theorem glf_s {ct : Nat → Nat → Int} {nf nv : Nat} {c : Nat → Nat} {d e T i : Nat} : glf ct nf nv (updO c d i) (d + 1) e (T ||| 2 ^ i) (gf1 ct nf nv e (T ||| 2 ^ i)) = glf ct nf nv c d (e + 1) T i := by
  funext k
  unfold glf
  by_cases w1 : k < d
  · rw [if_pos (by omega), if_pos w1, updO_n _ _ (by omega)]
  · by_cases w2 : k = d
    · subst w2
      rw [if_pos (by omega), if_neg w1, if_pos rfl, updO_s]
    · rw [if_neg (by omega), if_neg w1, if_neg w2]
      by_cases w3 : k = d + 1
      · rw [if_pos w3, show k - (d + 1) = 0 by omega]
        rfl
      · rw [if_neg w3]
        obtain ⟨m, hm⟩ : ∃ m, k - (d + 1) = m + 1 := ⟨k - (d + 1) - 1, by omega⟩
        rw [hm, show k - (d + 1 + 1) = m by omega]
        rfl
theorem L_dfs {N : Nat} (hN : 100000000 ≤ N) {h0 : Hs} (hS0 : Sk h0) (hz : 70 ≤ sz h0) {nf nv : Nat} {fh fw fp vh vw vp : Nat → Int} (hf : nf ≤ 12) (hnv : nv ≤ 6) (g6 : gI h0 1256 29 = iI nf) (qF : QF h0 64 65 nf fh fw fp) (qV : QF h0 66 67 nv vh vw vp) : ∀ (e n d i : Nat) (c : Nat → Nat) (r : Int × (Nat → Nat)) (fu : Nat) (h : Hs), d + (e + 1) = nv → i + n = nf → (∀ k, k < d → aI h 68 k = iI (c k) ∧ c k < nf) → aI h 68 d = iI ((i : Int) - 1) → 0 ≤ csP (ctf fh fw fp vh vw vp) c d ∧ csP (ctf fh fw fp vh vw vp) c d ≤ 19602 * d → RB h0 h nv r → n * wdt e + 1 ≤ fu → Ke [1263] [68, 69] [] [] h0 h → sz h = sz h0 → ∃ (h' : Hs) (fu' : Nat), fu ≤ fu' + (n * wdt e + 1) ∧ fX12_paint_b21 N 29 fu h (iI nv) (iI r.1) (iI d) = fX12_paint_b21 N 29 fu' h' (iI nv) (iI (fld (fun i => swt (ctf fh fw fp vh vw vp) (bsm (ctf fh fw fp vh vw vp) nf nv e) (mkP c d) i d) (csP (ctf fh fw fp vh vw vp) c d) (glf (ctf fh fw fp vh vw vp) nf nv c d e (mkP c d)) n i r).1) (iI ((d : Int) - 1)) ∧ Ke [1263] [68, 69] [] [] h0 h' ∧ sz h' = sz h0 ∧ RB h0 h' nv (fld (fun i => swt (ctf fh fw fp vh vw vp) (bsm (ctf fh fw fp vh vw vp) nf nv e) (mkP c d) i d) (csP (ctf fh fw fp vh vw vp) c d) (glf (ctf fh fw fp vh vw vp) nf nv c d e (mkP c d)) n i r) ∧ (∀ k, k < d → aI h' 68 k = aI h 68 k) := by
  intro e
  induction e with
  | zero =>
    intro n
    induction n with
    | zero =>
      intro d i c r fu h hd hi hc h8 hP hB hfu ke s
      obtain ⟨fu, rfl⟩ : ∃ m, fu = m + 1 := ⟨fu - 1, by omega⟩
      have ei : i = nf := by omega
      subst ei
      have hS := hS0.e hz ke (by decide)
      have k1 : Ke [] [68] [] [] h (uA h 68 d (iI i)) := Ke_rf.b 68 d _ (by decide)
      refine ⟨uA h 68 d (iI i), fu, by omega, v_over hS (by omega) hf hnv ((ke.1 1256 29 (by decide) (by omega)).trans g6) (by omega) h8, ke.tr (k1.w (by decide) (by decide) (by decide) (by decide)), s, hB.e (by omega) k1 (by decide) (by decide), fun k hk => ?_⟩
      have : k ≠ d := by omega
      simp [HR, this]
    | succ n ihn =>
      intro d i c r fu h hd hi hc h8 hP hB hfu ke s
      obtain ⟨fu, rfl⟩ : ∃ m, fu = m + 1 := ⟨fu - 1, by omega⟩
      have hS := hS0.e hz ke (by decide)
      have hil : i < nf := by omega
      have qF1 := qF.e hz ke (by omega) (by omega) (by decide) (by decide)
      have qV1 := qV.e hz ke (by omega) (by omega) (by decide) (by decide)
      have vc := v_cand (N := N) (fu := fu) (b := r.1) hN hS (by omega) hf hnv ((ke.1 1256 29 (by decide) (by omega)).trans g6) qF1 qV1 (show d < nv by omega) hil hc h8 ⟨hB.1, by have := hB.2.1; omega⟩ ⟨hP.1, by omega⟩
      have k1 : Ke [] [68] [] [] h (uA h 68 d (iI i)) := Ke_rf.b 68 d _ (by decide)
      have h8d : aI (uA h 68 d (iI i)) 68 d = iI (((i + 1 : Nat) : Int) - 1) := by rw [show ((i + 1 : Nat) : Int) - 1 = i by omega]; simp [HR]
      have h8k : ∀ k, k < d → aI (uA h 68 d (iI i)) 68 k = aI h 68 k := fun k hk => by
        have : k ≠ d := by omega
        simp [HR, this]
      have s3 : sz (uA h 68 d (iI i)) = sz h0 := s
      rw [vc]
      generalize uA h 68 d (iI i) = h3 at *
      have ke3 : Ke [1263] [68, 69] [] [] h0 h3 := ke.tr (k1.w (by decide) (by decide) (by decide) (by decide))
      have hS3 := hS0.e hz ke3 (by decide)
      have hz3 : 70 ≤ sz h3 := by omega
      have hB3 := hB.e (by omega) k1 (by decide) (by decide)
      have w0 : (n + 1) * wdt 0 + 1 = n * wdt 0 + 1 + 1 := by simp only [wdt]; omega
      have w1 : wdt 0 = 1 := rfl
      by_cases w : ctf fh fw fp vh vw vp i d < 0 ∨ (mkP c d).testBit i = true ∨ (0 ≤ r.1 ∧ r.1 ≤ csP (ctf fh fw fp vh vw vp) c d + ctf fh fw fp vh vw vp i d)
      · rw [if_pos w]
        have es : sbt (fun i => swt (ctf fh fw fp vh vw vp) (bsm (ctf fh fw fp vh vw vp) nf nv 0) (mkP c d) i d) (csP (ctf fh fw fp vh vw vp) c d) (glf (ctf fh fw fp vh vw vp) nf nv c d 0 (mkP c d)) r i = r := by
          unfold sbt
          refine if_neg (fun z => ?_)
          obtain ⟨z1, z2⟩ := z
          obtain ⟨y1, y2, y3⟩ := swt_in z1
          have y4 := (bsm_b (ctf fh fw fp vh vw vp) nf nv 0 (mkP c d ||| 2 ^ i)).1
          simp only [y3] at z2
          rcases w with w | w | w
          · omega
          · rw [y1] at w; cases w
          · omega
        obtain ⟨h', fu', q1, q2, q3, q4, q5, q6⟩ := ihn d (i + 1) c r fu h3 hd (by omega) (fun k hk => ⟨(h8k k hk).trans (hc k hk).1, (hc k hk).2⟩) h8d hP hB3 (by omega) ke3 s3
        simp only [fld, es]
        exact ⟨h', fu', by omega, q2, q3, q4, q5, fun k hk => (q6 k hk).trans (h8k k hk)⟩
      · rw [if_neg w]
        have n1 : ¬ ctf fh fw fp vh vw vp i d < 0 := fun z => w (Or.inl z)
        have n2 : (mkP c d).testBit i = false := by cases hb : (mkP c d).testBit i with
          | true => exact absurd (Or.inr (Or.inl hb)) w
          | false => rfl
        have n3 : r.1 < 0 ∨ csP (ctf fh fw fp vh vw vp) c d + ctf fh fw fp vh vw vp i d < r.1 := by
          by_cases z : r.1 < 0
          · exact Or.inl z
          · exact Or.inr (by have : ¬ (0 ≤ r.1 ∧ r.1 ≤ csP (ctf fh fw fp vh vw vp) c d + ctf fh fw fp vh vw vp i d) := fun y => w (Or.inr (Or.inr y)); omega)
        have fb := qF i hil
        have vb := qV d (by omega)
        have cb := ctf_b (fh := fh) (fw := fw) (fp := fp) (vh := vh) (vw := vw) (vp := vp) (i := i) (j := d) ⟨fb.2.2.1, fb.2.2.2.1, fb.2.2.2.2.1, fb.2.2.2.2.2.1⟩ ⟨vb.2.2.1, vb.2.2.2.1, vb.2.2.2.2.1, vb.2.2.2.2.2.1⟩
        have e0 : bsm (ctf fh fw fp vh vw vp) nf nv 0 (mkP c d ||| 2 ^ i) = 0 := rfl
        have sw : swt (ctf fh fw fp vh vw vp) (bsm (ctf fh fw fp vh vw vp) nf nv 0) (mkP c d) i d = ctf fh fw fp vh vw vp i d := by
          unfold swt
          rw [if_neg (fun z => z.elim (fun z => by rw [n2] at z; cases z) n1), e0, Int.add_zero, if_pos (by omega)]
        have es : sbt (fun i => swt (ctf fh fw fp vh vw vp) (bsm (ctf fh fw fp vh vw vp) nf nv 0) (mkP c d) i d) (csP (ctf fh fw fp vh vw vp) c d) (glf (ctf fh fw fp vh vw vp) nf nv c d 0 (mkP c d)) r i = (csP (ctf fh fw fp vh vw vp) c d + ctf fh fw fp vh vw vp i d, glf (ctf fh fw fp vh vw vp) nf nv c d 0 (mkP c d) i) := by
          unfold sbt
          simp only [sw]
          rw [if_pos ⟨by omega, n3⟩]
        have ud : ∀ k, k < d → updO c d i k = c k := fun k hk => updO_n _ _ (by omega)
        have h8i : aI h3 68 d = iI i := by rw [h8d, show ((i + 1 : Nat) : Int) - 1 = i by omega]
        have hc3 : ∀ k, k < nv → aI h3 68 k = iI ((updO c d i k : Nat) : Int) ∧ updO c d i k < nf := fun k hk => by
          by_cases z : k = d
          · subst z; rw [updO_s]; exact ⟨h8i, hil⟩
          · rw [ud k (by omega)]; exact ⟨(h8k k (by omega)).trans (hc k (by omega)).1, (hc k (by omega)).2⟩
        have cc := v_ct (N := N) hN hS3 hf hnv (qF.e hz ke3 (by omega) (by omega) (by decide) (by decide)) (qV.e hz ke3 (by omega) (by omega) (by decide) (by decide)) (c := updO c d i) (d := nv) (by omega) hc3
        have ecs : csP (ctf fh fw fp vh vw vp) (updO c d i) nv = csP (ctf fh fw fp vh vw vp) c d + ctf fh fw fp vh vw vp i d := by
          rw [show nv = d + 1 by omega]
          simp only [csP]
          rw [updO_s, csP_e d ud]
        rw [ecs] at cc
        obtain ⟨h4, eh4⟩ : ∃ h4, h4 = uI h3 1263 29 (iI nv) := ⟨_, rfl⟩
        have z4 : qI 12 63 h3 (some 29) (iI nv) = some h4 := by rw [eh4]; exact qIv (by rw [ss_29 hS3])
        have ke34 : Ke [1263] [] [] [] h3 h4 := by rw [eh4]; exact Ke_rf.u 1263 _ _ (by decide)
        have s4 : sz h4 = sz h0 := by rw [eh4]; exact s3
        have g43 : gI h4 1263 29 = iI nv := by rw [eh4]; simp [HR]
        have ke4 : Ke [1263] [68, 69] [] [] h0 h4 := ke3.tr (ke34.w (by decide) (by decide) (by decide) (by decide))
        have hS4 := hS0.e hz ke4 (by decide)
        obtain ⟨h5, e5, ke45, s5, h59⟩ := L_cp (N := N) (G := fX12_paint_b21 N 29 fu) (x2 := iI (csP (ctf fh fw fp vh vw vp) c d + ctf fh fw fp vh vw vp i d)) (x3 := iI (d : Int)) hnv (c := updO c d i) nv 0 N h4 hS4 (by omega) (by omega) (by omega) (fun g hg => by rw [ke34.2.1 68 (by decide) (by omega)]; exact (hc3 g hg).1) (fun g hg => by omega)
        have ke5 : Ke [1263] [68, 69] [] [] h0 h5 := ke4.tr (ke45.w (by decide) (by decide) (by decide) (by decide))
        have h58 : ∀ k, aI h5 68 k = aI h3 68 k := fun k => by rw [ke45.2.1 68 (by decide) (by omega), ke34.2.1 68 (by decide) (by omega)]
        have hB5 : RB h0 h5 nv (csP (ctf fh fw fp vh vw vp) c d + ctf fh fw fp vh vw vp i d, glf (ctf fh fw fp vh vw vp) nf nv c d 0 (mkP c d) i) := by
          refine ⟨by simp only; omega, by simp only; omega, fun z => by simp only at z; omega, fun _ => ⟨(ke45.1 1263 29 (by decide) (by omega)).trans g43, fun k hk => ?_⟩⟩
          rw [h59 k hk]
          show iI _ = iI ((glf (ctf fh fw fp vh vw vp) nf nv c d 0 (mkP c d) i k : Nat) : Int)
          unfold glf
          by_cases z : k < d
          · rw [if_pos z, ud k z]
          · rw [if_neg z, if_pos (by omega), show k = d by omega, updO_s]
        obtain ⟨h', fu', q1, q2, q3, q4, q5, q6⟩ := ihn d (i + 1) c (csP (ctf fh fw fp vh vw vp) c d + ctf fh fw fp vh vw vp i d, glf (ctf fh fw fp vh vw vp) nf nv c d 0 (mkP c d) i) fu h5 hd (by omega) (fun k hk => ⟨(h58 k).trans ((h8k k hk).trans (hc k hk).1), (hc k hk).2⟩) ((h58 d).trans h8d) hP hB5 (by omega) ke5 (s5.trans s4)
        simp only [fld, es]
        refine ⟨h', fu', by omega, ?_, q3, q4, q5, fun k hk => (q6 k hk).trans ((h58 k).trans (h8k k hk))⟩
        rw [← q2, ← e5]
        have a1 : iI ((nv : Int) - 1) ≤ iI (d : Int) := (iI_le (by omega) (by omega) (by omega) (by omega)).mpr (by omega)
        simp only [fX12_paint_b98, lit, iI_sub]
        refine ifp (a1) ?_
        refine bst (rcv (by rw [ss_29 hS3])) ?_
        refine bst (cc) ?_
        refine bst (z4) ?_
        rfl
  | succ e ihe =>
    intro n
    induction n with
    | zero =>
      intro d i c r fu h hd hi hc h8 hP hB hfu ke s
      obtain ⟨fu, rfl⟩ : ∃ m, fu = m + 1 := ⟨fu - 1, by omega⟩
      have ei : i = nf := by omega
      subst ei
      have hS := hS0.e hz ke (by decide)
      have k1 : Ke [] [68] [] [] h (uA h 68 d (iI i)) := Ke_rf.b 68 d _ (by decide)
      refine ⟨uA h 68 d (iI i), fu, by omega, v_over hS (by omega) hf hnv ((ke.1 1256 29 (by decide) (by omega)).trans g6) (by omega) h8, ke.tr (k1.w (by decide) (by decide) (by decide) (by decide)), s, hB.e (by omega) k1 (by decide) (by decide), fun k hk => ?_⟩
      have : k ≠ d := by omega
      simp [HR, this]
    | succ n ihn =>
      intro d i c r fu h hd hi hc h8 hP hB hfu ke s
      obtain ⟨fu, rfl⟩ : ∃ m, fu = m + 1 := ⟨fu - 1, by omega⟩
      have hS := hS0.e hz ke (by decide)
      have hil : i < nf := by omega
      have qF1 := qF.e hz ke (by omega) (by omega) (by decide) (by decide)
      have qV1 := qV.e hz ke (by omega) (by omega) (by decide) (by decide)
      have vc := v_cand (N := N) (fu := fu) (b := r.1) hN hS (by omega) hf hnv ((ke.1 1256 29 (by decide) (by omega)).trans g6) qF1 qV1 (show d < nv by omega) hil hc h8 ⟨hB.1, by have := hB.2.1; omega⟩ ⟨hP.1, by omega⟩
      have k1 : Ke [] [68] [] [] h (uA h 68 d (iI i)) := Ke_rf.b 68 d _ (by decide)
      have h8d : aI (uA h 68 d (iI i)) 68 d = iI (((i + 1 : Nat) : Int) - 1) := by rw [show ((i + 1 : Nat) : Int) - 1 = i by omega]; simp [HR]
      have h8k : ∀ k, k < d → aI (uA h 68 d (iI i)) 68 k = aI h 68 k := fun k hk => by
        have : k ≠ d := by omega
        simp [HR, this]
      have s3 : sz (uA h 68 d (iI i)) = sz h0 := s
      rw [vc]
      generalize uA h 68 d (iI i) = h3 at *
      have ke3 : Ke [1263] [68, 69] [] [] h0 h3 := ke.tr (k1.w (by decide) (by decide) (by decide) (by decide))
      have hS3 := hS0.e hz ke3 (by decide)
      have hz3 : 70 ≤ sz h3 := by omega
      have hB3 := hB.e (by omega) k1 (by decide) (by decide)
      have w0 : (n + 1) * wdt (e + 1) + 1 = n * wdt (e + 1) + wdt (e + 1) + 1 := by rw [Nat.add_one_mul]
      have w1 : wdt (e + 1) = 12 * wdt e + 2 := rfl
      have w2 : nf * wdt e ≤ 12 * wdt e := Nat.mul_le_mul_right _ hf
      by_cases w : ctf fh fw fp vh vw vp i d < 0 ∨ (mkP c d).testBit i = true ∨ (0 ≤ r.1 ∧ r.1 ≤ csP (ctf fh fw fp vh vw vp) c d + ctf fh fw fp vh vw vp i d)
      · rw [if_pos w]
        have es : sbt (fun i => swt (ctf fh fw fp vh vw vp) (bsm (ctf fh fw fp vh vw vp) nf nv (e + 1)) (mkP c d) i d) (csP (ctf fh fw fp vh vw vp) c d) (glf (ctf fh fw fp vh vw vp) nf nv c d (e + 1) (mkP c d)) r i = r := by
          unfold sbt
          refine if_neg (fun z => ?_)
          obtain ⟨z1, z2⟩ := z
          obtain ⟨y1, y2, y3⟩ := swt_in z1
          have y4 := (bsm_b (ctf fh fw fp vh vw vp) nf nv (e + 1) (mkP c d ||| 2 ^ i)).1
          simp only [y3] at z2
          rcases w with w | w | w
          · omega
          · rw [y1] at w; cases w
          · omega
        obtain ⟨h', fu', q1, q2, q3, q4, q5, q6⟩ := ihn d (i + 1) c r fu h3 hd (by omega) (fun k hk => ⟨(h8k k hk).trans (hc k hk).1, (hc k hk).2⟩) h8d hP hB3 (by omega) ke3 s3
        simp only [fld, es]
        exact ⟨h', fu', by omega, q2, q3, q4, q5, fun k hk => (q6 k hk).trans (h8k k hk)⟩
      · rw [if_neg w]
        have n1 : ¬ ctf fh fw fp vh vw vp i d < 0 := fun z => w (Or.inl z)
        have n2 : (mkP c d).testBit i = false := by cases hb : (mkP c d).testBit i with
          | true => exact absurd (Or.inr (Or.inl hb)) w
          | false => rfl
        have fb := qF i hil
        have vb := qV d (by omega)
        have cb := ctf_b (fh := fh) (fw := fw) (fp := fp) (vh := vh) (vw := vw) (vp := vp) (i := i) (j := d) ⟨fb.2.2.1, fb.2.2.2.1, fb.2.2.2.2.1, fb.2.2.2.2.2.1⟩ ⟨vb.2.2.1, vb.2.2.2.1, vb.2.2.2.2.1, vb.2.2.2.2.2.1⟩
        have ud : ∀ k, k < d → updO c d i k = c k := fun k hk => updO_n _ _ (by omega)
        have h8i : aI h3 68 d = iI i := by rw [h8d, show ((i + 1 : Nat) : Int) - 1 = i by omega]
        have hc3 : ∀ k, k < d + 1 → aI h3 68 k = iI ((updO c d i k : Nat) : Int) ∧ updO c d i k < nf := fun k hk => by
          by_cases z : k = d
          · subst z; rw [updO_s]; exact ⟨h8i, hil⟩
          · rw [ud k (by omega)]; exact ⟨(h8k k (by omega)).trans (hc k (by omega)).1, (hc k (by omega)).2⟩
        have ecs : csP (ctf fh fw fp vh vw vp) (updO c d i) (d + 1) = csP (ctf fh fw fp vh vw vp) c d + ctf fh fw fp vh vw vp i d := by
          simp only [csP]
          rw [updO_s, csP_e d ud]
        have emk : mkP (updO c d i) (d + 1) = mkP c d ||| 2 ^ i := by
          simp only [mkP]
          rw [updO_s, mkP_e d ud]
        obtain ⟨h4, eh4⟩ : ∃ h4, h4 = uA h3 68 (d + 1) (iI (-1)) := ⟨_, rfl⟩
        have z4 : sA h3 (some 68) (iI ((d + 1 : Nat) : Int)) (iI (-1)) = some h4 := by rw [eh4]; exact sAv (ss_68 hS3) (show d + 1 < 6 by omega) (by omega)
        have ke34 : Ke [] [68] [] [] h3 h4 := by rw [eh4]; exact Ke_rf.b 68 _ _ (by decide)
        have s4 : sz h4 = sz h0 := by rw [eh4]; exact s3
        have h4d : aI h4 68 (d + 1) = iI (((0 : Nat) : Int) - 1) := by rw [eh4]; simp [HR]
        have h4k : ∀ k, k < d + 1 → aI h4 68 k = aI h3 68 k := fun k hk => by
          have : k ≠ d + 1 := by omega
          rw [eh4]
          simp [HR, this]
        have ke4 : Ke [1263] [68, 69] [] [] h0 h4 := ke3.tr (ke34.w (by decide) (by decide) (by decide) (by decide))
        have hB4 := hB3.e hz3 ke34 (by decide) (by decide)
        obtain ⟨h5, fu5, p1, p2, p3, p4, p5, p6⟩ := ihe nf (d + 1) 0 (updO c d i) r fu h4 (by omega) (by omega) (fun k hk => ⟨(h4k k hk).trans (hc3 k hk).1, (hc3 k hk).2⟩) h4d ⟨by rw [ecs]; omega, by rw [ecs]; omega⟩ hB4 (by omega) ke4 s4
        have jj : nv - (e + 1) = d + 1 := by omega
        have all := fld_all (ct := (ctf fh fw fp vh vw vp)) (nf := nf) (nv := nv) (e := e) (T := mkP c d ||| 2 ^ i) (P := csP (ctf fh fw fp vh vw vp) c d + ctf fh fw fp vh vw vp i d) (by omega) (gl := glf (ctf fh fw fp vh vw vp) nf nv (updO c d i) (d + 1) e (mkP c d ||| 2 ^ i)) r
        rw [jj, glf_s] at all
        rw [emk, ecs, all] at p2 p5
        have bs := bsm_s (ct := (ctf fh fw fp vh vw vp)) (nf := nf) (nv := nv) (fun a b ha hb => by
          have fb := qF a ha
          have vb := qV b hb
          exact (ctf_b (fh := fh) (fw := fw) (fp := fp) (vh := vh) (vw := vw) (vp := vp) (i := a) (j := b) ⟨fb.2.2.1, fb.2.2.2.1, fb.2.2.2.2.1, fb.2.2.2.2.2.1⟩ ⟨vb.2.2.1, vb.2.2.2.1, vb.2.2.2.2.1, vb.2.2.2.2.2.1⟩).2.1) (e + 1) (mkP c d ||| 2 ^ i) (by omega)
        have b0 := bsm_b (ctf fh fw fp vh vw vp) nf nv (e + 1) (mkP c d ||| 2 ^ i)
        have es : sbt (fun i => swt (ctf fh fw fp vh vw vp) (bsm (ctf fh fw fp vh vw vp) nf nv (e + 1)) (mkP c d) i d) (csP (ctf fh fw fp vh vw vp) c d) (glf (ctf fh fw fp vh vw vp) nf nv c d (e + 1) (mkP c d)) r i = if bsm (ctf fh fw fp vh vw vp) nf nv (e + 1) (mkP c d ||| 2 ^ i) < 1000000 ∧ (r.1 < 0 ∨ csP (ctf fh fw fp vh vw vp) c d + ctf fh fw fp vh vw vp i d + bsm (ctf fh fw fp vh vw vp) nf nv (e + 1) (mkP c d ||| 2 ^ i) < r.1) then (csP (ctf fh fw fp vh vw vp) c d + ctf fh fw fp vh vw vp i d + bsm (ctf fh fw fp vh vw vp) nf nv (e + 1) (mkP c d ||| 2 ^ i), glf (ctf fh fw fp vh vw vp) nf nv c d (e + 1) (mkP c d) i) else r := by
          unfold sbt
          have nn : ¬ ((mkP c d).testBit i = true ∨ ctf fh fw fp vh vw vp i d < 0) := fun z => z.elim (fun z => by rw [n2] at z; cases z) n1
          have esw : swt (ctf fh fw fp vh vw vp) (bsm (ctf fh fw fp vh vw vp) nf nv (e + 1)) (mkP c d) i d = if ctf fh fw fp vh vw vp i d + bsm (ctf fh fw fp vh vw vp) nf nv (e + 1) (mkP c d ||| 2 ^ i) < 1000000 then ctf fh fw fp vh vw vp i d + bsm (ctf fh fw fp vh vw vp) nf nv (e + 1) (mkP c d ||| 2 ^ i) else 1000000 := by
            unfold swt
            rw [if_neg nn]
          simp only [esw]
          generalize bsm (ctf fh fw fp vh vw vp) nf nv (e + 1) (mkP c d ||| 2 ^ i) = X at *
          by_cases m : X < 1000000
          · have := bs m
            rw [if_pos (show ctf fh fw fp vh vw vp i d + X < 1000000 by omega), Int.add_assoc]
            by_cases m2 : r.1 < 0 ∨ csP (ctf fh fw fp vh vw vp) c d + (ctf fh fw fp vh vw vp i d + X) < r.1
            · rw [if_pos ⟨by omega, m2⟩, if_pos ⟨m, m2⟩]
            · rw [if_neg (fun z => m2 z.2), if_neg (fun z => m2 z.2)]
          · rw [if_neg (show ¬ ctf fh fw fp vh vw vp i d + X < 1000000 by omega), if_neg (fun z => absurd z.1 (by decide)), if_neg (fun z => m z.1)]
        rw [← es] at p2 p5
        have h58 : ∀ k, k < d + 1 → aI h5 68 k = aI h3 68 k := fun k hk => (p6 k hk).trans (h4k k hk)
        obtain ⟨h', fu', q1, q2, q3, q4, q5, q6⟩ := ihn d (i + 1) c _ fu5 h5 hd (by omega) (fun k hk => ⟨(h58 k (by omega)).trans ((h8k k hk).trans (hc k hk).1), (hc k hk).2⟩) ((h58 d (by omega)).trans h8d) hP p5 (by omega) p3 p4
        simp only [fld]
        refine ⟨h', fu', by omega, ?_, q3, q4, q5, fun k hk => (q6 k hk).trans ((h58 k (by omega)).trans (h8k k hk))⟩
        rw [← q2]
        rw [show ((d + 1 : Nat) : Int) - 1 = d by omega] at p2
        rw [← p2]
        have a1 : ¬ iI ((nv : Int) - 1) ≤ iI (d : Int) := fun z => by have := (iI_le (by omega) (by omega) (by omega) (by omega)).mp z; omega
        simp only [Int.natCast_add, Int.natCast_one] at z4 ⊢
        simp only [fX12_paint_b98, lit, iI_sub, iI_add, iI_neg, Option.bind_some]
        refine ifn (a1) ?_
        refine bst (sR_1262_29 hS3) ?_
        refine bst (z4) ?_
        rfl
/-! ===== paint: both ===== -/
theorem wdt_b {e : Nat} (he : e < 6) : wdt e ≤ 294074 := by
  have : e = 0 ∨ e = 1 ∨ e = 2 ∨ e = 3 ∨ e = 4 ∨ e = 5 := by omega
  rcases this with rfl | rfl | rfl | rfl | rfl | rfl <;> decide
theorem v_stop {N fu : Nat} {h : Hs} {x1 : Int32} {b : Int} (b1 : -1 ≤ b ∧ b ≤ 1000000) : fX12_paint_b21 N 29 (fu + 1) h x1 (iI b) (iI (-1)) = some (iI (if b < 0 then -2 else b), h) := by
  show fX12_paint_b21_body N (fX12_paint_b21 N 29 fu) 29 h x1 (iI b) (iI (-1)) = _
  have a1 : iI (-1) < iI 0 := by decide
  have lb : iI 0 ≤ iI b ↔ 0 ≤ b := iI_le (by omega) (by omega) (by omega) (by omega)
  simp only [fX12_paint_b21_body, fX12_paint_b161, fX12_paint_b171, lit, iI_neg]
  by_cases w : b < 0
  · rw [if_pos w]
    refine ifp (a1) ?_
    refine ifn (fun z => by have := lb.mp z; omega) ?_
    rfl
  · rw [if_neg w]
    refine ifp (a1) ?_
    refine ifp (lb.mpr (by omega)) ?_
    rfl
theorem t_paint {N : Nat} (hN : 100000000 ≤ N) {h : Hs} (hS : Sk h) (hz : 70 ≤ sz h) (hK : IStk h) : ∃ a h1 h2, fX11_paint N h 0 = some (a, h1) ∧ fX12_paint N h1 29 = some (a, h2) ∧ IStk h2 ∧ Ke [605, 606, 1259, 1263] [12, 13, 68, 69] [] [] h h2 ∧ sz h2 = sz h := by
  obtain ⟨nf, nv, ng, fA, vA, fh, fw, fp, vh, vw, vp, gv, ⟨c1, c2, c3, c4, c5, c6⟩, b1, b2', b3, r1, r2, r3⟩ := hK
  have pF : PF h nf fA fh fw fp := fun i hi => ⟨(r1 i hi).1, (r1 i hi).2.2.2⟩
  have pV : PV h nv vA vh vw vp := fun i hi => ⟨(r2 i hi).1, (r2 i hi).2.2.2⟩
  have qF : QF h 64 65 nf fh fw fp := fun i hi => (r1 i hi).2
  have qV : QF h 66 67 nv vh vw vp := fun i hi => (r2 i hi).2
  obtain ⟨h1, e1, ke1, s1, x5, xN, xY⟩ := v_paintC (N := N) hN hS hz b1 b2' c1 c2 pF pV
  have hS1 := hS.e hz ke1 (by decide)
  have hz1 : 70 ≤ sz h1 := by omega
  have o59 : oI 12 59 h1 (some 29) = some (iI nv) := oIv (by rw [ss_29 hS1]) ((ke1.1 1259 29 (by decide) (by omega)).trans c5)
  obtain ⟨h2, eh2⟩ : ∃ h2, h2 = uI h1 1259 29 (iI 0) := ⟨_, rfl⟩
  have z2 : qI 12 59 h1 (some 29) (iI 0) = some h2 := by rw [eh2]; exact qIv (by rw [ss_29 hS1])
  have ke12 : Ke [1259] [] [] [] h1 h2 := by rw [eh2]; exact Ke_rf.u 1259 _ _ (by decide)
  have s2 : sz h2 = sz h := by rw [eh2]; exact s1
  have g29 : gI h2 1259 29 = iI 0 := by rw [eh2]; simp [HR]
  have hS2 := hS1.e hz1 ke12 (by decide)
  obtain ⟨h4, eh4⟩ : ∃ h4, h4 = uA h2 68 0 (iI (-1)) := ⟨_, rfl⟩
  have z4 : sA h2 (some 68) (iI 0) (iI (-1)) = some h4 := by rw [eh4]; exact sAv (i := 0) (ss_68 hS2) (by omega) (by omega)
  have ke24 : Ke [] [68] [] [] h2 h4 := by rw [eh4]; exact Ke_rf.b 68 _ _ (by decide)
  have s4 : sz h4 = sz h := by rw [eh4]; exact s2
  have h40 : aI h4 68 0 = iI (((0 : Nat) : Int) - 1) := by rw [eh4]; simp [HR]
  have ke4 : Ke [605, 606, 1259] [12, 13, 68] [] [] h h4 := ((ke1.w (by decide) (by decide) (by decide) (by decide)).tr (ke12.w (by decide) (by decide) (by decide) (by decide))).tr (ke24.w (by decide) (by decide) (by decide) (by decide))
  have ke14 : Ke [1259] [68] [] [] h1 h4 := (ke12.w (by decide) (by decide) (by decide) (by decide)).tr (ke24.w (by decide) (by decide) (by decide) (by decide))
  have hS4 := hS.e hz ke4 (by decide)
  have hz4 : 70 ≤ sz h4 := by omega
  have st : fX12_paint N h1 29 = fX12_paint_b21 N 29 N h4 (iI nv) (iI (-1)) (iI 0) := by
    simp only [fX12_paint, lit, iI_neg]
    refine bst (o59) ?_
    refine bst (z2) ?_
    refine bst (sR_1262_29 hS2) ?_
    refine bst (z4) ?_
    rfl
  -- what remains, given where the search ends
  have fin : ∀ (hx : Hs) (ng' : Nat) (gv' : Nat → Int), Ke [1263] [68, 69] [] [] h4 hx → sz hx = sz h → ng' ≤ 6 → gI h1 606 9 = iI ng' → gI hx 1263 29 = iI ng' → (∀ i, i < ng' → aI h1 12 i = iI (gv' i) ∧ aI hx 69 i = iI (gv' i)) → IStk hx ∧ Ke [605, 606, 1259, 1263] [12, 13, 68, 69] [] [] h hx ∧ sz hx = sz h := by
    intro hx ng' gv' kx sx n6 g6 g63 ga
    have kh : Ke [605, 606, 1259, 1263] [12, 13, 68, 69] [] [] h hx := (ke4.w (by decide) (by decide) (by decide) (by decide)).tr (kx.w (by decide) (by decide) (by decide) (by decide))
    refine ⟨⟨nf, 0, ng', fA, vA, fh, fw, fp, vh, vw, vp, gv', ⟨(kh.1 604 9 (by decide) (by omega)).trans c1, ?_, ?_, (kh.1 1256 29 (by decide) (by omega)).trans c4, ?_, g63⟩, b1, by omega, n6, r1.e hz kh (by omega) (by omega) (by omega) (by decide) (by decide) (by decide) (by decide) (by decide) (by decide), fun i hi => by omega, fun i hi => ⟨?_, (ga i hi).2⟩⟩, kh, sx⟩
    · rw [kx.1 605 9 (by decide) (by omega), ke14.1 605 9 (by decide) (by omega)]; exact x5
    · rw [kx.1 606 9 (by decide) (by omega), ke14.1 606 9 (by decide) (by omega)]; exact g6
    · rw [kx.1 1259 29 (by decide) (by omega), ke24.1 1259 29 (by decide) (by omega)]; exact g29
    · rw [kx.2.1 12 (by decide) (by omega), ke14.2.1 12 (by decide) (by omega)]; exact (ga i hi).1
  have g463 : gI h4 1263 29 = iI ng := (ke4.1 1263 29 (by decide) (by omega)).trans c6
  have a469 : ∀ i, aI h4 69 i = aI h 69 i := fun i => by rw [ke4.2.1 69 (by decide) (by omega)]
  by_cases w : nv = 0
  · subst w
    rw [if_pos (Or.inl rfl)] at e1
    obtain ⟨y1, y2⟩ := xN (Or.inl rfl)
    have rl : fX12_paint N h1 29 = some (iI (-2), h4) := by
      obtain ⟨fu, rfl⟩ : ∃ m, N = m + 1 := ⟨N - 1, by omega⟩
      rw [st]
      show fX12_paint_b21_body (fu + 1) (fX12_paint_b21 (fu + 1) 29 fu) 29 h4 (iI ((0 : Nat) : Int)) (iI (-1)) (iI 0) = _
      have a1 : ¬ iI 0 < iI 0 := by decide
      have a2 : iI ((0 : Nat) : Int) ≤ iI 0 := by decide
      have a3 : ¬ iI 0 ≤ iI (-1) := by decide
      simp only [fX12_paint_b21_body, fX12_paint_b161, fX12_paint_b171, lit, iI_neg]
      refine ifn (a1) ?_
      refine ifp (a2) ?_
      refine ifn (a3) ?_
      rfl
    obtain ⟨t1, t2, t3⟩ := fin h4 ng gv Ke_rf s4 b3 (y1.trans c3) g463 (fun i hi => ⟨(y2 i).trans (r3 i hi).1, (a469 i).trans (r3 i hi).2⟩)
    exact ⟨iI (-2), h1, h4, e1, rl, t1, t2, t3⟩
  · obtain ⟨e, rfl⟩ : ∃ e, nv = e + 1 := ⟨nv - 1, by omega⟩
    have wb := wdt_b (show e < 6 by omega)
    have w2 : nf * wdt e ≤ 12 * 294074 := Nat.mul_le_mul b1 wb
    obtain ⟨h5, fu', p1, p2, p3, p4, p5, -⟩ := L_dfs (N := N) hN hS4 hz4 b1 b2' ((ke4.1 1256 29 (by decide) (by omega)).trans c4) (qF.e hz ke4 (by omega) (by omega) (by decide) (by decide)) (qV.e hz ke4 (by omega) (by omega) (by decide) (by decide)) e nf 0 0 (fun _ => 0) (-1, fun _ => 0) N h4 (by omega) (by omega) (fun k hk => by omega) h40 ⟨by simp only [csP]; omega, by simp only [csP]; omega⟩ ⟨by simp only; omega, by simp only; omega, fun _ => ⟨rfl, fun _ => rfl⟩, fun z => by simp only at z; omega⟩ (by omega) Ke_rf rfl
    have all := fld_all (ct := (ctf fh fw fp vh vw vp)) (nf := nf) (nv := e + 1) (e := e) (T := 0) (P := 0) (by omega) (gl := glf (ctf fh fw fp vh vw vp) nf (e + 1) (fun _ => 0) 0 e 0) (-1, fun _ => 0)
    rw [Nat.sub_self] at all
    have gg : ∀ k, glf (ctf fh fw fp vh vw vp) nf (e + 1) (fun _ => 0) 0 e 0 (gf1 (ctf fh fw fp vh vw vp) nf (e + 1) e 0) k = gvs (ctf fh fw fp vh vw vp) nf (e + 1) (e + 1) 0 k := fun k => by
      unfold glf
      rw [if_neg (by omega)]
      cases k with
      | zero => rw [if_pos rfl]; rfl
      | succ k => rw [if_neg (by omega), Nat.zero_add, Nat.add_sub_cancel]; rfl
    have bb := bsm_b (ctf fh fw fp vh vw vp) nf (e + 1) (e + 1) 0
    simp only [mkP, csP] at p2 p5
    rw [all] at p2 p5
    generalize bsm (ctf fh fw fp vh vw vp) nf (e + 1) (e + 1) 0 = X at *
    obtain ⟨fu', rfl⟩ : ∃ m, fu' = m + 1 := ⟨fu' - 1, by omega⟩
    have em : (((0 : Nat) : Int) - 1) = -1 := by omega
    rw [em] at p2
    by_cases m : X < 1000000
    · have cnd : X < 1000000 ∧ (((-1 : Int), (fun _ => 0 : Nat → Nat)).1 < 0 ∨ 0 + X < ((-1 : Int), (fun _ => 0 : Nat → Nat)).1) := ⟨m, Or.inl (by decide)⟩
      rw [if_pos cnd] at p2 p5
      have nw' : ¬ (e + 1 = 0 ∨ 1000000 ≤ X) := by omega
      rw [if_neg nw'] at e1
      obtain ⟨y1, y2⟩ := xY nw'
      simp only [Int.zero_add] at p2 p5
      obtain ⟨-, -, -, p58⟩ := p5
      obtain ⟨k1, k2⟩ := p58 bb.1
      rw [v_stop (by omega), if_neg (by omega)] at p2
      obtain ⟨t1, t2, t3⟩ := fin h5 (e + 1) (fun k => (gvs (ctf fh fw fp vh vw vp) nf (e + 1) (e + 1) 0 k : Nat)) p3 (p4.trans s4) b2' y1 k1 (fun i hi => ⟨y2 i hi, by rw [k2 i hi]; simp only [gg]⟩)
      exact ⟨iI X, h1, h5, e1, st.trans p2, t1, t2, t3⟩
    · have cnd : ¬ (X < 1000000 ∧ (((-1 : Int), (fun _ => 0 : Nat → Nat)).1 < 0 ∨ 0 + X < ((-1 : Int), (fun _ => 0 : Nat → Nat)).1)) := fun z => m z.1
      rw [if_neg cnd] at p2 p5
      have yw : e + 1 = 0 ∨ 1000000 ≤ X := Or.inr (by omega)
      rw [if_pos yw] at e1
      obtain ⟨y1, y2⟩ := xN yw
      obtain ⟨-, -, p57, -⟩ := p5
      obtain ⟨k1, k2⟩ := p57 (by decide)
      rw [v_stop (by simp only; omega), if_pos (by decide)] at p2
      obtain ⟨t1, t2, t3⟩ := fin h5 ng gv p3 (p4.trans s4) b3 (y1.trans c3) (k1.trans g463) (fun i hi => ⟨(y2 i).trans (r3 i hi).1, (k2 i).trans ((a469 i).trans (r3 i hi).2)⟩)
      exact ⟨iI (-2), h1, h5, e1, st.trans p2, t1, t2, t3⟩
/-! ===== what a change told stays ===== -/
theorem RChg.e {F A FR AQ : List Nat} {h h2 : Hs} {nt na : Nat} {as no : Bool} {cr cd wk : Nat → Int} (hC : RChg h nt na as no cr cd wk) (hz : 70 ≤ sz h) (k : Ke F A FR AQ h h2) (hF : ∀ f ∈ [104, 105, 106, 107, 108, 1229, 1230, 1234], f ∉ F) (hA : ∀ a ∈ [26, 27, 49, 50, 51], a ∉ A) : RChg h2 nt na as no cr cd wk := by
  unfold RChg
  rw [k.1 104 25 (hF _ (by decide)) (by omega), k.1 105 25 (hF _ (by decide)) (by omega), k.1 106 25 (hF _ (by decide)) (by omega), k.1 107 25 (hF _ (by decide)) (by omega), k.1 108 25 (hF _ (by decide)) (by omega), k.1 1229 29 (hF _ (by decide)) (by omega), k.1 1230 29 (hF _ (by decide)) (by omega), k.1 1234 29 (hF _ (by decide)) (by omega), k.2.1 26 (hA _ (by decide)) (by omega), k.2.1 27 (hA _ (by decide)) (by omega), k.2.1 49 (hA _ (by decide)) (by omega), k.2.1 50 (hA _ (by decide)) (by omega), k.2.1 51 (hA _ (by decide)) (by omega)]
  exact hC
theorem RChg.up {h : Hs} {nt nt' na : Nat} {as no : Bool} {cr cd wk : Nat → Int} (hC : RChg h nt na as no cr cd wk) (hn : nt ≤ nt') : RChg h nt' na as no cr cd wk := by
  obtain ⟨c1, c2⟩ := hC
  refine ⟨c1, fun z => ?_⟩
  obtain ⟨⟨d1, d2, d3, d4⟩, d5⟩ := c2 z
  exact ⟨⟨d1, d2, d3, by omega⟩, d5⟩
/-! ===== what holds between the calls ===== -/
def VCore (h : Hs) (w : Int) (nt nd nr : Nat) (tA dA rA sA rT : Nat → Nat) (tl tw tg ls ms pa ds wy gr hd : Nat → Int) (gn : Nat → Bool) (sc : Nat → Nat → Int) (dr td : Nat → Option Nat) (sr dn : Nat → Int) : Prop := (Sk h ∧ 70 ≤ sz h) ∧ RTh h nt tA tl tw tg ls ms pa ∧ RSc h nt tA sA ls ms sc ∧ RDr h nd dA ds ∧ RRo h nr nt rA tA rT wy gr hd gn ∧ RTi h nt nd nr tA dA rA rT dr td sr dn ∧ (∀ r, r < nr → dr r ≠ none → ls (rT r) ≤ sr r ∧ sr r ≤ ms (rT r)) ∧ (∀ r, r < nr → dr r ≠ none → pa (rT r) = sr r + wy r * (dn r).tdiv (100 * gr r)) ∧ (∀ r, nr ≤ r → r < 40 → aI h 44 r = iI 0) ∧ ∀ r, r < nr → dr r ≠ none → -(20 * w) ≤ dn r ∧ dn r ≤ 20 * w
def VKept (h : Hs) (w : Int) (nt nd nr : Nat) (tA dA rA rT : Nat → Nat) (ls ms wy gr : Nat → Int) : Prop := gI h 1106 0 = iI 1 → ∃ (pk : Nat → Int) (dk tk : Nat → Option Nat) (sk nk ck : Nat → Int), RKc h nt nr tA dA rA pk dk tk sk nk ck ∧ RKm h nt nr rT pk dk sk nk ck ∧ RKl nt nd nr rT wy gr ls ms pk dk tk sk nk ck ∧ RKs h ∧ ∀ r, r < nr → dk r ≠ none → -(20 * w) ≤ nk r ∧ nk r ≤ 20 * w
def VSmall (h : Hs) : Prop := ICnt h ∧ IBnd h ∧ ICan h ∧ ICat h ∧ ICand h ∧ IStk h ∧ IStp h ∧ RSh h
def Inv (k : Nat) (h : Hs) : Prop := ∃ (w : Int) (L : Nat) (bt : Nat → Int) (nt nd nr na : Nat) (tA dA rA sA rT : Nat → Nat) (tl tw tg ls ms pa ds wy gr hd : Nat → Int) (gn : Nat → Bool) (sc : Nat → Nat → Int) (dr td : Nat → Option Nat) (sr dn cr cd wk : Nat → Int) (as no : Bool), (0 ≤ w ∧ 4 * w + 9999 * L ≤ 39996 * k) ∧ VCore h w nt nd nr tA dA rA sA rT tl tw tg ls ms pa ds wy gr hd gn sc dr td sr dn ∧ VKept h w nt nd nr tA dA rA rT ls ms wy gr ∧ VSmall h ∧ RTape h L bt ∧ RChg h nt na as no cr cd wk
theorem Inv.up {k : Nat} {h : Hs} (hI : Inv k h) : Inv (k + 1) h := by
  obtain ⟨w, L, bt, nt, nd, nr, na, tA, dA, rA, sA, rT, tl, tw, tg, ls, ms, pa, ds, wy, gr, hd, gn, sc, dr, td, sr, dn, cr, cd, wk, as, no, ⟨g1, g2⟩, rest⟩ := hI
  exact ⟨w, L, bt, nt, nd, nr, na, tA, dA, rA, sA, rT, tl, tw, tg, ls, ms, pa, ds, wy, gr, hd, gn, sc, dr, td, sr, dn, cr, cd, wk, as, no, ⟨g1, by omega⟩, rest⟩
theorem Inv.mk {k : Nat} {h : Hs} (w : Int) (L : Nat) (bt : Nat → Int) (nt nd nr na : Nat) (tA dA rA sA rT : Nat → Nat) (tl tw tg ls ms pa ds wy gr hd : Nat → Int) (gn : Nat → Bool) (sc : Nat → Nat → Int) (dr td : Nat → Option Nat) (sr dn cr cd wk : Nat → Int) (as no : Bool) (c1 : (0 ≤ w ∧ 4 * w + 9999 * L ≤ 39996 * k)) (c2 : VCore h w nt nd nr tA dA rA sA rT tl tw tg ls ms pa ds wy gr hd gn sc dr td sr dn) (c3 : VKept h w nt nd nr tA dA rA rT ls ms wy gr) (c4 : VSmall h) (c5 : RTape h L bt) (c6 : RChg h nt na as no cr cd wk) : Inv k h := ⟨w, L, bt, nt, nd, nr, na, tA, dA, rA, sA, rT, tl, tw, tg, ls, ms, pa, ds, wy, gr, hd, gn, sc, dr, td, sr, dn, cr, cd, wk, as, no, c1, c2, c3, c4, c5, c6⟩
theorem Inv.el {k : Nat} {h : Hs} {P : Prop} (hI : Inv k h) (f : ∀ (w : Int) (L : Nat) (bt : Nat → Int) (nt nd nr na : Nat) (tA dA rA sA rT : Nat → Nat) (tl tw tg ls ms pa ds wy gr hd : Nat → Int) (gn : Nat → Bool) (sc : Nat → Nat → Int) (dr td : Nat → Option Nat) (sr dn cr cd wk : Nat → Int) (as no : Bool), (0 ≤ w ∧ 4 * w + 9999 * L ≤ 39996 * k) → VCore h w nt nd nr tA dA rA sA rT tl tw tg ls ms pa ds wy gr hd gn sc dr td sr dn → VKept h w nt nd nr tA dA rA rT ls ms wy gr → VSmall h → RTape h L bt → RChg h nt na as no cr cd wk → P) : P := by
  obtain ⟨w, L, bt, nt, nd, nr, na, tA, dA, rA, sA, rT, tl, tw, tg, ls, ms, pa, ds, wy, gr, hd, gn, sc, dr, td, sr, dn, cr, cd, wk, as, no, c1, c2, c3, c4, c5, c6⟩ := hI
  exact f w L bt nt nd nr na tA dA rA sA rT tl tw tg ls ms pa ds wy gr hd gn sc dr td sr dn cr cd wk as no c1 c2 c3 c4 c5 c6
/-! ===== what a call doesn't touch ===== -/
theorem VCore.e {F A FR AQ : List Nat} {h h2 : Hs} {w : Int} {nt nd nr : Nat} {tA dA rA sA rT : Nat → Nat} {tl tw tg ls ms pa ds wy gr hd : Nat → Int} {gn : Nat → Bool} {sc : Nat → Nat → Int} {dr td : Nat → Option Nat} {sr dn : Nat → Int} (hV : VCore h w nt nd nr tA dA rA sA rT tl tw tg ls ms pa ds wy gr hd gn sc dr td sr dn) (k : Ke F A FR AQ h h2) (hS2 : Sk h2) (hF : ∀ f ∈ FTh ++ [508, 1209, 200, 201, 509, 1211, 400, 402, 403, 404, 408, 406, 407], f ∉ F) (hA : ∀ a ∈ ATh ++ [48, 37, 38, 39, 40, 41, 44, 36, 42, 43], a ∉ A) (hA7 : ∀ a ∈ A, a < 70) (hR : ∀ f ∈ [401, 405, 909, 906], f ∉ FR) (hQ : ∀ a ∈ [15, 16, 17], a ∉ AQ) : VCore h2 w nt nd nr tA dA rA sA rT tl tw tg ls ms pa ds wy gr hd gn sc dr td sr dn := by
  obtain ⟨⟨hS, hz⟩, hT, hC, hD, hO, hI, r1, r2, r3, r4⟩ := hV
  have k6 := k.2.2.2.2.2
  refine ⟨⟨hS2, by omega⟩, hT.e hz k (fun f hf => hF f (List.mem_append_left _ hf)) (fun a ha => hA a (List.mem_append_left _ ha)) (hQ 15 (by decide)), hC.e hz hT.lt k (hR 906 (by decide)) (hA 48 (by decide)) (fun i hi z => by have := hA7 _ z; have := (hC.1 i hi).1.2.1; omega), hD.e hz k (fun f hf => hF f ?_) (hA 37 (by decide)) (hQ 16 (by decide)), hO.e hz k (fun f hf => hF f ?_) (fun a ha => hA a ?_) (hR 401 (by decide)) (hQ 17 (by decide)), hI.e hz hT.lt hO.lt k (fun f hf => hF f ?_) (fun a ha => hA a ?_) (fun f hf => hR f ?_), r1, r2, ?_, r4⟩
  · revert f; decide
  · revert f; decide
  · revert a; decide
  · revert f; decide
  · revert a; decide
  · revert f; decide
  · intro r h1 h3
    rw [k.2.1 44 (hA 44 (by decide)) (by omega)]
    exact r3 r h1 h3
theorem VKept.e {F A FR AQ : List Nat} {h h2 : Hs} {w : Int} {nt nd nr : Nat} {tA dA rA rT : Nat → Nat} {ls ms wy gr : Nat → Int} (hV : VKept h w nt nd nr tA dA rA rT ls ms wy gr) (hz : 70 ≤ sz h) (ht : ∀ i, i < nt → tA i < sz h) (hr : ∀ r, r < nr → rA r < sz h) (k : Ke F A FR AQ h h2) (hF : ∀ f ∈ [1106, 910, 410, 411, 513, 514, 1249, 1250], f ∉ F) (hA : ∀ a ∈ [19, 57, 58, 59, 60, 61], a ∉ A) (hR : ∀ f ∈ [911, 409], f ∉ FR) : VKept h2 w nt nd nr tA dA rA rT ls ms wy gr := by
  intro q
  rw [k.1 1106 0 (hF _ (by decide)) (by omega)] at q
  obtain ⟨pk, dk, tk, sk, nk, ck, v1, v2, v3, v4, v5⟩ := hV q
  refine ⟨pk, dk, tk, sk, nk, ck, v1.e hz ht hr k (fun f hf => hF f ?_) (hA 19 (by decide)) hR, v2.e hz k (fun a ha => hA a ?_), v3, v4.e hz k (fun f hf => hF f ?_), v5⟩
  · revert f; decide
  · revert a; decide
  · revert f; decide
/-! ===== the calls keep Inv ===== -/
theorem i_paint {N : Nat} (hN : 100000000 ≤ N) {k : Nat} {h : Hs} (hI : Inv k h) : ∃ r h1 h2, fX11_paint N h 0 = some (r, h1) ∧ fX12_paint N h1 29 = some (r, h2) ∧ Inv (k + 1) h2 := by
  have hU := hI.up
  obtain ⟨w, L, bt, nt, nd, nr, na, tA, dA, rA, sA, rT, tl, tw, tg, ls, ms, pa, ds, wy, gr, hd, gn, sc, dr, td, sr, dn, cr, cd, wk, as, no, gg, vc, vk, ⟨s1, s2, s3, s4, s5, s6, s7, s8⟩, tp, cg⟩ := hU
  obtain ⟨hS, hz⟩ := vc.1
  obtain ⟨a, h1, h2, e1, e2, q1, q2, q3⟩ := t_paint (N := N) hN hS hz s6
  refine ⟨a, h1, h2, e1, e2, w, L, bt, nt, nd, nr, na, tA, dA, rA, sA, rT, tl, tw, tg, ls, ms, pa, ds, wy, gr, hd, gn, sc, dr, td, sr, dn, cr, cd, wk, as, no, gg, vc.e q2 (hS.e hz q2 (by decide +kernel)) (by decide +kernel) (by decide +kernel) (by decide +kernel) (by decide +kernel) (by decide +kernel), vk.e hz vc.2.1.lt vc.2.2.2.2.1.lt q2 (by decide +kernel) (by decide +kernel) (by decide +kernel), ⟨s1.e hz q2 (by decide +kernel) (by decide +kernel), ?_, s3.e hz q2 (by decide +kernel) (by decide +kernel), s4.e hz q2 (by decide +kernel), s5.e hz q2 (by decide +kernel) (by decide +kernel), q1, s7.e hz q2 (by decide +kernel), s8.e hz q2 (by decide +kernel)⟩, tp.e hz q2 (by decide +kernel) (by decide +kernel) (by decide +kernel) (by decide +kernel), cg.e hz q2 (by decide +kernel) (by decide +kernel)⟩
  obtain ⟨b, b1, b2', b3⟩ := s2
  exact ⟨b, (q2.1 510 14 (by decide +kernel) (by omega)).trans b1, (q2.1 1220 29 (by decide +kernel) (by omega)).trans b2', b3⟩
theorem i_back {N : Nat} (hN : 100000000 ≤ N) {k : Nat} {h : Hs} (hI : Inv k h) : ∃ r h1 h2, fX11_back N h 0 = some (r, h1) ∧ fX12_back N h1 29 = some (r, h2) ∧ Inv (k + 1) h2 := by
  have hU := hI.up
  obtain ⟨w, L, bt, nt, nd, nr, na, tA, dA, rA, sA, rT, tl, tw, tg, ls, ms, pa, ds, wy, gr, hd, gn, sc, dr, td, sr, dn, cr, cd, wk, as, no, gg, vc, vk, ⟨s1, s2, s3, s4, s5, s6, s7, s8⟩, tp, cg⟩ := id hU
  obtain ⟨⟨hS, hz⟩, hT, hC, hD, hO, hTi, r1, r2, r3, r4⟩ := vc
  obtain ⟨pk, dk, tk, sk, nk, ck, hK⟩ : ∃ (pk : Nat → Int) (dk tk : Nat → Option Nat) (sk nk ck : Nat → Int), gI h 1106 0 = iI 1 → RKc h nt nr tA dA rA pk dk tk sk nk ck ∧ RKm h nt nr rT pk dk sk nk ck ∧ RKl nt nd nr rT wy gr ls ms pk dk tk sk nk ck ∧ RKs h ∧ ∀ r, r < nr → dk r ≠ none → -(20 * w) ≤ nk r ∧ nk r ≤ 20 * w := by
    by_cases q : gI h 1106 0 = iI 1
    · obtain ⟨pk, dk, tk, sk, nk, ck, z⟩ := vk q
      exact ⟨pk, dk, tk, sk, nk, ck, fun _ => z⟩
    · exact ⟨pa, dr, td, sr, dn, dn, fun z => absurd z q⟩
  obtain ⟨a, h1, h2, e1, e2, q⟩ := t_back (N := N) hN hS hz hT hO s3 (fun z => ⟨(hK z).1, (hK z).2.1, (hK z).2.2.1, (hK z).2.2.2.1⟩)
  refine ⟨a, h1, h2, e1, e2, ?_⟩
  rcases q with rfl | ⟨c1, c0, cn, hT2, hI2, hW2, hE2, q2, q3⟩
  · exact hU
  · obtain ⟨z1, z2, z3, z4, z5⟩ := hK c1
    have hS2 := hS.e hz q2 (by decide +kernel)
    have hA7 : ∀ a ∈ [18, 33, 36, 42, 43, 45], a < 70 := by decide +kernel
    refine ⟨w, L, bt, nt, nd, nr, na, tA, dA, rA, sA, rT, tl, tw, tg, ls, ms, pk, ds, wy, gr, hd, gn, sc, dk, tk, sk, nk, cr, cd, wk, as, no, gg, ⟨⟨hS2, by omega⟩, hT2, hC.e hz hT.lt q2 (by decide +kernel) (by decide +kernel) (fun i hi z => by have := (hC.1 i hi).1.2.1; have := hA7 _ z; omega), hD.e hz q2 (by decide +kernel) (by decide +kernel) (by decide +kernel), hO.e hz q2 (by decide +kernel) (by decide +kernel) (by decide +kernel) (by decide +kernel), hI2, fun r hr hn => (z3.2.1 r hr hn).2, fun r hr hn => (z3.2.1 r hr hn).1, fun r x1 x2 => by rw [q2.2.1 44 (by decide +kernel) (by omega)]; exact r3 r x1 x2, z5⟩, (fun z => absurd (c0.symm.trans z) (by decide +kernel)), ⟨⟨ck, fun i hi => ⟨(hW2 i hi).1, (hW2 i hi).2, z3.2.2.1 i hi⟩⟩, ?_, cn, s4.e hz q2 (by decide +kernel), s5.e hz q2 (by decide +kernel) (by decide +kernel), s6.e hz q2 (by decide +kernel) (by decide +kernel) (by decide +kernel), s7.e hz q2 (by decide +kernel), hE2⟩, tp.e hz q2 (by decide +kernel) (by decide +kernel) (by decide +kernel) (by decide +kernel), cg.e hz q2 (by decide +kernel) (by decide +kernel)⟩
    obtain ⟨b, b1, b2', b3⟩ := s2
    exact ⟨b, (q2.1 510 14 (by decide +kernel) (by omega)).trans b1, (q2.1 1220 29 (by decide +kernel) (by omega)).trans b2', b3⟩
/-! ===== the calls that touch only small things keep Inv ===== -/
theorem i_ofThing {N : Nat} (hN : 100000000 ≤ N) {k : Nat} {h : Hs} (hI : Inv k h) (p1 p2 : Int32) : ∃ r h1 h2, fX11_ofThing N h 0 p1 p2 = some (r, h1) ∧ fX12_ofThing N h1 29 p1 p2 = some (r, h2) ∧ Inv (k + 1) h2 := by
  have hU := hI.up
  refine hU.el ?_
  intro w L bt nt nd nr na tA dA rA sA rT tl tw tg ls ms pa ds wy gr hd gn sc dr td sr dn cr cd wk as no gg vc vk sm tp cg
  obtain ⟨s1, s2, s3, s4, s5, s6, s7, s8⟩ := sm
  obtain ⟨⟨hS, hz⟩, hT, hC, hD, hO, hTi, r1, r2, r3, r4⟩ := id vc
  obtain ⟨a, e1, e2⟩ := t_ofThing (N := N) hN hS hT hD hO hTi p1 p2
  exact ⟨a, h, h, e1, e2, hU⟩
theorem i_on {N : Nat} (hN : 100000000 ≤ N) {k : Nat} {h : Hs} (hI : Inv k h) (p1 : Int32) : ∃ r h1 h2, fX11_on N h 0 p1 = some (r, h1) ∧ fX12_on N h1 29 p1 = some (r, h2) ∧ Inv (k + 1) h2 := by
  have hU := hI.up
  refine hU.el ?_
  intro w L bt nt nd nr na tA dA rA sA rT tl tw tg ls ms pa ds wy gr hd gn sc dr td sr dn cr cd wk as no gg vc vk sm tp cg
  obtain ⟨s1, s2, s3, s4, s5, s6, s7, s8⟩ := sm
  obtain ⟨⟨hS, hz⟩, hT, hC, hD, hO, hTi, r1, r2, r3, r4⟩ := id vc
  obtain ⟨a, e1, e2⟩ := t_on (N := N) hN hS hT p1
  exact ⟨a, h, h, e1, e2, hU⟩
theorem i_ofRope {N : Nat} (hN : 100000000 ≤ N) {k : Nat} {h : Hs} (hI : Inv k h) (p1 p2 : Int32) : ∃ r h1 h2, fX11_ofRope N h 0 p1 p2 = some (r, h1) ∧ fX12_ofRope N h1 29 p1 p2 = some (r, h2) ∧ Inv (k + 1) h2 := by
  have hU := hI.up
  refine hU.el ?_
  intro w L bt nt nd nr na tA dA rA sA rT tl tw tg ls ms pa ds wy gr hd gn sc dr td sr dn cr cd wk as no gg vc vk sm tp cg
  obtain ⟨s1, s2, s3, s4, s5, s6, s7, s8⟩ := sm
  obtain ⟨⟨hS, hz⟩, hT, hC, hD, hO, hTi, r1, r2, r3, r4⟩ := id vc
  obtain ⟨a, e1, e2⟩ := t_ofRope (N := N) hS hT hD hO hTi p1 p2
  exact ⟨a, h, h, e1, e2, hU⟩
theorem i_stopped {N : Nat} (hN : 100000000 ≤ N) {k : Nat} {h : Hs} (hI : Inv k h) (p1 : Int32) : ∃ r h1 h2, fX11_stopped N h 0 p1 = some (r, h1) ∧ fX12_stopped N h1 29 p1 = some (r, h2) ∧ Inv (k + 1) h2 := by
  have hU := hI.up
  refine hU.el ?_
  intro w L bt nt nd nr na tA dA rA sA rT tl tw tg ls ms pa ds wy gr hd gn sc dr td sr dn cr cd wk as no gg vc vk sm tp cg
  obtain ⟨s1, s2, s3, s4, s5, s6, s7, s8⟩ := sm
  obtain ⟨⟨hS, hz⟩, hT, hC, hD, hO, hTi, r1, r2, r3, r4⟩ := id vc
  obtain ⟨a, e1, e2⟩ := t_stopped (N := N) hS s7 p1
  exact ⟨a, h, h, e1, e2, hU⟩
theorem i_told {N : Nat} (hN : 100000000 ≤ N) {k : Nat} {h : Hs} (hI : Inv k h) (p1 p2 : Int32) : ∃ r h1 h2, fX11_told N h 0 p1 p2 = some (r, h1) ∧ fX12_told N h1 29 p1 p2 = some (r, h2) ∧ Inv (k + 1) h2 := by
  have hU := hI.up
  refine hU.el ?_
  intro w L bt nt nd nr na tA dA rA sA rT tl tw tg ls ms pa ds wy gr hd gn sc dr td sr dn cr cd wk as no gg vc vk sm tp cg
  obtain ⟨s1, s2, s3, s4, s5, s6, s7, s8⟩ := sm
  obtain ⟨⟨hS, hz⟩, hT, hC, hD, hO, hTi, r1, r2, r3, r4⟩ := id vc
  obtain ⟨a, e1, e2⟩ := t_told (N := N) hS hT cg p1 p2
  exact ⟨a, h, h, e1, e2, hU⟩
theorem i_work {N : Nat} (hN : 100000000 ≤ N) {k : Nat} {h : Hs} (hI : Inv k h) (p1 : Int32) : ∃ r h1 h2, fX11_work N h 0 p1 = some (r, h1) ∧ fX12_work N h1 29 p1 = some (r, h2) ∧ Inv (k + 1) h2 := by
  have hU := hI.up
  refine hU.el ?_
  intro w L bt nt nd nr na tA dA rA sA rT tl tw tg ls ms pa ds wy gr hd gn sc dr td sr dn cr cd wk as no gg vc vk sm tp cg
  obtain ⟨s1, s2, s3, s4, s5, s6, s7, s8⟩ := sm
  obtain ⟨⟨hS, hz⟩, hT, hC, hD, hO, hTi, r1, r2, r3, r4⟩ := id vc
  obtain ⟨a, e1, e2⟩ := t_work (N := N) hN hS hT.1.2.2 cg p1
  exact ⟨a, h, h, e1, e2, hU⟩
theorem i_given {N : Nat} (hN : 100000000 ≤ N) {k : Nat} {h : Hs} (hI : Inv k h) (p1 : Int32) : ∃ r h1 h2, fX11_given N h 0 p1 = some (r, h1) ∧ fX12_given N h1 29 p1 = some (r, h2) ∧ Inv (k + 1) h2 := by
  have hU := hI.up
  refine hU.el ?_
  intro w L bt nt nd nr na tA dA rA sA rT tl tw tg ls ms pa ds wy gr hd gn sc dr td sr dn cr cd wk as no gg vc vk sm tp cg
  obtain ⟨s1, s2, s3, s4, s5, s6, s7, s8⟩ := sm
  obtain ⟨⟨hS, hz⟩, hT, hC, hD, hO, hTi, r1, r2, r3, r4⟩ := id vc
  obtain ⟨a, e1, e2⟩ := t_given (N := N) hS s6 p1
  exact ⟨a, h, h, e1, e2, hU⟩
theorem i_count {N : Nat} (hN : 100000000 ≤ N) {k : Nat} {h : Hs} (hI : Inv k h) (p1 : Int32) : ∃ r h1 h2, fX11_count N h 0 p1 = some (r, h1) ∧ fX12_count N h1 29 p1 = some (r, h2) ∧ Inv (k + 1) h2 := by
  have hU := hI.up
  refine hU.el ?_
  intro w L bt nt nd nr na tA dA rA sA rT tl tw tg ls ms pa ds wy gr hd gn sc dr td sr dn cr cd wk as no gg vc vk sm tp cg
  obtain ⟨s1, s2, s3, s4, s5, s6, s7, s8⟩ := sm
  obtain ⟨⟨hS, hz⟩, hT, hC, hD, hO, hTi, r1, r2, r3, r4⟩ := id vc
  obtain ⟨a, e1, e2⟩ := t_count (N := N) hN hS hT hD hO hTi s5 s6 tp s8.1 rfl s8.2 rfl p1
  exact ⟨a, h, h, e1, e2, hU⟩
theorem i_candle {N : Nat} (hN : 100000000 ≤ N) {k : Nat} {h : Hs} (hI : Inv k h) (p1 : Int32) : ∃ r h1 h2, fX11_candle N h 0 p1 = some (r, h1) ∧ fX12_candle N h1 29 p1 = some (r, h2) ∧ Inv (k + 1) h2 := by
  have hU := hI.up
  refine hU.el ?_
  intro w L bt nt nd nr na tA dA rA sA rT tl tw tg ls ms pa ds wy gr hd gn sc dr td sr dn cr cd wk as no gg vc vk sm tp cg
  obtain ⟨s1, s2, s3, s4, s5, s6, s7, s8⟩ := sm
  obtain ⟨⟨hS, hz⟩, hT, hC, hD, hO, hTi, r1, r2, r3, r4⟩ := id vc
  obtain ⟨a, h1, h2, e1, e2, q1, qk⟩ := t_candle (N := N) hS s5 p1
  have q2 : Ke FCand ACand [] [] h h2 := qk.e
  refine ⟨a, h1, h2, e1, e2, Inv.mk (w) (L) (bt) (nt) (nd) (nr) (na) (tA) (dA) (rA) (sA) (rT) (tl) (tw) (tg) (ls) (ms) (pa) (ds) (wy) (gr) (hd) (gn) (sc) (dr) (td) (sr) (dn) (cr) (cd) (wk) (as) (no) gg (vc.e q2 (hS.e hz q2 (by decide +kernel)) (by decide +kernel) (by decide +kernel) (by decide +kernel) (by decide +kernel) (by decide +kernel)) (vk.e hz vc.2.1.lt vc.2.2.2.2.1.lt q2 (by decide +kernel) (by decide +kernel) (by decide +kernel)) ⟨s1.e hz q2 (by decide +kernel) (by decide +kernel), s2.e hz q2 (by decide +kernel) (by decide +kernel), s3.e hz q2 (by decide +kernel) (by decide +kernel), s4.e hz q2 (by decide +kernel), q1, s6.e hz q2 (by decide +kernel) (by decide +kernel) (by decide +kernel), s7.e hz q2 (by decide +kernel), s8.e hz q2 (by decide +kernel)⟩ (tp.e hz q2 (by decide +kernel) (by decide +kernel) (by decide +kernel) (by decide +kernel)) (cg.e hz q2 (by decide +kernel) (by decide +kernel))⟩
theorem i_minutes {N : Nat} (hN : 100000000 ≤ N) {k : Nat} {h : Hs} (hI : Inv k h) (p1 : Int32) : ∃ r h1 h2, fX11_minutes N h 0 p1 = some (r, h1) ∧ fX12_minutes N h1 29 p1 = some (r, h2) ∧ Inv (k + 1) h2 := by
  have hU := hI.up
  refine hU.el ?_
  intro w L bt nt nd nr na tA dA rA sA rT tl tw tg ls ms pa ds wy gr hd gn sc dr td sr dn cr cd wk as no gg vc vk sm tp cg
  obtain ⟨s1, s2, s3, s4, s5, s6, s7, s8⟩ := sm
  obtain ⟨⟨hS, hz⟩, hT, hC, hD, hO, hTi, r1, r2, r3, r4⟩ := id vc
  obtain ⟨a, h1, h2, e1, e2, q1, qk⟩ := t_minutes (N := N) hS s5 p1
  have q2 : Ke FCand ACand [] [] h h2 := qk.e
  refine ⟨a, h1, h2, e1, e2, Inv.mk (w) (L) (bt) (nt) (nd) (nr) (na) (tA) (dA) (rA) (sA) (rT) (tl) (tw) (tg) (ls) (ms) (pa) (ds) (wy) (gr) (hd) (gn) (sc) (dr) (td) (sr) (dn) (cr) (cd) (wk) (as) (no) gg (vc.e q2 (hS.e hz q2 (by decide +kernel)) (by decide +kernel) (by decide +kernel) (by decide +kernel) (by decide +kernel) (by decide +kernel)) (vk.e hz vc.2.1.lt vc.2.2.2.2.1.lt q2 (by decide +kernel) (by decide +kernel) (by decide +kernel)) ⟨s1.e hz q2 (by decide +kernel) (by decide +kernel), s2.e hz q2 (by decide +kernel) (by decide +kernel), s3.e hz q2 (by decide +kernel) (by decide +kernel), s4.e hz q2 (by decide +kernel), q1, s6.e hz q2 (by decide +kernel) (by decide +kernel) (by decide +kernel), s7.e hz q2 (by decide +kernel), s8.e hz q2 (by decide +kernel)⟩ (tp.e hz q2 (by decide +kernel) (by decide +kernel) (by decide +kernel) (by decide +kernel)) (cg.e hz q2 (by decide +kernel) (by decide +kernel))⟩
theorem i_trim {N : Nat} (hN : 100000000 ≤ N) {k : Nat} {h : Hs} (hI : Inv k h) (p1 : Int32) : ∃ r h1 h2, fX11_trim N h 0 p1 = some (r, h1) ∧ fX12_trim N h1 29 p1 = some (r, h2) ∧ Inv (k + 1) h2 := by
  have hU := hI.up
  refine hU.el ?_
  intro w L bt nt nd nr na tA dA rA sA rT tl tw tg ls ms pa ds wy gr hd gn sc dr td sr dn cr cd wk as no gg vc vk sm tp cg
  obtain ⟨s1, s2, s3, s4, s5, s6, s7, s8⟩ := sm
  obtain ⟨⟨hS, hz⟩, hT, hC, hD, hO, hTi, r1, r2, r3, r4⟩ := id vc
  obtain ⟨a, h1, h2, e1, e2, q1, qk⟩ := t_trim (N := N) hN hS s5 p1
  have q2 : Ke FCand ACand [] [] h h2 := qk.e
  refine ⟨a, h1, h2, e1, e2, Inv.mk (w) (L) (bt) (nt) (nd) (nr) (na) (tA) (dA) (rA) (sA) (rT) (tl) (tw) (tg) (ls) (ms) (pa) (ds) (wy) (gr) (hd) (gn) (sc) (dr) (td) (sr) (dn) (cr) (cd) (wk) (as) (no) gg (vc.e q2 (hS.e hz q2 (by decide +kernel)) (by decide +kernel) (by decide +kernel) (by decide +kernel) (by decide +kernel) (by decide +kernel)) (vk.e hz vc.2.1.lt vc.2.2.2.2.1.lt q2 (by decide +kernel) (by decide +kernel) (by decide +kernel)) ⟨s1.e hz q2 (by decide +kernel) (by decide +kernel), s2.e hz q2 (by decide +kernel) (by decide +kernel), s3.e hz q2 (by decide +kernel) (by decide +kernel), s4.e hz q2 (by decide +kernel), q1, s6.e hz q2 (by decide +kernel) (by decide +kernel) (by decide +kernel), s7.e hz q2 (by decide +kernel), s8.e hz q2 (by decide +kernel)⟩ (tp.e hz q2 (by decide +kernel) (by decide +kernel) (by decide +kernel) (by decide +kernel)) (cg.e hz q2 (by decide +kernel) (by decide +kernel))⟩
theorem i_light {N : Nat} (hN : 100000000 ≤ N) {k : Nat} {h : Hs} (hI : Inv k h) (p1 : Int32) : ∃ r h1 h2, fX11_light N h 0 p1 = some (r, h1) ∧ fX12_light N h1 29 p1 = some (r, h2) ∧ Inv (k + 1) h2 := by
  have hU := hI.up
  refine hU.el ?_
  intro w L bt nt nd nr na tA dA rA sA rT tl tw tg ls ms pa ds wy gr hd gn sc dr td sr dn cr cd wk as no gg vc vk sm tp cg
  obtain ⟨s1, s2, s3, s4, s5, s6, s7, s8⟩ := sm
  obtain ⟨⟨hS, hz⟩, hT, hC, hD, hO, hTi, r1, r2, r3, r4⟩ := id vc
  obtain ⟨a, h1, h2, e1, e2, q1, qk⟩ := t_light (N := N) hN hS s5 p1
  have q2 : Ke FCand ACand [] [] h h2 := qk.e
  refine ⟨a, h1, h2, e1, e2, Inv.mk (w) (L) (bt) (nt) (nd) (nr) (na) (tA) (dA) (rA) (sA) (rT) (tl) (tw) (tg) (ls) (ms) (pa) (ds) (wy) (gr) (hd) (gn) (sc) (dr) (td) (sr) (dn) (cr) (cd) (wk) (as) (no) gg (vc.e q2 (hS.e hz q2 (by decide +kernel)) (by decide +kernel) (by decide +kernel) (by decide +kernel) (by decide +kernel) (by decide +kernel)) (vk.e hz vc.2.1.lt vc.2.2.2.2.1.lt q2 (by decide +kernel) (by decide +kernel) (by decide +kernel)) ⟨s1.e hz q2 (by decide +kernel) (by decide +kernel), s2.e hz q2 (by decide +kernel) (by decide +kernel), s3.e hz q2 (by decide +kernel) (by decide +kernel), s4.e hz q2 (by decide +kernel), q1, s6.e hz q2 (by decide +kernel) (by decide +kernel) (by decide +kernel), s7.e hz q2 (by decide +kernel), s8.e hz q2 (by decide +kernel)⟩ (tp.e hz q2 (by decide +kernel) (by decide +kernel) (by decide +kernel) (by decide +kernel)) (cg.e hz q2 (by decide +kernel) (by decide +kernel))⟩
theorem i_flat {N : Nat} (hN : 100000000 ≤ N) {k : Nat} {h : Hs} (hI : Inv k h) (p1 p2 : Int32) : ∃ r h1 h2, fX11_flat N h 0 p1 p2 = some (r, h1) ∧ fX12_flat N h1 29 p1 p2 = some (r, h2) ∧ Inv (k + 1) h2 := by
  have hU := hI.up
  refine hU.el ?_
  intro w L bt nt nd nr na tA dA rA sA rT tl tw tg ls ms pa ds wy gr hd gn sc dr td sr dn cr cd wk as no gg vc vk sm tp cg
  obtain ⟨s1, s2, s3, s4, s5, s6, s7, s8⟩ := sm
  obtain ⟨⟨hS, hz⟩, hT, hC, hD, hO, hTi, r1, r2, r3, r4⟩ := id vc
  obtain ⟨a, h1, h2, e1, e2, q1, qk⟩ := t_flat (N := N) hS hz s6 p1 p2
  have q2 := qk
  refine ⟨a, h1, h2, e1, e2, Inv.mk (w) (L) (bt) (nt) (nd) (nr) (na) (tA) (dA) (rA) (sA) (rT) (tl) (tw) (tg) (ls) (ms) (pa) (ds) (wy) (gr) (hd) (gn) (sc) (dr) (td) (sr) (dn) (cr) (cd) (wk) (as) (no) gg (vc.e q2 (hS.e hz q2 (by decide +kernel)) (by decide +kernel) (by decide +kernel) (by decide +kernel) (by decide +kernel) (by decide +kernel)) (vk.e hz vc.2.1.lt vc.2.2.2.2.1.lt q2 (by decide +kernel) (by decide +kernel) (by decide +kernel)) ⟨s1.e hz q2 (by decide +kernel) (by decide +kernel), s2.e hz q2 (by decide +kernel) (by decide +kernel), s3.e hz q2 (by decide +kernel) (by decide +kernel), s4.e hz q2 (by decide +kernel), s5.e hz q2 (by decide +kernel) (by decide +kernel), q1, s7.e hz q2 (by decide +kernel), s8.e hz q2 (by decide +kernel)⟩ (tp.e hz q2 (by decide +kernel) (by decide +kernel) (by decide +kernel) (by decide +kernel)) (cg.e hz q2 (by decide +kernel) (by decide +kernel))⟩
theorem i_want {N : Nat} (hN : 100000000 ≤ N) {k : Nat} {h : Hs} (hI : Inv k h) (p1 p2 : Int32) : ∃ r h1 h2, fX11_want N h 0 p1 p2 = some (r, h1) ∧ fX12_want N h1 29 p1 p2 = some (r, h2) ∧ Inv (k + 1) h2 := by
  have hU := hI.up
  refine hU.el ?_
  intro w L bt nt nd nr na tA dA rA sA rT tl tw tg ls ms pa ds wy gr hd gn sc dr td sr dn cr cd wk as no gg vc vk sm tp cg
  obtain ⟨s1, s2, s3, s4, s5, s6, s7, s8⟩ := sm
  obtain ⟨⟨hS, hz⟩, hT, hC, hD, hO, hTi, r1, r2, r3, r4⟩ := id vc
  obtain ⟨a, h1, h2, e1, e2, q1, qk⟩ := t_want (N := N) hS hz s6 p1 p2
  have q2 := qk
  refine ⟨a, h1, h2, e1, e2, Inv.mk (w) (L) (bt) (nt) (nd) (nr) (na) (tA) (dA) (rA) (sA) (rT) (tl) (tw) (tg) (ls) (ms) (pa) (ds) (wy) (gr) (hd) (gn) (sc) (dr) (td) (sr) (dn) (cr) (cd) (wk) (as) (no) gg (vc.e q2 (hS.e hz q2 (by decide +kernel)) (by decide +kernel) (by decide +kernel) (by decide +kernel) (by decide +kernel) (by decide +kernel)) (vk.e hz vc.2.1.lt vc.2.2.2.2.1.lt q2 (by decide +kernel) (by decide +kernel) (by decide +kernel)) ⟨s1.e hz q2 (by decide +kernel) (by decide +kernel), s2.e hz q2 (by decide +kernel) (by decide +kernel), s3.e hz q2 (by decide +kernel) (by decide +kernel), s4.e hz q2 (by decide +kernel), s5.e hz q2 (by decide +kernel) (by decide +kernel), q1, s7.e hz q2 (by decide +kernel), s8.e hz q2 (by decide +kernel)⟩ (tp.e hz q2 (by decide +kernel) (by decide +kernel) (by decide +kernel) (by decide +kernel)) (cg.e hz q2 (by decide +kernel) (by decide +kernel))⟩
theorem i_bound {N : Nat} (hN : 100000000 ≤ N) {k : Nat} {h : Hs} (hI : Inv k h) (p1 : Int32) : ∃ r h1 h2, fX11_bound N h 0 p1 = some (r, h1) ∧ fX12_bound N h1 29 p1 = some (r, h2) ∧ Inv (k + 1) h2 := by
  have hU := hI.up
  refine hU.el ?_
  intro w L bt nt nd nr na tA dA rA sA rT tl tw tg ls ms pa ds wy gr hd gn sc dr td sr dn cr cd wk as no gg vc vk sm tp cg
  obtain ⟨s1, s2, s3, s4, s5, s6, s7, s8⟩ := sm
  obtain ⟨⟨hS, hz⟩, hT, hC, hD, hO, hTi, r1, r2, r3, r4⟩ := id vc
  obtain ⟨a, h1, h2, e1, e2, q1, qk⟩ := t_bound (N := N) hS s2 p1
  have q2 : Ke [510, 1220] [] [] [] h h2 := qk.e
  refine ⟨a, h1, h2, e1, e2, Inv.mk (w) (L) (bt) (nt) (nd) (nr) (na) (tA) (dA) (rA) (sA) (rT) (tl) (tw) (tg) (ls) (ms) (pa) (ds) (wy) (gr) (hd) (gn) (sc) (dr) (td) (sr) (dn) (cr) (cd) (wk) (as) (no) gg (vc.e q2 (hS.e hz q2 (by decide +kernel)) (by decide +kernel) (by decide +kernel) (by decide +kernel) (by decide +kernel) (by decide +kernel)) (vk.e hz vc.2.1.lt vc.2.2.2.2.1.lt q2 (by decide +kernel) (by decide +kernel) (by decide +kernel)) ⟨s1.e hz q2 (by decide +kernel) (by decide +kernel), q1, s3.e hz q2 (by decide +kernel) (by decide +kernel), s4.e hz q2 (by decide +kernel), s5.e hz q2 (by decide +kernel) (by decide +kernel), s6.e hz q2 (by decide +kernel) (by decide +kernel) (by decide +kernel), s7.e hz q2 (by decide +kernel), s8.e hz q2 (by decide +kernel)⟩ (tp.e hz q2 (by decide +kernel) (by decide +kernel) (by decide +kernel) (by decide +kernel)) (cg.e hz q2 (by decide +kernel) (by decide +kernel))⟩
theorem i_hold {N : Nat} (hN : 100000000 ≤ N) {k : Nat} {h : Hs} (hI : Inv k h) (p1 : Int32) : ∃ r h1 h2, fX11_hold N h 0 p1 = some (r, h1) ∧ fX12_hold N h1 29 p1 = some (r, h2) ∧ Inv (k + 1) h2 := by
  have hU := hI.up
  refine hU.el ?_
  intro w L bt nt nd nr na tA dA rA sA rT tl tw tg ls ms pa ds wy gr hd gn sc dr td sr dn cr cd wk as no gg vc vk sm tp cg
  obtain ⟨s1, s2, s3, s4, s5, s6, s7, s8⟩ := sm
  obtain ⟨⟨hS, hz⟩, hT, hC, hD, hO, hTi, r1, r2, r3, r4⟩ := id vc
  obtain ⟨a, h1, h2, e1, e2, q1, qk⟩ := t_hold (N := N) hN hS s4 p1
  have q2 : Ke [] [20, 21, 46, 47] [] [] h h2 := qk.e
  refine ⟨a, h1, h2, e1, e2, Inv.mk (w) (L) (bt) (nt) (nd) (nr) (na) (tA) (dA) (rA) (sA) (rT) (tl) (tw) (tg) (ls) (ms) (pa) (ds) (wy) (gr) (hd) (gn) (sc) (dr) (td) (sr) (dn) (cr) (cd) (wk) (as) (no) gg (vc.e q2 (hS.e hz q2 (by decide +kernel)) (by decide +kernel) (by decide +kernel) (by decide +kernel) (by decide +kernel) (by decide +kernel)) (vk.e hz vc.2.1.lt vc.2.2.2.2.1.lt q2 (by decide +kernel) (by decide +kernel) (by decide +kernel)) ⟨s1.e hz q2 (by decide +kernel) (by decide +kernel), s2.e hz q2 (by decide +kernel) (by decide +kernel), s3.e hz q2 (by decide +kernel) (by decide +kernel), q1, s5.e hz q2 (by decide +kernel) (by decide +kernel), s6.e hz q2 (by decide +kernel) (by decide +kernel) (by decide +kernel), s7.e hz q2 (by decide +kernel), s8.e hz q2 (by decide +kernel)⟩ (tp.e hz q2 (by decide +kernel) (by decide +kernel) (by decide +kernel) (by decide +kernel)) (cg.e hz q2 (by decide +kernel) (by decide +kernel))⟩
theorem i_men {N : Nat} (hN : 100000000 ≤ N) {k : Nat} {h : Hs} (hI : Inv k h) (p1 : Int32) : ∃ r r' h1 h2, fX11_men N h 0 p1 = some (r, h1) ∧ fX12_men N h1 29 p1 = some (r', h2) ∧ Inv (k + 1) h2 := by
  have hU := hI.up
  refine hU.el ?_
  intro w L bt nt nd nr na tA dA rA sA rT tl tw tg ls ms pa ds wy gr hd gn sc dr td sr dn cr cd wk as no gg vc vk sm tp cg
  obtain ⟨s1, s2, s3, s4, s5, s6, s7, s8⟩ := sm
  obtain ⟨⟨hS, hz⟩, hT, hC, hD, hO, hTi, r1, r2, r3, r4⟩ := id vc
  obtain ⟨a, a', h1, h2, e1, e2, q2, q3⟩ := t_men0 (N := N) hN hS hz hT.1.2.2 cg p1
  refine ⟨a, a', h1, h2, e1, e2, Inv.mk (w) (L) (bt) (nt) (nd) (nr) (na) (tA) (dA) (rA) (sA) (rT) (tl) (tw) (tg) (ls) (ms) (pa) (ds) (wy) (gr) (hd) (gn) (sc) (dr) (td) (sr) (dn) (cr) (cd) (wk) (as) (no) gg (vc.e q2 (hS.e hz q2 (by decide +kernel)) (by decide +kernel) (by decide +kernel) (by decide +kernel) (by decide +kernel) (by decide +kernel)) (vk.e hz vc.2.1.lt vc.2.2.2.2.1.lt q2 (by decide +kernel) (by decide +kernel) (by decide +kernel)) ⟨s1.e hz q2 (by decide +kernel) (by decide +kernel), s2.e hz q2 (by decide +kernel) (by decide +kernel), s3.e hz q2 (by decide +kernel) (by decide +kernel), s4.e hz q2 (by decide +kernel), s5.e hz q2 (by decide +kernel) (by decide +kernel), s6.e hz q2 (by decide +kernel) (by decide +kernel) (by decide +kernel), s7.e hz q2 (by decide +kernel), s8.e hz q2 (by decide +kernel)⟩ (tp.e hz q2 (by decide +kernel) (by decide +kernel) (by decide +kernel) (by decide +kernel)) (cg.e hz q2 (by decide +kernel) (by decide +kernel))⟩
theorem i_pull {N : Nat} (hN : 100000000 ≤ N) {k : Nat} {h : Hs} (hk : k ≤ 1000) (hI : Inv k h) : ∃ r h1 h2, fX11_pull N h 0 = some (r, h1) ∧ fX12_pull N h1 29 = some (r, h2) ∧ Inv (k + 1) h2 := by
  have hU := hI.up
  refine hU.el ?_
  intro w L bt nt nd nr na tA dA rA sA rT tl tw tg ls ms pa ds wy gr hd gn sc dr td sr dn cr cd wk as no gg vc vk sm tp cg
  obtain ⟨s1, s2, s3, s4, s5, s6, s7, s8⟩ := sm
  obtain ⟨⟨hS, hz⟩, hT, hC, hD, hO, hTi, r1, r2, r3, r4⟩ := id vc
  have hdn : ∀ r, r < nr → dr r ≠ none → -1000000000 ≤ dn r ∧ dn r ≤ 1000000000 := fun r x1 x2 => by have := r4 r x1 x2; omega
  obtain ⟨a, h1, e1, e2, q2, q3⟩ := t_pull (N := N) hN hS hz hT hD hO hTi s1 hdn r2
  refine ⟨a, h1, h1, e1, e2, Inv.mk (w) (L) (bt) (nt) (nd) (nr) (na) (tA) (dA) (rA) (sA) (rT) (tl) (tw) (tg) (ls) (ms) (pa) (ds) (wy) (gr) (hd) (gn) (sc) (dr) (td) (sr) (dn) (cr) (cd) (wk) (as) (no) gg (vc.e q2 (hS.e hz q2 (by decide +kernel)) (by decide +kernel) (by decide +kernel) (by decide +kernel) (by decide +kernel) (by decide +kernel)) (vk.e hz vc.2.1.lt vc.2.2.2.2.1.lt q2 (by decide +kernel) (by decide +kernel) (by decide +kernel)) ⟨s1.e hz q2 (by decide +kernel) (by decide +kernel), s2.e hz q2 (by decide +kernel) (by decide +kernel), s3.e hz q2 (by decide +kernel) (by decide +kernel), s4.e hz q2 (by decide +kernel), s5.e hz q2 (by decide +kernel) (by decide +kernel), s6.e hz q2 (by decide +kernel) (by decide +kernel) (by decide +kernel), s7.e hz q2 (by decide +kernel), s8.e hz q2 (by decide +kernel)⟩ (tp.e hz q2 (by decide +kernel) (by decide +kernel) (by decide +kernel) (by decide +kernel)) (cg.e hz q2 (by decide +kernel) (by decide +kernel))⟩
theorem i_change {N : Nat} (hN : 100000000 ≤ N) {k : Nat} {h : Hs} (hk : k ≤ 1000) (hI : Inv k h) (p1 p2 : Int32) : ∃ r h1 h2, fX11_change N h 0 p1 p2 = some (r, h1) ∧ fX12_change N h1 29 p1 p2 = some (r, h2) ∧ Inv (k + 1) h2 := by
  have hU := hI.up
  refine hU.el ?_
  intro w L bt nt nd nr na tA dA rA sA rT tl tw tg ls ms pa ds wy gr hd gn sc dr td sr dn cr cd wk as no gg vc vk sm tp cg
  obtain ⟨s1, s2, s3, s4, s5, s6, s7, s8⟩ := sm
  obtain ⟨⟨hS, hz⟩, hT, hC, hD, hO, hTi, r1, r2, r3, r4⟩ := id vc
  have hdn : ∀ r, r < nr → dr r ≠ none → -1000000000 ≤ dn r ∧ dn r ≤ 1000000000 := fun r x1 x2 => by have := r4 r x1 x2; omega
  obtain ⟨a, h1, h2, na', as', no', cr', cd', wk', e1, e2, q1, q2, q3⟩ := t_change (N := N) hN hS hz hT hD hO hTi hC hdn cg p1 p2
  refine ⟨a, h1, h2, e1, e2, Inv.mk (w) (L) (bt) (nt) (nd) (nr) (na') (tA) (dA) (rA) (sA) (rT) (tl) (tw) (tg) (ls) (ms) (pa) (ds) (wy) (gr) (hd) (gn) (sc) (dr) (td) (sr) (dn) (cr') (cd') (wk') (as') (no') gg (vc.e q2 (hS.e hz q2 (by decide +kernel)) (by decide +kernel) (by decide +kernel) (by decide +kernel) (by decide +kernel) (by decide +kernel)) (vk.e hz vc.2.1.lt vc.2.2.2.2.1.lt q2 (by decide +kernel) (by decide +kernel) (by decide +kernel)) ⟨s1.e hz q2 (by decide +kernel) (by decide +kernel), s2.e hz q2 (by decide +kernel) (by decide +kernel), s3.e hz q2 (by decide +kernel) (by decide +kernel), s4.e hz q2 (by decide +kernel), s5.e hz q2 (by decide +kernel) (by decide +kernel), s6.e hz q2 (by decide +kernel) (by decide +kernel) (by decide +kernel), s7.e hz q2 (by decide +kernel), s8.e hz q2 (by decide +kernel)⟩ (tp.e hz q2 (by decide +kernel) (by decide +kernel) (by decide +kernel) (by decide +kernel)) (q1)⟩
theorem i_feed {N : Nat} (hN : 100000000 ≤ N) {k : Nat} {h : Hs} (hI : Inv k h) (p1 p2 : Int32) : ∃ r h1 h2, fX11_feed N h 0 p1 p2 = some (r, h1) ∧ fX12_feed N h1 29 p1 p2 = some (r, h2) ∧ Inv (k + 1) h2 := by
  refine hI.el ?_
  intro w L bt nt nd nr na tA dA rA sA rT tl tw tg ls ms pa ds wy gr hd gn sc dr td sr dn cr cd wk as no gg vc vk sm tp cg
  obtain ⟨s1, s2, s3, s4, s5, s6, s7, s8⟩ := sm
  obtain ⟨⟨hS, hz⟩, hT, hC, hD, hO, hTi, r1, r2, r3, r4⟩ := id vc
  obtain ⟨a, h1, h2, L', bt', e1, e2, q1, q4, qk⟩ := t_feed (N := N) hN hS tp p1 p2
  have q2 : Ke [804, 1237] [2, 53] [] [] h h2 := qk.e
  refine ⟨a, h1, h2, e1, e2, Inv.mk (w) (L') (bt') (nt) (nd) (nr) (na) (tA) (dA) (rA) (sA) (rT) (tl) (tw) (tg) (ls) (ms) (pa) (ds) (wy) (gr) (hd) (gn) (sc) (dr) (td) (sr) (dn) (cr) (cd) (wk) (as) (no) ⟨gg.1, by have := gg.2; omega⟩ (vc.e q2 (hS.e hz q2 (by decide +kernel)) (by decide +kernel) (by decide +kernel) (by decide +kernel) (by decide +kernel) (by decide +kernel)) (vk.e hz vc.2.1.lt vc.2.2.2.2.1.lt q2 (by decide +kernel) (by decide +kernel) (by decide +kernel)) ⟨s1.e hz q2 (by decide +kernel) (by decide +kernel), s2.e hz q2 (by decide +kernel) (by decide +kernel), s3.e hz q2 (by decide +kernel) (by decide +kernel), s4.e hz q2 (by decide +kernel), s5.e hz q2 (by decide +kernel) (by decide +kernel), s6.e hz q2 (by decide +kernel) (by decide +kernel) (by decide +kernel), s7.e hz q2 (by decide +kernel), s8.e hz q2 (by decide +kernel)⟩ (q1) (cg.e hz q2 (by decide +kernel) (by decide +kernel))⟩
/-! ===== the chance to go back, over a call that may take it away; more drums ===== -/
theorem VKept.n {F A FR AQ : List Nat} {h h2 : Hs} {w w' : Int} {nt nd nr : Nat} {tA dA rA rT : Nat → Nat} {ls ms wy gr : Nat → Int} (hV : VKept h w nt nd nr tA dA rA rT ls ms wy gr) (hn : ICn h h2) (hw : w ≤ w') (hz : 70 ≤ sz h) (ht : ∀ i, i < nt → tA i < sz h) (hr : ∀ r, r < nr → rA r < sz h) (k : Ke F A FR AQ h h2) (hF : ∀ f ∈ [910, 410, 411, 513, 514, 1249, 1250], f ∉ F) (hA : ∀ a ∈ [19, 57, 58, 59, 60, 61], a ∉ A) (hR : ∀ f ∈ [911, 409], f ∉ FR) : VKept h2 w' nt nd nr tA dA rA rT ls ms wy gr := by
  intro q
  obtain ⟨c, c1, c2, c3⟩ := hn
  have q1 : gI h 1106 0 = iI 1 := by
    rcases c3 with rfl | c3
    · exact absurd (c1.symm.trans q) (by decide)
    · exact c3.2
  obtain ⟨pk, dk, tk, sk, nk, ck, v1, v2, v3, v4, v5⟩ := hV q1
  refine ⟨pk, dk, tk, sk, nk, ck, v1.e hz ht hr k (fun f hf => hF f ?_) (hA 19 (by decide)) hR, v2.e hz k (fun a ha => hA a ?_), v3, v4.e hz k (fun f hf => hF f ?_), fun r x1 x2 => by have := v5 r x1 x2; omega⟩
  · revert f; decide
  · revert a; decide
  · revert f; decide
theorem RTi.d {h : Hs} {nt nd nd' nr : Nat} {tA dA dA' rA rT : Nat → Nat} {dr td : Nat → Option Nat} {sr dn : Nat → Int} (hI : RTi h nt nd nr tA dA rA rT dr td sr dn) (hn : nd ≤ nd') (hd : ∀ i, i < nd → dA' i = dA i) : RTi h nt nd' nr tA dA' rA rT dr td sr dn := by
  obtain ⟨c1, c2⟩ := hI
  refine ⟨fun r hr => ?_, c2⟩
  obtain ⟨d1, d2, d3⟩ := c1 r hr
  refine ⟨?_, d2, fun d hd' => ?_⟩
  · rw [d1]
    cases hq : dr r with
    | none => rfl
    | some d =>
      show some (dA d) = some (dA' d)
      rw [hd d (d3 d hq).1]
  · obtain ⟨g1, g2⟩ := d3 d hd'
    exact ⟨by omega, g2⟩
theorem RKc.d {h : Hs} {nt nd nr : Nat} {tA dA dA' rA rT : Nat → Nat} {pk : Nat → Int} {dk tk : Nat → Option Nat} {sk nk ck : Nat → Int} (hC : RKc h nt nr tA dA rA pk dk tk sk nk ck) (hL : RTl nt nd nr rT dk tk) (hd : ∀ i, i < nd → dA' i = dA i) : RKc h nt nr tA dA' rA pk dk tk sk nk ck := by
  obtain ⟨c1, c2, c3⟩ := hC
  refine ⟨c1, fun r hr => ⟨?_, (c2 r hr).2⟩, c3⟩
  rw [(c2 r hr).1]
  cases hq : dk r with
  | none => rfl
  | some d =>
    show some (dA d) = some (dA' d)
    rw [hd d (hL.1 r d hr hq).1]
theorem VKept.d {h : Hs} {w : Int} {nt nd nd' nr : Nat} {tA dA dA' rA rT : Nat → Nat} {ls ms wy gr : Nat → Int} (hV : VKept h w nt nd nr tA dA rA rT ls ms wy gr) (hn : nd ≤ nd') (hd : ∀ i, i < nd → dA' i = dA i) : VKept h w nt nd' nr tA dA' rA rT ls ms wy gr := by
  intro q
  obtain ⟨pk, dk, tk, sk, nk, ck, v1, v2, ⟨l1, l2, l3, l4⟩, v4, v5⟩ := hV q
  exact ⟨pk, dk, tk, sk, nk, ck, v1.d l4 hd, v2, ⟨l1, l2, l3, fun r d x1 x2 => ⟨by have := (l4.1 r d x1 x2).1; omega, (l4.1 r d x1 x2).2⟩, l4.2⟩, v4, v5⟩
theorem VKept.z {h : Hs} {w : Int} {nt nd nr : Nat} {tA dA rA rT : Nat → Nat} {ls ms wy gr : Nat → Int} (hz : gI h 1106 0 = iI 0) : VKept h w nt nd nr tA dA rA rT ls ms wy gr := fun q => absurd (hz.symm.trans q) (by decide)
