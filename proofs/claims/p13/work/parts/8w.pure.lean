/-! ===== paint: the reference's search ===== -/
def wdt : Nat → Nat
  | 0 => 1
  | e + 1 => 12 * wdt e + 2
def glf (ct : Nat → Nat → Int) (nf nv : Nat) (c : Nat → Nat) (d e T i k : Nat) : Nat := if k < d then c k else if k = d then i else gvs ct nf nv e (T ||| 2 ^ i) (k - (d + 1))
def RB (h0 h : Hs) (nv : Nat) (r : Int × (Nat → Nat)) : Prop := -1 ≤ r.1 ∧ r.1 ≤ 200000 ∧ (r.1 < 0 → gI h 1263 29 = gI h0 1263 29 ∧ ∀ k, aI h 69 k = aI h0 69 k) ∧ (0 ≤ r.1 → gI h 1263 29 = iI nv ∧ ∀ k, k < nv → aI h 69 k = iI (r.2 k))
theorem RB.e {F A FR AQ : List Nat} {h0 h h2 : Hs} {nv : Nat} {r : Int × (Nat → Nat)} (hB : RB h0 h nv r) (hz : 70 ≤ sz h) (k : Ke F A FR AQ h h2) (f1 : 1263 ∉ F) (a1 : 69 ∉ A) : RB h0 h2 nv r := by
  unfold RB
  rw [k.1 1263 29 f1 (by omega), k.2.1 69 a1 (by omega)]
  exact hB
theorem glf_s {ct : Nat → Nat → Int} {nf nv : Nat} {c : Nat → Nat} {d e T i : Nat} : glf ct nf nv (updO c d i) (d + 1) e (T ||| 2 ^ i) (gf1 ct nf nv e (T ||| 2 ^ i)) = glf ct nf nv c d (e + 1) T i := by
  funext k
  unfold glf
  by_cases w1 : k < d
  · rw [if_pos (by omega), if_pos w1, updO_n _ _ (by omega)]
  · by_cases w2 : k = d
    · subst w2
      rw [if_pos (by omega), if_neg w1, if_pos rfl, updO_s]
    · rw [if_neg (by omega), if_neg w1, if_neg w2]
      by_cases w3 : k = d + 1
      · rw [if_pos w3, show k - (d + 1) = 0 by omega]
        rfl
      · rw [if_neg w3]
        obtain ⟨m, hm⟩ : ∃ m, k - (d + 1) = m + 1 := ⟨k - (d + 1) - 1, by omega⟩
        rw [hm, show k - (d + 1 + 1) = m by omega]
        rfl
theorem L_dfs {N : Nat} (hN : 100000000 ≤ N) {h0 : Hs} (hS0 : Sk h0) (hz : 70 ≤ sz h0) {nf nv : Nat} {fh fw fp vh vw vp : Nat → Int} (hf : nf ≤ 12) (hnv : nv ≤ 6) (g6 : gI h0 1256 29 = iI nf) (qF : QF h0 64 65 nf fh fw fp) (qV : QF h0 66 67 nv vh vw vp) : ∀ (e n d i : Nat) (c : Nat → Nat) (r : Int × (Nat → Nat)) (fu : Nat) (h : Hs), d + (e + 1) = nv → i + n = nf → (∀ k, k < d → aI h 68 k = iI (c k) ∧ c k < nf) → aI h 68 d = iI ((i : Int) - 1) → 0 ≤ csP (ctf fh fw fp vh vw vp) c d ∧ csP (ctf fh fw fp vh vw vp) c d ≤ 19602 * d → RB h0 h nv r → n * wdt e + 1 ≤ fu → Ke [1263] [68, 69] [] [] h0 h → sz h = sz h0 → ∃ (h' : Hs) (fu' : Nat), fu ≤ fu' + (n * wdt e + 1) ∧ fX12_paint_b21 N 29 fu h (iI nv) (iI r.1) (iI d) = fX12_paint_b21 N 29 fu' h' (iI nv) (iI (fld (fun i => swt (ctf fh fw fp vh vw vp) (bsm (ctf fh fw fp vh vw vp) nf nv e) (mkP c d) i d) (csP (ctf fh fw fp vh vw vp) c d) (glf (ctf fh fw fp vh vw vp) nf nv c d e (mkP c d)) n i r).1) (iI ((d : Int) - 1)) ∧ Ke [1263] [68, 69] [] [] h0 h' ∧ sz h' = sz h0 ∧ RB h0 h' nv (fld (fun i => swt (ctf fh fw fp vh vw vp) (bsm (ctf fh fw fp vh vw vp) nf nv e) (mkP c d) i d) (csP (ctf fh fw fp vh vw vp) c d) (glf (ctf fh fw fp vh vw vp) nf nv c d e (mkP c d)) n i r) ∧ (∀ k, k < d → aI h' 68 k = aI h 68 k) := by
  intro e
  induction e with
  | zero =>
    intro n
    induction n with
    | zero =>
      intro d i c r fu h hd hi hc h8 hP hB hfu ke s
      obtain ⟨fu, rfl⟩ : ∃ m, fu = m + 1 := ⟨fu - 1, by omega⟩
      have ei : i = nf := by omega
      subst ei
      have hS := hS0.e hz ke (by decide)
      have k1 : Ke [] [68] [] [] h (uA h 68 d (iI i)) := Ke_rf.b 68 d _ (by decide)
      refine ⟨uA h 68 d (iI i), fu, by omega, v_over hS (by omega) hf hnv ((ke.1 1256 29 (by decide) (by omega)).trans g6) (by omega) h8, ke.tr (k1.w (by decide) (by decide) (by decide) (by decide)), s, hB.e (by omega) k1 (by decide) (by decide), fun k hk => ?_⟩
      have : k ≠ d := by omega
      simp [HR, this]
    | succ n ihn =>
      intro d i c r fu h hd hi hc h8 hP hB hfu ke s
      obtain ⟨fu, rfl⟩ : ∃ m, fu = m + 1 := ⟨fu - 1, by omega⟩
      have hS := hS0.e hz ke (by decide)
      have hil : i < nf := by omega
      have qF1 := qF.e hz ke (by omega) (by omega) (by decide) (by decide)
      have qV1 := qV.e hz ke (by omega) (by omega) (by decide) (by decide)
      have vc := v_cand (N := N) (fu := fu) (b := r.1) hN hS (by omega) hf hnv ((ke.1 1256 29 (by decide) (by omega)).trans g6) qF1 qV1 (show d < nv by omega) hil hc h8 ⟨hB.1, by have := hB.2.1; omega⟩ ⟨hP.1, by omega⟩
      have k1 : Ke [] [68] [] [] h (uA h 68 d (iI i)) := Ke_rf.b 68 d _ (by decide)
      have h8d : aI (uA h 68 d (iI i)) 68 d = iI (((i + 1 : Nat) : Int) - 1) := by rw [show ((i + 1 : Nat) : Int) - 1 = i by omega]; simp [HR]
      have h8k : ∀ k, k < d → aI (uA h 68 d (iI i)) 68 k = aI h 68 k := fun k hk => by
        have : k ≠ d := by omega
        simp [HR, this]
      have s3 : sz (uA h 68 d (iI i)) = sz h0 := s
      rw [vc]
      generalize uA h 68 d (iI i) = h3 at *
      have ke3 : Ke [1263] [68, 69] [] [] h0 h3 := ke.tr (k1.w (by decide) (by decide) (by decide) (by decide))
      have hS3 := hS0.e hz ke3 (by decide)
      have hz3 : 70 ≤ sz h3 := by omega
      have hB3 := hB.e (by omega) k1 (by decide) (by decide)
      have w0 : (n + 1) * wdt 0 + 1 = n * wdt 0 + 1 + 1 := by simp only [wdt]; omega
      have w1 : wdt 0 = 1 := rfl
      by_cases w : ctf fh fw fp vh vw vp i d < 0 ∨ (mkP c d).testBit i = true ∨ (0 ≤ r.1 ∧ r.1 ≤ csP (ctf fh fw fp vh vw vp) c d + ctf fh fw fp vh vw vp i d)
      · rw [if_pos w]
        have es : sbt (fun i => swt (ctf fh fw fp vh vw vp) (bsm (ctf fh fw fp vh vw vp) nf nv 0) (mkP c d) i d) (csP (ctf fh fw fp vh vw vp) c d) (glf (ctf fh fw fp vh vw vp) nf nv c d 0 (mkP c d)) r i = r := by
          unfold sbt
          refine if_neg (fun z => ?_)
          obtain ⟨z1, z2⟩ := z
          obtain ⟨y1, y2, y3⟩ := swt_in z1
          have y4 := (bsm_b (ctf fh fw fp vh vw vp) nf nv 0 (mkP c d ||| 2 ^ i)).1
          simp only [y3] at z2
          rcases w with w | w | w
          · omega
          · rw [y1] at w; cases w
          · omega
        obtain ⟨h', fu', q1, q2, q3, q4, q5, q6⟩ := ihn d (i + 1) c r fu h3 hd (by omega) (fun k hk => ⟨(h8k k hk).trans (hc k hk).1, (hc k hk).2⟩) h8d hP hB3 (by omega) ke3 s3
        simp only [fld, es]
        exact ⟨h', fu', by omega, q2, q3, q4, q5, fun k hk => (q6 k hk).trans (h8k k hk)⟩
      · rw [if_neg w]
        have n1 : ¬ ctf fh fw fp vh vw vp i d < 0 := fun z => w (Or.inl z)
        have n2 : (mkP c d).testBit i = false := by cases hb : (mkP c d).testBit i with
          | true => exact absurd (Or.inr (Or.inl hb)) w
          | false => rfl
        have n3 : r.1 < 0 ∨ csP (ctf fh fw fp vh vw vp) c d + ctf fh fw fp vh vw vp i d < r.1 := by
          by_cases z : r.1 < 0
          · exact Or.inl z
          · exact Or.inr (by have : ¬ (0 ≤ r.1 ∧ r.1 ≤ csP (ctf fh fw fp vh vw vp) c d + ctf fh fw fp vh vw vp i d) := fun y => w (Or.inr (Or.inr y)); omega)
        have fb := qF i hil
        have vb := qV d (by omega)
        have cb := ctf_b (fh := fh) (fw := fw) (fp := fp) (vh := vh) (vw := vw) (vp := vp) (i := i) (j := d) ⟨fb.2.2.1, fb.2.2.2.1, fb.2.2.2.2.1, fb.2.2.2.2.2.1⟩ ⟨vb.2.2.1, vb.2.2.2.1, vb.2.2.2.2.1, vb.2.2.2.2.2.1⟩
        have e0 : bsm (ctf fh fw fp vh vw vp) nf nv 0 (mkP c d ||| 2 ^ i) = 0 := rfl
        have sw : swt (ctf fh fw fp vh vw vp) (bsm (ctf fh fw fp vh vw vp) nf nv 0) (mkP c d) i d = ctf fh fw fp vh vw vp i d := by
          unfold swt
          rw [if_neg (fun z => z.elim (fun z => by rw [n2] at z; cases z) n1), e0, Int.add_zero, if_pos (by omega)]
        have es : sbt (fun i => swt (ctf fh fw fp vh vw vp) (bsm (ctf fh fw fp vh vw vp) nf nv 0) (mkP c d) i d) (csP (ctf fh fw fp vh vw vp) c d) (glf (ctf fh fw fp vh vw vp) nf nv c d 0 (mkP c d)) r i = (csP (ctf fh fw fp vh vw vp) c d + ctf fh fw fp vh vw vp i d, glf (ctf fh fw fp vh vw vp) nf nv c d 0 (mkP c d) i) := by
          unfold sbt
          simp only [sw]
          rw [if_pos ⟨by omega, n3⟩]
        have ud : ∀ k, k < d → updO c d i k = c k := fun k hk => updO_n _ _ (by omega)
        have h8i : aI h3 68 d = iI i := by rw [h8d, show ((i + 1 : Nat) : Int) - 1 = i by omega]
        have hc3 : ∀ k, k < nv → aI h3 68 k = iI ((updO c d i k : Nat) : Int) ∧ updO c d i k < nf := fun k hk => by
          by_cases z : k = d
          · subst z; rw [updO_s]; exact ⟨h8i, hil⟩
          · rw [ud k (by omega)]; exact ⟨(h8k k (by omega)).trans (hc k (by omega)).1, (hc k (by omega)).2⟩
        have cc := v_ct (N := N) hN hS3 hf hnv (qF.e hz ke3 (by omega) (by omega) (by decide) (by decide)) (qV.e hz ke3 (by omega) (by omega) (by decide) (by decide)) (c := updO c d i) (d := nv) (by omega) hc3
        have ecs : csP (ctf fh fw fp vh vw vp) (updO c d i) nv = csP (ctf fh fw fp vh vw vp) c d + ctf fh fw fp vh vw vp i d := by
          rw [show nv = d + 1 by omega]
          simp only [csP]
          rw [updO_s, csP_e d ud]
        rw [ecs] at cc
        obtain ⟨h4, eh4⟩ : ∃ h4, h4 = uI h3 1263 29 (iI nv) := ⟨_, rfl⟩
        have z4 : qI 12 63 h3 (some 29) (iI nv) = some h4 := by rw [eh4]; exact qIv (by rw [ss_29 hS3])
        have ke34 : Ke [1263] [] [] [] h3 h4 := by rw [eh4]; exact Ke_rf.u 1263 _ _ (by decide)
        have s4 : sz h4 = sz h0 := by rw [eh4]; exact s3
        have g43 : gI h4 1263 29 = iI nv := by rw [eh4]; simp [HR]
        have ke4 : Ke [1263] [68, 69] [] [] h0 h4 := ke3.tr (ke34.w (by decide) (by decide) (by decide) (by decide))
        have hS4 := hS0.e hz ke4 (by decide)
        obtain ⟨h5, e5, ke45, s5, h59⟩ := L_cp (N := N) (G := fX12_paint_b21 N 29 fu) (x2 := iI (csP (ctf fh fw fp vh vw vp) c d + ctf fh fw fp vh vw vp i d)) (x3 := iI (d : Int)) hnv (c := updO c d i) nv 0 N h4 hS4 (by omega) (by omega) (by omega) (fun g hg => by rw [ke34.2.1 68 (by decide) (by omega)]; exact (hc3 g hg).1) (fun g hg => by omega)
        have ke5 : Ke [1263] [68, 69] [] [] h0 h5 := ke4.tr (ke45.w (by decide) (by decide) (by decide) (by decide))
        have h58 : ∀ k, aI h5 68 k = aI h3 68 k := fun k => by rw [ke45.2.1 68 (by decide) (by omega), ke34.2.1 68 (by decide) (by omega)]
        have hB5 : RB h0 h5 nv (csP (ctf fh fw fp vh vw vp) c d + ctf fh fw fp vh vw vp i d, glf (ctf fh fw fp vh vw vp) nf nv c d 0 (mkP c d) i) := by
          refine ⟨by simp only; omega, by simp only; omega, fun z => by simp only at z; omega, fun _ => ⟨(ke45.1 1263 29 (by decide) (by omega)).trans g43, fun k hk => ?_⟩⟩
          rw [h59 k hk]
          show iI _ = iI ((glf (ctf fh fw fp vh vw vp) nf nv c d 0 (mkP c d) i k : Nat) : Int)
          unfold glf
          by_cases z : k < d
          · rw [if_pos z, ud k z]
          · rw [if_neg z, if_pos (by omega), show k = d by omega, updO_s]
        obtain ⟨h', fu', q1, q2, q3, q4, q5, q6⟩ := ihn d (i + 1) c (csP (ctf fh fw fp vh vw vp) c d + ctf fh fw fp vh vw vp i d, glf (ctf fh fw fp vh vw vp) nf nv c d 0 (mkP c d) i) fu h5 hd (by omega) (fun k hk => ⟨(h58 k).trans ((h8k k hk).trans (hc k hk).1), (hc k hk).2⟩) ((h58 d).trans h8d) hP hB5 (by omega) ke5 (s5.trans s4)
        simp only [fld, es]
        refine ⟨h', fu', by omega, ?_, q3, q4, q5, fun k hk => (q6 k hk).trans ((h58 k).trans (h8k k hk))⟩
        rw [← q2, ← e5]
        have a1 : iI ((nv : Int) - 1) ≤ iI (d : Int) := (iI_le (by omega) (by omega) (by omega) (by omega)).mpr (by omega)
        simp only [fX12_paint_b98, lit, iI_sub]
        refine ifp (a1) ?_
        refine bst (rcv (by rw [ss_29 hS3])) ?_
        refine bst (cc) ?_
        refine bst (z4) ?_
        rfl
  | succ e ihe =>
    intro n
    induction n with
    | zero =>
      intro d i c r fu h hd hi hc h8 hP hB hfu ke s
      obtain ⟨fu, rfl⟩ : ∃ m, fu = m + 1 := ⟨fu - 1, by omega⟩
      have ei : i = nf := by omega
      subst ei
      have hS := hS0.e hz ke (by decide)
      have k1 : Ke [] [68] [] [] h (uA h 68 d (iI i)) := Ke_rf.b 68 d _ (by decide)
      refine ⟨uA h 68 d (iI i), fu, by omega, v_over hS (by omega) hf hnv ((ke.1 1256 29 (by decide) (by omega)).trans g6) (by omega) h8, ke.tr (k1.w (by decide) (by decide) (by decide) (by decide)), s, hB.e (by omega) k1 (by decide) (by decide), fun k hk => ?_⟩
      have : k ≠ d := by omega
      simp [HR, this]
    | succ n ihn =>
      intro d i c r fu h hd hi hc h8 hP hB hfu ke s
      obtain ⟨fu, rfl⟩ : ∃ m, fu = m + 1 := ⟨fu - 1, by omega⟩
      have hS := hS0.e hz ke (by decide)
      have hil : i < nf := by omega
      have qF1 := qF.e hz ke (by omega) (by omega) (by decide) (by decide)
      have qV1 := qV.e hz ke (by omega) (by omega) (by decide) (by decide)
      have vc := v_cand (N := N) (fu := fu) (b := r.1) hN hS (by omega) hf hnv ((ke.1 1256 29 (by decide) (by omega)).trans g6) qF1 qV1 (show d < nv by omega) hil hc h8 ⟨hB.1, by have := hB.2.1; omega⟩ ⟨hP.1, by omega⟩
      have k1 : Ke [] [68] [] [] h (uA h 68 d (iI i)) := Ke_rf.b 68 d _ (by decide)
      have h8d : aI (uA h 68 d (iI i)) 68 d = iI (((i + 1 : Nat) : Int) - 1) := by rw [show ((i + 1 : Nat) : Int) - 1 = i by omega]; simp [HR]
      have h8k : ∀ k, k < d → aI (uA h 68 d (iI i)) 68 k = aI h 68 k := fun k hk => by
        have : k ≠ d := by omega
        simp [HR, this]
      have s3 : sz (uA h 68 d (iI i)) = sz h0 := s
      rw [vc]
      generalize uA h 68 d (iI i) = h3 at *
      have ke3 : Ke [1263] [68, 69] [] [] h0 h3 := ke.tr (k1.w (by decide) (by decide) (by decide) (by decide))
      have hS3 := hS0.e hz ke3 (by decide)
      have hz3 : 70 ≤ sz h3 := by omega
      have hB3 := hB.e (by omega) k1 (by decide) (by decide)
      have w0 : (n + 1) * wdt (e + 1) + 1 = n * wdt (e + 1) + wdt (e + 1) + 1 := by rw [Nat.add_one_mul]
      have w1 : wdt (e + 1) = 12 * wdt e + 2 := rfl
      have w2 : nf * wdt e ≤ 12 * wdt e := Nat.mul_le_mul_right _ hf
      by_cases w : ctf fh fw fp vh vw vp i d < 0 ∨ (mkP c d).testBit i = true ∨ (0 ≤ r.1 ∧ r.1 ≤ csP (ctf fh fw fp vh vw vp) c d + ctf fh fw fp vh vw vp i d)
      · rw [if_pos w]
        have es : sbt (fun i => swt (ctf fh fw fp vh vw vp) (bsm (ctf fh fw fp vh vw vp) nf nv (e + 1)) (mkP c d) i d) (csP (ctf fh fw fp vh vw vp) c d) (glf (ctf fh fw fp vh vw vp) nf nv c d (e + 1) (mkP c d)) r i = r := by
          unfold sbt
          refine if_neg (fun z => ?_)
          obtain ⟨z1, z2⟩ := z
          obtain ⟨y1, y2, y3⟩ := swt_in z1
          have y4 := (bsm_b (ctf fh fw fp vh vw vp) nf nv (e + 1) (mkP c d ||| 2 ^ i)).1
          simp only [y3] at z2
          rcases w with w | w | w
          · omega
          · rw [y1] at w; cases w
          · omega
        obtain ⟨h', fu', q1, q2, q3, q4, q5, q6⟩ := ihn d (i + 1) c r fu h3 hd (by omega) (fun k hk => ⟨(h8k k hk).trans (hc k hk).1, (hc k hk).2⟩) h8d hP hB3 (by omega) ke3 s3
        simp only [fld, es]
        exact ⟨h', fu', by omega, q2, q3, q4, q5, fun k hk => (q6 k hk).trans (h8k k hk)⟩
      · rw [if_neg w]
        have n1 : ¬ ctf fh fw fp vh vw vp i d < 0 := fun z => w (Or.inl z)
        have n2 : (mkP c d).testBit i = false := by cases hb : (mkP c d).testBit i with
          | true => exact absurd (Or.inr (Or.inl hb)) w
          | false => rfl
        have fb := qF i hil
        have vb := qV d (by omega)
        have cb := ctf_b (fh := fh) (fw := fw) (fp := fp) (vh := vh) (vw := vw) (vp := vp) (i := i) (j := d) ⟨fb.2.2.1, fb.2.2.2.1, fb.2.2.2.2.1, fb.2.2.2.2.2.1⟩ ⟨vb.2.2.1, vb.2.2.2.1, vb.2.2.2.2.1, vb.2.2.2.2.2.1⟩
        have ud : ∀ k, k < d → updO c d i k = c k := fun k hk => updO_n _ _ (by omega)
        have h8i : aI h3 68 d = iI i := by rw [h8d, show ((i + 1 : Nat) : Int) - 1 = i by omega]
        have hc3 : ∀ k, k < d + 1 → aI h3 68 k = iI ((updO c d i k : Nat) : Int) ∧ updO c d i k < nf := fun k hk => by
          by_cases z : k = d
          · subst z; rw [updO_s]; exact ⟨h8i, hil⟩
          · rw [ud k (by omega)]; exact ⟨(h8k k (by omega)).trans (hc k (by omega)).1, (hc k (by omega)).2⟩
        have ecs : csP (ctf fh fw fp vh vw vp) (updO c d i) (d + 1) = csP (ctf fh fw fp vh vw vp) c d + ctf fh fw fp vh vw vp i d := by
          simp only [csP]
          rw [updO_s, csP_e d ud]
        have emk : mkP (updO c d i) (d + 1) = mkP c d ||| 2 ^ i := by
          simp only [mkP]
          rw [updO_s, mkP_e d ud]
        obtain ⟨h4, eh4⟩ : ∃ h4, h4 = uA h3 68 (d + 1) (iI (-1)) := ⟨_, rfl⟩
        have z4 : sA h3 (some 68) (iI ((d + 1 : Nat) : Int)) (iI (-1)) = some h4 := by rw [eh4]; exact sAv (ss_68 hS3) (show d + 1 < 6 by omega) (by omega)
        have ke34 : Ke [] [68] [] [] h3 h4 := by rw [eh4]; exact Ke_rf.b 68 _ _ (by decide)
        have s4 : sz h4 = sz h0 := by rw [eh4]; exact s3
        have h4d : aI h4 68 (d + 1) = iI (((0 : Nat) : Int) - 1) := by rw [eh4]; simp [HR]
        have h4k : ∀ k, k < d + 1 → aI h4 68 k = aI h3 68 k := fun k hk => by
          have : k ≠ d + 1 := by omega
          rw [eh4]
          simp [HR, this]
        have ke4 : Ke [1263] [68, 69] [] [] h0 h4 := ke3.tr (ke34.w (by decide) (by decide) (by decide) (by decide))
        have hB4 := hB3.e hz3 ke34 (by decide) (by decide)
        obtain ⟨h5, fu5, p1, p2, p3, p4, p5, p6⟩ := ihe nf (d + 1) 0 (updO c d i) r fu h4 (by omega) (by omega) (fun k hk => ⟨(h4k k hk).trans (hc3 k hk).1, (hc3 k hk).2⟩) h4d ⟨by rw [ecs]; omega, by rw [ecs]; omega⟩ hB4 (by omega) ke4 s4
        have jj : nv - (e + 1) = d + 1 := by omega
        have all := fld_all (ct := (ctf fh fw fp vh vw vp)) (nf := nf) (nv := nv) (e := e) (T := mkP c d ||| 2 ^ i) (P := csP (ctf fh fw fp vh vw vp) c d + ctf fh fw fp vh vw vp i d) (by omega) (gl := glf (ctf fh fw fp vh vw vp) nf nv (updO c d i) (d + 1) e (mkP c d ||| 2 ^ i)) r
        rw [jj, glf_s] at all
        rw [emk, ecs, all] at p2 p5
        have bs := bsm_s (ct := (ctf fh fw fp vh vw vp)) (nf := nf) (nv := nv) (fun a b ha hb => by
          have fb := qF a ha
          have vb := qV b hb
          exact (ctf_b (fh := fh) (fw := fw) (fp := fp) (vh := vh) (vw := vw) (vp := vp) (i := a) (j := b) ⟨fb.2.2.1, fb.2.2.2.1, fb.2.2.2.2.1, fb.2.2.2.2.2.1⟩ ⟨vb.2.2.1, vb.2.2.2.1, vb.2.2.2.2.1, vb.2.2.2.2.2.1⟩).2.1) (e + 1) (mkP c d ||| 2 ^ i) (by omega)
        have b0 := bsm_b (ctf fh fw fp vh vw vp) nf nv (e + 1) (mkP c d ||| 2 ^ i)
        have es : sbt (fun i => swt (ctf fh fw fp vh vw vp) (bsm (ctf fh fw fp vh vw vp) nf nv (e + 1)) (mkP c d) i d) (csP (ctf fh fw fp vh vw vp) c d) (glf (ctf fh fw fp vh vw vp) nf nv c d (e + 1) (mkP c d)) r i = if bsm (ctf fh fw fp vh vw vp) nf nv (e + 1) (mkP c d ||| 2 ^ i) < 1000000 ∧ (r.1 < 0 ∨ csP (ctf fh fw fp vh vw vp) c d + ctf fh fw fp vh vw vp i d + bsm (ctf fh fw fp vh vw vp) nf nv (e + 1) (mkP c d ||| 2 ^ i) < r.1) then (csP (ctf fh fw fp vh vw vp) c d + ctf fh fw fp vh vw vp i d + bsm (ctf fh fw fp vh vw vp) nf nv (e + 1) (mkP c d ||| 2 ^ i), glf (ctf fh fw fp vh vw vp) nf nv c d (e + 1) (mkP c d) i) else r := by
          unfold sbt
          have nn : ¬ ((mkP c d).testBit i = true ∨ ctf fh fw fp vh vw vp i d < 0) := fun z => z.elim (fun z => by rw [n2] at z; cases z) n1
          have esw : swt (ctf fh fw fp vh vw vp) (bsm (ctf fh fw fp vh vw vp) nf nv (e + 1)) (mkP c d) i d = if ctf fh fw fp vh vw vp i d + bsm (ctf fh fw fp vh vw vp) nf nv (e + 1) (mkP c d ||| 2 ^ i) < 1000000 then ctf fh fw fp vh vw vp i d + bsm (ctf fh fw fp vh vw vp) nf nv (e + 1) (mkP c d ||| 2 ^ i) else 1000000 := by
            unfold swt
            rw [if_neg nn]
          simp only [esw]
          generalize bsm (ctf fh fw fp vh vw vp) nf nv (e + 1) (mkP c d ||| 2 ^ i) = X at *
          by_cases m : X < 1000000
          · have := bs m
            rw [if_pos (show ctf fh fw fp vh vw vp i d + X < 1000000 by omega), Int.add_assoc]
            by_cases m2 : r.1 < 0 ∨ csP (ctf fh fw fp vh vw vp) c d + (ctf fh fw fp vh vw vp i d + X) < r.1
            · rw [if_pos ⟨by omega, m2⟩, if_pos ⟨m, m2⟩]
            · rw [if_neg (fun z => m2 z.2), if_neg (fun z => m2 z.2)]
          · rw [if_neg (show ¬ ctf fh fw fp vh vw vp i d + X < 1000000 by omega), if_neg (fun z => absurd z.1 (by decide)), if_neg (fun z => m z.1)]
        rw [← es] at p2 p5
        have h58 : ∀ k, k < d + 1 → aI h5 68 k = aI h3 68 k := fun k hk => (p6 k hk).trans (h4k k hk)
        obtain ⟨h', fu', q1, q2, q3, q4, q5, q6⟩ := ihn d (i + 1) c _ fu5 h5 hd (by omega) (fun k hk => ⟨(h58 k (by omega)).trans ((h8k k hk).trans (hc k hk).1), (hc k hk).2⟩) ((h58 d (by omega)).trans h8d) hP p5 (by omega) p3 p4
        simp only [fld]
        refine ⟨h', fu', by omega, ?_, q3, q4, q5, fun k hk => (q6 k hk).trans ((h58 k (by omega)).trans (h8k k hk))⟩
        rw [← q2]
        rw [show ((d + 1 : Nat) : Int) - 1 = d by omega] at p2
        rw [← p2]
        have a1 : ¬ iI ((nv : Int) - 1) ≤ iI (d : Int) := fun z => by have := (iI_le (by omega) (by omega) (by omega) (by omega)).mp z; omega
        simp only [Int.natCast_add, Int.natCast_one] at z4 ⊢
        simp only [fX12_paint_b98, lit, iI_sub, iI_add, iI_neg, Option.bind_some]
        refine ifn (a1) ?_
        refine bst (sR_1262_29 hS3) ?_
        refine bst (z4) ?_
        rfl
