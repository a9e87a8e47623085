/-! ===== the tape's text, and how the class reads it ===== -/
def pkf (bt : Nat → Int) (L p : Nat) : Int := if p < L then bt p else -1
def dgs (pk : Nat → Int) : Nat → Nat → Int → Nat × Int
  | 0, p, v => (p, v)
  | f + 1, p, v => if 48 ≤ pk p ∧ pk p ≤ 57 then dgs pk f (p + 1) (10 * v + pk p - 48) else (p, v)
theorem dgs_p (pk : Nat → Int) : ∀ (f p : Nat) (v : Int), p ≤ (dgs pk f p v).1 ∧ (dgs pk f p v).1 ≤ p + f
  | 0, p, v => by simp [dgs]
  | f + 1, p, v => by
    rw [dgs]
    have := dgs_p pk f (p + 1) (10 * v + pk p - 48)
    split
    · omega
    · simp only; omega
theorem dgs_v (pk : Nat → Int) : ∀ (f p : Nat) (v : Int), 0 ≤ v → 0 ≤ (dgs pk f p v).2 ∧ (dgs pk f p v).2 + 1 ≤ (v + 1) * 10 ^ f
  | 0, p, v, hv => by simp [dgs]; omega
  | f + 1, p, v, hv => by
    rw [dgs]
    have hp : (0 : Int) ≤ 10 ^ f := Int.pow_nonneg (by omega)
    have e : (v + 1) * 10 ^ (f + 1) = 10 * (v + 1) * 10 ^ f := by
      rw [Int.pow_succ, Int.mul_comm (10 ^ f) 10, ← Int.mul_assoc, Int.mul_comm (v + 1) 10]
    split
    · rename_i w
      have := dgs_v pk f (p + 1) (10 * v + pk p - 48) (by omega)
      have h2 : (10 * v + pk p - 48 + 1) * 10 ^ f ≤ 10 * (v + 1) * 10 ^ f := Int.mul_le_mul_of_nonneg_right (by omega) hp
      omega
    · have h3 : (v + 1) * 1 ≤ (v + 1) * 10 ^ (f + 1) := Int.mul_le_mul_of_nonneg_left (by have hq : (0 : Int) < 10 ^ (f + 1) := Int.pow_pos (by omega); omega) (by omega)
      simp only
      omega
/-- whether the number is there, where one stands behind it, the number -/
def rdN (pk : Nat → Int) (sg : Bool) (p : Nat) : Bool × Nat × Int := if pk p ≠ 32 then (false, p, 0) else if sg = true ∧ pk (p + 1) = 45 then (decide (p + 2 < (dgs pk 4 (p + 2) 0).1), (dgs pk 4 (p + 2) 0).1, -(dgs pk 4 (p + 2) 0).2) else (decide (p + 1 < (dgs pk 4 (p + 1) 0).1), (dgs pk 4 (p + 1) 0).1, (dgs pk 4 (p + 1) 0).2)
theorem rdN_b (pk : Nat → Int) (sg : Bool) (p : Nat) : p ≤ (rdN pk sg p).2.1 ∧ (rdN pk sg p).2.1 ≤ p + 6 ∧ ((rdN pk sg p).1 = true → p + 2 ≤ (rdN pk sg p).2.1) ∧ -9999 ≤ (rdN pk sg p).2.2 ∧ (rdN pk sg p).2.2 ≤ 9999 ∧ (sg = false → 0 ≤ (rdN pk sg p).2.2) := by
  unfold rdN
  have a1 := dgs_p pk 4 (p + 2) 0
  have a2 := dgs_v pk 4 (p + 2) 0 (by omega)
  have a3 := dgs_p pk 4 (p + 1) 0
  have a4 := dgs_v pk 4 (p + 1) 0 (by omega)
  have e : (0 + 1 : Int) * 10 ^ 4 = 10000 := by decide
  rw [e] at a2 a4
  split
  · simp only
    refine ⟨by omega, by omega, (fun q => by cases q), by omega, by omega, fun _ => by omega⟩
  · split
    · rename_i w
      simp only [decide_eq_true_eq]
      refine ⟨by omega, by omega, fun q => by omega, by omega, by omega, fun q => by rw [q] at w; cases w.1⟩
    · simp only [decide_eq_true_eq]
      refine ⟨by omega, by omega, fun q => by omega, by omega, by omega, fun _ => by omega⟩
/-- a line: whether it is one, where one stands behind it, its letter and numbers -/
def rdE (pk : Nat → Int) (p : Nat) (c : Int × Int × Int) : Bool × Nat × (Int × Int × Int) := if pk p = 59 then (true, p + 1, c) else (false, p, c)
def rdL (pk : Nat → Int) (p : Nat) : Bool × Nat × (Int × Int × Int) :=
  if pk p = 115 ∨ pk p = 117 then (if (rdN pk (decide (pk p = 115)) (p + 1)).1 then rdE pk (rdN pk (decide (pk p = 115)) (p + 1)).2.1 (pk p, (rdN pk (decide (pk p = 115)) (p + 1)).2.2, 0) else (false, (rdN pk (decide (pk p = 115)) (p + 1)).2.1, (0, 0, 0)))
  else if pk p = 116 ∨ pk p = 119 then (if (rdN pk false (p + 1)).1 then (if (rdN pk (decide (pk p = 119)) (rdN pk false (p + 1)).2.1).1 then rdE pk (rdN pk (decide (pk p = 119)) (rdN pk false (p + 1)).2.1).2.1 (pk p, (rdN pk false (p + 1)).2.2, (rdN pk (decide (pk p = 119)) (rdN pk false (p + 1)).2.1).2.2) else (false, (rdN pk (decide (pk p = 119)) (rdN pk false (p + 1)).2.1).2.1, (0, 0, 0))) else (false, (rdN pk false (p + 1)).2.1, (0, 0, 0)))
  else (false, p, (0, 0, 0))
theorem rdL_b (bt : Nat → Int) (L p : Nat) : p ≤ (rdL (pkf bt L) p).2.1 ∧ (rdL (pkf bt L) p).2.1 ≤ p + 20 ∧ ((rdL (pkf bt L) p).1 = true → p + 4 ≤ (rdL (pkf bt L) p).2.1 ∧ (rdL (pkf bt L) p).2.1 ≤ L ∧ ((rdL (pkf bt L) p).2.2.1 = 115 ∨ (rdL (pkf bt L) p).2.2.1 = 116 ∨ (rdL (pkf bt L) p).2.2.1 = 117 ∨ (rdL (pkf bt L) p).2.2.1 = 119) ∧ -9999 ≤ (rdL (pkf bt L) p).2.2.2.1 ∧ (rdL (pkf bt L) p).2.2.2.1 ≤ 9999 ∧ -9999 ≤ (rdL (pkf bt L) p).2.2.2.2 ∧ (rdL (pkf bt L) p).2.2.2.2 ≤ 9999) := by
  have pe : ∀ (q : Nat) (c : Int × Int × Int), q ≤ (rdE (pkf bt L) q c).2.1 ∧ (rdE (pkf bt L) q c).2.1 ≤ q + 1 ∧ (rdE (pkf bt L) q c).2.2 = c ∧ ((rdE (pkf bt L) q c).1 = true → (rdE (pkf bt L) q c).2.1 = q + 1 ∧ q + 1 ≤ L) := by
    intro q c
    unfold rdE
    by_cases w : pkf bt L q = 59
    · rw [if_pos w]
      refine ⟨by simp only; omega, by simp only; omega, rfl, fun _ => ⟨rfl, ?_⟩⟩
      unfold pkf at w
      by_cases v : q < L
      · omega
      · rw [if_neg v] at w; omega
    · rw [if_neg w]
      exact ⟨by simp only; omega, by simp only; omega, rfl, fun q => by cases q⟩
  unfold rdL
  by_cases w1 : pkf bt L p = 115 ∨ pkf bt L p = 117
  · rw [if_pos w1]
    have b1 := rdN_b (pkf bt L) (decide (pkf bt L p = 115)) (p + 1)
    generalize rdN (pkf bt L) (decide (pkf bt L p = 115)) (p + 1) = r1 at *
    by_cases w2 : r1.1 = true
    · rw [if_pos w2]
      have e := pe r1.2.1 (pkf bt L p, r1.2.2, 0)
      generalize rdE (pkf bt L) r1.2.1 (pkf bt L p, r1.2.2, 0) = r2 at *
      obtain ⟨e1, e2, e3, e4⟩ := e
      have b2 := b1.2.2.1 w2
      refine ⟨by omega, by omega, fun q => ?_⟩
      have e5 := e4 q
      rw [e3]
      simp only
      omega
    · rw [if_neg w2]
      exact ⟨by simp only; omega, by simp only; omega, fun q => by cases q⟩
  · rw [if_neg w1]
    by_cases w2 : pkf bt L p = 116 ∨ pkf bt L p = 119
    · rw [if_pos w2]
      have b1 := rdN_b (pkf bt L) false (p + 1)
      generalize rdN (pkf bt L) false (p + 1) = r1 at *
      by_cases w3 : r1.1 = true
      · rw [if_pos w3]
        have b3 := b1.2.2.1 w3
        have b2 := rdN_b (pkf bt L) (decide (pkf bt L p = 119)) r1.2.1
        generalize rdN (pkf bt L) (decide (pkf bt L p = 119)) r1.2.1 = r2 at *
        by_cases w4 : r2.1 = true
        · rw [if_pos w4]
          have e := pe r2.2.1 (pkf bt L p, r1.2.2, r2.2.2)
          generalize rdE (pkf bt L) r2.2.1 (pkf bt L p, r1.2.2, r2.2.2) = r3 at *
          obtain ⟨e1, e2, e3, e4⟩ := e
          have b4 := b2.2.2.1 w4
          refine ⟨by omega, by omega, fun q => ?_⟩
          have e5 := e4 q
          rw [e3]
          simp only
          omega
        · rw [if_neg w4]
          exact ⟨by simp only; omega, by simp only; omega, fun q => by cases q⟩
      · rw [if_neg w3]
        exact ⟨by simp only; omega, by simp only; omega, fun q => by cases q⟩
    · rw [if_neg w2]
      exact ⟨by simp only; omega, by simp only; omega, fun q => by cases q⟩
/-- the fault, or -1; how many lines; the lines -/
def prs (pk : Nat → Int) (L : Nat) : Nat → Nat → Nat → (Nat → Int × Int × Int) → Int × Nat × (Nat → Int × Int × Int)
  | 0, p, ln, lc => ((p : Int), ln, lc)
  | f + 1, p, ln, lc => if (rdL pk p).1 then (if (rdL pk p).2.1 < L then prs pk L f (rdL pk p).2.1 (ln + 1) (updO lc ln (rdL pk p).2.2) else (-1, ln + 1, updO lc ln (rdL pk p).2.2)) else (((rdL pk p).2.1 : Int), ln, lc)
def TC (h : Hs) (L : Nat) (bt : Nat → Int) : Prop := gI h 804 1 = iI L ∧ L ≤ 120 ∧ ∀ i, i < L → aI h 2 i = iI (bt i) ∧ 0 ≤ bt i ∧ bt i ≤ 255
theorem TC.e {F A FR AQ : List Nat} {h h2 : Hs} {L : Nat} {bt : Nat → Int} (hC : TC h L bt) (hz : 70 ≤ sz h) (k : Ke F A FR AQ h h2) (f1 : 804 ∉ F) (a1 : 2 ∉ A) : TC h2 L bt := ⟨by rw [k.1 _ _ f1 (by omega)]; exact hC.1, hC.2.1, fun i hi => by rw [k.2.1 _ a1 (by omega)]; exact hC.2.2 i hi⟩
theorem pkf_b {h : Hs} {L : Nat} {bt : Nat → Int} (hC : TC h L bt) (p : Nat) : -1 ≤ pkf bt L p ∧ pkf bt L p ≤ 255 := by
  unfold pkf
  by_cases w : p < L
  · rw [if_pos w]; have := hC.2.2 p w; omega
  · rw [if_neg w]; omega
theorem v_peek {N : Nat} {h : Hs} (hS : Sk h) {L : Nat} {bt : Nat → Int} (hC : TC h L bt) {p : Nat} (hp : p ≤ 1000) (g6 : gI h 806 1 = iI p) : fX8_peek N h 1 = some (iI (pkf bt L p), h) := by
  obtain ⟨c1, c2, c3⟩ := hC
  have cc : (sh h 1).1 = 8 := by rw [ss_1 hS]
  have o6 : oI 8 6 h (some 1) = some (iI p) := oIv cc g6
  have o4 : oI 8 4 h (some 1) = some (iI L) := oIv cc c1
  have n0 : ¬ iI (p : Int) < iI 0 := fun q => by have := (iI_lt (by omega) (by omega) (by omega) (by omega)).mp q; omega
  have le : iI (L : Int) ≤ iI (p : Int) ↔ (L : Int) ≤ p := iI_le (by omega) (by omega) (by omega) (by omega)
  simp only [fX8_peek, fX8_peek_b30, fX8_peek_b31, lit, iI_neg]
  unfold pkf
  by_cases w : p < L
  · rw [if_pos w]
    refine bst (o6) ?_
    refine ifn (n0) ?_
    refine bst (o6) ?_
    refine bst (o4) ?_
    refine ifn (fun q => by have := le.mp q; omega) ?_
    refine bst (sR_800_1 hS) ?_
    refine bst (o6) ?_
    refine bst (lAv (ss_2 hS) (by omega) (by omega) (c3 p w).1) ?_
    rfl
  · rw [if_neg w]
    refine bst (o6) ?_
    refine ifn (n0) ?_
    refine bst (o6) ?_
    refine bst (o4) ?_
    refine ifp (le.mpr (by omega)) ?_
    rfl
theorem v_sign {N : Nat} {h : Hs} (hS : Sk h) {L : Nat} {bt : Nat → Int} (hC : TC h L bt) {p : Nat} (hp : p ≤ 1000) (g6 : gI h 806 1 = iI p) {c : Int} (c1 : 0 ≤ c) (c2 : c ≤ 127) : (pkf bt L p = c → fX8_readSign N h 1 (iI c) = some (iI 1, uI h 806 1 (iI ((p + 1 : Nat) : Int)))) ∧ (pkf bt L p ≠ c → fX8_readSign N h 1 (iI c) = some (iI 0, h)) := by
  have vp := v_peek (N := N) hS hC hp g6
  have b := pkf_b hC p
  have rc8 : rc 8 h (some 1) = some 1 := rcv (by rw [ss_1 hS])
  have cc : (sh h 1).1 = 8 := by rw [ss_1 hS]
  have le : iI (pkf bt L p) = iI c ↔ pkf bt L p = c := iI_eq (by omega) (by omega) (by omega) (by omega)
  simp only [fX8_readSign, lit]
  constructor
  · intro w
    refine bst (rc8) ?_
    refine bst (vp) ?_
    refine ifp (le.mpr w) ?_
    refine bst (oIv cc g6) ?_
    refine bst (qIv cc) ?_
    rw [iI_add, Int.natCast_add, Int.natCast_one]
  · intro w
    refine bst (rc8) ?_
    refine bst (vp) ?_
    refine ifn (fun q => w (le.mp q)) ?_
    rfl
theorem L_dgC {N : Nat} {L : Nat} {bt : Nat → Int} {g : Int32} : ∀ (f p : Nat) (v : Int) (fu : Nat) (h : Hs), Sk h → 70 ≤ sz h → TC h L bt → p + f ≤ 900 → f ≤ 4 → f < fu → gI h 806 1 = iI p → gI h 807 1 = iI v → 0 ≤ v → ∃ h', fX8_readNumber_b37 N 1 fu h g (iI ((4 - f : Nat) : Int)) = fX8_readNumber_b91 N 1 h' g (iI ((4 - f + ((dgs (pkf bt L) f p v).1 - p) : Nat) : Int)) ∧ Ke [806, 807] [] [] [] h h' ∧ sz h' = sz h ∧ gI h' 806 1 = iI (((dgs (pkf bt L) f p v).1 : Nat) : Int) ∧ gI h' 807 1 = iI (dgs (pkf bt L) f p v).2 := by
  intro f
  induction f with
  | zero =>
    intro p v fu h hS hz hC hp hf4 hf g6 g7 hv
    obtain ⟨fu, rfl⟩ : ∃ m, fu = m + 1 := ⟨fu - 1, by omega⟩
    refine ⟨h, ?_, Ke_rf, rfl, g6, g7⟩
    show fX8_readNumber_b37_body N (fX8_readNumber_b37 N 1 fu) 1 h g (iI ((4 - 0 : Nat) : Int)) = _
    simp only [fX8_readNumber_b37_body, lit]
    refine ifp (by decide) ?_
    simp [dgs]
  | succ f ih =>
    intro p v fu h hS hz hC hp hf4 hf g6 g7 hv
    obtain ⟨fu, rfl⟩ : ∃ m, fu = m + 1 := ⟨fu - 1, by omega⟩
    have a1 : ¬ iI 4 ≤ iI ((4 - (f + 1) : Nat) : Int) := fun q => by have := (iI_le (by omega) (by omega) (by omega) (by omega)).mp q; omega
    have vp := v_peek (N := N) hS hC (by omega) g6
    have b := pkf_b hC p
    have rc8 : rc 8 h (some 1) = some 1 := rcv (by rw [ss_1 hS])
    have cc : (sh h 1).1 = 8 := by rw [ss_1 hS]
    have iw := v_isW (N := N) (h := h) (x := pkf bt L p) (a := 48) (b := 57) (by omega) (by omega) (by omega) (by omega) (by omega) (by omega)
    by_cases w : 48 ≤ pkf bt L p ∧ pkf bt L p ≤ 57
    · rw [if_pos w] at iw
      have ed : dgs (pkf bt L) (f + 1) p v = dgs (pkf bt L) f (p + 1) (10 * v + pkf bt L p - 48) := by rw [dgs, if_pos w]
      rw [ed]
      have ev : iI 10 * iI v + iI (pkf bt L p) - iI 48 = iI (10 * v + pkf bt L p - 48) := by rw [iI_mul, iI_add, iI_sub]
      obtain ⟨h2, eh2⟩ : ∃ h2, h2 = uI (uI h 807 1 (iI (10 * v + pkf bt L p - 48))) 806 1 (iI ((p + 1 : Nat) : Int)) := ⟨_, rfl⟩
      have ke2 : Ke [806, 807] [] [] [] h h2 := by rw [eh2]; exact (Ke_rf.u 807 _ _ (by decide)).u 806 _ _ (by decide)
      have g6b : gI (uI h 807 1 (iI (10 * v + pkf bt L p - 48))) 806 1 = iI p := by simp [HR, g6]
      obtain ⟨h', r1, r2, r3, r4, r5⟩ := ih (p + 1) (10 * v + pkf bt L p - 48) fu h2 (hS.e hz ke2 (by decide)) (by rw [eh2]; exact hz) (hC.e hz ke2 (by decide) (by decide)) (by omega) (by omega) (by omega) (by rw [eh2]; simp [HR]) (by rw [eh2]; simp [HR]) (by omega)
      have dp := dgs_p (pkf bt L) f (p + 1) (10 * v + pkf bt L p - 48)
      have en : 4 - (f + 1) + ((dgs (pkf bt L) f (p + 1) (10 * v + pkf bt L p - 48)).1 - p) = 4 - f + ((dgs (pkf bt L) f (p + 1) (10 * v + pkf bt L p - 48)).1 - (p + 1)) := by omega
      rw [en]
      refine ⟨h', ?_, ke2.tr r2, by rw [r3, eh2]; rfl, r4, r5⟩
      rw [← r1]
      show fX8_readNumber_b37_body N (fX8_readNumber_b37 N 1 fu) 1 h g (iI ((4 - (f + 1) : Nat) : Int)) = _
      have e4 : iI ((4 - (f + 1) : Nat) : Int) + iI 1 = iI ((4 - f : Nat) : Int) := by rw [iI_add]; congr 1; omega
      have e5 : iI (p : Int) + iI 1 = iI ((p + 1 : Nat) : Int) := by rw [iI_add]; congr 1
      simp only [fX8_readNumber_b37_body, lit, Option.bind_some]
      refine ifn (a1) ?_
      refine bst (rc8) ?_
      refine bst (vp) ?_
      refine bst (iw) ?_
      refine ifn (n10) ?_
      refine bst (oIv cc g7) ?_
      refine bst (rc8) ?_
      refine bst (vp) ?_
      rw [ev]
      refine bst (qIv cc) ?_
      refine bst (oIv (by rw [sh_uI]; exact cc) g6b) ?_
      rw [e5]
      refine bst (qIv (by rw [sh_uI]; exact cc)) ?_
      rw [← eh2, e4]
    · rw [if_neg w] at iw
      have ed : dgs (pkf bt L) (f + 1) p v = (p, v) := by rw [dgs, if_neg w]
      rw [ed]
      refine ⟨h, ?_, Ke_rf, rfl, g6, g7⟩
      show fX8_readNumber_b37_body N (fX8_readNumber_b37 N 1 fu) 1 h g (iI ((4 - (f + 1) : Nat) : Int)) = _
      simp only [fX8_readNumber_b37_body, lit]
      refine ifn (a1) ?_
      refine bst (rc8) ?_
      refine bst (vp) ?_
      refine bst (iw) ?_
      refine ifp (rfl) ?_
      simp
theorem v_rdN {N : Nat} (hN : 100000000 ≤ N) {L : Nat} {bt : Nat → Int} {h : Hs} (hS : Sk h) (hz : 70 ≤ sz h) (hC : TC h L bt) {p : Nat} (hp : p ≤ 800) (g6 : gI h 806 1 = iI p) (sg : Bool) : ∃ h', fX8_readNumber N h 1 (iI (b2 sg)) = some (iI (b2 (rdN (pkf bt L) sg p).1), h') ∧ Ke [806, 807] [] [] [] h h' ∧ sz h' = sz h ∧ gI h' 806 1 = iI (((rdN (pkf bt L) sg p).2.1 : Nat) : Int) ∧ ((rdN (pkf bt L) sg p).1 = true → gI h' 807 1 = iI (rdN (pkf bt L) sg p).2.2) := by
  have rc8 : rc 8 h (some 1) = some 1 := rcv (by rw [ss_1 hS])
  obtain ⟨s1, s0⟩ := v_sign (N := N) hS hC (by omega) g6 (c := 32) (by omega) (by omega)
  by_cases w : pkf bt L p = 32
  · obtain ⟨h1, eh1⟩ : ∃ h1, h1 = uI h 806 1 (iI ((p + 1 : Nat) : Int)) := ⟨_, rfl⟩
    have s1' := s1 w
    rw [← eh1] at s1'
    have ke1 : Ke [806, 807] [] [] [] h h1 := by rw [eh1]; exact Ke_rf.u 806 _ _ (by decide)
    have sz1 : sz h1 = sz h := by rw [eh1]; rfl
    have hS1 := hS.e hz ke1 (by decide)
    have hC1 := hC.e hz ke1 (by decide) (by decide)
    have g61 : gI h1 806 1 = iI ((p + 1 : Nat) : Int) := by rw [eh1]; simp [HR]
    -- the digits from q on
    have dig : ∀ (h2 : Hs) (q : Nat) (ng : Bool), Ke [806, 807] [] [] [] h h2 → sz h2 = sz h → q ≤ 810 → gI h2 806 1 = iI q → ∃ h', fX8_readNumber_b29 N 1 h2 (iI (b2 ng)) = some (iI (b2 (decide (q < (dgs (pkf bt L) 4 q 0).1))), h') ∧ Ke [806, 807] [] [] [] h h' ∧ sz h' = sz h ∧ gI h' 806 1 = iI (((dgs (pkf bt L) 4 q 0).1 : Nat) : Int) ∧ gI h' 807 1 = iI (if ng then -(dgs (pkf bt L) 4 q 0).2 else (dgs (pkf bt L) 4 q 0).2) := by
      intro h2 q ng ke2 s2 hq g62
      have hS2 := hS.e hz ke2 (by decide)
      have cc2 : (sh h2 1).1 = 8 := by rw [ss_1 hS2]
      obtain ⟨h3, eh3⟩ : ∃ h3, h3 = uI h2 807 1 (iI 0) := ⟨_, rfl⟩
      have ke3 : Ke [806, 807] [] [] [] h h3 := by rw [eh3]; exact ke2.u 807 _ _ (by decide)
      have sz3 : sz h3 = sz h := by rw [eh3]; exact s2
      obtain ⟨h4, r1, r2, r3, r4, r5⟩ := L_dgC (N := N) (bt := bt) (L := L) (g := iI (b2 ng)) 4 q 0 N h3 (hS.e hz ke3 (by decide)) (by omega) (hC.e hz ke3 (by decide) (by decide)) (by omega) (by omega) (by omega) (by rw [eh3]; simp [HR, g62]) (by rw [eh3]; simp [HR]) (by omega)
      have st : fX8_readNumber_b29 N 1 h2 (iI (b2 ng)) = fX8_readNumber_b91 N 1 h4 (iI (b2 ng)) (iI (((dgs (pkf bt L) 4 q 0).1 - q : Nat) : Int)) := by
        have r1' : fX8_readNumber_b37 N 1 N h3 (iI (b2 ng)) (iI 0) = fX8_readNumber_b91 N 1 h4 (iI (b2 ng)) (iI (((dgs (pkf bt L) 4 q 0).1 - q : Nat) : Int)) := by
          rw [show 4 - 4 + ((dgs (pkf bt L) 4 q 0).1 - q) = (dgs (pkf bt L) 4 q 0).1 - q by omega] at r1
          exact r1
        simp only [fX8_readNumber_b29, lit]
        refine bst (qIv cc2) ?_
        rw [← eh3]
        exact r1'
      have dp := dgs_p (pkf bt L) 4 q 0
      have ke4 : Ke [806, 807] [] [] [] h h4 := ke3.tr r2
      have hS4 := hS.e hz ke4 (by decide)
      have cc4 : (sh h4 1).1 = 8 := by rw [ss_1 hS4]
      have lz : iI (((dgs (pkf bt L) 4 q 0).1 - q : Nat) : Int) ≤ iI 0 ↔ (((dgs (pkf bt L) 4 q 0).1 - q : Nat) : Int) ≤ 0 := iI_le (by omega) (by omega) (by omega) (by omega)
      have b104 : ∀ h5, fX8_readNumber_b104 N 1 h5 (iI (((dgs (pkf bt L) 4 q 0).1 - q : Nat) : Int)) = some (iI (b2 (decide (q < (dgs (pkf bt L) 4 q 0).1))), h5) := by
        intro h5
        simp only [fX8_readNumber_b104, fX8_readNumber_b113, lit]
        by_cases v : q < (dgs (pkf bt L) 4 q 0).1
        · rw [decide_eq_true v]
          refine ifn (fun z => by have := lz.mp z; omega) ?_
          refine bst (zc_i1) ?_
          rfl
        · rw [decide_eq_false v]
          refine ifp (lz.mpr (by omega)) ?_
          refine bst (zc_i0) ?_
          rfl
      cases ng with
      | false =>
        refine ⟨h4, ?_, ke4, by omega, r4, r5⟩
        rw [st]
        simp only [fX8_readNumber_b91, lit]
        refine ifp (rfl) ?_
        exact b104 h4
      | true =>
        refine ⟨uI h4 807 1 (iI (-(dgs (pkf bt L) 4 q 0).2)), ?_, ke4.u 807 _ _ (by decide), by show sz h4 = sz h; omega, by simp [HR, r4], by simp [HR]⟩
        rw [st]
        simp only [fX8_readNumber_b91, lit]
        refine ifn (n10) ?_
        refine bst (oIv cc4 r5) ?_
        rw [iI_neg]
        refine bst (qIv cc4) ?_
        exact b104 _
    simp only [fX8_readNumber, fX8_readNumber_b28, lit]
    unfold rdN
    rw [if_neg (fun z => z w)]
    cases sg with
    | false =>
      obtain ⟨h', r1, r2, r3, r4, r5⟩ := dig h1 (p + 1) false ke1 sz1 (by omega) g61
      rw [if_neg (fun z => by cases z.1)]
      refine ⟨h', ?_, r2, r3, r4, fun _ => r5⟩
      refine bst (rc8) ?_
      refine bst (s1') ?_
      refine ifn (n10) ?_
      refine ifp (rfl) ?_
      exact r1
    | true =>
      obtain ⟨t1, t0⟩ := v_sign (N := N) hS1 hC1 (by omega) g61 (c := 45) (by omega) (by omega)
      have rc81 : rc 8 h1 (some 1) = some 1 := rcv (by rw [ss_1 hS1])
      by_cases v : pkf bt L (p + 1) = 45
      · rw [if_pos ⟨rfl, v⟩]
        obtain ⟨h', r1, r2, r3, r4, r5⟩ := dig (uI h1 806 1 (iI ((p + 1 + 1 : Nat) : Int))) (p + 2) true (ke1.u 806 _ _ (by decide)) sz1 (by omega) (by have e : (p + 1 + 1 : Nat) = p + 2 := rfl; rw [e]; simp [HR])
        refine ⟨h', ?_, r2, r3, r4, fun _ => r5⟩
        refine bst (rc8) ?_
        refine bst (s1') ?_
        refine ifn (n10) ?_
        refine ifn (n10) ?_
        refine bst (rc81) ?_
        refine bst (t1 v) ?_
        refine ifn (n10) ?_
        exact r1
      · rw [if_neg (fun z => v z.2)]
        obtain ⟨h', r1, r2, r3, r4, r5⟩ := dig h1 (p + 1) false ke1 sz1 (by omega) g61
        refine ⟨h', ?_, r2, r3, r4, fun _ => r5⟩
        refine bst (rc8) ?_
        refine bst (s1') ?_
        refine ifn (n10) ?_
        refine ifn (n10) ?_
        refine bst (rc81) ?_
        refine bst (t0 v) ?_
        refine ifp (rfl) ?_
        exact r1
  · have er : rdN (pkf bt L) sg p = (false, p, 0) := by unfold rdN; rw [if_pos w]
    rw [er]
    refine ⟨h, ?_, Ke_rf, rfl, g6, fun q => by cases q⟩
    simp only [fX8_readNumber, lit]
    refine bst (rc8) ?_
    refine bst (s0 w) ?_
    refine ifp (rfl) ?_
    rfl
