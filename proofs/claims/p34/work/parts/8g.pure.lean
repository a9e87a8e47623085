/-! ===== the tape's text, and how the class reads it ===== -/
def pkf (bt : Nat → Int) (L p : Nat) : Int := if p < L then bt p else -1
def dgs (pk : Nat → Int) : Nat → Nat → Int → Nat × Int
  | 0, p, v => (p, v)
  | f + 1, p, v => if 48 ≤ pk p ∧ pk p ≤ 57 then dgs pk f (p + 1) (10 * v + pk p - 48) else (p, v)
theorem dgs_p (pk : Nat → Int) : ∀ (f p : Nat) (v : Int), p ≤ (dgs pk f p v).1 ∧ (dgs pk f p v).1 ≤ p + f
  | 0, p, v => by simp [dgs]
  | f + 1, p, v => by
    rw [dgs]
    have := dgs_p pk f (p + 1) (10 * v + pk p - 48)
    split
    · omega
    · simp only; omega
theorem dgs_v (pk : Nat → Int) : ∀ (f p : Nat) (v : Int), 0 ≤ v → 0 ≤ (dgs pk f p v).2 ∧ (dgs pk f p v).2 + 1 ≤ (v + 1) * 10 ^ f
  | 0, p, v, hv => by simp [dgs]; omega
  | f + 1, p, v, hv => by
    rw [dgs]
    have hp : (0 : Int) ≤ 10 ^ f := Int.pow_nonneg (by omega)
    have e : (v + 1) * 10 ^ (f + 1) = 10 * (v + 1) * 10 ^ f := by
      rw [Int.pow_succ, Int.mul_comm (10 ^ f) 10, ← Int.mul_assoc, Int.mul_comm (v + 1) 10]
    split
    · rename_i w
      have := dgs_v pk f (p + 1) (10 * v + pk p - 48) (by omega)
      have h2 : (10 * v + pk p - 48 + 1) * 10 ^ f ≤ 10 * (v + 1) * 10 ^ f := Int.mul_le_mul_of_nonneg_right (by omega) hp
      omega
    · have h3 : (v + 1) * 1 ≤ (v + 1) * 10 ^ (f + 1) := Int.mul_le_mul_of_nonneg_left (by have hq : (0 : Int) < 10 ^ (f + 1) := Int.pow_pos (by omega); omega) (by omega)
      simp only
      omega
/-- whether the number is there, where one stands behind it, the number -/
def rdN (pk : Nat → Int) (sg : Bool) (p : Nat) : Bool × Nat × Int := if pk p ≠ 32 then (false, p, 0) else if sg = true ∧ pk (p + 1) = 45 then (decide (p + 2 < (dgs pk 4 (p + 2) 0).1), (dgs pk 4 (p + 2) 0).1, -(dgs pk 4 (p + 2) 0).2) else (decide (p + 1 < (dgs pk 4 (p + 1) 0).1), (dgs pk 4 (p + 1) 0).1, (dgs pk 4 (p + 1) 0).2)
theorem rdN_b (pk : Nat → Int) (sg : Bool) (p : Nat) : p ≤ (rdN pk sg p).2.1 ∧ (rdN pk sg p).2.1 ≤ p + 6 ∧ ((rdN pk sg p).1 = true → p + 2 ≤ (rdN pk sg p).2.1) ∧ -9999 ≤ (rdN pk sg p).2.2 ∧ (rdN pk sg p).2.2 ≤ 9999 ∧ (sg = false → 0 ≤ (rdN pk sg p).2.2) := by
  unfold rdN
  have a1 := dgs_p pk 4 (p + 2) 0
  have a2 := dgs_v pk 4 (p + 2) 0 (by omega)
  have a3 := dgs_p pk 4 (p + 1) 0
  have a4 := dgs_v pk 4 (p + 1) 0 (by omega)
  have e : (0 + 1 : Int) * 10 ^ 4 = 10000 := by decide
  rw [e] at a2 a4
  split
  · simp only
    refine ⟨by omega, by omega, (fun q => by cases q), by omega, by omega, fun _ => by omega⟩
  · split
    · rename_i w
      simp only [decide_eq_true_eq]
      refine ⟨by omega, by omega, fun q => by omega, by omega, by omega, fun q => by rw [q] at w; cases w.1⟩
    · simp only [decide_eq_true_eq]
      refine ⟨by omega, by omega, fun q => by omega, by omega, by omega, fun _ => by omega⟩
/-- a line: whether it is one, where one stands behind it, its letter and numbers -/
def rdE (pk : Nat → Int) (p : Nat) (c : Int × Int × Int) : Bool × Nat × (Int × Int × Int) := if pk p = 59 then (true, p + 1, c) else (false, p, c)
def rdL (pk : Nat → Int) (p : Nat) : Bool × Nat × (Int × Int × Int) :=
  if pk p = 115 ∨ pk p = 117 then (if (rdN pk (decide (pk p = 115)) (p + 1)).1 then rdE pk (rdN pk (decide (pk p = 115)) (p + 1)).2.1 (pk p, (rdN pk (decide (pk p = 115)) (p + 1)).2.2, 0) else (false, (rdN pk (decide (pk p = 115)) (p + 1)).2.1, (0, 0, 0)))
  else if pk p = 116 ∨ pk p = 119 then (if (rdN pk false (p + 1)).1 then (if (rdN pk (decide (pk p = 119)) (rdN pk false (p + 1)).2.1).1 then rdE pk (rdN pk (decide (pk p = 119)) (rdN pk false (p + 1)).2.1).2.1 (pk p, (rdN pk false (p + 1)).2.2, (rdN pk (decide (pk p = 119)) (rdN pk false (p + 1)).2.1).2.2) else (false, (rdN pk (decide (pk p = 119)) (rdN pk false (p + 1)).2.1).2.1, (0, 0, 0))) else (false, (rdN pk false (p + 1)).2.1, (0, 0, 0)))
  else (false, p, (0, 0, 0))
theorem rdL_b (bt : Nat → Int) (L p : Nat) : p ≤ (rdL (pkf bt L) p).2.1 ∧ (rdL (pkf bt L) p).2.1 ≤ p + 20 ∧ ((rdL (pkf bt L) p).1 = true → p + 4 ≤ (rdL (pkf bt L) p).2.1 ∧ (rdL (pkf bt L) p).2.1 ≤ L ∧ ((rdL (pkf bt L) p).2.2.1 = 115 ∨ (rdL (pkf bt L) p).2.2.1 = 116 ∨ (rdL (pkf bt L) p).2.2.1 = 117 ∨ (rdL (pkf bt L) p).2.2.1 = 119) ∧ -9999 ≤ (rdL (pkf bt L) p).2.2.2.1 ∧ (rdL (pkf bt L) p).2.2.2.1 ≤ 9999 ∧ -9999 ≤ (rdL (pkf bt L) p).2.2.2.2 ∧ (rdL (pkf bt L) p).2.2.2.2 ≤ 9999) := by
  have pe : ∀ (q : Nat) (c : Int × Int × Int), q ≤ (rdE (pkf bt L) q c).2.1 ∧ (rdE (pkf bt L) q c).2.1 ≤ q + 1 ∧ (rdE (pkf bt L) q c).2.2 = c ∧ ((rdE (pkf bt L) q c).1 = true → (rdE (pkf bt L) q c).2.1 = q + 1 ∧ q + 1 ≤ L) := by
    intro q c
    unfold rdE
    by_cases w : pkf bt L q = 59
    · rw [if_pos w]
      refine ⟨by simp only; omega, by simp only; omega, rfl, fun _ => ⟨rfl, ?_⟩⟩
      unfold pkf at w
      by_cases v : q < L
      · omega
      · rw [if_neg v] at w; omega
    · rw [if_neg w]
      exact ⟨by simp only; omega, by simp only; omega, rfl, fun q => by cases q⟩
  unfold rdL
  by_cases w1 : pkf bt L p = 115 ∨ pkf bt L p = 117
  · rw [if_pos w1]
    have b1 := rdN_b (pkf bt L) (decide (pkf bt L p = 115)) (p + 1)
    generalize rdN (pkf bt L) (decide (pkf bt L p = 115)) (p + 1) = r1 at *
    by_cases w2 : r1.1 = true
    · rw [if_pos w2]
      have e := pe r1.2.1 (pkf bt L p, r1.2.2, 0)
      generalize rdE (pkf bt L) r1.2.1 (pkf bt L p, r1.2.2, 0) = r2 at *
      obtain ⟨e1, e2, e3, e4⟩ := e
      have b2 := b1.2.2.1 w2
      refine ⟨by omega, by omega, fun q => ?_⟩
      have e5 := e4 q
      rw [e3]
      simp only
      omega
    · rw [if_neg w2]
      exact ⟨by simp only; omega, by simp only; omega, fun q => by cases q⟩
  · rw [if_neg w1]
    by_cases w2 : pkf bt L p = 116 ∨ pkf bt L p = 119
    · rw [if_pos w2]
      have b1 := rdN_b (pkf bt L) false (p + 1)
      generalize rdN (pkf bt L) false (p + 1) = r1 at *
      by_cases w3 : r1.1 = true
      · rw [if_pos w3]
        have b3 := b1.2.2.1 w3
        have b2 := rdN_b (pkf bt L) (decide (pkf bt L p = 119)) r1.2.1
        generalize rdN (pkf bt L) (decide (pkf bt L p = 119)) r1.2.1 = r2 at *
        by_cases w4 : r2.1 = true
        · rw [if_pos w4]
          have e := pe r2.2.1 (pkf bt L p, r1.2.2, r2.2.2)
          generalize rdE (pkf bt L) r2.2.1 (pkf bt L p, r1.2.2, r2.2.2) = r3 at *
          obtain ⟨e1, e2, e3, e4⟩ := e
          have b4 := b2.2.2.1 w4
          refine ⟨by omega, by omega, fun q => ?_⟩
          have e5 := e4 q
          rw [e3]
          simp only
          omega
        · rw [if_neg w4]
          exact ⟨by simp only; omega, by simp only; omega, fun q => by cases q⟩
      · rw [if_neg w3]
        exact ⟨by simp only; omega, by simp only; omega, fun q => by cases q⟩
    · rw [if_neg w2]
      exact ⟨by simp only; omega, by simp only; omega, fun q => by cases q⟩
/-- the fault, or -1; how many lines; the lines -/
def prs (pk : Nat → Int) (L : Nat) : Nat → Nat → Nat → (Nat → Int × Int × Int) → Int × Nat × (Nat → Int × Int × Int)
  | 0, p, ln, lc => ((p : Int), ln, lc)
  | f + 1, p, ln, lc => if (rdL pk p).1 then (if (rdL pk p).2.1 < L then prs pk L f (rdL pk p).2.1 (ln + 1) (updO lc ln (rdL pk p).2.2) else (-1, ln + 1, updO lc ln (rdL pk p).2.2)) else (((rdL pk p).2.1 : Int), ln, lc)
def TC (h : Hs) (L : Nat) (bt : Nat → Int) : Prop := gI h 804 1 = iI L ∧ L ≤ 120 ∧ ∀ i, i < L → aI h 2 i = iI (bt i) ∧ 0 ≤ bt i ∧ bt i ≤ 255
theorem TC.e {F A FR AQ : List Nat} {h h2 : Hs} {L : Nat} {bt : Nat → Int} (hC : TC h L bt) (hz : 70 ≤ sz h) (k : Ke F A FR AQ h h2) (f1 : 804 ∉ F) (a1 : 2 ∉ A) : TC h2 L bt := ⟨by rw [k.1 _ _ f1 (by omega)]; exact hC.1, hC.2.1, fun i hi => by rw [k.2.1 _ a1 (by omega)]; exact hC.2.2 i hi⟩
theorem pkf_b {h : Hs} {L : Nat} {bt : Nat → Int} (hC : TC h L bt) (p : Nat) : -1 ≤ pkf bt L p ∧ pkf bt L p ≤ 255 := by
  unfold pkf
  by_cases w : p < L
  · rw [if_pos w]; have := hC.2.2 p w; omega
  · rw [if_neg w]; omega
theorem v_peek {N : Nat} {h : Hs} (hS : Sk h) {L : Nat} {bt : Nat → Int} (hC : TC h L bt) {p : Nat} (hp : p ≤ 1000) (g6 : gI h 806 1 = iI p) : fX8_peek N h 1 = some (iI (pkf bt L p), h) := by
  obtain ⟨c1, c2, c3⟩ := hC
  have cc : (sh h 1).1 = 8 := by rw [ss_1 hS]
  have o6 : oI 8 6 h (some 1) = some (iI p) := oIv cc g6
  have o4 : oI 8 4 h (some 1) = some (iI L) := oIv cc c1
  have n0 : ¬ iI (p : Int) < iI 0 := fun q => by have := (iI_lt (by omega) (by omega) (by omega) (by omega)).mp q; omega
  have le : iI (L : Int) ≤ iI (p : Int) ↔ (L : Int) ≤ p := iI_le (by omega) (by omega) (by omega) (by omega)
  simp only [fX8_peek, fX8_peek_b30, fX8_peek_b31, lit, iI_neg]
  unfold pkf
  by_cases w : p < L
  · rw [if_pos w]
    refine bst (o6) ?_
    refine ifn (n0) ?_
    refine bst (o6) ?_
    refine bst (o4) ?_
    refine ifn (fun q => by have := le.mp q; omega) ?_
    refine bst (sR_800_1 hS) ?_
    refine bst (o6) ?_
    refine bst (lAv (ss_2 hS) (by omega) (by omega) (c3 p w).1) ?_
    rfl
  · rw [if_neg w]
    refine bst (o6) ?_
    refine ifn (n0) ?_
    refine bst (o6) ?_
    refine bst (o4) ?_
    refine ifp (le.mpr (by omega)) ?_
    rfl
theorem v_sign {N : Nat} {h : Hs} (hS : Sk h) {L : Nat} {bt : Nat → Int} (hC : TC h L bt) {p : Nat} (hp : p ≤ 1000) (g6 : gI h 806 1 = iI p) {c : Int} (c1 : 0 ≤ c) (c2 : c ≤ 127) : (pkf bt L p = c → fX8_readSign N h 1 (iI c) = some (iI 1, uI h 806 1 (iI ((p + 1 : Nat) : Int)))) ∧ (pkf bt L p ≠ c → fX8_readSign N h 1 (iI c) = some (iI 0, h)) := by
  have vp := v_peek (N := N) hS hC hp g6
  have b := pkf_b hC p
  have rc8 : rc 8 h (some 1) = some 1 := rcv (by rw [ss_1 hS])
  have cc : (sh h 1).1 = 8 := by rw [ss_1 hS]
  have le : iI (pkf bt L p) = iI c ↔ pkf bt L p = c := iI_eq (by omega) (by omega) (by omega) (by omega)
  simp only [fX8_readSign, lit]
  constructor
  · intro w
    refine bst (rc8) ?_
    refine bst (vp) ?_
    refine ifp (le.mpr w) ?_
    refine bst (oIv cc g6) ?_
    refine bst (qIv cc) ?_
    rw [iI_add, Int.natCast_add, Int.natCast_one]
  · intro w
    refine bst (rc8) ?_
    refine bst (vp) ?_
    refine ifn (fun q => w (le.mp q)) ?_
    rfl
theorem L_dgC {N : Nat} {L : Nat} {bt : Nat → Int} {g : Int32} : ∀ (f p : Nat) (v : Int) (fu : Nat) (h : Hs), Sk h → 70 ≤ sz h → TC h L bt → p + f ≤ 900 → f ≤ 4 → f < fu → gI h 806 1 = iI p → gI h 807 1 = iI v → 0 ≤ v → ∃ h', fX8_readNumber_b37 N 1 fu h g (iI ((4 - f : Nat) : Int)) = fX8_readNumber_b91 N 1 h' g (iI ((4 - f + ((dgs (pkf bt L) f p v).1 - p) : Nat) : Int)) ∧ Ke [806, 807] [] [] [] h h' ∧ sz h' = sz h ∧ gI h' 806 1 = iI (((dgs (pkf bt L) f p v).1 : Nat) : Int) ∧ gI h' 807 1 = iI (dgs (pkf bt L) f p v).2 := by
  intro f
  induction f with
  | zero =>
    intro p v fu h hS hz hC hp hf4 hf g6 g7 hv
    obtain ⟨fu, rfl⟩ : ∃ m, fu = m + 1 := ⟨fu - 1, by omega⟩
    refine ⟨h, ?_, Ke_rf, rfl, g6, g7⟩
    show fX8_readNumber_b37_body N (fX8_readNumber_b37 N 1 fu) 1 h g (iI ((4 - 0 : Nat) : Int)) = _
    simp only [fX8_readNumber_b37_body, lit]
    refine ifp (by decide) ?_
    simp [dgs]
  | succ f ih =>
    intro p v fu h hS hz hC hp hf4 hf g6 g7 hv
    obtain ⟨fu, rfl⟩ : ∃ m, fu = m + 1 := ⟨fu - 1, by omega⟩
    have a1 : ¬ iI 4 ≤ iI ((4 - (f + 1) : Nat) : Int) := fun q => by have := (iI_le (by omega) (by omega) (by omega) (by omega)).mp q; omega
    have vp := v_peek (N := N) hS hC (by omega) g6
    have b := pkf_b hC p
    have rc8 : rc 8 h (some 1) = some 1 := rcv (by rw [ss_1 hS])
    have cc : (sh h 1).1 = 8 := by rw [ss_1 hS]
    have iw := v_isW (N := N) (h := h) (x := pkf bt L p) (a := 48) (b := 57) (by omega) (by omega) (by omega) (by omega) (by omega) (by omega)
    by_cases w : 48 ≤ pkf bt L p ∧ pkf bt L p ≤ 57
    · rw [if_pos w] at iw
      have ed : dgs (pkf bt L) (f + 1) p v = dgs (pkf bt L) f (p + 1) (10 * v + pkf bt L p - 48) := by rw [dgs, if_pos w]
      rw [ed]
      have ev : iI 10 * iI v + iI (pkf bt L p) - iI 48 = iI (10 * v + pkf bt L p - 48) := by rw [iI_mul, iI_add, iI_sub]
      obtain ⟨h2, eh2⟩ : ∃ h2, h2 = uI (uI h 807 1 (iI (10 * v + pkf bt L p - 48))) 806 1 (iI ((p + 1 : Nat) : Int)) := ⟨_, rfl⟩
      have ke2 : Ke [806, 807] [] [] [] h h2 := by rw [eh2]; exact (Ke_rf.u 807 _ _ (by decide)).u 806 _ _ (by decide)
      have g6b : gI (uI h 807 1 (iI (10 * v + pkf bt L p - 48))) 806 1 = iI p := by simp [HR, g6]
      obtain ⟨h', r1, r2, r3, r4, r5⟩ := ih (p + 1) (10 * v + pkf bt L p - 48) fu h2 (hS.e hz ke2 (by decide)) (by rw [eh2]; exact hz) (hC.e hz ke2 (by decide) (by decide)) (by omega) (by omega) (by omega) (by rw [eh2]; simp [HR]) (by rw [eh2]; simp [HR]) (by omega)
      have dp := dgs_p (pkf bt L) f (p + 1) (10 * v + pkf bt L p - 48)
      have en : 4 - (f + 1) + ((dgs (pkf bt L) f (p + 1) (10 * v + pkf bt L p - 48)).1 - p) = 4 - f + ((dgs (pkf bt L) f (p + 1) (10 * v + pkf bt L p - 48)).1 - (p + 1)) := by omega
      rw [en]
      refine ⟨h', ?_, ke2.tr r2, by rw [r3, eh2]; rfl, r4, r5⟩
      rw [← r1]
      show fX8_readNumber_b37_body N (fX8_readNumber_b37 N 1 fu) 1 h g (iI ((4 - (f + 1) : Nat) : Int)) = _
      have e4 : iI ((4 - (f + 1) : Nat) : Int) + iI 1 = iI ((4 - f : Nat) : Int) := by rw [iI_add]; congr 1; omega
      have e5 : iI (p : Int) + iI 1 = iI ((p + 1 : Nat) : Int) := by rw [iI_add]; congr 1
      simp only [fX8_readNumber_b37_body, lit, Option.bind_some]
      refine ifn (a1) ?_
      refine bst (rc8) ?_
      refine bst (vp) ?_
      refine bst (iw) ?_
      refine ifn (n10) ?_
      refine bst (oIv cc g7) ?_
      refine bst (rc8) ?_
      refine bst (vp) ?_
      rw [ev]
      refine bst (qIv cc) ?_
      refine bst (oIv (by rw [sh_uI]; exact cc) g6b) ?_
      rw [e5]
      refine bst (qIv (by rw [sh_uI]; exact cc)) ?_
      rw [← eh2, e4]
    · rw [if_neg w] at iw
      have ed : dgs (pkf bt L) (f + 1) p v = (p, v) := by rw [dgs, if_neg w]
      rw [ed]
      refine ⟨h, ?_, Ke_rf, rfl, g6, g7⟩
      show fX8_readNumber_b37_body N (fX8_readNumber_b37 N 1 fu) 1 h g (iI ((4 - (f + 1) : Nat) : Int)) = _
      simp only [fX8_readNumber_b37_body, lit]
      refine ifn (a1) ?_
      refine bst (rc8) ?_
      refine bst (vp) ?_
      refine bst (iw) ?_
      refine ifp (rfl) ?_
      simp
theorem v_rdN {N : Nat} (hN : 100000000 ≤ N) {L : Nat} {bt : Nat → Int} {h : Hs} (hS : Sk h) (hz : 70 ≤ sz h) (hC : TC h L bt) {p : Nat} (hp : p ≤ 800) (g6 : gI h 806 1 = iI p) (sg : Bool) : ∃ h', fX8_readNumber N h 1 (iI (b2 sg)) = some (iI (b2 (rdN (pkf bt L) sg p).1), h') ∧ Ke [806, 807] [] [] [] h h' ∧ sz h' = sz h ∧ gI h' 806 1 = iI (((rdN (pkf bt L) sg p).2.1 : Nat) : Int) ∧ ((rdN (pkf bt L) sg p).1 = true → gI h' 807 1 = iI (rdN (pkf bt L) sg p).2.2) := by
  have rc8 : rc 8 h (some 1) = some 1 := rcv (by rw [ss_1 hS])
  obtain ⟨s1, s0⟩ := v_sign (N := N) hS hC (by omega) g6 (c := 32) (by omega) (by omega)
  by_cases w : pkf bt L p = 32
  · obtain ⟨h1, eh1⟩ : ∃ h1, h1 = uI h 806 1 (iI ((p + 1 : Nat) : Int)) := ⟨_, rfl⟩
    have s1' := s1 w
    rw [← eh1] at s1'
    have ke1 : Ke [806, 807] [] [] [] h h1 := by rw [eh1]; exact Ke_rf.u 806 _ _ (by decide)
    have sz1 : sz h1 = sz h := by rw [eh1]; rfl
    have hS1 := hS.e hz ke1 (by decide)
    have hC1 := hC.e hz ke1 (by decide) (by decide)
    have g61 : gI h1 806 1 = iI ((p + 1 : Nat) : Int) := by rw [eh1]; simp [HR]
    -- the digits from q on
    have dig : ∀ (h2 : Hs) (q : Nat) (ng : Bool), Ke [806, 807] [] [] [] h h2 → sz h2 = sz h → q ≤ 810 → gI h2 806 1 = iI q → ∃ h', fX8_readNumber_b29 N 1 h2 (iI (b2 ng)) = some (iI (b2 (decide (q < (dgs (pkf bt L) 4 q 0).1))), h') ∧ Ke [806, 807] [] [] [] h h' ∧ sz h' = sz h ∧ gI h' 806 1 = iI (((dgs (pkf bt L) 4 q 0).1 : Nat) : Int) ∧ gI h' 807 1 = iI (if ng then -(dgs (pkf bt L) 4 q 0).2 else (dgs (pkf bt L) 4 q 0).2) := by
      intro h2 q ng ke2 s2 hq g62
      have hS2 := hS.e hz ke2 (by decide)
      have cc2 : (sh h2 1).1 = 8 := by rw [ss_1 hS2]
      obtain ⟨h3, eh3⟩ : ∃ h3, h3 = uI h2 807 1 (iI 0) := ⟨_, rfl⟩
      have ke3 : Ke [806, 807] [] [] [] h h3 := by rw [eh3]; exact ke2.u 807 _ _ (by decide)
      have sz3 : sz h3 = sz h := by rw [eh3]; exact s2
      obtain ⟨h4, r1, r2, r3, r4, r5⟩ := L_dgC (N := N) (bt := bt) (L := L) (g := iI (b2 ng)) 4 q 0 N h3 (hS.e hz ke3 (by decide)) (by omega) (hC.e hz ke3 (by decide) (by decide)) (by omega) (by omega) (by omega) (by rw [eh3]; simp [HR, g62]) (by rw [eh3]; simp [HR]) (by omega)
      have st : fX8_readNumber_b29 N 1 h2 (iI (b2 ng)) = fX8_readNumber_b91 N 1 h4 (iI (b2 ng)) (iI (((dgs (pkf bt L) 4 q 0).1 - q : Nat) : Int)) := by
        have r1' : fX8_readNumber_b37 N 1 N h3 (iI (b2 ng)) (iI 0) = fX8_readNumber_b91 N 1 h4 (iI (b2 ng)) (iI (((dgs (pkf bt L) 4 q 0).1 - q : Nat) : Int)) := by
          rw [show 4 - 4 + ((dgs (pkf bt L) 4 q 0).1 - q) = (dgs (pkf bt L) 4 q 0).1 - q by omega] at r1
          exact r1
        simp only [fX8_readNumber_b29, lit]
        refine bst (qIv cc2) ?_
        rw [← eh3]
        exact r1'
      have dp := dgs_p (pkf bt L) 4 q 0
      have ke4 : Ke [806, 807] [] [] [] h h4 := ke3.tr r2
      have hS4 := hS.e hz ke4 (by decide)
      have cc4 : (sh h4 1).1 = 8 := by rw [ss_1 hS4]
      have lz : iI (((dgs (pkf bt L) 4 q 0).1 - q : Nat) : Int) ≤ iI 0 ↔ (((dgs (pkf bt L) 4 q 0).1 - q : Nat) : Int) ≤ 0 := iI_le (by omega) (by omega) (by omega) (by omega)
      have b104 : ∀ h5, fX8_readNumber_b104 N 1 h5 (iI (((dgs (pkf bt L) 4 q 0).1 - q : Nat) : Int)) = some (iI (b2 (decide (q < (dgs (pkf bt L) 4 q 0).1))), h5) := by
        intro h5
        simp only [fX8_readNumber_b104, fX8_readNumber_b113, lit]
        by_cases v : q < (dgs (pkf bt L) 4 q 0).1
        · rw [decide_eq_true v]
          refine ifn (fun z => by have := lz.mp z; omega) ?_
          refine bst (zc_i1) ?_
          rfl
        · rw [decide_eq_false v]
          refine ifp (lz.mpr (by omega)) ?_
          refine bst (zc_i0) ?_
          rfl
      cases ng with
      | false =>
        refine ⟨h4, ?_, ke4, by omega, r4, r5⟩
        rw [st]
        simp only [fX8_readNumber_b91, lit]
        refine ifp (rfl) ?_
        exact b104 h4
      | true =>
        refine ⟨uI h4 807 1 (iI (-(dgs (pkf bt L) 4 q 0).2)), ?_, ke4.u 807 _ _ (by decide), by show sz h4 = sz h; omega, by simp [HR, r4], by simp [HR]⟩
        rw [st]
        simp only [fX8_readNumber_b91, lit]
        refine ifn (n10) ?_
        refine bst (oIv cc4 r5) ?_
        rw [iI_neg]
        refine bst (qIv cc4) ?_
        exact b104 _
    simp only [fX8_readNumber, fX8_readNumber_b28, lit]
    unfold rdN
    rw [if_neg (fun z => z w)]
    cases sg with
    | false =>
      obtain ⟨h', r1, r2, r3, r4, r5⟩ := dig h1 (p + 1) false ke1 sz1 (by omega) g61
      rw [if_neg (fun z => by cases z.1)]
      refine ⟨h', ?_, r2, r3, r4, fun _ => r5⟩
      refine bst (rc8) ?_
      refine bst (s1') ?_
      refine ifn (n10) ?_
      refine ifp (rfl) ?_
      exact r1
    | true =>
      obtain ⟨t1, t0⟩ := v_sign (N := N) hS1 hC1 (by omega) g61 (c := 45) (by omega) (by omega)
      have rc81 : rc 8 h1 (some 1) = some 1 := rcv (by rw [ss_1 hS1])
      by_cases v : pkf bt L (p + 1) = 45
      · rw [if_pos ⟨rfl, v⟩]
        obtain ⟨h', r1, r2, r3, r4, r5⟩ := dig (uI h1 806 1 (iI ((p + 1 + 1 : Nat) : Int))) (p + 2) true (ke1.u 806 _ _ (by decide)) sz1 (by omega) (by have e : (p + 1 + 1 : Nat) = p + 2 := rfl; rw [e]; simp [HR])
        refine ⟨h', ?_, r2, r3, r4, fun _ => r5⟩
        refine bst (rc8) ?_
        refine bst (s1') ?_
        refine ifn (n10) ?_
        refine ifn (n10) ?_
        refine bst (rc81) ?_
        refine bst (t1 v) ?_
        refine ifn (n10) ?_
        exact r1
      · rw [if_neg (fun z => v z.2)]
        obtain ⟨h', r1, r2, r3, r4, r5⟩ := dig h1 (p + 1) false ke1 sz1 (by omega) g61
        refine ⟨h', ?_, r2, r3, r4, fun _ => r5⟩
        refine bst (rc8) ?_
        refine bst (s1') ?_
        refine ifn (n10) ?_
        refine ifn (n10) ?_
        refine bst (rc81) ?_
        refine bst (t0 v) ?_
        refine ifp (rfl) ?_
        exact r1
  · have er : rdN (pkf bt L) sg p = (false, p, 0) := by unfold rdN; rw [if_pos w]
    rw [er]
    refine ⟨h, ?_, Ke_rf, rfl, g6, fun q => by cases q⟩
    simp only [fX8_readNumber, lit]
    refine bst (rc8) ?_
    refine bst (s0 w) ?_
    refine ifp (rfl) ?_
    rfl
/-! ===== the class reads the lines ===== -/
def LnA (h h' : Hs) (a b c ln : Nat) : Prop := ∀ k, k ≠ ln → aI h' a k = aI h a k ∧ aI h' b k = aI h b k ∧ aI h' c k = aI h c k
theorem v_one {N : Nat} (hN : 100000000 ≤ N) {L : Nat} {bt : Nat → Int} {h : Hs} (hS : Sk h) (hz : 70 ≤ sz h) (hC : TC h L bt) {p ln : Nat} (hp : p ≤ 700) (hl : ln < 30) (g6 : gI h 806 1 = iI p) (sg : Bool) : ∃ h', fX8_readOne N h 1 (iI ln) (iI (b2 sg)) = some (iI (b2 ((rdN (pkf bt L) sg (p + 1)).1 && decide (pkf bt L (rdN (pkf bt L) sg (p + 1)).2.1 = 59))), h') ∧ Ke [806, 807] [4] [] [] h h' ∧ sz h' = sz h ∧ gI h' 806 1 = iI (((rdN (pkf bt L) sg (p + 1)).2.1 + (if (rdN (pkf bt L) sg (p + 1)).1 && decide (pkf bt L (rdN (pkf bt L) sg (p + 1)).2.1 = 59) then 1 else 0) : Nat) : Int) ∧ (∀ k, k ≠ ln → aI h' 4 k = aI h 4 k) ∧ ((rdN (pkf bt L) sg (p + 1)).1 = true → aI h' 4 ln = iI (rdN (pkf bt L) sg (p + 1)).2.2) := by
  have cc : (sh h 1).1 = 8 := by rw [ss_1 hS]
  obtain ⟨h1, eh1⟩ : ∃ h1, h1 = uI h 806 1 (iI ((p + 1 : Nat) : Int)) := ⟨_, rfl⟩
  have ke1 : Ke [806, 807] [] [] [] h h1 := by rw [eh1]; exact Ke_rf.u 806 _ _ (by decide)
  have sz1 : sz h1 = sz h := by rw [eh1]; rfl
  have hS1 := hS.e hz ke1 (by decide)
  have rb := rdN_b (pkf bt L) sg (p + 1)
  obtain ⟨h2, r1, r2, r3, r4, r5⟩ := v_rdN (N := N) hN hS1 (by omega) (hC.e hz ke1 (by decide) (by decide)) (p := p + 1) (by omega) (by rw [eh1]; simp [HR]) sg
  generalize rdN (pkf bt L) sg (p + 1) = R at *
  obtain ⟨ok, q, v⟩ := R
  simp only at *
  have ke2 : Ke [806, 807] [] [] [] h h2 := ke1.tr r2
  have hS2 := hS.e hz ke2 (by decide)
  have cc2 : (sh h2 1).1 = 8 := by rw [ss_1 hS2]
  have e5 : iI (p : Int) + iI 1 = iI ((p + 1 : Nat) : Int) := by rw [iI_add]; congr 1
  simp only [fX8_readOne, lit]
  cases ok with
  | false =>
    refine ⟨h2, ?_, ke2.w (by decide) (by decide) (by decide) (by decide), by omega, by simpa using r4, fun k _ => by rw [ke2.2.1 4 (by decide) (by omega)], fun z => by cases z⟩
    refine bst (oIv cc g6) ?_
    rw [e5]
    refine bst (qIv cc) ?_
    rw [← eh1]
    refine bst (rcv (by rw [ss_1 hS1])) ?_
    refine bst (r1) ?_
    refine ifp (rfl) ?_
    rfl
  | true =>
    have r5' := r5 rfl
    obtain ⟨h3, eh3⟩ : ∃ h3, h3 = uA h2 4 ln (iI v) := ⟨_, rfl⟩
    have ke3 : Ke [806, 807] [4] [] [] h h3 := by rw [eh3]; exact (ke2.w (by decide) (by decide) (by decide) (by decide)).b 4 _ _ (by decide)
    have sz3 : sz h3 = sz h := by rw [eh3]; show sz h2 = sz h; omega
    have hS3 := hS.e hz ke3 (by decide)
    have g63 : gI h3 806 1 = iI (q : Int) := by rw [eh3]; exact r4
    have hC3 := hC.e hz ke3 (by decide) (by decide)
    obtain ⟨s1, s0⟩ := v_sign (N := N) hS3 hC3 (p := q) (by omega) g63 (c := 59) (by omega) (by omega)
    have a4 : sA h2 (some 4) (iI ln) (iI v) = some h3 := by rw [eh3]; exact sAv (ss_4 hS2) (by omega) (by omega)
    have kk : ∀ k, k ≠ ln → aI h3 4 k = aI h 4 k := fun k hk => by
      rw [eh3]
      have := congrFun (ke2.2.1 4 (by decide) (by omega)) k
      simp [HR, hk, this]
    have kl : aI h3 4 ln = iI v := by rw [eh3]; simp [HR]
    by_cases w : pkf bt L q = 59
    · rw [decide_eq_true w]
      refine ⟨uI h3 806 1 (iI ((q + 1 : Nat) : Int)), ?_, ke3.u 806 _ _ (by decide), sz3, by simp [HR], kk, fun _ => kl⟩
      refine bst (oIv cc g6) ?_
      rw [e5]
      refine bst (qIv cc) ?_
      rw [← eh1]
      refine bst (rcv (by rw [ss_1 hS1])) ?_
      refine bst (r1) ?_
      refine ifn (n10) ?_
      refine bst (sR_802_1 hS2) ?_
      refine bst (oIv cc2 r5') ?_
      refine bst (a4) ?_
      refine bst (rcv (by rw [ss_1 hS3])) ?_
      refine bst (s1 w) ?_
      refine bst (zc_i1) ?_
      rfl
    · rw [decide_eq_false w]
      refine ⟨h3, ?_, ke3, sz3, by simpa using g63, kk, fun _ => kl⟩
      refine bst (oIv cc g6) ?_
      rw [e5]
      refine bst (qIv cc) ?_
      rw [← eh1]
      refine bst (rcv (by rw [ss_1 hS1])) ?_
      refine bst (r1) ?_
      refine ifn (n10) ?_
      refine bst (sR_802_1 hS2) ?_
      refine bst (oIv cc2 r5') ?_
      refine bst (a4) ?_
      refine bst (rcv (by rw [ss_1 hS3])) ?_
      refine bst (s0 w) ?_
      refine bst (zc_i0) ?_
      rfl
theorem v_two {N : Nat} (hN : 100000000 ≤ N) {L : Nat} {bt : Nat → Int} {h : Hs} (hS : Sk h) (hz : 70 ≤ sz h) (hC : TC h L bt) {p ln : Nat} (hp : p ≤ 700) (hl : ln < 30) (g6 : gI h 806 1 = iI p) (sg : Bool) : ∃ (ok : Bool) (q : Nat) (h' : Hs), fX8_readTwo N h 1 (iI ln) (iI (b2 sg)) = some (iI (b2 ok), h') ∧ Ke [806, 807] [4, 5] [] [] h h' ∧ sz h' = sz h ∧ gI h' 806 1 = iI (q : Int) ∧ (∀ k, k ≠ ln → aI h' 4 k = aI h 4 k ∧ aI h' 5 k = aI h 5 k) ∧ ((ok, q) = (if (rdN (pkf bt L) false (p + 1)).1 then (if (rdN (pkf bt L) sg (rdN (pkf bt L) false (p + 1)).2.1).1 then (decide (pkf bt L (rdN (pkf bt L) sg (rdN (pkf bt L) false (p + 1)).2.1).2.1 = 59), (rdN (pkf bt L) sg (rdN (pkf bt L) false (p + 1)).2.1).2.1 + (if decide (pkf bt L (rdN (pkf bt L) sg (rdN (pkf bt L) false (p + 1)).2.1).2.1 = 59) then 1 else 0)) else (false, (rdN (pkf bt L) sg (rdN (pkf bt L) false (p + 1)).2.1).2.1)) else (false, (rdN (pkf bt L) false (p + 1)).2.1))) ∧ (ok = true → aI h' 4 ln = iI (rdN (pkf bt L) false (p + 1)).2.2 ∧ aI h' 5 ln = iI (rdN (pkf bt L) sg (rdN (pkf bt L) false (p + 1)).2.1).2.2) := by
  have cc : (sh h 1).1 = 8 := by rw [ss_1 hS]
  obtain ⟨h1, eh1⟩ : ∃ h1, h1 = uI h 806 1 (iI ((p + 1 : Nat) : Int)) := ⟨_, rfl⟩
  have ke1 : Ke [806, 807] [] [] [] h h1 := by rw [eh1]; exact Ke_rf.u 806 _ _ (by decide)
  have sz1 : sz h1 = sz h := by rw [eh1]; rfl
  have hS1 := hS.e hz ke1 (by decide)
  have rb := rdN_b (pkf bt L) false (p + 1)
  obtain ⟨h2, r1, r2, r3, r4, r5⟩ := v_rdN (N := N) hN hS1 (by omega) (hC.e hz ke1 (by decide) (by decide)) (p := p + 1) (by omega) (by rw [eh1]; simp [HR]) false
  generalize rdN (pkf bt L) false (p + 1) = R at *
  obtain ⟨ok, q, v⟩ := R
  simp only at *
  have ke2 : Ke [806, 807] [] [] [] h h2 := ke1.tr r2
  have hS2 := hS.e hz ke2 (by decide)
  have cc2 : (sh h2 1).1 = 8 := by rw [ss_1 hS2]
  have e5 : iI (p : Int) + iI 1 = iI ((p + 1 : Nat) : Int) := by rw [iI_add]; congr 1
  have r1' : fX8_readNumber N h1 1 (iI 0) = some (iI (b2 ok), h2) := r1
  cases ok with
  | false =>
    refine ⟨false, q, h2, ?_, ke2.w (by decide) (by decide) (by decide) (by decide), by omega, r4, fun k _ => ⟨by rw [ke2.2.1 4 (by decide) (by omega)], by rw [ke2.2.1 5 (by decide) (by omega)]⟩, rfl, fun z => by cases z⟩
    simp only [fX8_readTwo, lit]
    refine bst (oIv cc g6) ?_
    rw [e5]
    refine bst (qIv cc) ?_
    rw [← eh1]
    refine bst (rcv (by rw [ss_1 hS1])) ?_
    refine bst (r1') ?_
    refine ifp (rfl) ?_
    rfl
  | true =>
    have r5' := r5 rfl
    obtain ⟨h3, eh3⟩ : ∃ h3, h3 = uA h2 4 ln (iI v) := ⟨_, rfl⟩
    have ke3 : Ke [806, 807] [4] [] [] h h3 := by rw [eh3]; exact (ke2.w (by decide) (by decide) (by decide) (by decide)).b 4 _ _ (by decide)
    have sz3 : sz h3 = sz h := by rw [eh3]; show sz h2 = sz h; omega
    have hS3 := hS.e hz ke3 (by decide)
    have g63 : gI h3 806 1 = iI (q : Int) := by rw [eh3]; exact r4
    have hC3 := hC.e hz ke3 (by decide) (by decide)
    have a4 : sA h2 (some 4) (iI ln) (iI v) = some h3 := by rw [eh3]; exact sAv (ss_4 hS2) (by omega) (by omega)
    have kk : ∀ k, k ≠ ln → aI h3 4 k = aI h 4 k := fun k hk => by
      rw [eh3]
      have := congrFun (ke2.2.1 4 (by decide) (by omega)) k
      simp [HR, hk, this]
    have kl : aI h3 4 ln = iI v := by rw [eh3]; simp [HR]
    have rb2 := rdN_b (pkf bt L) sg q
    obtain ⟨h4, t1, t2, t3, t4, t5⟩ := v_rdN (N := N) hN hS3 (by omega) hC3 (p := q) (by omega) g63 sg
    generalize rdN (pkf bt L) sg q = R2 at *
    obtain ⟨ok2, q2, v2⟩ := R2
    simp only at *
    have ke4 : Ke [806, 807] [4, 5] [] [] h h4 := (ke3.w (by decide) (by decide) (by decide) (by decide)).tr (t2.w (by decide) (by decide) (by decide) (by decide))
    have hS4 := hS.e hz ke4 (by decide)
    have cc4 : (sh h4 1).1 = 8 := by rw [ss_1 hS4]
    have hz4 : 70 ≤ sz h4 := by omega
    have k44 : aI h4 4 = aI h3 4 := t2.2.1 4 (by decide) (by omega)
    have k45 : aI h4 5 = aI h 5 := by rw [t2.2.1 5 (by decide) (by omega), ke3.2.1 5 (by decide) (by omega)]
    cases ok2 with
    | false =>
      refine ⟨false, q2, h4, ?_, ke4, by omega, t4, fun k hk => ⟨by rw [k44]; exact kk k hk, by rw [k45]⟩, rfl, fun z => by cases z⟩
      simp only [fX8_readTwo, lit]
      refine bst (oIv cc g6) ?_
      rw [e5]
      refine bst (qIv cc) ?_
      rw [← eh1]
      refine bst (rcv (by rw [ss_1 hS1])) ?_
      refine bst (r1') ?_
      refine ifn (n10) ?_
      refine bst (sR_802_1 hS2) ?_
      refine bst (oIv cc2 r5') ?_
      refine bst (a4) ?_
      refine bst (rcv (by rw [ss_1 hS3])) ?_
      refine bst (t1) ?_
      refine ifp (rfl) ?_
      rfl
    | true =>
      have t5' := t5 rfl
      obtain ⟨h5, eh5⟩ : ∃ h5, h5 = uA h4 5 ln (iI v2) := ⟨_, rfl⟩
      have ke5 : Ke [806, 807] [4, 5] [] [] h h5 := by rw [eh5]; exact ke4.b 5 _ _ (by decide)
      have sz5 : sz h5 = sz h := by rw [eh5]; show sz h4 = sz h; omega
      have hS5 := hS.e hz ke5 (by decide)
      have g65 : gI h5 806 1 = iI (q2 : Int) := by rw [eh5]; exact t4
      obtain ⟨s1, s0⟩ := v_sign (N := N) hS5 (hC.e hz ke5 (by decide) (by decide)) (p := q2) (by omega) g65 (c := 59) (by omega) (by omega)
      have a5 : sA h4 (some 5) (iI ln) (iI v2) = some h5 := by rw [eh5]; exact sAv (ss_5 hS4) (by omega) (by omega)
      have kk5 : ∀ k, k ≠ ln → aI h5 4 k = aI h 4 k ∧ aI h5 5 k = aI h 5 k := fun k hk => by
        have y1 : aI h4 4 k = aI h 4 k := by rw [k44]; exact kk k hk
        have y2 : aI h4 5 k = aI h 5 k := by rw [k45]
        rw [eh5]
        simp [HR, hk, y1, y2]
      have kl5 : aI h5 4 ln = iI v ∧ aI h5 5 ln = iI v2 := by
        have y1 : aI h4 4 ln = iI v := by rw [k44]; exact kl
        rw [eh5]
        simp [HR, y1]
      by_cases w : pkf bt L q2 = 59
      · refine ⟨true, q2 + 1, uI h5 806 1 (iI ((q2 + 1 : Nat) : Int)), ?_, ke5.u 806 _ _ (by decide), sz5, by simp [HR], kk5, by simp [w], fun _ => kl5⟩
        simp only [fX8_readTwo, lit]
        refine bst (oIv cc g6) ?_
        rw [e5]
        refine bst (qIv cc) ?_
        rw [← eh1]
        refine bst (rcv (by rw [ss_1 hS1])) ?_
        refine bst (r1') ?_
        refine ifn (n10) ?_
        refine bst (sR_802_1 hS2) ?_
        refine bst (oIv cc2 r5') ?_
        refine bst (a4) ?_
        refine bst (rcv (by rw [ss_1 hS3])) ?_
        refine bst (t1) ?_
        refine ifn (n10) ?_
        refine bst (sR_803_1 hS4) ?_
        refine bst (oIv cc4 t5') ?_
        refine bst (a5) ?_
        refine bst (rcv (by rw [ss_1 hS5])) ?_
        refine bst (s1 w) ?_
        refine bst (zc_i1) ?_
        rfl
      · refine ⟨false, q2, h5, ?_, ke5, sz5, g65, kk5, by simp [w], fun z => by cases z⟩
        simp only [fX8_readTwo, lit]
        refine bst (oIv cc g6) ?_
        rw [e5]
        refine bst (qIv cc) ?_
        rw [← eh1]
        refine bst (rcv (by rw [ss_1 hS1])) ?_
        refine bst (r1') ?_
        refine ifn (n10) ?_
        refine bst (sR_802_1 hS2) ?_
        refine bst (oIv cc2 r5') ?_
        refine bst (a4) ?_
        refine bst (rcv (by rw [ss_1 hS3])) ?_
        refine bst (t1) ?_
        refine ifn (n10) ?_
        refine bst (sR_803_1 hS4) ?_
        refine bst (oIv cc4 t5') ?_
        refine bst (a5) ?_
        refine bst (rcv (by rw [ss_1 hS5])) ?_
        refine bst (s0 w) ?_
        refine bst (zc_i0) ?_
        rfl
theorem v_rdLC {N : Nat} (hN : 100000000 ≤ N) {L : Nat} {bt : Nat → Int} {h : Hs} (hS : Sk h) (hz : 70 ≤ sz h) (hC : TC h L bt) {p ln : Nat} (hp : p ≤ 700) (hl : ln < 30) (g6 : gI h 806 1 = iI p) : ∃ h', fX8_readLine N h 1 (iI ln) = some (iI (b2 (rdL (pkf bt L) p).1), h') ∧ Ke [806, 807] [3, 4, 5] [] [] h h' ∧ sz h' = sz h ∧ gI h' 806 1 = iI (((rdL (pkf bt L) p).2.1 : Nat) : Int) ∧ LnA h h' 3 4 5 ln ∧ ((rdL (pkf bt L) p).1 = true → aI h' 3 ln = iI (rdL (pkf bt L) p).2.2.1 ∧ aI h' 4 ln = iI (rdL (pkf bt L) p).2.2.2.1 ∧ aI h' 5 ln = iI (rdL (pkf bt L) p).2.2.2.2) := by
  have rc8 : rc 8 h (some 1) = some 1 := rcv (by rw [ss_1 hS])
  have vp := v_peek (N := N) hS hC (by omega) g6
  have b := pkf_b hC p
  obtain ⟨h4, eh4⟩ : ∃ h4, h4 = uA h 3 ln (iI (pkf bt L p)) := ⟨_, rfl⟩
  have a4 : sA h (some 3) (iI ln) (iI (pkf bt L p)) = some h4 := by rw [eh4]; exact sAv (ss_3 hS) (by omega) (by omega)
  have ke4 : Ke [806, 807] [3, 4, 5] [] [] h h4 := by rw [eh4]; exact Ke_rf.b 3 _ _ (by decide)
  have hS4 := hS.e hz ke4 (by decide)
  obtain ⟨h6, eh6⟩ : ∃ h6, h6 = uA h4 5 ln (iI 0) := ⟨_, rfl⟩
  have a6 : sA h4 (some 5) (iI ln) (iI 0) = some h6 := by rw [eh6]; exact sAv (ss_5 hS4) (by omega) (by omega)
  have ke6 : Ke [806, 807] [3, 4, 5] [] [] h h6 := by rw [eh6]; exact ke4.b 5 _ _ (by decide)
  have sz6 : sz h6 = sz h := by rw [eh6, eh4]; rfl
  have hS6 := hS.e hz ke6 (by decide)
  have hC6 := hC.e hz ke6 (by decide) (by decide)
  have g66 : gI h6 806 1 = iI p := by rw [eh6, eh4]; exact g6
  have rc86 : rc 8 h6 (some 1) = some 1 := rcv (by rw [ss_1 hS6])
  have ln6 : LnA h h6 3 4 5 ln := fun k hk => by rw [eh6, eh4]; simp [HR, hk]
  have l3 : aI h6 3 ln = iI (pkf bt L p) := by rw [eh6, eh4]; simp [HR]
  have l5 : aI h6 5 ln = iI 0 := by rw [eh6]; simp [HR]
  have q1 : iI (pkf bt L p) = iI 115 ↔ pkf bt L p = 115 := iI_eq (by omega) (by omega) (by omega) (by omega)
  have q2 : iI (pkf bt L p) = iI 116 ↔ pkf bt L p = 116 := iI_eq (by omega) (by omega) (by omega) (by omega)
  have q3 : iI (pkf bt L p) = iI 117 ↔ pkf bt L p = 117 := iI_eq (by omega) (by omega) (by omega) (by omega)
  have q4 : iI (pkf bt L p) = iI 119 ↔ pkf bt L p = 119 := iI_eq (by omega) (by omega) (by omega) (by omega)
  have zcb : ∀ b : Bool, zc (iI (b2 b)) = some (iI (b2 b)) := fun b => by cases b <;> decide
  -- one number
  have one : ∀ sg : Bool, pkf bt L p = 115 ∨ pkf bt L p = 117 → sg = decide (pkf bt L p = 115) → ∃ h', fX8_readOne N h6 1 (iI ln) (iI (b2 sg)) = some (iI (b2 (rdL (pkf bt L) p).1), h') ∧ Ke [806, 807] [3, 4, 5] [] [] h h' ∧ sz h' = sz h ∧ gI h' 806 1 = iI (((rdL (pkf bt L) p).2.1 : Nat) : Int) ∧ LnA h h' 3 4 5 ln ∧ ((rdL (pkf bt L) p).1 = true → aI h' 3 ln = iI (rdL (pkf bt L) p).2.2.1 ∧ aI h' 4 ln = iI (rdL (pkf bt L) p).2.2.2.1 ∧ aI h' 5 ln = iI (rdL (pkf bt L) p).2.2.2.2) := by
    intro sg hw hsg
    obtain ⟨h', r1, r2, r3, r4, r5, r6⟩ := v_one (N := N) hN hS6 (by omega) hC6 hp hl g66 sg
    have er : rdL (pkf bt L) p = if (rdN (pkf bt L) sg (p + 1)).1 then rdE (pkf bt L) (rdN (pkf bt L) sg (p + 1)).2.1 (pkf bt L p, (rdN (pkf bt L) sg (p + 1)).2.2, 0) else (false, (rdN (pkf bt L) sg (p + 1)).2.1, (0, 0, 0)) := by
      unfold rdL
      rw [if_pos hw, hsg]
    rw [er]
    generalize rdN (pkf bt L) sg (p + 1) = R at *
    obtain ⟨ok, q, v⟩ := R
    simp only at *
    have ke : Ke [806, 807] [3, 4, 5] [] [] h h' := ke6.tr (r2.w (by decide) (by decide) (by decide) (by decide))
    have lnA : LnA h h' 3 4 5 ln := fun k hk => by
      rw [r2.2.1 3 (by decide) (by omega), r2.2.1 5 (by decide) (by omega), r5 k hk]
      exact ln6 k hk
    cases ok with
    | false => exact ⟨h', r1, ke, by omega, by simpa using r4, lnA, fun z => by cases z⟩
    | true =>
      have x3 : aI h' 3 ln = iI (pkf bt L p) := by rw [r2.2.1 3 (by decide) (by omega)]; exact l3
      have x5 : aI h' 5 ln = iI 0 := by rw [r2.2.1 5 (by decide) (by omega)]; exact l5
      by_cases w : pkf bt L q = 59
      · have ee : rdE (pkf bt L) q (pkf bt L p, v, 0) = (true, q + 1, (pkf bt L p, v, 0)) := by unfold rdE; rw [if_pos w]
        rw [if_pos rfl, ee]
        rw [decide_eq_true w] at r1 r4
        exact ⟨h', r1, ke, by omega, r4, lnA, fun _ => ⟨x3, r6 rfl, x5⟩⟩
      · have ee : rdE (pkf bt L) q (pkf bt L p, v, 0) = (false, q, (pkf bt L p, v, 0)) := by unfold rdE; rw [if_neg w]
        rw [if_pos rfl, ee]
        rw [decide_eq_false w] at r1 r4
        exact ⟨h', r1, ke, by omega, by simpa using r4, lnA, fun z => by cases z⟩
  have two : ∀ sg : Bool, ¬ (pkf bt L p = 115 ∨ pkf bt L p = 117) → pkf bt L p = 116 ∨ pkf bt L p = 119 → sg = decide (pkf bt L p = 119) → ∃ h', fX8_readTwo N h6 1 (iI ln) (iI (b2 sg)) = some (iI (b2 (rdL (pkf bt L) p).1), h') ∧ Ke [806, 807] [3, 4, 5] [] [] h h' ∧ sz h' = sz h ∧ gI h' 806 1 = iI (((rdL (pkf bt L) p).2.1 : Nat) : Int) ∧ LnA h h' 3 4 5 ln ∧ ((rdL (pkf bt L) p).1 = true → aI h' 3 ln = iI (rdL (pkf bt L) p).2.2.1 ∧ aI h' 4 ln = iI (rdL (pkf bt L) p).2.2.2.1 ∧ aI h' 5 ln = iI (rdL (pkf bt L) p).2.2.2.2) := by
    intro sg hw0 hw hsg
    obtain ⟨ok', q', h', r1, r2, r3, r4, r5, r6, r7⟩ := v_two (N := N) hN hS6 (by omega) hC6 hp hl g66 sg
    have er : rdL (pkf bt L) p = if (rdN (pkf bt L) false (p + 1)).1 then (if (rdN (pkf bt L) sg (rdN (pkf bt L) false (p + 1)).2.1).1 then rdE (pkf bt L) (rdN (pkf bt L) sg (rdN (pkf bt L) false (p + 1)).2.1).2.1 (pkf bt L p, (rdN (pkf bt L) false (p + 1)).2.2, (rdN (pkf bt L) sg (rdN (pkf bt L) false (p + 1)).2.1).2.2) else (false, (rdN (pkf bt L) sg (rdN (pkf bt L) false (p + 1)).2.1).2.1, (0, 0, 0))) else (false, (rdN (pkf bt L) false (p + 1)).2.1, (0, 0, 0)) := by
      unfold rdL
      rw [if_neg hw0, if_pos hw, hsg]
    rw [er]
    generalize rdN (pkf bt L) false (p + 1) = R at *
    obtain ⟨ok, q, v⟩ := R
    simp only at *
    have ke : Ke [806, 807] [3, 4, 5] [] [] h h' := ke6.tr (r2.w (by decide) (by decide) (by decide) (by decide))
    have lnA : LnA h h' 3 4 5 ln := fun k hk => by
      rw [r2.2.1 3 (by decide) (by omega), (r5 k hk).1, (r5 k hk).2]
      exact ln6 k hk
    cases ok with
    | false =>
      rw [if_neg (by decide)] at r6
      cases r6
      exact ⟨h', r1, ke, by omega, r4, lnA, fun z => by cases z⟩
    | true =>
      rw [if_pos rfl] at r6
      rw [if_pos rfl]
      generalize rdN (pkf bt L) sg q = R2 at *
      obtain ⟨ok2, q2, v2⟩ := R2
      simp only at *
      have x3 : aI h' 3 ln = iI (pkf bt L p) := by rw [r2.2.1 3 (by decide) (by omega)]; exact l3
      cases ok2 with
      | false =>
        rw [if_neg (by decide)] at r6
        cases r6
        exact ⟨h', r1, ke, by omega, r4, lnA, fun z => by cases z⟩
      | true =>
        rw [if_pos rfl] at r6
        rw [if_pos rfl]
        by_cases w : pkf bt L q2 = 59
        · have ee : rdE (pkf bt L) q2 (pkf bt L p, v, v2) = (true, q2 + 1, (pkf bt L p, v, v2)) := by unfold rdE; rw [if_pos w]
          rw [ee]
          rw [decide_eq_true w] at r6
          cases r6
          exact ⟨h', r1, ke, by omega, r4, lnA, fun _ => ⟨x3, r7 rfl⟩⟩
        · have ee : rdE (pkf bt L) q2 (pkf bt L p, v, v2) = (false, q2, (pkf bt L p, v, v2)) := by unfold rdE; rw [if_neg w]
          rw [ee]
          rw [decide_eq_false w] at r6
          cases r6
          exact ⟨h', r1, ke, by omega, r4, lnA, fun z => by cases z⟩
  simp only [fX8_readLine, lit]
  by_cases w1 : pkf bt L p = 115
  · obtain ⟨h', r1, r2⟩ := one true (Or.inl w1) (decide_eq_true w1).symm
    refine ⟨h', ?_, r2⟩
    refine bst (rc8) ?_
    refine bst (vp) ?_
    refine bst (sR_801_1 hS) ?_
    refine bst (a4) ?_
    refine bst (sR_803_1 hS4) ?_
    refine bst (a6) ?_
    refine ifp (q1.mpr w1) ?_
    refine bst (rc86) ?_
    refine bst (r1) ?_
    refine bst (zcb _) ?_
    rfl
  · by_cases w2 : pkf bt L p = 116
    · obtain ⟨h', r1, r2⟩ := two false (by omega) (Or.inl w2) (decide_eq_false (by omega)).symm
      refine ⟨h', ?_, r2⟩
      refine bst (rc8) ?_
      refine bst (vp) ?_
      refine bst (sR_801_1 hS) ?_
      refine bst (a4) ?_
      refine bst (sR_803_1 hS4) ?_
      refine bst (a6) ?_
      refine ifn (fun z => w1 (q1.mp z)) ?_
      refine ifp (q2.mpr w2) ?_
      refine bst (rc86) ?_
      refine bst (r1) ?_
      refine bst (zcb _) ?_
      rfl
    · by_cases w3 : pkf bt L p = 117
      · obtain ⟨h', r1, r2⟩ := one false (Or.inr w3) (decide_eq_false w1).symm
        refine ⟨h', ?_, r2⟩
        refine bst (rc8) ?_
        refine bst (vp) ?_
        refine bst (sR_801_1 hS) ?_
        refine bst (a4) ?_
        refine bst (sR_803_1 hS4) ?_
        refine bst (a6) ?_
        refine ifn (fun z => w1 (q1.mp z)) ?_
        refine ifn (fun z => w2 (q2.mp z)) ?_
        refine ifp (q3.mpr w3) ?_
        refine bst (rc86) ?_
        refine bst (r1) ?_
        refine bst (zcb _) ?_
        rfl
      · by_cases w4 : pkf bt L p = 119
        · obtain ⟨h', r1, r2⟩ := two true (by omega) (Or.inr w4) (decide_eq_true w4).symm
          refine ⟨h', ?_, r2⟩
          refine bst (rc8) ?_
          refine bst (vp) ?_
          refine bst (sR_801_1 hS) ?_
          refine bst (a4) ?_
          refine bst (sR_803_1 hS4) ?_
          refine bst (a6) ?_
          refine ifn (fun z => w1 (q1.mp z)) ?_
          refine ifn (fun z => w2 (q2.mp z)) ?_
          refine ifn (fun z => w3 (q3.mp z)) ?_
          refine ifp (q4.mpr w4) ?_
          refine bst (rc86) ?_
          refine bst (r1) ?_
          refine bst (zcb _) ?_
          rfl
        · have er : rdL (pkf bt L) p = (false, p, (0, 0, 0)) := by
            unfold rdL
            rw [if_neg (by omega), if_neg (by omega)]
          rw [er]
          refine ⟨h6, ?_, ke6, sz6, g66, ln6, fun z => by cases z⟩
          refine bst (rc8) ?_
          refine bst (vp) ?_
          refine bst (sR_801_1 hS) ?_
          refine bst (a4) ?_
          refine bst (sR_803_1 hS4) ?_
          refine bst (a6) ?_
          refine ifn (fun z => w1 (q1.mp z)) ?_
          refine ifn (fun z => w2 (q2.mp z)) ?_
          refine ifn (fun z => w3 (q3.mp z)) ?_
          refine ifn (fun z => w4 (q4.mp z)) ?_
          rfl
theorem L_rdC {N : Nat} (hN : 100000000 ≤ N) {L : Nat} {bt : Nat → Int} : ∀ (f p ln : Nat) (lc : Nat → Int × Int × Int) (fu : Nat) (h : Hs), Sk h → 70 ≤ sz h → TC h L bt → gI h 806 1 = iI p → gI h 805 1 = iI ln → 4 * ln ≤ p → (p < L ∨ ln = 0) → p ≤ 120 → 200 < p + f → f ≤ fu → (∀ k, k < ln → aI h 3 k = iI (lc k).1 ∧ aI h 4 k = iI (lc k).2.1 ∧ aI h 5 k = iI (lc k).2.2) → ∃ h', fX8_readLines_b10 N 1 fu h = some (iI (prs (pkf bt L) L f p ln lc).1, h') ∧ Ke [805, 806, 807] [3, 4, 5] [] [] h h' ∧ sz h' = sz h ∧ gI h' 805 1 = iI (((prs (pkf bt L) L f p ln lc).2.1 : Nat) : Int) ∧ (∀ k, k < (prs (pkf bt L) L f p ln lc).2.1 → aI h' 3 k = iI ((prs (pkf bt L) L f p ln lc).2.2 k).1 ∧ aI h' 4 k = iI ((prs (pkf bt L) L f p ln lc).2.2 k).2.1 ∧ aI h' 5 k = iI ((prs (pkf bt L) L f p ln lc).2.2 k).2.2) := by
  intro f
  induction f with
  | zero =>
    intro p ln lc fu h hS hz hC g6 g5 h4 hpl hp hf hfu ga
    omega
  | succ f ih =>
    intro p ln lc fu h hS hz hC g6 g5 h4 hpl hp hf hfu ga
    obtain ⟨fu, rfl⟩ : ∃ m, fu = m + 1 := ⟨fu - 1, by omega⟩
    have hL := hC.2.1
    have cc : (sh h 1).1 = 8 := by rw [ss_1 hS]
    have rc8 : rc 8 h (some 1) = some 1 := rcv (by rw [ss_1 hS])
    have o5 : oI 8 5 h (some 1) = some (iI ln) := oIv cc g5
    have a1 : ¬ iI 30 ≤ iI (ln : Int) := fun q => by have := (iI_le (by omega) (by omega) (by omega) (by omega)).mp q; omega
    obtain ⟨h1, r1, r2, r3, r4, r5, r6⟩ := v_rdLC (N := N) hN hS hz hC (p := p) (ln := ln) (by omega) (by omega) g6
    have rb := rdL_b bt L p
    have ep : prs (pkf bt L) L (f + 1) p ln lc = if (rdL (pkf bt L) p).1 then (if (rdL (pkf bt L) p).2.1 < L then prs (pkf bt L) L f (rdL (pkf bt L) p).2.1 (ln + 1) (updO lc ln (rdL (pkf bt L) p).2.2) else (-1, ln + 1, updO lc ln (rdL (pkf bt L) p).2.2)) else (((rdL (pkf bt L) p).2.1 : Int), ln, lc) := rfl
    rw [ep]
    generalize rdL (pkf bt L) p = R at *
    obtain ⟨ok, q, c⟩ := R
    simp only at *
    have hS1 := hS.e hz r2 (by decide)
    have cc1 : (sh h1 1).1 = 8 := by rw [ss_1 hS1]
    have g51 : gI h1 805 1 = iI ln := by rw [r2.1 805 1 (by decide) (by omega)]; exact g5
    have un : fX8_readLines_b10 N 1 (fu + 1) h = fX8_readLines_b10_body N (fX8_readLines_b10 N 1 fu) 1 h := rfl
    cases ok with
    | false =>
      refine ⟨h1, ?_, r2.w (by decide) (by decide) (by decide) (by decide), r3, g51, fun k hk => ?_⟩
      · rw [un]
        simp only [fX8_readLines_b10_body, fX8_readLines_b30, lit]
        refine bst (o5) ?_
        refine ifn (a1) ?_
        refine bst (o5) ?_
        refine bst (rc8) ?_
        refine bst (r1) ?_
        refine ifp (rfl) ?_
        refine bst (oIv cc1 r4) ?_
        rfl
      · have hk' : k < ln := hk
        obtain ⟨z1, z2, z3⟩ := r5 k (by omega)
        rw [z1, z2, z3]
        exact ga k hk'
    | true =>
      obtain ⟨rb1, rb2, rb3⟩ := rb
      obtain ⟨x1, x2, -⟩ := rb3 rfl
      obtain ⟨h2, eh2⟩ : ∃ h2, h2 = uI h1 805 1 (iI ((ln + 1 : Nat) : Int)) := ⟨_, rfl⟩
      have ke2 : Ke [805, 806, 807] [3, 4, 5] [] [] h h2 := by rw [eh2]; exact (r2.w (by decide) (by decide) (by decide) (by decide)).u 805 _ _ (by decide)
      have sz2 : sz h2 = sz h := by rw [eh2]; exact r3
      have hS2 := hS.e hz ke2 (by decide)
      have cc2 : (sh h2 1).1 = 8 := by rw [ss_1 hS2]
      have g62 : gI h2 806 1 = iI (q : Int) := by rw [eh2]; simp [HR, r4]
      have g52 : gI h2 805 1 = iI ((ln + 1 : Nat) : Int) := by rw [eh2]; simp [HR]
      have hC2 := hC.e hz ke2 (by decide) (by decide)
      have e5 : iI (ln : Int) + iI 1 = iI ((ln + 1 : Nat) : Int) := by rw [iI_add]; congr 1
      have ga2 : ∀ k, k < ln + 1 → aI h2 3 k = iI (updO lc ln c k).1 ∧ aI h2 4 k = iI (updO lc ln c k).2.1 ∧ aI h2 5 k = iI (updO lc ln c k).2.2 := fun k hk => by
        have y : aI h2 3 k = aI h1 3 k ∧ aI h2 4 k = aI h1 4 k ∧ aI h2 5 k = aI h1 5 k := by rw [eh2]; exact ⟨rfl, rfl, rfl⟩
        rw [y.1, y.2.1, y.2.2]
        by_cases w : k = ln
        · subst w
          rw [updO_s]
          exact r6 rfl
        · rw [updO_n _ _ w]
          obtain ⟨z1, z2, z3⟩ := r5 k w
          rw [z1, z2, z3]
          exact ga k (by omega)
      have lt : iI (q : Int) < iI (L : Int) ↔ (q : Int) < L := iI_lt (by omega) (by omega) (by omega) (by omega)
      by_cases w : q < L
      · rw [if_pos rfl, if_pos w]
        obtain ⟨h', t1, t2, t3, t4, t5⟩ := ih q (ln + 1) (updO lc ln c) fu h2 hS2 (by omega) hC2 g62 g52 (by omega) (Or.inl w) (by omega) (by omega) (by omega) ga2
        refine ⟨h', ?_, ke2.tr t2, by omega, t4, t5⟩
        rw [un]
        simp only [fX8_readLines_b10_body, lit]
        refine bst (o5) ?_
        refine ifn (a1) ?_
        refine bst (o5) ?_
        refine bst (rc8) ?_
        refine bst (r1) ?_
        refine ifn (n10) ?_
        refine bst (oIv cc1 g51) ?_
        rw [e5]
        refine bst (qIv cc1) ?_
        rw [← eh2]
        refine bst (oIv cc2 g62) ?_
        refine bst (oIv cc2 hC2.1) ?_
        refine ifp (lt.mpr (by omega)) ?_
        exact t1
      · rw [if_pos rfl, if_neg w]
        refine ⟨h2, ?_, ke2, sz2, g52, ga2⟩
        rw [un]
        simp only [fX8_readLines_b10_body, lit, iI_neg]
        refine bst (o5) ?_
        refine ifn (a1) ?_
        refine bst (o5) ?_
        refine bst (rc8) ?_
        refine bst (r1) ?_
        refine ifn (n10) ?_
        refine bst (oIv cc1 g51) ?_
        rw [e5]
        refine bst (qIv cc1) ?_
        rw [← eh2]
        refine bst (oIv cc2 g62) ?_
        refine bst (oIv cc2 hC2.1) ?_
        refine ifn (fun z => by have := lt.mp z; omega) ?_
        rfl
/-! ===== the reference reads the lines ===== -/
def lkf (bt : Nat → Int) (L p : Nat) : Int := if p < L then sg (bt p) else -1
def TM (h : Hs) (L : Nat) (bt : Nat → Int) : Prop := gI h 1237 29 = iI L ∧ L ≤ 120 ∧ ∀ i, i < L → aI h 53 i = iI (sg (bt i)) ∧ 0 ≤ bt i ∧ bt i ≤ 255
theorem TM.e {F A FR AQ : List Nat} {h h2 : Hs} {L : Nat} {bt : Nat → Int} (hC : TM h L bt) (hz : 70 ≤ sz h) (k : Ke F A FR AQ h h2) (f1 : 1237 ∉ F) (a1 : 53 ∉ A) : TM h2 L bt := ⟨by rw [k.1 _ _ f1 (by omega)]; exact hC.1, hC.2.1, fun i hi => by rw [k.2.1 _ a1 (by omega)]; exact hC.2.2 i hi⟩
theorem lk_ok {h : Hs} {L : Nat} {bt : Nat → Int} (hC : TM h L bt) (p : Nat) : (-128 ≤ lkf bt L p ∧ lkf bt L p ≤ 127) ∧ (∀ c, 0 ≤ c → c ≤ 127 → (lkf bt L p = c ↔ pkf bt L p = c)) ∧ ((48 ≤ lkf bt L p ∧ lkf bt L p ≤ 57) ↔ (48 ≤ pkf bt L p ∧ pkf bt L p ≤ 57)) ∧ (48 ≤ pkf bt L p ∧ pkf bt L p ≤ 57 → lkf bt L p = pkf bt L p) := by
  unfold lkf pkf
  by_cases w : p < L
  · rw [if_pos w, if_pos w]
    have b := (hC.2.2 p w).2
    unfold sg
    by_cases v : bt p < 128
    · rw [if_pos v]
      exact ⟨by omega, fun c _ _ => Iff.rfl, Iff.rfl, fun _ => rfl⟩
    · rw [if_neg v]
      exact ⟨by omega, fun c _ _ => by omega, by omega, fun _ => by omega⟩
  · rw [if_neg w, if_neg w]
    exact ⟨by omega, fun c _ _ => Iff.rfl, Iff.rfl, fun _ => rfl⟩
theorem lAb {h : Hs} {a n i : Nat} {v : Int32} (hs : sh h a = (22, n)) (hi : i < n) (hn : n < 5000) (hv : aI h a i = v) : lA 22 h (some a) (iI i) = some v := by
  have e1 : ixb (iI (i : Int)) n = true := ixb_i (by omega) (by omega) (by omega)
  have e2 : (iI (i : Int)).toNatClampNeg = i := by rw [iI_cl (by omega) (by omega)]; simp
  simp [lA, hs, e1, e2, hv]
theorem v_look2 {N : Nat} {h : Hs} (hS : Sk h) {L : Nat} {bt : Nat → Int} (hC : TM h L bt) {p : Nat} (hp : p ≤ 1000) (g8 : gI h 1238 29 = iI p) : fX12_look N h 29 = some (iI (lkf bt L p), h) := by
  obtain ⟨c1, c2, c3⟩ := hC
  have cc : (sh h 29).1 = 12 := by rw [ss_29 hS]
  have o8 : oI 12 38 h (some 29) = some (iI p) := oIv cc g8
  have o7 : oI 12 37 h (some 29) = some (iI L) := oIv cc c1
  have le : iI (L : Int) ≤ iI (p : Int) ↔ (L : Int) ≤ p := iI_le (by omega) (by omega) (by omega) (by omega)
  simp only [fX12_look, fX12_look_b24, lit, iI_neg]
  unfold lkf
  by_cases w : p < L
  · rw [if_pos w]
    refine bst (o8) ?_
    refine bst (o7) ?_
    refine ifn (fun q => by have := le.mp q; omega) ?_
    refine bst (sR_1236_29 hS) ?_
    refine bst (o8) ?_
    refine bst (lAb (ss_53 hS) (by omega) (by omega) (c3 p w).1) ?_
    rfl
  · rw [if_neg w]
    refine bst (o8) ?_
    refine bst (o7) ?_
    refine ifp (le.mpr (by omega)) ?_
    rfl
theorem L_dgM {N : Nat} {L : Nat} {bt : Nat → Int} {g : Int32} : ∀ (f p : Nat) (v : Int) (fu : Nat) (h : Hs), Sk h → 70 ≤ sz h → TM h L bt → p + f ≤ 900 → f ≤ 4 → f < fu → gI h 1238 29 = iI p → gI h 1251 29 = iI v → 0 ≤ v → ∃ h', fX12_takes_b61 N 29 fu h g (iI ((4 - f : Nat) : Int)) = fX12_takes_b115 N 29 h' g (iI ((4 - f + ((dgs (pkf bt L) f p v).1 - p) : Nat) : Int)) ∧ Ke [1238, 1251] [] [] [] h h' ∧ sz h' = sz h ∧ gI h' 1238 29 = iI (((dgs (pkf bt L) f p v).1 : Nat) : Int) ∧ gI h' 1251 29 = iI (dgs (pkf bt L) f p v).2 := by
  intro f
  induction f with
  | zero =>
    intro p v fu h hS hz hC hp hf4 hf g6 g7 hv
    obtain ⟨fu, rfl⟩ : ∃ m, fu = m + 1 := ⟨fu - 1, by omega⟩
    refine ⟨h, ?_, Ke_rf, rfl, g6, g7⟩
    show fX12_takes_b61_body N (fX12_takes_b61 N 29 fu) 29 h g (iI ((4 - 0 : Nat) : Int)) = _
    simp only [fX12_takes_b61_body, lit]
    refine ifp (by decide) ?_
    simp [dgs]
  | succ f ih =>
    intro p v fu h hS hz hC hp hf4 hf g6 g7 hv
    obtain ⟨fu, rfl⟩ : ∃ m, fu = m + 1 := ⟨fu - 1, by omega⟩
    have a1 : ¬ iI 4 ≤ iI ((4 - (f + 1) : Nat) : Int) := fun q => by have := (iI_le (by omega) (by omega) (by omega) (by omega)).mp q; omega
    have vp := v_look2 (N := N) hS hC (by omega) g6
    obtain ⟨b, -, b3, b4⟩ := lk_ok hC p
    have rc12 : rc 12 h (some 29) = some 29 := rcv (by rw [ss_29 hS])
    have cc : (sh h 29).1 = 12 := by rw [ss_29 hS]
    have iw := v_inW (N := N) (h := h) (x := lkf bt L p) (a := 48) (b := 57) (by omega) (by omega) (by omega) (by omega) (by omega) (by omega)
    by_cases w : 48 ≤ pkf bt L p ∧ pkf bt L p ≤ 57
    · rw [if_pos (b3.mpr w)] at iw
      rw [b4 w] at vp
      have ed : dgs (pkf bt L) (f + 1) p v = dgs (pkf bt L) f (p + 1) (10 * v + pkf bt L p - 48) := by rw [dgs, if_pos w]
      rw [ed]
      rw [b4 w] at iw
      have ev : iI 10 * iI v + iI (pkf bt L p) - iI 48 = iI (10 * v + pkf bt L p - 48) := by rw [iI_mul, iI_add, iI_sub]
      obtain ⟨h2, eh2⟩ : ∃ h2, h2 = uI (uI h 1251 29 (iI (10 * v + pkf bt L p - 48))) 1238 29 (iI ((p + 1 : Nat) : Int)) := ⟨_, rfl⟩
      have ke2 : Ke [1238, 1251] [] [] [] h h2 := by rw [eh2]; exact (Ke_rf.u 1251 _ _ (by decide)).u 1238 _ _ (by decide)
      have g6b : gI (uI h 1251 29 (iI (10 * v + pkf bt L p - 48))) 1238 29 = iI p := by simp [HR, g6]
      obtain ⟨h', r1, r2, r3, r4, r5⟩ := ih (p + 1) (10 * v + pkf bt L p - 48) fu h2 (hS.e hz ke2 (by decide)) (by rw [eh2]; exact hz) (hC.e hz ke2 (by decide) (by decide)) (by omega) (by omega) (by omega) (by rw [eh2]; simp [HR]) (by rw [eh2]; simp [HR]) (by omega)
      have dp := dgs_p (pkf bt L) f (p + 1) (10 * v + pkf bt L p - 48)
      have en : 4 - (f + 1) + ((dgs (pkf bt L) f (p + 1) (10 * v + pkf bt L p - 48)).1 - p) = 4 - f + ((dgs (pkf bt L) f (p + 1) (10 * v + pkf bt L p - 48)).1 - (p + 1)) := by omega
      rw [en]
      refine ⟨h', ?_, ke2.tr r2, by rw [r3, eh2]; rfl, r4, r5⟩
      rw [← r1]
      show fX12_takes_b61_body N (fX12_takes_b61 N 29 fu) 29 h g (iI ((4 - (f + 1) : Nat) : Int)) = _
      have e4 : iI ((4 - (f + 1) : Nat) : Int) + iI 1 = iI ((4 - f : Nat) : Int) := by rw [iI_add]; congr 1; omega
      have e5 : iI (p : Int) + iI 1 = iI ((p + 1 : Nat) : Int) := by rw [iI_add]; congr 1
      simp only [fX12_takes_b61_body, lit, Option.bind_some]
      refine ifn (a1) ?_
      refine bst (rc12) ?_
      refine bst (vp) ?_
      refine bst (iw) ?_
      refine ifn (n10) ?_
      refine bst (oIv cc g7) ?_
      refine bst (rc12) ?_
      refine bst (vp) ?_
      rw [ev]
      refine bst (qIv cc) ?_
      refine bst (oIv (by rw [sh_uI]; exact cc) g6b) ?_
      rw [e5]
      refine bst (qIv (by rw [sh_uI]; exact cc)) ?_
      rw [← eh2, e4]
    · rw [if_neg (fun z => w (b3.mp z))] at iw
      have ed : dgs (pkf bt L) (f + 1) p v = (p, v) := by rw [dgs, if_neg w]
      rw [ed]
      refine ⟨h, ?_, Ke_rf, rfl, g6, g7⟩
      show fX12_takes_b61_body N (fX12_takes_b61 N 29 fu) 29 h g (iI ((4 - (f + 1) : Nat) : Int)) = _
      simp only [fX12_takes_b61_body, lit]
      refine ifn (a1) ?_
      refine bst (rc12) ?_
      refine bst (vp) ?_
      refine bst (iw) ?_
      refine ifp (rfl) ?_
      simp
theorem v_tkN {N : Nat} (hN : 100000000 ≤ N) {L : Nat} {bt : Nat → Int} {h : Hs} (hS : Sk h) (hz : 70 ≤ sz h) (hC : TM h L bt) {p : Nat} (hp : p ≤ 800) (g8 : gI h 1238 29 = iI p) (sg : Bool) : ∃ h', fX12_takes N h 29 (iI (b2 sg)) = some (iI (b2 (rdN (pkf bt L) sg p).1), h') ∧ Ke [1238, 1251] [] [] [] h h' ∧ sz h' = sz h ∧ gI h' 1238 29 = iI (((rdN (pkf bt L) sg p).2.1 : Nat) : Int) ∧ ((rdN (pkf bt L) sg p).1 = true → gI h' 1251 29 = iI (rdN (pkf bt L) sg p).2.2) := by
  have rc12 : rc 12 h (some 29) = some 29 := rcv (by rw [ss_29 hS])
  have cc : (sh h 29).1 = 12 := by rw [ss_29 hS]
  have vp := v_look2 (N := N) hS hC (by omega) g8
  obtain ⟨b, b1, -, -⟩ := lk_ok hC p
  have q32 : iI (lkf bt L p) = iI 32 ↔ lkf bt L p = 32 := iI_eq (by omega) (by omega) (by omega) (by omega)
  by_cases w : pkf bt L p = 32
  · have w' := q32.mpr ((b1 32 (by omega) (by omega)).mpr w)
    obtain ⟨h1, eh1⟩ : ∃ h1, h1 = uI h 1238 29 (iI ((p + 1 : Nat) : Int)) := ⟨_, rfl⟩
    have ke1 : Ke [1238, 1251] [] [] [] h h1 := by rw [eh1]; exact Ke_rf.u 1238 _ _ (by decide)
    have sz1 : sz h1 = sz h := by rw [eh1]; rfl
    have hS1 := hS.e hz ke1 (by decide)
    have hC1 := hC.e hz ke1 (by decide) (by decide)
    have g81 : gI h1 1238 29 = iI ((p + 1 : Nat) : Int) := by rw [eh1]; simp [HR]
    have e5 : iI (p : Int) + iI 1 = iI ((p + 1 : Nat) : Int) := by rw [iI_add]; congr 1
    have dig : ∀ (h2 : Hs) (q : Nat) (ng : Bool), Ke [1238, 1251] [] [] [] h h2 → sz h2 = sz h → q ≤ 810 → gI h2 1238 29 = iI q → ∃ h', fX12_takes_b54 N 29 h2 (iI (b2 ng)) = some (iI (b2 (decide (q < (dgs (pkf bt L) 4 q 0).1))), h') ∧ Ke [1238, 1251] [] [] [] h h' ∧ sz h' = sz h ∧ gI h' 1238 29 = iI (((dgs (pkf bt L) 4 q 0).1 : Nat) : Int) ∧ gI h' 1251 29 = iI (if ng then -(dgs (pkf bt L) 4 q 0).2 else (dgs (pkf bt L) 4 q 0).2) := by
      intro h2 q ng ke2 s2 hq g82
      have hS2 := hS.e hz ke2 (by decide)
      have cc2 : (sh h2 29).1 = 12 := by rw [ss_29 hS2]
      obtain ⟨h3, eh3⟩ : ∃ h3, h3 = uI h2 1251 29 (iI 0) := ⟨_, rfl⟩
      have ke3 : Ke [1238, 1251] [] [] [] h h3 := by rw [eh3]; exact ke2.u 1251 _ _ (by decide)
      have sz3 : sz h3 = sz h := by rw [eh3]; exact s2
      obtain ⟨h4, r1, r2, r3, r4, r5⟩ := L_dgM (N := N) (bt := bt) (L := L) (g := iI (b2 ng)) 4 q 0 N h3 (hS.e hz ke3 (by decide)) (by omega) (hC.e hz ke3 (by decide) (by decide)) (by omega) (by omega) (by omega) (by rw [eh3]; simp [HR, g82]) (by rw [eh3]; simp [HR]) (by omega)
      have st : fX12_takes_b54 N 29 h2 (iI (b2 ng)) = fX12_takes_b115 N 29 h4 (iI (b2 ng)) (iI (((dgs (pkf bt L) 4 q 0).1 - q : Nat) : Int)) := by
        have r1' : fX12_takes_b61 N 29 N h3 (iI (b2 ng)) (iI 0) = fX12_takes_b115 N 29 h4 (iI (b2 ng)) (iI (((dgs (pkf bt L) 4 q 0).1 - q : Nat) : Int)) := by
          rw [show 4 - 4 + ((dgs (pkf bt L) 4 q 0).1 - q) = (dgs (pkf bt L) 4 q 0).1 - q by omega] at r1
          exact r1
        simp only [fX12_takes_b54, lit]
        refine bst (qIv cc2) ?_
        rw [← eh3]
        exact r1'
      have dp := dgs_p (pkf bt L) 4 q 0
      have ke4 : Ke [1238, 1251] [] [] [] h h4 := ke3.tr r2
      have hS4 := hS.e hz ke4 (by decide)
      have cc4 : (sh h4 29).1 = 12 := by rw [ss_29 hS4]
      have lz : iI (((dgs (pkf bt L) 4 q 0).1 - q : Nat) : Int) ≤ iI 0 ↔ (((dgs (pkf bt L) 4 q 0).1 - q : Nat) : Int) ≤ 0 := iI_le (by omega) (by omega) (by omega) (by omega)
      have b132 : ∀ u : Int, fX12_takes_b132 N 29 h4 (iI (((dgs (pkf bt L) 4 q 0).1 - q : Nat) : Int)) (some 29) (iI u) = some (iI (b2 (decide (q < (dgs (pkf bt L) 4 q 0).1))), uI h4 1251 29 (iI u)) := by
        intro u
        simp only [fX12_takes_b132, fX12_takes_b144, lit]
        by_cases v : q < (dgs (pkf bt L) 4 q 0).1
        · rw [decide_eq_true v]
          refine bst (qIv cc4) ?_
          refine ifn (fun z => by have := lz.mp z; omega) ?_
          refine bst (zc_i1) ?_
          rfl
        · rw [decide_eq_false v]
          refine bst (qIv cc4) ?_
          refine ifp (lz.mpr (by omega)) ?_
          refine bst (zc_i0) ?_
          rfl
      refine ⟨uI h4 1251 29 (iI (if ng then -(dgs (pkf bt L) 4 q 0).2 else (dgs (pkf bt L) 4 q 0).2)), ?_, ke4.u 1251 _ _ (by decide), by show sz h4 = sz h; omega, by simp [HR, r4], by simp [HR]⟩
      rw [st]
      simp only [fX12_takes_b115, lit]
      cases ng with
      | false =>
        refine ifp (rfl) ?_
        refine bst (oIv cc4 r5) ?_
        exact b132 _
      | true =>
        refine ifn (n10) ?_
        refine bst (oIv cc4 r5) ?_
        rw [iI_neg]
        exact b132 _
    simp only [fX12_takes, fX12_takes_b38, lit]
    unfold rdN
    rw [if_neg (fun z => z w)]
    have b38 : ∃ h', fX12_takes_b39 N 29 h1 (iI 0) = some (iI (b2 (decide (p + 1 < (dgs (pkf bt L) 4 (p + 1) 0).1))), h') ∧ Ke [1238, 1251] [] [] [] h h' ∧ sz h' = sz h ∧ gI h' 1238 29 = iI (((dgs (pkf bt L) 4 (p + 1) 0).1 : Nat) : Int) ∧ gI h' 1251 29 = iI (dgs (pkf bt L) 4 (p + 1) 0).2 := by
      obtain ⟨h', r1, r2⟩ := dig h1 (p + 1) false ke1 sz1 (by omega) g81
      refine ⟨h', ?_, r2⟩
      simp only [fX12_takes_b39, lit]
      refine ifp (trivial) ?_
      exact r1
    cases sg with
    | false =>
      obtain ⟨h', r1, r2, r3, r4, r5⟩ := b38
      rw [if_neg (fun z => by cases z.1)]
      refine ⟨h', ?_, r2, r3, r4, fun _ => r5⟩
      refine bst (rc12) ?_
      refine bst (vp) ?_
      refine ifp (w') ?_
      refine bst (oIv cc g8) ?_
      rw [e5]
      refine bst (qIv cc) ?_
      rw [← eh1]
      refine ifp (rfl) ?_
      exact r1
    | true =>
      have vp1 := v_look2 (N := N) hS1 hC1 (by omega) g81
      obtain ⟨c, c1, -, -⟩ := lk_ok hC1 (p + 1)
      have q45 : iI (lkf bt L (p + 1)) = iI 45 ↔ lkf bt L (p + 1) = 45 := iI_eq (by omega) (by omega) (by omega) (by omega)
      have rc121 : rc 12 h1 (some 29) = some 29 := rcv (by rw [ss_29 hS1])
      have cc1 : (sh h1 29).1 = 12 := by rw [ss_29 hS1]
      by_cases v : pkf bt L (p + 1) = 45
      · rw [if_pos ⟨rfl, v⟩]
        have v' := q45.mpr ((c1 45 (by omega) (by omega)).mpr v)
        obtain ⟨h', r1, r2, r3, r4, r5⟩ := dig (uI h1 1238 29 (iI ((p + 2 : Nat) : Int))) (p + 2) true (ke1.u 1238 _ _ (by decide)) sz1 (by omega) (by simp [HR])
        have e6 : iI ((p + 1 : Nat) : Int) + iI 1 = iI ((p + 2 : Nat) : Int) := by rw [iI_add]; congr 1
        refine ⟨h', ?_, r2, r3, r4, fun _ => r5⟩
        refine bst (rc12) ?_
        refine bst (vp) ?_
        refine ifp (w') ?_
        refine bst (oIv cc g8) ?_
        rw [e5]
        refine bst (qIv cc) ?_
        rw [← eh1]
        refine ifn (n10) ?_
        refine bst (rc121) ?_
        refine bst (vp1) ?_
        refine ifp (v') ?_
        simp only [fX12_takes_b39, lit]
        refine ifn (n10) ?_
        refine bst (oIv cc1 g81) ?_
        rw [e6]
        refine bst (qIv cc1) ?_
        exact r1
      · rw [if_neg (fun z => v z.2)]
        obtain ⟨h', r1, r2, r3, r4, r5⟩ := b38
        refine ⟨h', ?_, r2, r3, r4, fun _ => r5⟩
        refine bst (rc12) ?_
        refine bst (vp) ?_
        refine ifp (w') ?_
        refine bst (oIv cc g8) ?_
        rw [e5]
        refine bst (qIv cc) ?_
        rw [← eh1]
        refine ifn (n10) ?_
        refine bst (rc121) ?_
        refine bst (vp1) ?_
        refine ifn (fun z => v ((c1 45 (by omega) (by omega)).mp (q45.mp z))) ?_
        exact r1
  · have er : rdN (pkf bt L) sg p = (false, p, 0) := by unfold rdN; rw [if_pos w]
    rw [er]
    refine ⟨h, ?_, Ke_rf, rfl, g8, fun q => by cases q⟩
    simp only [fX12_takes, lit]
    refine bst (rc12) ?_
    refine bst (vp) ?_
    refine ifn (fun z => w ((b1 32 (by omega) (by omega)).mp (q32.mp z))) ?_
    rfl
/-! ===== the reference reads a line, and all ===== -/
theorem v_end {N : Nat} {L : Nat} {bt : Nat → Int} {h : Hs} (hS : Sk h) (hC : TM h L bt) {p ln : Nat} (hp : p ≤ 900) (g8 : gI h 1238 29 = iI p) (g9 : gI h 1239 29 = iI ln) : fX12_line_b139 N 29 h = some (iI (b2 (decide (pkf bt L p = 59))), if pkf bt L p = 59 then uI (uI h 1238 29 (iI ((p + 1 : Nat) : Int))) 1239 29 (iI ((ln + 1 : Nat) : Int)) else h) := by
  have rc12 : rc 12 h (some 29) = some 29 := rcv (by rw [ss_29 hS])
  have cc : (sh h 29).1 = 12 := by rw [ss_29 hS]
  have vp := v_look2 (N := N) hS hC (by omega) g8
  obtain ⟨b, b1, -, -⟩ := lk_ok hC p
  have q : iI (lkf bt L p) = iI 59 ↔ lkf bt L p = 59 := iI_eq (by omega) (by omega) (by omega) (by omega)
  have e5 : iI (p : Int) + iI 1 = iI ((p + 1 : Nat) : Int) := by rw [iI_add]; congr 1
  have e6 : iI (ln : Int) + iI 1 = iI ((ln + 1 : Nat) : Int) := by rw [iI_add]; congr 1
  have g9u : gI (uI h 1238 29 (iI ((p + 1 : Nat) : Int))) 1239 29 = iI ln := by simp [HR, g9]
  simp only [fX12_line_b139, lit]
  by_cases w : pkf bt L p = 59
  · rw [if_pos w, decide_eq_true w]
    refine bst (rc12) ?_
    refine bst (vp) ?_
    refine ifp (q.mpr ((b1 59 (by omega) (by omega)).mpr w)) ?_
    refine bst (oIv cc g8) ?_
    rw [e5]
    refine bst (qIv cc) ?_
    refine bst (oIv (by rw [sh_uI]; exact cc) g9u) ?_
    rw [e6]
    refine bst (qIv (by rw [sh_uI]; exact cc)) ?_
    rfl
  · rw [if_neg w, decide_eq_false w]
    refine bst (rc12) ?_
    refine bst (vp) ?_
    refine ifn (fun z => w ((b1 59 (by omega) (by omega)).mp (q.mp z))) ?_
    rfl
theorem v_lineM {N : Nat} (hN : 100000000 ≤ N) {L : Nat} {bt : Nat → Int} {h : Hs} (hS : Sk h) (hz : 70 ≤ sz h) (hC : TM h L bt) {p ln : Nat} (hp : p ≤ 700) (hl : ln < 30) (g8 : gI h 1238 29 = iI p) (g9 : gI h 1239 29 = iI ln) : ∃ h', fX12_line N h 29 = some (iI (b2 (rdL (pkf bt L) p).1), h') ∧ Ke [1238, 1239, 1251] [54, 55, 56] [] [] h h' ∧ sz h' = sz h ∧ gI h' 1238 29 = iI (((rdL (pkf bt L) p).2.1 : Nat) : Int) ∧ gI h' 1239 29 = iI ((ln + (if (rdL (pkf bt L) p).1 then 1 else 0) : Nat) : Int) ∧ LnA h h' 54 55 56 ln ∧ ((rdL (pkf bt L) p).1 = true → aI h' 54 ln = iI (rdL (pkf bt L) p).2.2.1 ∧ aI h' 55 ln = iI (rdL (pkf bt L) p).2.2.2.1 ∧ aI h' 56 ln = iI (rdL (pkf bt L) p).2.2.2.2) := by
  have rc12 : rc 12 h (some 29) = some 29 := rcv (by rw [ss_29 hS])
  have cc : (sh h 29).1 = 12 := by rw [ss_29 hS]
  have vp := v_look2 (N := N) hS hC (by omega) g8
  obtain ⟨b, b1, -, -⟩ := lk_ok hC p
  have lq : ∀ c : Int, 0 ≤ c → c ≤ 127 → (iI (lkf bt L p) = iI c ↔ pkf bt L p = c) := fun c c0 c1 => (iI_eq (by omega) (by omega) (by omega) (by omega)).trans (b1 c c0 c1)
  have q1 := lq 115 (by omega) (by omega)
  have q2 := lq 116 (by omega) (by omega)
  have q3 := lq 117 (by omega) (by omega)
  have q4 := lq 119 (by omega) (by omega)
  by_cases wl : pkf bt L p = 115 ∨ pkf bt L p = 116 ∨ pkf bt L p = 117 ∨ pkf bt L p = 119
  · have el : lkf bt L p = pkf bt L p := by
      rcases wl with w | w | w | w <;> rw [w] <;> exact (b1 _ (by omega) (by omega)).mpr w
    rw [el] at vp q1 q2 q3 q4
    have e5 : iI (p : Int) + iI 1 = iI ((p + 1 : Nat) : Int) := by rw [iI_add]; congr 1
    obtain ⟨h2, eh2⟩ : ∃ h2, h2 = uI h 1238 29 (iI ((p + 1 : Nat) : Int)) := ⟨_, rfl⟩
    have ke2 : Ke [1238, 1239, 1251] [54, 55, 56] [] [] h h2 := by rw [eh2]; exact Ke_rf.u 1238 _ _ (by decide)
    have hS2 := hS.e hz ke2 (by decide)
    have cc2 : (sh h2 29).1 = 12 := by rw [ss_29 hS2]
    have g92 : gI h2 1239 29 = iI ln := by rw [eh2]; simp [HR, g9]
    obtain ⟨h5, eh5⟩ : ∃ h5, h5 = uA h2 54 ln (iI (pkf bt L p)) := ⟨_, rfl⟩
    have ke5 : Ke [1238, 1239, 1251] [54, 55, 56] [] [] h h5 := by rw [eh5]; exact ke2.b 54 _ _ (by decide)
    have hS5 := hS.e hz ke5 (by decide)
    have cc5 : (sh h5 29).1 = 12 := by rw [ss_29 hS5]
    have g95 : gI h5 1239 29 = iI ln := by rw [eh5]; exact g92
    have a5 : sA h2 (some 54) (iI ln) (iI (pkf bt L p)) = some h5 := by rw [eh5]; exact sAv (ss_54 hS2) (by omega) (by omega)
    obtain ⟨h8, eh8⟩ : ∃ h8, h8 = uA h5 56 ln (iI 0) := ⟨_, rfl⟩
    have ke8 : Ke [1238, 1239, 1251] [54, 55, 56] [] [] h h8 := by rw [eh8]; exact ke5.b 56 _ _ (by decide)
    have a8 : sA h5 (some 56) (iI ln) (iI 0) = some h8 := by rw [eh8]; exact sAv (ss_56 hS5) (by omega) (by omega)
    have sz8 : sz h8 = sz h := by rw [eh8, eh5, eh2]; rfl
    have hS8 := hS.e hz ke8 (by decide)
    have hC8 := hC.e hz ke8 (by decide) (by decide)
    have g88 : gI h8 1238 29 = iI ((p + 1 : Nat) : Int) := by rw [eh8, eh5, eh2]; simp [HR]
    have g98 : gI h8 1239 29 = iI ln := by rw [eh8, eh5]; exact g92
    have ln8 : LnA h h8 54 55 56 ln := fun k hk => by rw [eh8, eh5, eh2]; simp [HR, hk]
    have l54 : aI h8 54 ln = iI (pkf bt L p) := by rw [eh8, eh5]; simp [HR]
    have l56 : aI h8 56 ln = iI 0 := by rw [eh8]; simp [HR]
    have up : ∀ {res : Option (Int32 × Hs)}, (if iI (pkf bt L p) = iI 115 then fX12_line_b73 N 29 h8 (iI (pkf bt L p)) (some 29) (iI 1) else fX12_line_b73 N 29 h8 (iI (pkf bt L p)) (some 29) (iI 0)) = res → fX12_line N h 29 = res := by
      intro res e
      have b31 : fX12_line_b31 N 29 h (iI (pkf bt L p)) = res := by
        rw [← e]
        simp only [fX12_line_b31, lit]
        refine bst (oIv cc g8) ?_
        rw [e5]
        refine bst (qIv cc) ?_
        rw [← eh2]
        refine bst (sR_1240_29 hS2) ?_
        refine bst (oIv cc2 g92) ?_
        refine bst (a5) ?_
        refine bst (sR_1242_29 hS5) ?_
        refine bst (oIv cc5 g95) ?_
        refine bst (a8) ?_
        rfl
      simp only [fX12_line, lit]
      rcases wl with w | w | w | w
      · skip
        refine bst (rc12) ?_
        refine bst (vp) ?_
        refine ifn (fun z => by have := q2.mp z; omega) ?_
        refine ifn (fun z => by have := q3.mp z; omega) ?_
        refine ifp (q1.mpr w) ?_
        exact b31
      · skip
        refine bst (rc12) ?_
        refine bst (vp) ?_
        refine ifp (q2.mpr w) ?_
        exact b31
      · skip
        refine bst (rc12) ?_
        refine bst (vp) ?_
        refine ifn (fun z => by have := q2.mp z; omega) ?_
        refine ifp (q3.mpr w) ?_
        exact b31
      · skip
        refine bst (rc12) ?_
        refine bst (vp) ?_
        refine ifn (fun z => by have := q2.mp z; omega) ?_
        refine ifn (fun z => by have := q3.mp z; omega) ?_
        refine ifn (fun z => by have := q1.mp z; omega) ?_
        refine ifp (q4.mpr w) ?_
        exact b31
    by_cases w1 : pkf bt L p = 115 ∨ pkf bt L p = 117
    · obtain ⟨sg, hsg⟩ : ∃ sg, sg = decide (pkf bt L p = 115) := ⟨_, rfl⟩
      obtain ⟨ha, r1, r2, r3, r4, r5⟩ := v_tkN (N := N) hN hS8 (by omega) hC8 (p := p + 1) (by omega) g88 sg
      have rb := rdN_b (pkf bt L) sg (p + 1)
      have er : rdL (pkf bt L) p = if (rdN (pkf bt L) sg (p + 1)).1 then rdE (pkf bt L) (rdN (pkf bt L) sg (p + 1)).2.1 (pkf bt L p, (rdN (pkf bt L) sg (p + 1)).2.2, 0) else (false, (rdN (pkf bt L) sg (p + 1)).2.1, (0, 0, 0)) := by
        unfold rdL
        rw [if_pos w1, hsg]
      rw [er]
      have ub : ∀ {res : Option (Int32 × Hs)}, fX12_line_b73 N 29 h8 (iI (pkf bt L p)) (some 29) (iI (b2 sg)) = res → fX12_line N h 29 = res := by
        intro res e
        refine up ?_
        by_cases v : pkf bt L p = 115
        · rw [hsg, decide_eq_true v] at e
          rw [if_pos (q1.mpr v)]
          exact e
        · rw [hsg, decide_eq_false v] at e
          rw [if_neg (fun z => v (q1.mp z))]
          exact e
      generalize rdN (pkf bt L) sg (p + 1) = R at *
      obtain ⟨ok, q, v⟩ := R
      simp only at *
      have kea : Ke [1238, 1239, 1251] [54, 55, 56] [] [] h ha := ke8.tr (r2.w (by decide) (by decide) (by decide) (by decide))
      have hSa := hS.e hz kea (by decide)
      have cca : (sh ha 29).1 = 12 := by rw [ss_29 hSa]
      have g9a : gI ha 1239 29 = iI ln := by rw [r2.1 1239 29 (by decide) (by omega)]; exact g98
      have rc128 : rc 12 h8 (some 29) = some 29 := rcv (by rw [ss_29 hS8])
      have y4 : aI ha 54 = aI h8 54 := r2.2.1 54 (by decide) (by omega)
      have y5 : aI ha 55 = aI h8 55 := r2.2.1 55 (by decide) (by omega)
      have y6 : aI ha 56 = aI h8 56 := r2.2.1 56 (by decide) (by omega)
      cases ok with
      | false =>
        refine ⟨ha, ub ?_, kea, by omega, r4, by simpa using g9a, fun k hk => by rw [y4, y5, y6]; exact ln8 k hk, fun z => by cases z⟩
        simp only [fX12_line_b73, lit]
        refine bst (rc128) ?_
        refine bst (r1) ?_
        refine ifp (rfl) ?_
        rfl
      | true =>
        have r5' := r5 rfl
        obtain ⟨hb, ehb⟩ : ∃ hb, hb = uA ha 55 ln (iI v) := ⟨_, rfl⟩
        have keb : Ke [1238, 1239, 1251] [54, 55, 56] [] [] h hb := by rw [ehb]; exact kea.b 55 _ _ (by decide)
        have szb : sz hb = sz h := by rw [ehb]; show sz ha = sz h; omega
        have ab : sA ha (some 55) (iI ln) (iI v) = some hb := by rw [ehb]; exact sAv (ss_55 hSa) (by omega) (by omega)
        have hSb := hS.e hz keb (by decide)
        have ve := v_end (N := N) hSb (hC.e hz keb (by decide) (by decide)) (p := q) (ln := ln) (by omega) (by rw [ehb]; exact r4) (by rw [ehb]; exact g9a)
        have lnb : LnA h hb 54 55 56 ln := fun k hk => by
          have z := ln8 k hk
          rw [ehb]
          simp [HR, hk, y4, y5, y6, z]
        have x4 : aI hb 54 ln = iI (pkf bt L p) ∧ aI hb 55 ln = iI v ∧ aI hb 56 ln = iI 0 := by
          rw [ehb]
          simp [HR, y4, y6, l54, l56]
        have st : fX12_line N h 29 = fX12_line_b139 N 29 hb := by
          refine ub ?_
          simp only [fX12_line_b73, lit]
          refine bst (rc128) ?_
          refine bst (r1) ?_
          refine ifn (n10) ?_
          refine bst (sR_1241_29 hSa) ?_
          refine bst (oIv cca g9a) ?_
          refine bst (oIv cca r5') ?_
          refine bst (ab) ?_
          refine ifn (fun z => by have := q2.mp z; omega) ?_
          refine ifn (fun z => by have := q4.mp z; omega) ?_
          rfl
        by_cases w : pkf bt L q = 59
        · have ee : rdE (pkf bt L) q (pkf bt L p, v, 0) = (true, q + 1, (pkf bt L p, v, 0)) := by unfold rdE; rw [if_pos w]
          rw [if_pos w, decide_eq_true w] at ve
          rw [if_pos rfl, ee]
          exact ⟨_, st.trans ve, (keb.u 1238 _ _ (by decide)).u 1239 _ _ (by decide), szb, by simp [HR], by simp [HR], lnb, fun _ => x4⟩
        · have ee : rdE (pkf bt L) q (pkf bt L p, v, 0) = (false, q, (pkf bt L p, v, 0)) := by unfold rdE; rw [if_neg w]
          rw [if_neg w, decide_eq_false w] at ve
          rw [if_pos rfl, ee]
          refine ⟨hb, st.trans ve, keb, szb, by rw [ehb]; exact r4, by rw [ehb]; simpa [HR] using g9a, lnb, fun z => by cases z⟩
    · have w2 : pkf bt L p = 116 ∨ pkf bt L p = 119 := by omega
      obtain ⟨sg, hsg⟩ : ∃ sg, sg = decide (pkf bt L p = 119) := ⟨_, rfl⟩
      obtain ⟨ha, r1, r2, r3, r4, r5⟩ := v_tkN (N := N) hN hS8 (by omega) hC8 (p := p + 1) (by omega) g88 false
      have rb := rdN_b (pkf bt L) false (p + 1)
      have er : rdL (pkf bt L) p = if (rdN (pkf bt L) false (p + 1)).1 then (if (rdN (pkf bt L) sg (rdN (pkf bt L) false (p + 1)).2.1).1 then rdE (pkf bt L) (rdN (pkf bt L) sg (rdN (pkf bt L) false (p + 1)).2.1).2.1 (pkf bt L p, (rdN (pkf bt L) false (p + 1)).2.2, (rdN (pkf bt L) sg (rdN (pkf bt L) false (p + 1)).2.1).2.2) else (false, (rdN (pkf bt L) sg (rdN (pkf bt L) false (p + 1)).2.1).2.1, (0, 0, 0))) else (false, (rdN (pkf bt L) false (p + 1)).2.1, (0, 0, 0)) := by
        unfold rdL
        rw [if_neg w1, if_pos w2, hsg]
      rw [er]
      have ub : ∀ {res : Option (Int32 × Hs)}, fX12_line_b73 N 29 h8 (iI (pkf bt L p)) (some 29) (iI 0) = res → fX12_line N h 29 = res := by
        intro res e
        refine up ?_
        rw [if_neg (fun z => by have := q1.mp z; omega)]
        exact e
      generalize rdN (pkf bt L) false (p + 1) = R at *
      obtain ⟨ok, q, v⟩ := R
      simp only at *
      have kea : Ke [1238, 1239, 1251] [54, 55, 56] [] [] h ha := ke8.tr (r2.w (by decide) (by decide) (by decide) (by decide))
      have hSa := hS.e hz kea (by decide)
      have cca : (sh ha 29).1 = 12 := by rw [ss_29 hSa]
      have g9a : gI ha 1239 29 = iI ln := by rw [r2.1 1239 29 (by decide) (by omega)]; exact g98
      have rc128 : rc 12 h8 (some 29) = some 29 := rcv (by rw [ss_29 hS8])
      have y4 : aI ha 54 = aI h8 54 := r2.2.1 54 (by decide) (by omega)
      have y5 : aI ha 55 = aI h8 55 := r2.2.1 55 (by decide) (by omega)
      have y6 : aI ha 56 = aI h8 56 := r2.2.1 56 (by decide) (by omega)
      have r1' : fX12_takes N h8 29 (iI 0) = some (iI (b2 ok), ha) := r1
      cases ok with
      | false =>
        refine ⟨ha, ub ?_, kea, by omega, r4, by simpa using g9a, fun k hk => by rw [y4, y5, y6]; exact ln8 k hk, fun z => by cases z⟩
        simp only [fX12_line_b73, lit]
        refine bst (rc128) ?_
        refine bst (r1') ?_
        refine ifp (rfl) ?_
        rfl
      | true =>
        have r5' := r5 rfl
        rw [if_pos rfl]
        obtain ⟨hb, ehb⟩ : ∃ hb, hb = uA ha 55 ln (iI v) := ⟨_, rfl⟩
        have keb : Ke [1238, 1239, 1251] [54, 55, 56] [] [] h hb := by rw [ehb]; exact kea.b 55 _ _ (by decide)
        have szb : sz hb = sz h := by rw [ehb]; show sz ha = sz h; omega
        have ab : sA ha (some 55) (iI ln) (iI v) = some hb := by rw [ehb]; exact sAv (ss_55 hSa) (by omega) (by omega)
        have hSb := hS.e hz keb (by decide)
        have rc12b : rc 12 hb (some 29) = some 29 := rcv (by rw [ss_29 hSb])
        have g8b : gI hb 1238 29 = iI (q : Int) := by rw [ehb]; exact r4
        have g9b : gI hb 1239 29 = iI ln := by rw [ehb]; exact g9a
        have lnb : LnA h hb 54 55 56 ln := fun k hk => by
          have z := ln8 k hk
          rw [ehb]
          simp [HR, hk, y4, y5, y6, z]
        have x4 : aI hb 54 ln = iI (pkf bt L p) ∧ aI hb 55 ln = iI v ∧ aI hb 56 ln = iI 0 := by
          rw [ehb]
          simp [HR, y4, y6, l54, l56]
        obtain ⟨hc, t1, t2, t3, t4, t5⟩ := v_tkN (N := N) hN hSb (by omega) (hC.e hz keb (by decide) (by decide)) (p := q) (by omega) g8b sg
        have rb2 := rdN_b (pkf bt L) sg q
        have st : fX12_line N h 29 = fX12_line_b118 N 29 hb (some 29) (iI (b2 sg)) := by
          have b106 : fX12_line_b106 N 29 hb (iI (pkf bt L p)) = fX12_line_b118 N 29 hb (some 29) (iI (b2 sg)) := by
            simp only [fX12_line_b106, lit]
            by_cases v : pkf bt L p = 119
            · rw [if_pos (q4.mpr v), hsg, decide_eq_true v]
              rfl
            · rw [if_neg (fun z => v (q4.mp z)), hsg, decide_eq_false v]
              rfl
          refine ub ?_
          rw [← b106]
          simp only [fX12_line_b73, lit]
          rcases w2 with w | w
          · skip
            refine bst (rc128) ?_
            refine bst (r1') ?_
            refine ifn (n10) ?_
            refine bst (sR_1241_29 hSa) ?_
            refine bst (oIv cca g9a) ?_
            refine bst (oIv cca r5') ?_
            refine bst (ab) ?_
            refine ifp (q2.mpr w) ?_
            rfl
          · skip
            refine bst (rc128) ?_
            refine bst (r1') ?_
            refine ifn (n10) ?_
            refine bst (sR_1241_29 hSa) ?_
            refine bst (oIv cca g9a) ?_
            refine bst (oIv cca r5') ?_
            refine bst (ab) ?_
            refine ifn (fun z => by have := q2.mp z; omega) ?_
            refine ifp (q4.mpr w) ?_
            rfl
        generalize rdN (pkf bt L) sg q = R2 at *
        obtain ⟨ok2, q2', v2⟩ := R2
        simp only at *
        have kec : Ke [1238, 1239, 1251] [54, 55, 56] [] [] h hc := keb.tr (t2.w (by decide) (by decide) (by decide) (by decide))
        have hSc := hS.e hz kec (by decide)
        have ccc : (sh hc 29).1 = 12 := by rw [ss_29 hSc]
        have g9c : gI hc 1239 29 = iI ln := by rw [t2.1 1239 29 (by decide) (by omega)]; exact g9b
        have u4 : aI hc 54 = aI hb 54 := t2.2.1 54 (by decide) (by omega)
        have u5 : aI hc 55 = aI hb 55 := t2.2.1 55 (by decide) (by omega)
        have u6 : aI hc 56 = aI hb 56 := t2.2.1 56 (by decide) (by omega)
        cases ok2 with
        | false =>
          refine ⟨hc, st.trans ?_, kec, by omega, t4, by simpa using g9c, fun k hk => by rw [u4, u5, u6]; exact lnb k hk, fun z => by cases z⟩
          simp only [fX12_line_b118, lit]
          refine bst (rc12b) ?_
          refine bst (t1) ?_
          refine ifp (rfl) ?_
          rfl
        | true =>
          have t5' := t5 rfl
          rw [if_pos rfl]
          obtain ⟨hd', ehd⟩ : ∃ hd', hd' = uA hc 56 ln (iI v2) := ⟨_, rfl⟩
          have ked : Ke [1238, 1239, 1251] [54, 55, 56] [] [] h hd' := by rw [ehd]; exact kec.b 56 _ _ (by decide)
          have szd : sz hd' = sz h := by rw [ehd]; show sz hc = sz h; omega
          have ad : sA hc (some 56) (iI ln) (iI v2) = some hd' := by rw [ehd]; exact sAv (ss_56 hSc) (by omega) (by omega)
          have hSd := hS.e hz ked (by decide)
          have ve := v_end (N := N) hSd (hC.e hz ked (by decide) (by decide)) (p := q2') (ln := ln) (by omega) (by rw [ehd]; exact t4) (by rw [ehd]; exact g9c)
          have lnd : LnA h hd' 54 55 56 ln := fun k hk => by
            have z := lnb k hk
            rw [ehd]
            simp [HR, hk, u4, u5, u6, z]
          have x5 : aI hd' 54 ln = iI (pkf bt L p) ∧ aI hd' 55 ln = iI v ∧ aI hd' 56 ln = iI v2 := by
            rw [ehd]
            simp [HR, u4, u5, x4]
          have st2 : fX12_line N h 29 = fX12_line_b139 N 29 hd' := by
            refine st.trans ?_
            simp only [fX12_line_b118, lit]
            refine bst (rc12b) ?_
            refine bst (t1) ?_
            refine ifn (n10) ?_
            refine bst (sR_1242_29 hSc) ?_
            refine bst (oIv ccc g9c) ?_
            refine bst (oIv ccc t5') ?_
            refine bst (ad) ?_
            rfl
          by_cases w : pkf bt L q2' = 59
          · have ee : rdE (pkf bt L) q2' (pkf bt L p, v, v2) = (true, q2' + 1, (pkf bt L p, v, v2)) := by unfold rdE; rw [if_pos w]
            rw [if_pos w, decide_eq_true w] at ve
            rw [ee]
            exact ⟨_, st2.trans ve, (ked.u 1238 _ _ (by decide)).u 1239 _ _ (by decide), szd, by simp [HR], by simp [HR], lnd, fun _ => x5⟩
          · have ee : rdE (pkf bt L) q2' (pkf bt L p, v, v2) = (false, q2', (pkf bt L p, v, v2)) := by unfold rdE; rw [if_neg w]
            rw [if_neg w, decide_eq_false w] at ve
            rw [ee]
            refine ⟨hd', st2.trans ve, ked, szd, by rw [ehd]; exact t4, by rw [ehd]; simpa [HR] using g9c, lnd, fun z => by cases z⟩
  · have er : rdL (pkf bt L) p = (false, p, (0, 0, 0)) := by
      unfold rdL
      rw [if_neg (by omega), if_neg (by omega)]
    rw [er]
    refine ⟨h, ?_, Ke_rf, rfl, g8, by simpa using g9, fun k _ => ⟨rfl, rfl, rfl⟩, fun z => by cases z⟩
    simp only [fX12_line, lit]
    refine bst (rc12) ?_
    refine bst (vp) ?_
    refine ifn (fun z => wl (Or.inr (Or.inl (q2.mp z)))) ?_
    refine ifn (fun z => wl (Or.inr (Or.inr (Or.inl (q3.mp z))))) ?_
    refine ifn (fun z => wl (Or.inl (q1.mp z))) ?_
    refine ifn (fun z => wl (Or.inr (Or.inr (Or.inr (q4.mp z))))) ?_
    rfl
/-- the lines of the tape, as the reference reads them: from a line's beginning on -/
theorem L_rdM {N : Nat} (hN : 100000000 ≤ N) {L : Nat} {bt : Nat → Int} : ∀ (f p ln : Nat) (lc : Nat → Int × Int × Int) (fu : Nat) (h : Hs), Sk h → 70 ≤ sz h → TM h L bt → gI h 1238 29 = iI p → gI h 1239 29 = iI ln → 4 * ln ≤ p → (p < L ∨ ln = 0) → p ≤ 120 → 200 < p + f → f ≤ fu → (∀ k, k < ln → aI h 54 k = iI (lc k).1 ∧ aI h 55 k = iI (lc k).2.1 ∧ aI h 56 k = iI (lc k).2.2) → ∃ (x : Bool) (h' : Hs), ((fX12_line N h 29).bind fun r => fX12_play_b15 N 29 fu r.2 r.1) = fX12_play_b38 N 29 h' (iI (b2 x)) ∧ Ke [1238, 1239, 1251] [54, 55, 56] [] [] h h' ∧ sz h' = sz h ∧ ((x = true ∧ (prs (pkf bt L) L f p ln lc).1 = -1) ∨ (x = false ∧ 0 ≤ (prs (pkf bt L) L f p ln lc).1 ∧ gI h' 1238 29 = iI (prs (pkf bt L) L f p ln lc).1)) ∧ gI h' 1239 29 = iI (((prs (pkf bt L) L f p ln lc).2.1 : Nat) : Int) ∧ (∀ k, k < (prs (pkf bt L) L f p ln lc).2.1 → aI h' 54 k = iI ((prs (pkf bt L) L f p ln lc).2.2 k).1 ∧ aI h' 55 k = iI ((prs (pkf bt L) L f p ln lc).2.2 k).2.1 ∧ aI h' 56 k = iI ((prs (pkf bt L) L f p ln lc).2.2 k).2.2) := by
  intro f
  induction f with
  | zero =>
    intro p ln lc fu h hS hz hC g8 g9 h4 hpl hp hf hfu ga
    omega
  | succ f ih =>
    intro p ln lc fu h hS hz hC g8 g9 h4 hpl hp hf hfu ga
    obtain ⟨fu, rfl⟩ : ∃ m, fu = m + 1 := ⟨fu - 1, by omega⟩
    have hL := hC.2.1
    obtain ⟨h1, r1, r2, r3, r4, r5, r6, r7⟩ := v_lineM (N := N) hN hS hz hC (p := p) (ln := ln) (by omega) (by omega) g8 g9
    have rb := rdL_b bt L p
    have ep : prs (pkf bt L) L (f + 1) p ln lc = if (rdL (pkf bt L) p).1 then (if (rdL (pkf bt L) p).2.1 < L then prs (pkf bt L) L f (rdL (pkf bt L) p).2.1 (ln + 1) (updO lc ln (rdL (pkf bt L) p).2.2) else (-1, ln + 1, updO lc ln (rdL (pkf bt L) p).2.2)) else (((rdL (pkf bt L) p).2.1 : Int), ln, lc) := rfl
    rw [ep]
    generalize rdL (pkf bt L) p = R at *
    obtain ⟨ok, q, c⟩ := R
    simp only at *
    have hS1 := hS.e hz r2 (by decide)
    have cc1 : (sh h1 29).1 = 12 := by rw [ss_29 hS1]
    have un : ∀ x : Int32, fX12_play_b15 N 29 (fu + 1) h1 x = fX12_play_b15_body N (fX12_play_b15 N 29 fu) 29 h1 x := fun _ => rfl
    rw [r1]
    simp only [Option.bind_some]
    rw [un]
    have hC1 := hC.e hz r2 (by decide) (by decide)
    cases ok with
    | false =>
      refine ⟨false, h1, ?_, r2, r3, Or.inr ⟨rfl, by simp only [if_neg (show ¬ (false = true) by decide)]; omega, r4⟩, by simpa using r5, fun k hk => ?_⟩
      · simp only [fX12_play_b15_body, lit]
        refine ifp (rfl) ?_
        rfl
      · have hk' : k < ln := hk
        obtain ⟨z1, z2, z3⟩ := r6 k (by omega)
        rw [z1, z2, z3]
        exact ga k hk'
    | true =>
      obtain ⟨rb1, rb2, rb3⟩ := rb
      obtain ⟨x1, x2, -⟩ := rb3 rfl
      have ga2 : ∀ k, k < ln + 1 → aI h1 54 k = iI (updO lc ln c k).1 ∧ aI h1 55 k = iI (updO lc ln c k).2.1 ∧ aI h1 56 k = iI (updO lc ln c k).2.2 := fun k hk => by
        by_cases w : k = ln
        · subst w
          rw [updO_s]
          exact r7 rfl
        · rw [updO_n _ _ w]
          obtain ⟨z1, z2, z3⟩ := r6 k w
          rw [z1, z2, z3]
          exact ga k (by omega)
      have r5' : gI h1 1239 29 = iI ((ln + 1 : Nat) : Int) := r5
      have le : iI (L : Int) ≤ iI (q : Int) ↔ (L : Int) ≤ q := iI_le (by omega) (by omega) (by omega) (by omega)
      by_cases w : q < L
      · rw [if_pos rfl, if_pos w]
        obtain ⟨x, h', t1, t2, t3, t4, t5, t6⟩ := ih q (ln + 1) (updO lc ln c) fu h1 hS1 (by omega) hC1 r4 r5' (by omega) (Or.inl w) (by omega) (by omega) (by omega) ga2
        refine ⟨x, h', ?_, r2.tr t2, by omega, t4, t5, t6⟩
        rw [← t1]
        simp only [fX12_play_b15_body, lit]
        refine ifn (n10) ?_
        refine bst (oIv cc1 r4) ?_
        refine bst (oIv cc1 hC1.1) ?_
        refine ifn (fun z => by have := le.mp z; omega) ?_
        refine bst (rcv (by rw [ss_29 hS1])) ?_
        rfl
      · rw [if_pos rfl, if_neg w]
        refine ⟨true, h1, ?_, r2, r3, Or.inl ⟨rfl, rfl⟩, r5', ga2⟩
        simp only [fX12_play_b15_body, lit]
        refine ifn (n10) ?_
        refine bst (oIv cc1 r4) ?_
        refine bst (oIv cc1 hC1.1) ?_
        refine ifp (le.mpr (by omega)) ?_
        rfl
