/-! ===== paint: the class's sums ===== -/
theorem set_f {i T : Nat} (hi : i < 12) (hT : T < 4096) : (T.testBit i = true → T ||| 2 ^ i = T) ∧ (T.testBit i = false → T < T ||| 2 ^ i ∧ pcn 12 (T ||| 2 ^ i) = pcn 12 T + 1) := by
  refine ⟨fun w => Nat.eq_of_testBit_eq fun j => ?_, fun w => ?_⟩
  · rw [Nat.testBit_or, Nat.testBit_two_pow]
    by_cases e : i = j
    · subst e
      simp [w]
    · rw [decide_eq_false e, Bool.or_false]
  · have q := pcn_or 12 i T hi w
    refine ⟨Nat.lt_of_le_of_ne Nat.left_le_or fun z => ?_, q⟩
    rw [← z] at q
    omega
theorem or_lt {i T n : Nat} (hi : i < n) (hT : T < 2 ^ n) : T ||| 2 ^ i < 2 ^ n := Nat.or_lt_two_pow hT (Nat.pow_lt_pow_right (by omega) hi)
theorem p12 {n : Nat} (hn : n ≤ 12) : 2 ^ n ≤ 4096 := Nat.pow_le_pow_right (n := 2) (by omega) hn
theorem sh_f {i : Nat} (hi : i < 12) : iI 1 <<< (iI i &&& iI 31) = iI ((2 ^ i : Nat) : Int) := of_decide_eq_true (List.all_eq_true.mp mor_all i (List.mem_range.mpr hi))
theorem v_bcn {N : Nat} {h : Hs} {T : Nat} (hT : T < 4096) : fJ6_bitCount_0f7a4 N h (iI T) = some (iI (pcn 12 T), h) := by
  have q := of_decide_eq_true (List.all_eq_true.mp bcn_all T (List.mem_range.mpr hT))
  simp only [] at q
  simp only [fJ6_bitCount_0f7a4, Option.bind_some]
  rw [q]
def ctf (fh fw fp vh vw vp : Nat → Int) (i j : Nat) : Int := if vh j ≤ fh i ∧ vw j ≤ fw i then (if fp i = vp j then 0 else fh i * fw i) + fh i * fw i - vh j * vw j else -1
theorem ctf_b {fh fw fp vh vw vp : Nat → Int} {i j : Nat} (a1 : 1 ≤ fh i ∧ fh i ≤ 99 ∧ 1 ≤ fw i ∧ fw i ≤ 99) (a2 : 1 ≤ vh j ∧ vh j ≤ 99 ∧ 1 ≤ vw j ∧ vw j ≤ 99) : -1 ≤ ctf fh fw fp vh vw vp i j ∧ ctf fh fw fp vh vw vp i j ≤ 19602 ∧ (vh j ≤ fh i ∧ vw j ≤ fw i → 0 ≤ ctf fh fw fp vh vw vp i j) := by
  have m1 : fh i * fw i ≤ 99 * 99 := Int.mul_le_mul a1.2.1 a1.2.2.2 (by omega) (by omega)
  have m2 : 1 * 1 ≤ vh j * vw j := Int.mul_le_mul a2.1 a2.2.2.1 (by omega) (by omega)
  have m3 : 1 * 1 ≤ fh i * fw i := Int.mul_le_mul a1.1 a1.2.2.1 (by omega) (by omega)
  unfold ctf
  by_cases w : vh j ≤ fh i ∧ vw j ≤ fw i
  · rw [if_pos w]
    have m4 : vh j * vw j ≤ fh i * fw i := Int.mul_le_mul w.1 w.2 (by omega) (by omega)
    by_cases q : fp i = vp j
    · rw [if_pos q]; omega
    · rw [if_neg q]; omega
  · rw [if_neg w]
    exact ⟨by omega, by omega, fun z => absurd z w⟩
def swt (ct : Nat → Nat → Int) (S : Nat → Int) (T i j : Nat) : Int := if T.testBit i = true ∨ ct i j < 0 then 1000000 else if ct i j + S (T ||| 2 ^ i) < 1000000 then ct i j + S (T ||| 2 ^ i) else 1000000
def lsb (ct : Nat → Nat → Int) (S : Nat → Int) (T j : Nat) : Nat → Int
  | 0 => 1000000
  | n + 1 => if swt ct S T n j < lsb ct S T j n then swt ct S T n j else lsb ct S T j n
def PF (h : Hs) (nf : Nat) (fA : Nat → Nat) (fh fw fp : Nat → Int) : Prop := ∀ i, i < nf → (aR h 10 i = some (fA i) ∧ 70 ≤ fA i ∧ fA i < sz h ∧ sh h (fA i) = (3, 0) ∧ gI h 300 (fA i) = iI (fh i) ∧ gI h 301 (fA i) = iI (fw i) ∧ gI h 302 (fA i) = iI (fp i)) ∧ 1 ≤ fh i ∧ fh i ≤ 99 ∧ 1 ≤ fw i ∧ fw i ≤ 99 ∧ 0 ≤ fp i ∧ fp i ≤ 9
def PV (h : Hs) (nv : Nat) (vA : Nat → Nat) (vh vw vp : Nat → Int) : Prop := ∀ i, i < nv → (aR h 11 i = some (vA i) ∧ 70 ≤ vA i ∧ vA i < sz h ∧ sh h (vA i) = (3, 0) ∧ gI h 300 (vA i) = iI (vh i) ∧ gI h 301 (vA i) = iI (vw i) ∧ gI h 302 (vA i) = iI (vp i)) ∧ 1 ≤ vh i ∧ vh i ≤ 99 ∧ 1 ≤ vw i ∧ vw i ≤ 99 ∧ 0 ≤ vp i ∧ vp i ≤ 9
theorem v_area {N : Nat} {h : Hs} {a : Nat} {x y : Int} (hs : sh h a = (3, 0)) (g0 : gI h 300 a = iI x) (g1 : gI h 301 a = iI y) : fX3_area N h a = some (iI (x * y), h) := by
  have cc : (sh h a).1 = 3 := by rw [hs]
  simp only [fX3_area]
  refine bst (oIv cc g0) ?_
  refine bst (oIv cc g1) ?_
  rw [iI_mul]
theorem v_swt {N : Nat} {h : Hs} (hS : Sk h) {nf nv : Nat} {fA vA : Nat → Nat} {fh fw fp vh vw vp : Nat → Int} (hf : nf ≤ 12) (pF : PF h nf fA fh fw fp) (pV : PV h nv vA vh vw vp) {T i j : Nat} (hT : T < 2 ^ nf) (hi : i < nf) (hj : j < nv) {S : Nat → Int} (hv : T.testBit i = false → aI h 13 (T ||| 2 ^ i) = iI (S (T ||| 2 ^ i)) ∧ 0 ≤ S (T ||| 2 ^ i) ∧ S (T ||| 2 ^ i) ≤ 1000000) : fX6_sumWith N h 9 (iI T) (iI i) (some (vA j)) = some (iI (swt (ctf fh fw fp vh vw vp) S T i j), h) := by
  obtain ⟨⟨f1, f2, f3, f4, f5, f6, f7⟩, f8⟩ := pF i hi
  obtain ⟨⟨w1, w2, w3, w4, w5, w6, w7⟩, w8⟩ := pV j hj
  have hp := p12 hf
  have cf : (sh h (fA i)).1 = 3 := by rw [f4]
  have cv : (sh h (vA j)).1 = 3 := by rw [w4]
  obtain ⟨s1, s2⟩ := set_f (i := i) (T := T) (by omega) (by omega)
  have ol := or_lt hi hT
  have cb := ctf_b (fh := fh) (fw := fw) (fp := fp) (vh := vh) (vw := vw) (vp := vp) (i := i) (j := j) ⟨f8.1, f8.2.1, f8.2.2.1, f8.2.2.2.1⟩ ⟨w8.1, w8.2.1, w8.2.2.1, w8.2.2.2.1⟩
  have eo : (some (iI (T : Int) ||| (iI 1 <<< (iI (i : Int) &&& iI 31))) : Option Int32) = some (iI ((T ||| 2 ^ i : Nat) : Int)) := by
    rw [sh_f (by omega), iI_or (by omega) (by have := Nat.pow_lt_pow_right (a := 2) (by omega) hi; omega)]
  have eq : iI ((T ||| 2 ^ i : Nat) : Int) = iI (T : Int) ↔ T ||| 2 ^ i = T := (iI_eq (by omega) (by omega) (by omega) (by omega)).trans (by omega)
  have lf := lQv (t := 26) (i := i) (ss_10 hS) (by omega) (by omega) f1
  have lh : iI (fh i) < iI (vh j) ↔ fh i < vh j := iI_lt (by omega) (by omega) (by omega) (by omega)
  have lw : iI (fw i) < iI (vw j) ↔ fw i < vw j := iI_lt (by omega) (by omega) (by omega) (by omega)
  have lp' : iI (fp i) = iI (vp j) ↔ fp i = vp j := iI_eq (by omega) (by omega) (by omega) (by omega)
  have sv : fX3_serves N h (fA i) (some (vA j)) = some (iI (if vh j ≤ fh i ∧ vw j ≤ fw i then 1 else 0), h) := by
    simp only [fX3_serves, fX3_serves_b26, fX3_serves_b27, lit]
    by_cases q1 : fh i < vh j
    · rw [if_neg (by omega)]
      refine bst (oIv cf f5) ?_
      refine bst (oIv cv w5) ?_
      refine ifp (lh.mpr q1) ?_
      refine bst (zc_i0) ?_
      rfl
    · by_cases q2 : fw i < vw j
      · rw [if_neg (by omega)]
        refine bst (oIv cf f5) ?_
        refine bst (oIv cv w5) ?_
        refine ifn (fun z => q1 (lh.mp z)) ?_
        refine bst (oIv cf f6) ?_
        refine bst (oIv cv w6) ?_
        refine ifp (lw.mpr q2) ?_
        refine bst (zc_i0) ?_
        rfl
      · rw [if_pos (by omega)]
        refine bst (oIv cf f5) ?_
        refine bst (oIv cv w5) ?_
        refine ifn (fun z => q1 (lh.mp z)) ?_
        refine bst (oIv cf f6) ?_
        refine bst (oIv cv w6) ?_
        refine ifn (fun z => q2 (lw.mp z)) ?_
        refine bst (zc_i1) ?_
        rfl
  have aF := v_area (N := N) f4 f5 f6
  have aV := v_area (N := N) w4 w5 w6
  have pr : vh j ≤ fh i ∧ vw j ≤ fw i → fX3_priceFor N h (fA i) (some (vA j)) = some (iI (ctf fh fw fp vh vw vp i j), h) := by
    intro q
    unfold ctf
    rw [if_pos q]
    simp only [fX3_priceFor, fX3_priceFor_b19, lit]
    by_cases q2 : fp i = vp j
    · rw [if_pos q2]
      refine bst (oIv cf f7) ?_
      refine bst (oIv cv w7) ?_
      refine ifp (lp'.mpr q2) ?_
      refine bst (rcv cf) ?_
      refine bst (aF) ?_
      refine bst (rcv cv) ?_
      refine bst (aV) ?_
      rw [iI_add, iI_sub]
    · rw [if_neg q2]
      refine bst (oIv cf f7) ?_
      refine bst (oIv cv w7) ?_
      refine ifn (fun z => q2 (lp'.mp z)) ?_
      refine bst (rcv cf) ?_
      refine bst (aF) ?_
      refine bst (rcv cf) ?_
      refine bst (aF) ?_
      refine bst (rcv cv) ?_
      refine bst (aV) ?_
      rw [iI_add, iI_sub]
  simp only [fX6_sumWith, fX6_sumWith_b26, lit]
  unfold swt
  by_cases w : T.testBit i = true
  · rw [if_pos (Or.inl w)]
    refine bst (eo) ?_
    refine ifp (eq.mpr (s1 w)) ?_
    rfl
  · have w' : T.testBit i = false := by cases hb : T.testBit i with
      | true => exact absurd hb w
      | false => rfl
    obtain ⟨v1, v2, v3⟩ := hv w'
    have ne : ¬ iI ((T ||| 2 ^ i : Nat) : Int) = iI (T : Int) := fun z => by have := eq.mp z; have := (s2 w').1; omega
    by_cases q : vh j ≤ fh i ∧ vw j ≤ fw i
    · have c0 := cb.2.2 q
      rw [if_pos q] at sv
      rw [if_neg (fun z => z.elim w (fun z => by omega))]
      have lv := lAv (ss_13 hS) (show T ||| 2 ^ i < 4096 by omega) (by omega) v1
      have lm : iI (ctf fh fw fp vh vw vp i j + S (T ||| 2 ^ i)) < iI 1000000 ↔ ctf fh fw fp vh vw vp i j + S (T ||| 2 ^ i) < 1000000 := iI_lt (by omega) (by omega) (by omega) (by omega)
      refine bst (eo) ?_
      refine ifn (ne) ?_
      refine bst (sR_600_9 hS) ?_
      refine bst (lf) ?_
      refine bst (rcv cf) ?_
      refine bst (sv) ?_
      refine ifn (n10) ?_
      refine bst (sR_600_9 hS) ?_
      refine bst (lf) ?_
      refine bst (rcv cf) ?_
      refine bst (pr q) ?_
      refine bst (sR_603_9 hS) ?_
      refine bst (lv) ?_
      rw [iI_add]
      by_cases m : ctf fh fw fp vh vw vp i j + S (T ||| 2 ^ i) < 1000000
      · rw [if_pos m, if_pos (lm.mpr m)]
      · rw [if_neg m, if_neg (fun z => m (lm.mp z))]
    · have c0 : ctf fh fw fp vh vw vp i j = -1 := by unfold ctf; rw [if_neg q]
      rw [if_neg q] at sv
      rw [if_pos (Or.inr (by omega))]
      refine bst (eo) ?_
      refine ifn (ne) ?_
      refine bst (sR_600_9 hS) ?_
      refine bst (lf) ?_
      refine bst (rcv cf) ?_
      refine bst (sv) ?_
      refine ifp (rfl) ?_
      rfl
