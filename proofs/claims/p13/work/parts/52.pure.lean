/-! ===== tie and untie: the calls themselves ===== -/
theorem qZv {h : Hs} {c f a : Nat} {v : Int} (hs : (sh h a).1 = c) (hv : v = 0 ∨ v = 1) : qZ c f h (some a) (iI v) = some (uI h (100 * c + f) a (iI v)) := by
  have e : iI v = 0 ∨ iI v = 1 := by
    rcases hv with rfl | rfl
    · exact Or.inl rfl
    · exact Or.inr rfl
  simp only [qZ, hs, e, and_self, if_true]
theorem v_tieC {N : Nat} {h h1 : Hs} (hS : Sk h) (hS1 : Sk h1) {p1 p2 : Int32} {v : Int} (b1 : -2147483648 ≤ v) (b2 : v < 2147483648) (e : fX5_tieRope N h 14 p1 p2 = some (iI v, h1)) : fX11_tie N h 0 p1 p2 = some (iI v, if v < 0 then h1 else uI h1 1106 0 (iI 0)) := by
  have d0 := v_deed (N := N) hS1 (r := iI v) (z := 0) (Or.inl rfl)
  have d1 := v_deed (N := N) hS1 (r := iI v) (z := 1) (Or.inr rfl)
  rw [if_neg (by decide)] at d0
  rw [if_pos rfl] at d1
  have lt : iI v < iI 0 ↔ v < 0 := iI_lt (by omega) (by omega) (by omega) (by omega)
  have rc1 : rc 11 h1 (some 0) = some 0 := rcv (by rw [ss_0 hS1])
  have rc5 : rc 5 h (some 14) = some 14 := rcv (by rw [ss_14 hS])
  simp only [fX11_tie, fX11_tie_b21, lit]
  by_cases w : v < 0
  · rw [if_pos w]
    refine bst (sR_1100_0 hS) ?_
    refine bst (rc5) ?_
    refine bst (e) ?_
    refine ifp (lt.mpr w) ?_
    refine bst (rc1) ?_
    refine bst (d0) ?_
    rfl
  · rw [if_neg w]
    refine bst (sR_1100_0 hS) ?_
    refine bst (rc5) ?_
    refine bst (e) ?_
    refine ifn (fun q => w (lt.mp q)) ?_
    refine bst (rc1) ?_
    refine bst (d1) ?_
    rfl
theorem v_tieR {N : Nat} {h h1 : Hs} (hS : Sk h) (hS1 : Sk h1) {p1 p2 : Int32} {v c : Int} (b1 : -2147483648 ≤ v) (b2 : v < 2147483648) (hc : gI h1 1243 29 = iI c) (hc2 : c = 0 ∨ c = 1) (e : fX12_tieNow N h 29 p1 p2 = some (iI v, h1)) : fX12_tie N h 29 p1 p2 = some (iI v, uI h1 1243 29 (iI (if v < 0 then c else 0))) := by
  have le : iI 0 ≤ iI v ↔ 0 ≤ v := iI_le (by omega) (by omega) (by omega) (by omega)
  have rc1 : rc 12 h (some 29) = some 29 := rcv (by rw [ss_29 hS])
  have o1 : oI 12 43 h1 (some 29) = some (iI c) := oIv (by rw [ss_29 hS1]) hc
  have z0 : qZ 12 43 h1 (some 29) (iI 0) = some (uI h1 1243 29 (iI 0)) := qZv (v := 0) (by rw [ss_29 hS1]) (Or.inl rfl)
  have z1 : qZ 12 43 h1 (some 29) (iI 1) = some (uI h1 1243 29 (iI 1)) := qZv (v := 1) (by rw [ss_29 hS1]) (Or.inr rfl)
  simp only [fX12_tie, fX12_tie_b23, fX12_tie_b24, lit]
  rcases hc2 with rfl | rfl
  · have ez : (if v < 0 then (0 : Int) else 0) = 0 := by by_cases w : v < 0 <;> simp [w]
    rw [ez]
    refine bst (rc1) ?_
    refine bst (e) ?_
    refine bst (o1) ?_
    refine ifp (rfl) ?_
    refine bst (z0) ?_
    rfl
  · by_cases w : v < 0
    · rw [if_pos w]
      have w2 : ¬ iI 0 ≤ iI v := fun q => by have := le.mp q; omega
      refine bst (rc1) ?_
      refine bst (e) ?_
      refine bst (o1) ?_
      refine ifn (n10) ?_
      refine ifn (w2) ?_
      refine bst (z1) ?_
      rfl
    · rw [if_neg w]
      have w2 : iI 0 ≤ iI v := le.mpr (by omega)
      refine bst (rc1) ?_
      refine bst (e) ?_
      refine bst (o1) ?_
      refine ifn (n10) ?_
      refine ifp (w2) ?_
      refine bst (z0) ?_
      rfl
theorem v_untieC {N : Nat} {h h1 : Hs} (hS : Sk h) (hS1 : Sk h1) {p1 : Int32} {v : Int} (b1 : -2147483648 ≤ v) (b2 : v < 2147483648) (e : fX5_untieRope N h 14 p1 = some (iI v, h1)) : fX11_untie N h 0 p1 = some (iI v, if v = -2000000000 then h1 else uI h1 1106 0 (iI 0)) := by
  have d0 := v_deed (N := N) hS1 (r := iI v) (z := 0) (Or.inl rfl)
  have d1 := v_deed (N := N) hS1 (r := iI v) (z := 1) (Or.inr rfl)
  rw [if_neg (by decide)] at d0
  rw [if_pos rfl] at d1
  have eq : iI v = iI (-2000000000) ↔ v = -2000000000 := iI_eq (by omega) (by omega) (by omega) (by omega)
  have rc1 : rc 11 h1 (some 0) = some 0 := rcv (by rw [ss_0 hS1])
  have rc5 : rc 5 h (some 14) = some 14 := rcv (by rw [ss_14 hS])
  simp only [fX11_untie, fX11_untie_b22, lit, iI_neg]
  by_cases w : v = -2000000000
  · rw [if_pos w]
    refine bst (sR_1100_0 hS) ?_
    refine bst (rc5) ?_
    refine bst (e) ?_
    refine ifp (eq.mpr w) ?_
    refine bst (rc1) ?_
    refine bst (d0) ?_
    rfl
  · rw [if_neg w]
    refine bst (sR_1100_0 hS) ?_
    refine bst (rc5) ?_
    refine bst (e) ?_
    refine ifn (fun q => w (eq.mp q)) ?_
    refine bst (rc1) ?_
    refine bst (d1) ?_
    rfl
theorem v_untieR {N : Nat} {h h1 : Hs} (hS : Sk h) (hS1 : Sk h1) {p1 : Int32} {v c : Int} (b1 : -2147483648 ≤ v) (b2 : v < 2147483648) (hc : gI h1 1243 29 = iI c) (hc2 : c = 0 ∨ c = 1) (e : fX12_untieNow N h 29 p1 = some (iI v, h1)) : fX12_untie N h 29 p1 = some (iI v, uI h1 1243 29 (iI (if v = -2000000000 then c else 0))) := by
  have eq : iI v = iI (-2000000000) ↔ v = -2000000000 := iI_eq (by omega) (by omega) (by omega) (by omega)
  have rc1 : rc 12 h (some 29) = some 29 := rcv (by rw [ss_29 hS])
  have o1 : oI 12 43 h1 (some 29) = some (iI c) := oIv (by rw [ss_29 hS1]) hc
  have z0 : qZ 12 43 h1 (some 29) (iI 0) = some (uI h1 1243 29 (iI 0)) := qZv (v := 0) (by rw [ss_29 hS1]) (Or.inl rfl)
  have z1 : qZ 12 43 h1 (some 29) (iI 1) = some (uI h1 1243 29 (iI 1)) := qZv (v := 1) (by rw [ss_29 hS1]) (Or.inr rfl)
  simp only [fX12_untie, fX12_untie_b24, fX12_untie_b25, lit, iI_neg]
  rcases hc2 with rfl | rfl
  · have ez : (if v = -2000000000 then (0 : Int) else 0) = 0 := by by_cases w : v = -2000000000 <;> simp [w]
    rw [ez]
    refine bst (rc1) ?_
    refine bst (e) ?_
    refine bst (o1) ?_
    refine ifp (rfl) ?_
    refine bst (z0) ?_
    rfl
  · by_cases w : v = -2000000000
    · rw [if_pos w]
      refine bst (rc1) ?_
      refine bst (e) ?_
      refine bst (o1) ?_
      refine ifn (n10) ?_
      refine ifp (eq.mpr w) ?_
      refine bst (z1) ?_
      rfl
    · rw [if_neg w]
      refine bst (rc1) ?_
      refine bst (e) ?_
      refine bst (o1) ?_
      refine ifn (n10) ?_
      refine ifn (fun q => w (eq.mp q)) ?_
      refine bst (z0) ?_
      rfl
