/-! ===== bound, counterweights, the chance to go back, catches ===== -/
def IBnd (h : Hs) : Prop := ∃ b : Int, gI h 510 14 = iI b ∧ gI h 1220 29 = iI b ∧ 0 ≤ b ∧ b ≤ 99999
def ICnt (h : Hs) : Prop := ∃ cw : Nat → Int, ∀ i, i < 20 → aI h 18 i = iI (cw i) ∧ aI h 45 i = iI (cw i) ∧ -9999 ≤ cw i ∧ cw i ≤ 9999
def ICan (h : Hs) : Prop := ∃ c : Int, gI h 1106 0 = iI c ∧ gI h 1243 29 = iI c ∧ (c = 0 ∨ c = 1)
def ICat (h : Hs) : Prop := ∃ (cc : Nat → Nat) (cp : Nat → Int), ∀ l, l < 16 → aI h 21 l = iI (cc l) ∧ aI h 46 l = iI (cc l) ∧ cc l ≤ 5 ∧ ∀ k, k < cc l → aI h 20 (5 * l + k) = iI (cp (5 * l + k)) ∧ aI h 47 (5 * l + k) = iI (cp (5 * l + k)) ∧ 0 ≤ cp (5 * l + k) ∧ cp (5 * l + k) ≤ 99
def ICn (h h2 : Hs) : Prop := ∃ c : Int, gI h2 1106 0 = iI c ∧ gI h2 1243 29 = iI c ∧ (c = 0 ∨ (c = 1 ∧ gI h 1106 0 = iI 1))
theorem ICan.n {h : Hs} (hB : ICan h) : ICn h h := by
  obtain ⟨c, b1, b2, b3⟩ := hB
  exact ⟨c, b1, b2, b3.imp id (fun e => ⟨e, by rw [b1, e]⟩)⟩
theorem ICn.can {h h2 : Hs} (hB : ICn h h2) : ICan h2 := by
  obtain ⟨c, b1, b2, b3⟩ := hB
  exact ⟨c, b1, b2, b3.imp id (fun e => e.1)⟩
theorem IBnd.e {F A FR AQ : List Nat} {h h2 : Hs} (hC : IBnd h) (hz : 70 ≤ sz h) (k : Ke F A FR AQ h h2) (f1 : 510 ∉ F) (f2 : 1220 ∉ F) : IBnd h2 := by
  obtain ⟨b, c1, c2, c3⟩ := hC
  exact ⟨b, by rw [k.1 _ _ f1 (by omega)]; exact c1, by rw [k.1 _ _ f2 (by omega)]; exact c2, c3⟩
theorem ICnt.e {F A FR AQ : List Nat} {h h2 : Hs} (hC : ICnt h) (hz : 70 ≤ sz h) (k : Ke F A FR AQ h h2) (a1 : 18 ∉ A) (a2 : 45 ∉ A) : ICnt h2 := by
  obtain ⟨cw, c1⟩ := hC
  exact ⟨cw, fun i hi => by rw [k.2.1 _ a1 (by omega), k.2.1 _ a2 (by omega)]; exact c1 i hi⟩
theorem ICan.e {F A FR AQ : List Nat} {h h2 : Hs} (hC : ICan h) (hz : 70 ≤ sz h) (k : Ke F A FR AQ h h2) (f1 : 1106 ∉ F) (f2 : 1243 ∉ F) : ICan h2 := by
  obtain ⟨b, c1, c2, c3⟩ := hC
  exact ⟨b, by rw [k.1 _ _ f1 (by omega)]; exact c1, by rw [k.1 _ _ f2 (by omega)]; exact c2, c3⟩
theorem ICat.e {F A FR AQ : List Nat} {h h2 : Hs} (hC : ICat h) (hz : 70 ≤ sz h) (k : Ke F A FR AQ h h2) (hA : ∀ a ∈ [20, 21, 46, 47], a ∉ A) : ICat h2 := by
  obtain ⟨cc, cp, c1⟩ := hC
  exact ⟨cc, cp, fun i hi => by rw [k.2.1 _ (hA 20 (by decide)) (by omega), k.2.1 _ (hA 21 (by decide)) (by omega), k.2.1 _ (hA 46 (by decide)) (by omega), k.2.1 _ (hA 47 (by decide)) (by omega)]; exact c1 i hi⟩
theorem t_bound {N : Nat} {h : Hs} (hS : Sk h) (hC : IBnd h) (p : Int32) : ∃ r h1 h2, fX11_bound N h 0 p = some (r, h1) ∧ fX12_bound N h1 29 p = some (r, h2) ∧ IBnd h2 ∧ Kq [510, 1220] [] h h2 := by
  obtain ⟨z, z1, z2, rfl⟩ := iI_ex p
  have hC0 := hC
  obtain ⟨b, c1, c2, c3, c4⟩ := hC
  by_cases w : 0 ≤ z ∧ z ≤ 99999
  · refine ⟨iI b, uI h 510 14 (iI z), uI (uI h 510 14 (iI z)) 1220 29 (iI z), ?_, ?_, ⟨z, ?_, ?_, w⟩, (Kq_rf.u _ _ _ (by decide)).u _ _ _ (by decide)⟩
    · simp (disch := omega) [oI, oR, qI, qZ, qR, rc, lit, iI_add, iI_sub, iI_mul, iI_neg, iI_le, iI_lt, iI_eq, v_isW, v_inW, bz, HR, Sk_rw hS, fX11_bound, fX5_setBound, c1, w]
    · simp (disch := omega) [oI, oR, qI, qZ, qR, rc, lit, iI_add, iI_sub, iI_mul, iI_neg, iI_le, iI_lt, iI_eq, v_isW, v_inW, bz, HR, Sk_rw hS, fX12_bound, c2, w]
    · simp [HR]
    · simp [HR]
  · refine ⟨-1, h, h, ?_, ?_, hC0, Kq_rf⟩
    · simp (disch := omega) [oI, oR, qI, qZ, qR, rc, lit, iI_add, iI_sub, iI_mul, iI_neg, iI_le, iI_lt, iI_eq, v_isW, v_inW, bz, HR, Sk_rw hS, fX11_bound, fX5_setBound, w]
    · simp (disch := omega) [oI, oR, qI, qZ, qR, rc, lit, iI_add, iI_sub, iI_mul, iI_neg, iI_le, iI_lt, iI_eq, v_isW, v_inW, bz, HR, Sk_rw hS, fX12_bound, w]
/-- the class's own note of a deed -/
theorem v_deed {N : Nat} {h : Hs} (hS : Sk h) {r : Int32} {z : Int} (hz : z = 0 ∨ z = 1) : fX11_deed N h 0 r (iI z) = some (r, if z = 1 then uI h 1106 0 (iI 0) else h) := by
  rcases hz with rfl | rfl
  · simp [fX11_deed, fX11_deed_b9, lit]
  · have e : ¬ iI 1 = iI 0 := by decide
    simp [fX11_deed, fX11_deed_b9, lit, e, qZ, Sk_rw hS]
theorem t_weight {N : Nat} {h : Hs} (hS : Sk h) (hC : ICnt h) (hB : ICan h) (p1 p2 : Int32) : ∃ r h1 h2, fX11_weight N h 0 p1 p2 = some (r, h1) ∧ fX12_weight N h1 29 p1 p2 = some (r, h2) ∧ ICnt h2 ∧ ICn h h2 ∧ Kq [1106, 1243] [18, 45] h h2 := by
  obtain ⟨x, x1, x2, rfl⟩ := iI_ex p1
  obtain ⟨z, z1, z2, rfl⟩ := iI_ex p2
  have hC0 := hC
  have hB0 := hB
  obtain ⟨cw, c1⟩ := hC
  obtain ⟨c, b1, b2, b3⟩ := hB
  by_cases w : (0 ≤ x ∧ x ≤ 19) ∧ -9999 ≤ z ∧ z ≤ 9999
  · obtain ⟨wx, wz⟩ := w
    obtain ⟨i, rfl⟩ : ∃ i : Nat, x = i := ⟨x.toNat, by omega⟩
    have e1 : ixb (iI (i : Int)) 20 = true := ixb_i (by omega) (by omega) (by omega)
    have e2 : (iI (i : Int)).toNatClampNeg = i := by rw [iI_cl (by omega) (by omega)]; simp
    have e3 := c1 i (by omega)
    have e4 : ¬ cw i = -2000000000 := by omega
    have hS1 : Sk (uA h 18 i (iI z)) := hS.k (Kq_uA 18 i _)
    have dd := v_deed (N := N) hS1 (r := iI (cw i)) (z := 1) (Or.inr rfl)
    simp only [if_true] at dd
    refine ⟨iI (cw i), uI (uA h 18 i (iI z)) 1106 0 (iI 0), uI (uA (uI (uA h 18 i (iI z)) 1106 0 (iI 0)) 45 i (iI z)) 1243 29 (iI 0), ?_, ?_, ⟨fun j => if j = i then z else cw j, fun j hj => ?_⟩, ⟨0, ?_, ?_, Or.inl rfl⟩, ?_⟩
    · simp (disch := omega) [oI, oR, qI, qZ, qR, rc, lit, iI_add, iI_sub, iI_mul, iI_neg, iI_le, iI_lt, iI_eq, v_isW, v_inW, bz, HR, Sk_rw hS, fX11_weight, fX11_weight_b23, fX5_setWeight, lA, sA, wx, wz, e1, e2, e3, e4, dd]
    · rcases b3 with rfl | rfl
      · simp (disch := omega) [oI, oR, qI, qZ, qR, rc, lit, iI_add, iI_sub, iI_mul, iI_neg, iI_le, iI_lt, iI_eq, v_isW, v_inW, bz, HR, Sk_rw hS, fX12_weight, fX12_weight_b25, fX12_weight_b26, fX12_weighNow, lA, sA, wx, wz, e1, e2, e3, e4, b2]
      · simp (disch := omega) [oI, oR, qI, qZ, qR, rc, lit, iI_add, iI_sub, iI_mul, iI_neg, iI_le, iI_lt, iI_eq, v_isW, v_inW, bz, HR, Sk_rw hS, fX12_weight, fX12_weight_b25, fX12_weight_b26, fX12_weighNow, lA, sA, wx, wz, e1, e2, e3, e4, b2]
    · by_cases ej : j = i
      · subst ej
        simp [HR]
        omega
      · have := c1 j hj
        simp [HR, ej, this]
    · simp [HR]
    · simp [HR]
    · exact (((Kq_rf.b _ _ _ (by decide)).u _ _ _ (by decide)).b _ _ _ (by decide)).u _ _ _ (by decide)
  · have dd := v_deed (N := N) hS (r := iI (-2000000000)) (z := 0) (Or.inl rfl)
    have e5 : ¬ (0 : Int) = 1 := by omega
    simp only [e5, if_false] at dd
    have sw : fX5_setWeight N h 14 (iI x) (iI z) = some (iI (-2000000000), h) := by
      by_cases wx : 0 ≤ x ∧ x ≤ 19
      · have wz : ¬ (-9999 ≤ z ∧ z ≤ 9999) := fun q => w ⟨wx, q⟩
        simp (disch := omega) [oI, oR, qI, qZ, qR, rc, lit, iI_add, iI_sub, iI_mul, iI_neg, iI_le, iI_lt, iI_eq, v_isW, v_inW, bz, HR, Sk_rw hS, fX5_setWeight, fX5_setWeight_b23, wx, wz]
      · simp (disch := omega) [oI, oR, qI, qZ, qR, rc, lit, iI_add, iI_sub, iI_mul, iI_neg, iI_le, iI_lt, iI_eq, v_isW, v_inW, bz, HR, Sk_rw hS, fX5_setWeight, fX5_setWeight_b23, wx]
    have sw2 : fX12_weighNow N h 29 (iI x) (iI z) = some (iI (-2000000000), h) := by
      by_cases wx : 0 ≤ x ∧ x ≤ 19
      · have wz : ¬ (-9999 ≤ z ∧ z ≤ 9999) := fun q => w ⟨wx, q⟩
        simp (disch := omega) [oI, oR, qI, qZ, qR, rc, lit, iI_add, iI_sub, iI_mul, iI_neg, iI_le, iI_lt, iI_eq, v_isW, v_inW, bz, HR, Sk_rw hS, fX12_weighNow, fX12_weighNow_b23, wx, wz]
      · simp (disch := omega) [oI, oR, qI, qZ, qR, rc, lit, iI_add, iI_sub, iI_mul, iI_neg, iI_le, iI_lt, iI_eq, v_isW, v_inW, bz, HR, Sk_rw hS, fX12_weighNow, fX12_weighNow_b23, wx]
    refine ⟨iI (-2000000000), h, uI h 1243 29 (iI c), ?_, ?_, ⟨cw, fun j hj => by simpa [HR] using c1 j hj⟩, ⟨c, by simp [HR, b1], by simp [HR], b3.imp id (fun e => ⟨e, by rw [b1, e]⟩)⟩, Kq_rf.u _ _ _ (by decide)⟩
    · simp (disch := omega) [oI, oR, qI, qZ, qR, rc, lit, iI_add, iI_sub, iI_mul, iI_neg, iI_le, iI_lt, iI_eq, v_isW, v_inW, bz, HR, Sk_rw hS, fX11_weight, fX11_weight_b23, sw, dd]
    · rcases b3 with rfl | rfl
      · simp (disch := omega) [oI, oR, qI, qZ, qR, rc, lit, iI_add, iI_sub, iI_mul, iI_neg, iI_le, iI_lt, iI_eq, v_isW, v_inW, bz, HR, Sk_rw hS, fX12_weight, fX12_weight_b25, fX12_weight_b26, sw2, b2]
      · simp (disch := omega) [oI, oR, qI, qZ, qR, rc, lit, iI_add, iI_sub, iI_mul, iI_neg, iI_le, iI_lt, iI_eq, v_isW, v_inW, bz, HR, Sk_rw hS, fX12_weight, fX12_weight_b25, fX12_weight_b26, sw2, b2]
