/-! ===== division toward 0, by 100 and 10 ===== -/
theorem iI_dv {a b : Int} (h1 : -2147483648 ≤ a) (h2 : a < 2147483648) (h3 : 2 ≤ b) (h4 : b < 2147483648) : iI a / iI b = iI (a.tdiv b) := by
  by_cases ha : a = -2147483648
  · subst ha
    apply Int32.toInt_inj.1
    have e0 : ((-2147483648 : Int).tdiv b) = -((2147483648 : Int) / b) := by
      rw [show (-2147483648 : Int) = -(2147483648 : Int) from rfl, Int.neg_tdiv, Int.tdiv_eq_ediv_of_nonneg (by omega)]
    have e1 : 0 ≤ (2147483648 : Int) / b := Int.ediv_nonneg (by omega) (by omega)
    have e2 : (2147483648 : Int) / b ≤ 2147483648 := Int.ediv_le_self _ (by omega)
    rw [iI_t (by omega) (by omega), Int32.toInt_div, iI_t (by omega) (by omega), iI_t (by omega) h4, iI_bmod (by omega) (by omega)]
  · exact iI_div (by omega) h2 (by omega) h4
theorem td_cases (a : Int) (b : Int) : (0 ≤ a ∧ a.tdiv b = a / b) ∨ (a < 0 ∧ a.tdiv b = -((-a) / b)) := by
  rcases Int.lt_or_le a 0 with q | q
  · refine Or.inr ⟨q, ?_⟩
    have e : a.tdiv b = -((-a).tdiv b) := by rw [Int.neg_tdiv]; omega
    rw [e, Int.tdiv_eq_ediv_of_nonneg (by omega)]
  · exact Or.inl ⟨q, Int.tdiv_eq_ediv_of_nonneg q⟩
/-! ===== new cells ===== -/
theorem gI_nw {h : Hs} {k : Nat × Nat} {f a : Nat} (ha : a < sz h) : gI (nw h k) f a = gI h f a := by
  have e : ¬ a = sz h := by omega
  simp [gI, nw, e]
theorem gR_nw {h : Hs} {k : Nat × Nat} {f a : Nat} (ha : a < sz h) : gR (nw h k) f a = gR h f a := by
  have e : ¬ a = sz h := by omega
  simp [gR, nw, e]
theorem aI_nw {h : Hs} {k : Nat × Nat} {a : Nat} (ha : a < sz h) : aI (nw h k) a = aI h a := by
  have e : ¬ a = sz h := by omega
  funext j
  simp [aI, nw, e]
theorem aR_nw {h : Hs} {k : Nat × Nat} {a : Nat} (ha : a < sz h) : aR (nw h k) a = aR h a := by
  have e : ¬ a = sz h := by omega
  funext j
  simp [aR, nw, e]
theorem sh_nw {h : Hs} {k : Nat × Nat} {a : Nat} (ha : a < sz h) : sh (nw h k) a = sh h a := by
  have e : ¬ a = sz h := by omega
  simp [sh, nw, e]
theorem sh_nwS (h : Hs) (k : Nat × Nat) : sh (nw h k) (sz h) = k := by simp [sh, nw]
theorem sz_nw (h : Hs) (k : Nat × Nat) : sz (nw h k) = sz h + 1 := rfl
theorem gI_nwS (h : Hs) (k : Nat × Nat) (f : Nat) : gI (nw h k) f (sz h) = 0 := by simp [gI, nw]
theorem gR_nwS (h : Hs) (k : Nat × Nat) (f : Nat) : gR (nw h k) f (sz h) = none := by simp [gR, nw]
theorem aI_nwS (h : Hs) (k : Nat × Nat) (j : Nat) : aI (nw h k) (sz h) j = 0 := by simp [aI, nw]
/-! ===== what a call leaves as it was, where it may make cells and write references ===== -/
def Ke (F A FR AQ : List Nat) (h h2 : Hs) : Prop := (∀ f a, f ∉ F → a < sz h → gI h2 f a = gI h f a) ∧ (∀ a, a ∉ A → a < sz h → aI h2 a = aI h a) ∧ (∀ f a, f ∉ FR → a < sz h → gR h2 f a = gR h f a) ∧ (∀ a, a ∉ AQ → a < sz h → aR h2 a = aR h a) ∧ (∀ a, a < sz h → sh h2 a = sh h a) ∧ sz h ≤ sz h2
theorem Ke_rf {F A FR AQ : List Nat} {h : Hs} : Ke F A FR AQ h h := ⟨fun _ _ _ _ => rfl, fun _ _ _ => rfl, fun _ _ _ _ => rfl, fun _ _ _ => rfl, fun _ _ => rfl, Nat.le_refl _⟩
theorem Ke.tr {F A FR AQ : List Nat} {h h1 h2 : Hs} (k : Ke F A FR AQ h h1) (k2 : Ke F A FR AQ h1 h2) : Ke F A FR AQ h h2 := by
  obtain ⟨a1, a2, a3, a4, a5, a6⟩ := k
  obtain ⟨b1, b2, b3, b4, b5, b6⟩ := k2
  refine ⟨fun f a q z => ?_, fun a q z => ?_, fun f a q z => ?_, fun a q z => ?_, fun a z => ?_, by omega⟩
  · rw [b1 f a q (by omega), a1 f a q z]
  · rw [b2 a q (by omega), a2 a q z]
  · rw [b3 f a q (by omega), a3 f a q z]
  · rw [b4 a q (by omega), a4 a q z]
  · rw [b5 a (by omega), a5 a z]
theorem Kq.e {F A FR AQ : List Nat} {h h2 : Hs} (k : Kq F A h h2) : Ke F A FR AQ h h2 := ⟨fun f a q _ => k.1 f a q, fun a q _ => k.2.1 a q, fun f a _ _ => by rw [k.2.2.1], fun a _ _ => by rw [k.2.2.2.1], fun a _ => by rw [k.2.2.2.2.1], by rw [k.2.2.2.2.2]; exact Nat.le_refl _⟩
theorem Ke.u {F A FR AQ : List Nat} {h h1 : Hs} (k : Ke F A FR AQ h h1) (f a : Nat) (v : Int32) (hf : f ∈ F) : Ke F A FR AQ h (uI h1 f a v) := k.tr (((Kq_rf (F := F) (A := A)).u f a v hf).e)
theorem Ke.b {F A FR AQ : List Nat} {h h1 : Hs} (k : Ke F A FR AQ h h1) (a j : Nat) (v : Int32) (ha : a ∈ A) : Ke F A FR AQ h (uA h1 a j v) := k.tr (((Kq_rf (F := F) (A := A)).b a j v ha).e)
theorem Ke.a {F A FR AQ : List Nat} {h h1 : Hs} (k : Ke F A FR AQ h h1) (a : Nat) (f : Nat → Int32) (ha : a ∈ A) : Ke F A FR AQ h (wA h1 a f) := k.tr (((Kq_rf (F := F) (A := A)).a a f ha).e)
theorem Ke.n {F A FR AQ : List Nat} {h h1 : Hs} (k : Ke F A FR AQ h h1) (kd : Nat × Nat) : Ke F A FR AQ h (nw h1 kd) := k.tr ⟨fun f a _ z => gI_nw z, fun a _ z => aI_nw z, fun f a _ z => gR_nw z, fun a _ z => aR_nw z, fun a z => sh_nw z, Nat.le_succ _⟩
theorem Ke.r {F A FR AQ : List Nat} {h h1 : Hs} (k : Ke F A FR AQ h h1) (f a : Nat) (v : Option Nat) (hf : f ∈ FR) : Ke F A FR AQ h (uR h1 f a v) := k.tr ⟨fun _ _ _ _ => rfl, fun _ _ _ => rfl, fun f' a' q _ => (by have e : f' ≠ f := fun z => q (by rw [z]; exact hf); simp [HR, e]), fun _ _ _ => rfl, fun _ _ => rfl, Nat.le_refl _⟩
theorem Ke.q {F A FR AQ : List Nat} {h h1 : Hs} (k : Ke F A FR AQ h h1) (a j : Nat) (v : Option Nat) (ha : a ∈ AQ) : Ke F A FR AQ h (uQ h1 a j v) := k.tr ⟨fun _ _ _ _ => rfl, fun _ _ _ => rfl, fun _ _ _ _ => rfl, fun a' q _ => (by have e : a' ≠ a := fun z => q (by rw [z]; exact ha); funext j'; simp [HR, e]), fun _ _ => rfl, Nat.le_refl _⟩
theorem Sk.e {F A FR AQ : List Nat} {h h2 : Hs} (hS : Sk h) (hz : 70 ≤ sz h) (k : Ke F A FR AQ h h2) (hF : ∀ f ∈ FR, f = 909 ∨ f = 911 ∨ f = 405 ∨ f = 409 ∨ f = 401 ∨ f = 906) : Sk h2 := by
  obtain ⟨k1, k2, k3, k4, k5, k6⟩ := k
  have g : ∀ f a, f ≠ 909 → f ≠ 911 → f ≠ 405 → f ≠ 409 → f ≠ 401 → f ≠ 906 → a < 70 → gR h2 f a = gR h f a := fun f a q1 q2 q3 q4 q5 q6 ha => k3 f a (fun z => by have := hF f z; omega) (by omega)
  have g5 : ∀ a, a < 70 → sh h2 a = sh h a := fun a ha => k5 a (by omega)
  unfold Sk at hS ⊢
  simp (disch := decide) only [g5, g]
  exact hS
theorem ICand.e {F A FR AQ : List Nat} {h h2 : Hs} (hC : ICand h) (hz : 70 ≤ sz h) (k : Ke F A FR AQ h h2) (hF : ∀ f ∈ FCand, f ∉ F) (hA : ∀ a ∈ ACand, a ∉ A) : ICand h2 := by
  obtain ⟨n, T, ln, lt, ⟨c1, c2, c3, c4⟩, c5, c6⟩ := hC
  refine ⟨n, T, ln, lt, ⟨?_, ?_, ?_, ?_⟩, fun i hi => ?_, c6⟩
  · rw [k.1 _ _ (hF _ (by decide)) (by omega)]; exact c1
  · rw [k.1 _ _ (hF _ (by decide)) (by omega)]; exact c2
  · rw [k.1 _ _ (hF _ (by decide)) (by omega)]; exact c3
  · rw [k.1 _ _ (hF _ (by decide)) (by omega)]; exact c4
  · rw [k.2.1 _ (hA 7 (by decide)) (by omega), k.2.1 _ (hA 8 (by decide)) (by omega), k.2.1 _ (hA 62 (by decide)) (by omega), k.2.1 _ (hA 63 (by decide)) (by omega)]
    exact c5 i hi
