/-! ===== whole numbers in ints ===== -/
def iI (z : Int) : Int32 := Int32.ofInt z
theorem iI_bmod {z : Int} (h1 : -2147483648 ≤ z) (h2 : z < 2147483648) : z.bmod (2 ^ 32) = z := by
  rw [Int.bmod_eq_of_le (by omega) (by omega)]
theorem iI_t {z : Int} (h1 : -2147483648 ≤ z) (h2 : z < 2147483648) : (iI z).toInt = z := by
  unfold iI
  rw [Int32.toInt_ofInt, iI_bmod h1 h2]
theorem iI_x (x : Int32) : iI x.toInt = x := Int32.ofInt_toInt x
theorem iI_rg (x : Int32) : -2147483648 ≤ x.toInt ∧ x.toInt < 2147483648 := by
  have h1 := Int32.le_toInt x
  have h2 := Int32.toInt_lt x
  omega
theorem iI_ex (x : Int32) : ∃ z : Int, -2147483648 ≤ z ∧ z < 2147483648 ∧ x = iI z := ⟨x.toInt, (iI_rg x).1, (iI_rg x).2, (iI_x x).symm⟩
theorem iI_add (a b : Int) : iI a + iI b = iI (a + b) := (Int32.ofInt_add a b).symm
theorem iI_sub (a b : Int) : iI a - iI b = iI (a - b) := (Int32.ofInt_sub a b).symm
theorem iI_mul (a b : Int) : iI a * iI b = iI (a * b) := (Int32.ofInt_mul a b).symm
theorem iI_neg (a : Int) : -iI a = iI (-a) := (Int32.ofInt_neg a).symm
theorem iI_le {a b : Int} (h1 : -2147483648 ≤ a) (h2 : a < 2147483648) (h3 : -2147483648 ≤ b) (h4 : b < 2147483648) : iI a ≤ iI b ↔ a ≤ b := by
  rw [Int32.le_iff_toInt_le, iI_t h1 h2, iI_t h3 h4]
theorem iI_lt {a b : Int} (h1 : -2147483648 ≤ a) (h2 : a < 2147483648) (h3 : -2147483648 ≤ b) (h4 : b < 2147483648) : iI a < iI b ↔ a < b := by
  rw [Int32.lt_iff_toInt_lt, iI_t h1 h2, iI_t h3 h4]
theorem iI_eq {a b : Int} (h1 : -2147483648 ≤ a) (h2 : a < 2147483648) (h3 : -2147483648 ≤ b) (h4 : b < 2147483648) : iI a = iI b ↔ a = b := by
  rw [← Int32.toInt_inj, iI_t h1 h2, iI_t h3 h4]
theorem lit (n : Nat) : (OfNat.ofNat n : Int32) = iI (OfNat.ofNat n : Int) := by
  show Int32.ofNat n = Int32.ofInt (n : Int)
  exact (Int32.ofInt_eq_ofNat).symm
theorem nI_iI (n : Nat) : nI n = iI (n : Int) := (Int32.ofInt_eq_ofNat).symm
theorem iI_div {a b : Int} (h1 : -2147483648 < a) (h2 : a < 2147483648) (h3 : -2147483648 ≤ b) (h4 : b < 2147483648) : iI a / iI b = iI (a.tdiv b) := by
  apply Int32.toInt_inj.1
  have hb : -2147483648 ≤ a.tdiv b ∧ a.tdiv b < 2147483648 := by
    have h5 : (a.tdiv b).natAbs ≤ a.natAbs := by
      rw [Int.natAbs_tdiv]
      exact Nat.div_le_self _ _
    omega
  rw [iI_t hb.1 hb.2, Int32.toInt_div, iI_t (by omega) h2, iI_t h3 h4, iI_bmod hb.1 hb.2]
theorem iI_cl {z : Int} (h1 : 0 ≤ z) (h2 : z < 2147483648) : (iI z).toNatClampNeg = z.toNat := by
  show (iI z).toInt.toNat = z.toNat
  rw [iI_t (by omega) h2]
theorem ixb_i {z : Int} {n : Nat} (h1 : 0 ≤ z) (h2 : z < n) (h3 : n < 2147483648) : ixb (iI z) n = true := by
  unfold ixb
  rw [iI_t (by omega) (by omega)]
  simp
  omega
/-! ===== reading behind writing ===== -/
theorem gI_uI (h : Hs) (f a : Nat) (v : Int32) (f' a' : Nat) : gI (uI h f a v) f' a' = if f' = f ∧ a' = a then v else gI h f' a' := rfl
theorem gR_uR (h : Hs) (f a : Nat) (v : Option Nat) (f' a' : Nat) : gR (uR h f a v) f' a' = if f' = f ∧ a' = a then v else gR h f' a' := rfl
theorem aI_uA (h : Hs) (a j : Nat) (v : Int32) (a' j' : Nat) : aI (uA h a j v) a' j' = if a' = a ∧ j' = j then v else aI h a' j' := rfl
theorem aR_uQ (h : Hs) (a j : Nat) (v : Option Nat) (a' j' : Nat) : aR (uQ h a j v) a' j' = if a' = a ∧ j' = j then v else aR h a' j' := rfl
/-- a whole array laid anew -/
def wA (h : Hs) (a : Nat) (f : Nat → Int32) : Hs := (h.1, h.2.1, fun a' j' => if a' = a then f j' else h.2.2.1 a' j', h.2.2.2)
theorem aI_wA (h : Hs) (a : Nat) (f : Nat → Int32) (a' j' : Nat) : aI (wA h a f) a' j' = if a' = a then f j' else aI h a' j' := rfl
theorem HR : (∀ (h : Hs) (f a : Nat) (v : Int32) (f' a' : Nat), gI (uI h f a v) f' a' = if f' = f ∧ a' = a then v else gI h f' a') ∧ (∀ (h : Hs) (f a : Nat) (v : Int32), gR (uI h f a v) = gR h) ∧ (∀ (h : Hs) (f a : Nat) (v : Int32), aI (uI h f a v) = aI h) ∧ (∀ (h : Hs) (f a : Nat) (v : Int32), aR (uI h f a v) = aR h) ∧ (∀ (h : Hs) (f a : Nat) (v : Int32), sh (uI h f a v) = sh h) ∧ (∀ (h : Hs) (f a : Nat) (v : Int32), sz (uI h f a v) = sz h)
  ∧ (∀ (h : Hs) (f a : Nat) (v : Option Nat), gI (uR h f a v) = gI h) ∧ (∀ (h : Hs) (f a : Nat) (v : Option Nat) (f' a' : Nat), gR (uR h f a v) f' a' = if f' = f ∧ a' = a then v else gR h f' a') ∧ (∀ (h : Hs) (f a : Nat) (v : Option Nat), aI (uR h f a v) = aI h) ∧ (∀ (h : Hs) (f a : Nat) (v : Option Nat), aR (uR h f a v) = aR h) ∧ (∀ (h : Hs) (f a : Nat) (v : Option Nat), sh (uR h f a v) = sh h) ∧ (∀ (h : Hs) (f a : Nat) (v : Option Nat), sz (uR h f a v) = sz h)
  ∧ (∀ (h : Hs) (a j : Nat) (v : Int32), gI (uA h a j v) = gI h) ∧ (∀ (h : Hs) (a j : Nat) (v : Int32), gR (uA h a j v) = gR h) ∧ (∀ (h : Hs) (a j : Nat) (v : Int32) (a' j' : Nat), aI (uA h a j v) a' j' = if a' = a ∧ j' = j then v else aI h a' j') ∧ (∀ (h : Hs) (a j : Nat) (v : Int32), aR (uA h a j v) = aR h) ∧ (∀ (h : Hs) (a j : Nat) (v : Int32), sh (uA h a j v) = sh h) ∧ (∀ (h : Hs) (a j : Nat) (v : Int32), sz (uA h a j v) = sz h)
  ∧ (∀ (h : Hs) (a j : Nat) (v : Option Nat), gI (uQ h a j v) = gI h) ∧ (∀ (h : Hs) (a j : Nat) (v : Option Nat), gR (uQ h a j v) = gR h) ∧ (∀ (h : Hs) (a j : Nat) (v : Option Nat), aI (uQ h a j v) = aI h) ∧ (∀ (h : Hs) (a j : Nat) (v : Option Nat) (a' j' : Nat), aR (uQ h a j v) a' j' = if a' = a ∧ j' = j then v else aR h a' j') ∧ (∀ (h : Hs) (a j : Nat) (v : Option Nat), sh (uQ h a j v) = sh h) ∧ (∀ (h : Hs) (a j : Nat) (v : Option Nat), sz (uQ h a j v) = sz h)
  ∧ (∀ (h : Hs) (a : Nat) (f : Nat → Int32), gI (wA h a f) = gI h) ∧ (∀ (h : Hs) (a : Nat) (f : Nat → Int32), gR (wA h a f) = gR h) ∧ (∀ (h : Hs) (a : Nat) (f : Nat → Int32) (a' j' : Nat), aI (wA h a f) a' j' = if a' = a then f j' else aI h a' j') ∧ (∀ (h : Hs) (a : Nat) (f : Nat → Int32), aR (wA h a f) = aR h) ∧ (∀ (h : Hs) (a : Nat) (f : Nat → Int32), sh (wA h a f) = sh h) ∧ (∀ (h : Hs) (a : Nat) (f : Nat → Int32), sz (wA h a f) = sz h) := by
  refine ⟨?_, ?_, ?_, ?_, ?_, ?_, ?_, ?_, ?_, ?_, ?_, ?_, ?_, ?_, ?_, ?_, ?_, ?_, ?_, ?_, ?_, ?_, ?_, ?_, ?_, ?_, ?_, ?_, ?_, ?_⟩ <;> intros <;> rfl
theorem uA_wA (h : Hs) (a j : Nat) (v : Int32) : uA h a j v = wA h a (fun k => if k = j then v else aI h a k) := by
  unfold uA wA aI
  congr 1
  congr 1
  congr 1
  funext a' j'
  by_cases e1 : a' = a
  · subst e1
    by_cases e2 : j' = j <;> simp [e2]
  · simp [e1]
theorem wA_wA (h : Hs) (a : Nat) (f g : Nat → Int32) : wA (wA h a f) a g = wA h a g := by
  unfold wA
  congr 1
  congr 1
  congr 1
  funext a' j'
  by_cases e1 : a' = a <;> simp [e1]
theorem wA_self (h : Hs) (a : Nat) : wA h a (aI h a) = h := by
  unfold wA aI
  have : (fun a' j' => if a' = a then h.2.2.1 a j' else h.2.2.1 a' j') = h.2.2.1 := by
    funext a' j'
    by_cases e1 : a' = a
    · subst e1; simp
    · simp [e1]
  rw [this]
theorem uA_wA2 (h : Hs) (a j : Nat) (f : Nat → Int32) (v : Int32) : uA (wA h a f) a j v = wA h a (fun k => if k = j then v else f k) := by
  rw [uA_wA, wA_wA]
  congr 1
  funext k
  simp [aI_wA]
theorem lp_0 {α : Type} (z : α) (b : α → α) : lp z b 0 = z := rfl
theorem lp_s {α : Type} (z : α) (b : α → α) (n : Nat) : lp z b (n + 1) = b (lp z b n) := rfl
/-! ===== the small leaves ===== -/
theorem v_isWithin (N : Nat) (h : Hs) (x a b : Int32) : fX11_isWithin N h x a b = some (if a ≤ x ∧ x ≤ b then 1 else 0, h) := by
  unfold fX11_isWithin fX11_isWithin_b14 fX11_isWithin_b15
  by_cases h1 : x < a
  · have h2 : ¬ a ≤ x := Int32.not_le.mpr h1
    simp [h1, h2, zc]
  · have h2 : a ≤ x := Int32.not_lt.mp h1
    by_cases h3 : b < x
    · have h4 : ¬ x ≤ b := Int32.not_le.mpr h3
      simp [h1, h3, h4, zc]
    · have h4 : x ≤ b := Int32.not_lt.mp h3
      simp [h1, h2, h3, h4, zc]
