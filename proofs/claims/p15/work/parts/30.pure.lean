/-! ===== whole numbers in ints ===== -/
def iI (z : Int) : Int32 := Int32.ofInt z
theorem iI_bmod {z : Int} (h1 : -2147483648 ≤ z) (h2 : z < 2147483648) : z.bmod (2 ^ 32) = z := by
  rw [Int.bmod_eq_of_le (by omega) (by omega)]
theorem iI_t {z : Int} (h1 : -2147483648 ≤ z) (h2 : z < 2147483648) : (iI z).toInt = z := by
  unfold iI
  rw [Int32.toInt_ofInt, iI_bmod h1 h2]
theorem iI_x (x : Int32) : iI x.toInt = x := Int32.ofInt_toInt x
theorem iI_rg (x : Int32) : -2147483648 ≤ x.toInt ∧ x.toInt < 2147483648 := by
  have h1 := Int32.le_toInt x
  have h2 := Int32.toInt_lt x
  omega
theorem iI_ex (x : Int32) : ∃ z : Int, -2147483648 ≤ z ∧ z < 2147483648 ∧ x = iI z := ⟨x.toInt, (iI_rg x).1, (iI_rg x).2, (iI_x x).symm⟩
theorem iI_add (a b : Int) : iI a + iI b = iI (a + b) := (Int32.ofInt_add a b).symm
theorem iI_sub (a b : Int) : iI a - iI b = iI (a - b) := (Int32.ofInt_sub a b).symm
theorem iI_mul (a b : Int) : iI a * iI b = iI (a * b) := (Int32.ofInt_mul a b).symm
theorem iI_neg (a : Int) : -iI a = iI (-a) := (Int32.ofInt_neg a).symm
theorem iI_le {a b : Int} (h1 : -2147483648 ≤ a) (h2 : a < 2147483648) (h3 : -2147483648 ≤ b) (h4 : b < 2147483648) : iI a ≤ iI b ↔ a ≤ b := by
  rw [Int32.le_iff_toInt_le, iI_t h1 h2, iI_t h3 h4]
theorem iI_lt {a b : Int} (h1 : -2147483648 ≤ a) (h2 : a < 2147483648) (h3 : -2147483648 ≤ b) (h4 : b < 2147483648) : iI a < iI b ↔ a < b := by
  rw [Int32.lt_iff_toInt_lt, iI_t h1 h2, iI_t h3 h4]
theorem iI_eq {a b : Int} (h1 : -2147483648 ≤ a) (h2 : a < 2147483648) (h3 : -2147483648 ≤ b) (h4 : b < 2147483648) : iI a = iI b ↔ a = b := by
  rw [← Int32.toInt_inj, iI_t h1 h2, iI_t h3 h4]
theorem lit (n : Nat) : (OfNat.ofNat n : Int32) = iI (OfNat.ofNat n : Int) := by
  show Int32.ofNat n = Int32.ofInt (n : Int)
  exact (Int32.ofInt_eq_ofNat).symm
theorem nI_iI (n : Nat) : nI n = iI (n : Int) := (Int32.ofInt_eq_ofNat).symm
theorem iI_div {a b : Int} (h1 : -2147483648 < a) (h2 : a < 2147483648) (h3 : -2147483648 ≤ b) (h4 : b < 2147483648) : iI a / iI b = iI (a.tdiv b) := by
  apply Int32.toInt_inj.1
  have hb : -2147483648 ≤ a.tdiv b ∧ a.tdiv b < 2147483648 := by
    have h5 : (a.tdiv b).natAbs ≤ a.natAbs := by
      rw [Int.natAbs_tdiv]
      exact Nat.div_le_self _ _
    omega
  rw [iI_t hb.1 hb.2, Int32.toInt_div, iI_t (by omega) h2, iI_t h3 h4, iI_bmod hb.1 hb.2]
theorem iI_cl {z : Int} (h1 : 0 ≤ z) (h2 : z < 2147483648) : (iI z).toNatClampNeg = z.toNat := by
  show (iI z).toInt.toNat = z.toNat
  rw [iI_t (by omega) h2]
theorem ixb_i {z : Int} {n : Nat} (h1 : 0 ≤ z) (h2 : z < n) (h3 : n < 2147483648) : ixb (iI z) n = true := by
  unfold ixb
  rw [iI_t (by omega) (by omega)]
  simp
  omega
/-! ===== reading behind writing ===== -/
theorem gI_uI (h : Hs) (f a : Nat) (v : Int32) (f' a' : Nat) : gI (uI h f a v) f' a' = if f' = f ∧ a' = a then v else gI h f' a' := rfl
theorem gR_uR (h : Hs) (f a : Nat) (v : Option Nat) (f' a' : Nat) : gR (uR h f a v) f' a' = if f' = f ∧ a' = a then v else gR h f' a' := rfl
theorem aI_uA (h : Hs) (a j : Nat) (v : Int32) (a' j' : Nat) : aI (uA h a j v) a' j' = if a' = a ∧ j' = j then v else aI h a' j' := rfl
theorem aR_uQ (h : Hs) (a j : Nat) (v : Option Nat) (a' j' : Nat) : aR (uQ h a j v) a' j' = if a' = a ∧ j' = j then v else aR h a' j' := rfl
/-- a whole array laid anew -/
def wA (h : Hs) (a : Nat) (f : Nat → Int32) : Hs := (h.1, h.2.1, fun a' j' => if a' = a then f j' else h.2.2.1 a' j', h.2.2.2)
theorem aI_wA (h : Hs) (a : Nat) (f : Nat → Int32) (a' j' : Nat) : aI (wA h a f) a' j' = if a' = a then f j' else aI h a' j' := rfl
theorem HR : (∀ (h : Hs) (f a : Nat) (v : Int32) (f' a' : Nat), gI (uI h f a v) f' a' = if f' = f ∧ a' = a then v else gI h f' a') ∧ (∀ (h : Hs) (f a : Nat) (v : Int32), gR (uI h f a v) = gR h) ∧ (∀ (h : Hs) (f a : Nat) (v : Int32), aI (uI h f a v) = aI h) ∧ (∀ (h : Hs) (f a : Nat) (v : Int32), aR (uI h f a v) = aR h) ∧ (∀ (h : Hs) (f a : Nat) (v : Int32), sh (uI h f a v) = sh h) ∧ (∀ (h : Hs) (f a : Nat) (v : Int32), sz (uI h f a v) = sz h)
  ∧ (∀ (h : Hs) (f a : Nat) (v : Option Nat), gI (uR h f a v) = gI h) ∧ (∀ (h : Hs) (f a : Nat) (v : Option Nat) (f' a' : Nat), gR (uR h f a v) f' a' = if f' = f ∧ a' = a then v else gR h f' a') ∧ (∀ (h : Hs) (f a : Nat) (v : Option Nat), aI (uR h f a v) = aI h) ∧ (∀ (h : Hs) (f a : Nat) (v : Option Nat), aR (uR h f a v) = aR h) ∧ (∀ (h : Hs) (f a : Nat) (v : Option Nat), sh (uR h f a v) = sh h) ∧ (∀ (h : Hs) (f a : Nat) (v : Option Nat), sz (uR h f a v) = sz h)
  ∧ (∀ (h : Hs) (a j : Nat) (v : Int32), gI (uA h a j v) = gI h) ∧ (∀ (h : Hs) (a j : Nat) (v : Int32), gR (uA h a j v) = gR h) ∧ (∀ (h : Hs) (a j : Nat) (v : Int32) (a' j' : Nat), aI (uA h a j v) a' j' = if a' = a ∧ j' = j then v else aI h a' j') ∧ (∀ (h : Hs) (a j : Nat) (v : Int32), aR (uA h a j v) = aR h) ∧ (∀ (h : Hs) (a j : Nat) (v : Int32), sh (uA h a j v) = sh h) ∧ (∀ (h : Hs) (a j : Nat) (v : Int32), sz (uA h a j v) = sz h)
  ∧ (∀ (h : Hs) (a j : Nat) (v : Option Nat), gI (uQ h a j v) = gI h) ∧ (∀ (h : Hs) (a j : Nat) (v : Option Nat), gR (uQ h a j v) = gR h) ∧ (∀ (h : Hs) (a j : Nat) (v : Option Nat), aI (uQ h a j v) = aI h) ∧ (∀ (h : Hs) (a j : Nat) (v : Option Nat) (a' j' : Nat), aR (uQ h a j v) a' j' = if a' = a ∧ j' = j then v else aR h a' j') ∧ (∀ (h : Hs) (a j : Nat) (v : Option Nat), sh (uQ h a j v) = sh h) ∧ (∀ (h : Hs) (a j : Nat) (v : Option Nat), sz (uQ h a j v) = sz h)
  ∧ (∀ (h : Hs) (a : Nat) (f : Nat → Int32), gI (wA h a f) = gI h) ∧ (∀ (h : Hs) (a : Nat) (f : Nat → Int32), gR (wA h a f) = gR h) ∧ (∀ (h : Hs) (a : Nat) (f : Nat → Int32) (a' j' : Nat), aI (wA h a f) a' j' = if a' = a then f j' else aI h a' j') ∧ (∀ (h : Hs) (a : Nat) (f : Nat → Int32), aR (wA h a f) = aR h) ∧ (∀ (h : Hs) (a : Nat) (f : Nat → Int32), sh (wA h a f) = sh h) ∧ (∀ (h : Hs) (a : Nat) (f : Nat → Int32), sz (wA h a f) = sz h) := by
  refine ⟨?_, ?_, ?_, ?_, ?_, ?_, ?_, ?_, ?_, ?_, ?_, ?_, ?_, ?_, ?_, ?_, ?_, ?_, ?_, ?_, ?_, ?_, ?_, ?_, ?_, ?_, ?_, ?_, ?_, ?_⟩ <;> intros <;> rfl
theorem uA_wA (h : Hs) (a j : Nat) (v : Int32) : uA h a j v = wA h a (fun k => if k = j then v else aI h a k) := by
  unfold uA wA aI
  congr 1
  congr 1
  congr 1
  funext a' j'
  by_cases e1 : a' = a
  · subst e1
    by_cases e2 : j' = j <;> simp [e2]
  · simp [e1]
theorem wA_wA (h : Hs) (a : Nat) (f g : Nat → Int32) : wA (wA h a f) a g = wA h a g := by
  unfold wA
  congr 1
  congr 1
  congr 1
  funext a' j'
  by_cases e1 : a' = a <;> simp [e1]
theorem wA_self (h : Hs) (a : Nat) : wA h a (aI h a) = h := by
  unfold wA aI
  have : (fun a' j' => if a' = a then h.2.2.1 a j' else h.2.2.1 a' j') = h.2.2.1 := by
    funext a' j'
    by_cases e1 : a' = a
    · subst e1; simp
    · simp [e1]
  rw [this]
theorem uA_wA2 (h : Hs) (a j : Nat) (f : Nat → Int32) (v : Int32) : uA (wA h a f) a j v = wA h a (fun k => if k = j then v else f k) := by
  rw [uA_wA, wA_wA]
  congr 1
  funext k
  simp [aI_wA]
theorem lp_0 {α : Type} (z : α) (b : α → α) : lp z b 0 = z := rfl
theorem lp_s {α : Type} (z : α) (b : α → α) (n : Nat) : lp z b (n + 1) = b (lp z b n) := rfl
/-! ===== the small leaves ===== -/
theorem v_isWithin (N : Nat) (h : Hs) (x a b : Int32) : fX11_isWithin N h x a b = some (if a ≤ x ∧ x ≤ b then 1 else 0, h) := by
  unfold fX11_isWithin fX11_isWithin_b14 fX11_isWithin_b15
  by_cases h1 : x < a
  · have h2 : ¬ a ≤ x := Int32.not_le.mpr h1
    simp [h1, h2, zc]
  · have h2 : a ≤ x := Int32.not_lt.mp h1
    by_cases h3 : b < x
    · have h4 : ¬ x ≤ b := Int32.not_le.mpr h3
      simp [h1, h3, h4, zc]
    · have h4 : x ≤ b := Int32.not_lt.mp h3
      simp [h1, h2, h3, h4, zc]
/-! ===== the skeleton: cells made at the start, and the references that nobody writes again ===== -/
def Sk (h : Hs) : Prop := sh h 0 = (11, 0) ∧ sh h 1 = (8, 0) ∧ sh h 2 = (20, 120) ∧ sh h 3 = (20, 30) ∧ sh h 4 = (20, 30) ∧ sh h 5 = (20, 30) ∧ sh h 6 = (0, 0) ∧ sh h 7 = (20, 60) ∧ sh h 8 = (20, 60) ∧ sh h 9 = (6, 0) ∧ sh h 10 = (26, 12) ∧ sh h 11 = (26, 6) ∧ sh h 12 = (20, 6) ∧ sh h 13 = (20, 4096) ∧ sh h 14 = (5, 0) ∧ sh h 15 = (23, 40) ∧ sh h 16 = (24, 20) ∧ sh h 17 = (25, 40) ∧ sh h 18 = (20, 20) ∧ sh h 19 = (20, 20) ∧ sh h 20 = (20, 80) ∧ sh h 21 = (20, 16) ∧ sh h 22 = (10, 0) ∧ sh h 23 = (7, 0) ∧ sh h 24 = (7, 0) ∧ sh h 25 = (1, 0) ∧ sh h 26 = (20, 40) ∧ sh h 27 = (20, 40) ∧ sh h 28 = (20, 125) ∧ sh h 29 = (12, 0) ∧ sh h 30 = (20, 40) ∧ sh h 31 = (20, 40) ∧ sh h 32 = (20, 40) ∧ sh h 33 = (20, 40) ∧ sh h 34 = (20, 40) ∧ sh h 35 = (20, 40) ∧ sh h 36 = (20, 40) ∧ sh h 37 = (20, 20) ∧ sh h 38 = (20, 40) ∧ sh h 39 = (20, 40) ∧ sh h 40 = (20, 40) ∧ sh h 41 = (20, 40) ∧ sh h 42 = (20, 40) ∧ sh h 43 = (20, 40) ∧ sh h 44 = (21, 40) ∧ sh h 45 = (20, 20) ∧ sh h 46 = (20, 16) ∧ sh h 47 = (20, 80) ∧ sh h 48 = (20, 400) ∧ sh h 49 = (20, 40) ∧ sh h 50 = (20, 40) ∧ sh h 51 = (20, 40) ∧ sh h 52 = (20, 2197) ∧ sh h 53 = (22, 120) ∧ sh h 54 = (20, 60) ∧ sh h 55 = (20, 60) ∧ sh h 56 = (20, 60) ∧ sh h 57 = (20, 40) ∧ sh h 58 = (20, 40) ∧ sh h 59 = (20, 40) ∧ sh h 60 = (20, 40) ∧ sh h 61 = (20, 20) ∧ sh h 62 = (20, 60) ∧ sh h 63 = (20, 60) ∧ sh h 64 = (20, 12) ∧ sh h 65 = (20, 12) ∧ sh h 66 = (20, 6) ∧ sh h 67 = (20, 6) ∧ sh h 68 = (20, 6) ∧ sh h 69 = (20, 6) ∧ gR h 0 6 = some 7 ∧ gR h 1 6 = some 8 ∧ gR h 100 25 = some 14 ∧ gR h 101 25 = some 26 ∧ gR h 102 25 = some 27 ∧ gR h 103 25 = some 28 ∧ gR h 500 14 = some 15 ∧ gR h 501 14 = some 16 ∧ gR h 502 14 = some 17 ∧ gR h 503 14 = some 18 ∧ gR h 504 14 = some 19 ∧ gR h 505 14 = some 20 ∧ gR h 506 14 = some 21 ∧ gR h 600 9 = some 10 ∧ gR h 601 9 = some 11 ∧ gR h 602 9 = some 12 ∧ gR h 603 9 = some 13 ∧ gR h 800 1 = some 2 ∧ gR h 801 1 = some 3 ∧ gR h 802 1 = some 4 ∧ gR h 803 1 = some 5 ∧ gR h 1000 22 = some 14 ∧ gR h 1001 22 = some 23 ∧ gR h 1002 22 = some 24 ∧ gR h 1100 0 = some 14 ∧ gR h 1101 0 = some 22 ∧ gR h 1102 0 = some 25 ∧ gR h 1103 0 = some 1 ∧ gR h 1104 0 = some 6 ∧ gR h 1105 0 = some 9 ∧ gR h 1202 29 = some 30 ∧ gR h 1203 29 = some 31 ∧ gR h 1204 29 = some 32 ∧ gR h 1205 29 = some 33 ∧ gR h 1206 29 = some 34 ∧ gR h 1207 29 = some 35 ∧ gR h 1208 29 = some 36 ∧ gR h 1210 29 = some 37 ∧ gR h 1212 29 = some 38 ∧ gR h 1213 29 = some 39 ∧ gR h 1214 29 = some 40 ∧ gR h 1215 29 = some 41 ∧ gR h 1216 29 = some 42 ∧ gR h 1217 29 = some 43 ∧ gR h 1218 29 = some 44 ∧ gR h 1219 29 = some 45 ∧ gR h 1226 29 = some 46 ∧ gR h 1227 29 = some 47 ∧ gR h 1228 29 = some 48 ∧ gR h 1231 29 = some 49 ∧ gR h 1232 29 = some 50 ∧ gR h 1233 29 = some 51 ∧ gR h 1235 29 = some 52 ∧ gR h 1236 29 = some 53 ∧ gR h 1240 29 = some 54 ∧ gR h 1241 29 = some 55 ∧ gR h 1242 29 = some 56 ∧ gR h 1244 29 = some 57 ∧ gR h 1245 29 = some 58 ∧ gR h 1246 29 = some 59 ∧ gR h 1247 29 = some 60 ∧ gR h 1248 29 = some 61 ∧ gR h 1254 29 = some 62 ∧ gR h 1255 29 = some 63 ∧ gR h 1257 29 = some 64 ∧ gR h 1258 29 = some 65 ∧ gR h 1260 29 = some 66 ∧ gR h 1261 29 = some 67 ∧ gR h 1262 29 = some 68 ∧ gR h 1264 29 = some 69
theorem Sk_keep {h h2 : Hs} (hS : Sk h) (h1 : ∀ a, a < 70 → sh h2 a = sh h a) (h3 : ∀ f a, a < 70 → gR h2 f a = gR h f a) : Sk h2 := by
  unfold Sk at hS ⊢
  simp (disch := decide) only [h1, h3]
  exact hS
theorem Sk_rw {h : Hs} (hS : Sk h) : sh h 0 = (11, 0) ∧ sh h 1 = (8, 0) ∧ sh h 2 = (20, 120) ∧ sh h 3 = (20, 30) ∧ sh h 4 = (20, 30) ∧ sh h 5 = (20, 30) ∧ sh h 6 = (0, 0) ∧ sh h 7 = (20, 60) ∧ sh h 8 = (20, 60) ∧ sh h 9 = (6, 0) ∧ sh h 10 = (26, 12) ∧ sh h 11 = (26, 6) ∧ sh h 12 = (20, 6) ∧ sh h 13 = (20, 4096) ∧ sh h 14 = (5, 0) ∧ sh h 15 = (23, 40) ∧ sh h 16 = (24, 20) ∧ sh h 17 = (25, 40) ∧ sh h 18 = (20, 20) ∧ sh h 19 = (20, 20) ∧ sh h 20 = (20, 80) ∧ sh h 21 = (20, 16) ∧ sh h 22 = (10, 0) ∧ sh h 23 = (7, 0) ∧ sh h 24 = (7, 0) ∧ sh h 25 = (1, 0) ∧ sh h 26 = (20, 40) ∧ sh h 27 = (20, 40) ∧ sh h 28 = (20, 125) ∧ sh h 29 = (12, 0) ∧ sh h 30 = (20, 40) ∧ sh h 31 = (20, 40) ∧ sh h 32 = (20, 40) ∧ sh h 33 = (20, 40) ∧ sh h 34 = (20, 40) ∧ sh h 35 = (20, 40) ∧ sh h 36 = (20, 40) ∧ sh h 37 = (20, 20) ∧ sh h 38 = (20, 40) ∧ sh h 39 = (20, 40) ∧ sh h 40 = (20, 40) ∧ sh h 41 = (20, 40) ∧ sh h 42 = (20, 40) ∧ sh h 43 = (20, 40) ∧ sh h 44 = (21, 40) ∧ sh h 45 = (20, 20) ∧ sh h 46 = (20, 16) ∧ sh h 47 = (20, 80) ∧ sh h 48 = (20, 400) ∧ sh h 49 = (20, 40) ∧ sh h 50 = (20, 40) ∧ sh h 51 = (20, 40) ∧ sh h 52 = (20, 2197) ∧ sh h 53 = (22, 120) ∧ sh h 54 = (20, 60) ∧ sh h 55 = (20, 60) ∧ sh h 56 = (20, 60) ∧ sh h 57 = (20, 40) ∧ sh h 58 = (20, 40) ∧ sh h 59 = (20, 40) ∧ sh h 60 = (20, 40) ∧ sh h 61 = (20, 20) ∧ sh h 62 = (20, 60) ∧ sh h 63 = (20, 60) ∧ sh h 64 = (20, 12) ∧ sh h 65 = (20, 12) ∧ sh h 66 = (20, 6) ∧ sh h 67 = (20, 6) ∧ sh h 68 = (20, 6) ∧ sh h 69 = (20, 6) ∧ gR h 0 6 = some 7 ∧ gR h 1 6 = some 8 ∧ gR h 100 25 = some 14 ∧ gR h 101 25 = some 26 ∧ gR h 102 25 = some 27 ∧ gR h 103 25 = some 28 ∧ gR h 500 14 = some 15 ∧ gR h 501 14 = some 16 ∧ gR h 502 14 = some 17 ∧ gR h 503 14 = some 18 ∧ gR h 504 14 = some 19 ∧ gR h 505 14 = some 20 ∧ gR h 506 14 = some 21 ∧ gR h 600 9 = some 10 ∧ gR h 601 9 = some 11 ∧ gR h 602 9 = some 12 ∧ gR h 603 9 = some 13 ∧ gR h 800 1 = some 2 ∧ gR h 801 1 = some 3 ∧ gR h 802 1 = some 4 ∧ gR h 803 1 = some 5 ∧ gR h 1000 22 = some 14 ∧ gR h 1001 22 = some 23 ∧ gR h 1002 22 = some 24 ∧ gR h 1100 0 = some 14 ∧ gR h 1101 0 = some 22 ∧ gR h 1102 0 = some 25 ∧ gR h 1103 0 = some 1 ∧ gR h 1104 0 = some 6 ∧ gR h 1105 0 = some 9 ∧ gR h 1202 29 = some 30 ∧ gR h 1203 29 = some 31 ∧ gR h 1204 29 = some 32 ∧ gR h 1205 29 = some 33 ∧ gR h 1206 29 = some 34 ∧ gR h 1207 29 = some 35 ∧ gR h 1208 29 = some 36 ∧ gR h 1210 29 = some 37 ∧ gR h 1212 29 = some 38 ∧ gR h 1213 29 = some 39 ∧ gR h 1214 29 = some 40 ∧ gR h 1215 29 = some 41 ∧ gR h 1216 29 = some 42 ∧ gR h 1217 29 = some 43 ∧ gR h 1218 29 = some 44 ∧ gR h 1219 29 = some 45 ∧ gR h 1226 29 = some 46 ∧ gR h 1227 29 = some 47 ∧ gR h 1228 29 = some 48 ∧ gR h 1231 29 = some 49 ∧ gR h 1232 29 = some 50 ∧ gR h 1233 29 = some 51 ∧ gR h 1235 29 = some 52 ∧ gR h 1236 29 = some 53 ∧ gR h 1240 29 = some 54 ∧ gR h 1241 29 = some 55 ∧ gR h 1242 29 = some 56 ∧ gR h 1244 29 = some 57 ∧ gR h 1245 29 = some 58 ∧ gR h 1246 29 = some 59 ∧ gR h 1247 29 = some 60 ∧ gR h 1248 29 = some 61 ∧ gR h 1254 29 = some 62 ∧ gR h 1255 29 = some 63 ∧ gR h 1257 29 = some 64 ∧ gR h 1258 29 = some 65 ∧ gR h 1260 29 = some 66 ∧ gR h 1261 29 = some 67 ∧ gR h 1262 29 = some 68 ∧ gR h 1264 29 = some 69 := hS
theorem v_in (N : Nat) (h : Hs) (x a b : Int32) : fX12_in N h x a b = some (if a ≤ x ∧ x ≤ b then 1 else 0, h) := by
  unfold fX12_in fX12_in_b14 fX12_in_b15
  by_cases h1 : x < a
  · have h2 : ¬ a ≤ x := Int32.not_le.mpr h1
    simp [h1, h2, zc]
  · have h2 : a ≤ x := Int32.not_lt.mp h1
    by_cases h3 : b < x
    · have h4 : ¬ x ≤ b := Int32.not_le.mpr h3
      simp [h1, h3, h4, zc]
    · have h4 : x ≤ b := Int32.not_lt.mp h3
      simp [h1, h2, h3, h4, zc]

theorem bz {P : Prop} [Decidable P] : ((if P then iI 1 else iI 0) = iI 0) = ¬ P := by
  by_cases h : P
  · simp [h]; decide
  · simp [h]
theorem v_isW {N : Nat} {h : Hs} {x a b : Int} (h1 : -2147483648 ≤ x) (h2 : x < 2147483648) (h3 : -2147483648 ≤ a) (h4 : a < 2147483648) (h5 : -2147483648 ≤ b) (h6 : b < 2147483648) : fX11_isWithin N h (iI x) (iI a) (iI b) = some (if a ≤ x ∧ x ≤ b then iI 1 else iI 0, h) := by
  simp only [v_isWithin, iI_le h3 h4 h1 h2, iI_le h1 h2 h5 h6]
  rfl
theorem v_inW {N : Nat} {h : Hs} {x a b : Int} (h1 : -2147483648 ≤ x) (h2 : x < 2147483648) (h3 : -2147483648 ≤ a) (h4 : a < 2147483648) (h5 : -2147483648 ≤ b) (h6 : b < 2147483648) : fX12_in N h (iI x) (iI a) (iI b) = some (if a ≤ x ∧ x ≤ b then iI 1 else iI 0, h) := by
  simp only [v_in, iI_le h3 h4 h1 h2, iI_le h1 h2 h5 h6]
  rfl
/-! ===== what a call leaves as it was: all fields but F, all int arrays but A ===== -/
def Kq (F A : List Nat) (h h2 : Hs) : Prop := (∀ f a, f ∉ F → gI h2 f a = gI h f a) ∧ (∀ a, a ∉ A → aI h2 a = aI h a) ∧ gR h2 = gR h ∧ aR h2 = aR h ∧ sh h2 = sh h ∧ sz h2 = sz h
theorem Kq_rf {F A : List Nat} {h : Hs} : Kq F A h h := ⟨fun _ _ _ => rfl, fun _ _ => rfl, rfl, rfl, rfl, rfl⟩
theorem Kq.tr {F A : List Nat} {h h1 h2 : Hs} (k : Kq F A h h1) (k2 : Kq F A h1 h2) : Kq F A h h2 := ⟨fun f a q => (k2.1 f a q).trans (k.1 f a q), fun a q => (k2.2.1 a q).trans (k.2.1 a q), k2.2.2.1.trans k.2.2.1, k2.2.2.2.1.trans k.2.2.2.1, k2.2.2.2.2.1.trans k.2.2.2.2.1, k2.2.2.2.2.2.trans k.2.2.2.2.2⟩
theorem Kq.w {F F' A A' : List Nat} {h h2 : Hs} (k : Kq F A h h2) (hF : ∀ f ∈ F, f ∈ F') (hA : ∀ a ∈ A, a ∈ A') : Kq F' A' h h2 := ⟨fun f a q => k.1 f a (fun z => q (hF f z)), fun a q => k.2.1 a (fun z => q (hA a z)), k.2.2⟩
theorem Kq_uI {h : Hs} (f a : Nat) (v : Int32) : Kq [f] [] h (uI h f a v) := ⟨fun f' a' q => by have e : f' ≠ f := fun z => q (by rw [z]; exact List.mem_singleton.mpr rfl); simp [HR, e], fun _ _ => rfl, rfl, rfl, rfl, rfl⟩
theorem Kq_wA {h : Hs} (a : Nat) (f : Nat → Int32) : Kq [] [a] h (wA h a f) := ⟨fun _ _ _ => rfl, fun a' q => by have e : a' ≠ a := fun z => q (by rw [z]; exact List.mem_singleton.mpr rfl); funext j; simp [HR, e], rfl, rfl, rfl, rfl⟩
theorem Kq_uA {h : Hs} (a j : Nat) (v : Int32) : Kq [] [a] h (uA h a j v) := by rw [uA_wA]; exact Kq_wA a _
theorem Kq.u {F A : List Nat} {h h1 : Hs} (k : Kq F A h h1) (f a : Nat) (v : Int32) (hf : f ∈ F) : Kq F A h (uI h1 f a v) := k.tr ((Kq_uI f a v).w (fun q hq => by rw [List.mem_singleton.mp hq]; exact hf) (fun q hq => absurd hq List.not_mem_nil))
theorem Kq.a {F A : List Nat} {h h1 : Hs} (k : Kq F A h h1) (a : Nat) (f : Nat → Int32) (ha : a ∈ A) : Kq F A h (wA h1 a f) := k.tr ((Kq_wA a f).w (fun q hq => absurd hq List.not_mem_nil) (fun q hq => by rw [List.mem_singleton.mp hq]; exact ha))
theorem Kq.b {F A : List Nat} {h h1 : Hs} (k : Kq F A h h1) (a j : Nat) (v : Int32) (ha : a ∈ A) : Kq F A h (uA h1 a j v) := by rw [uA_wA]; exact k.a a _ ha
theorem Sk.k {F A : List Nat} {h h2 : Hs} (hS : Sk h) (k : Kq F A h h2) : Sk h2 := Sk_keep hS (fun a _ => by rw [k.2.2.2.2.1]) (fun f a _ => by rw [k.2.2.1])
def cntB (p : Nat → Bool) (i : Nat) : Nat → Nat
  | 0 => 0
  | d + 1 => (if p i then 1 else 0) + cntB p (i + 1) d
theorem cntB_le (p : Nat → Bool) : ∀ (d i : Nat), cntB p i d ≤ d
  | 0, _ => Nat.le_refl 0
  | d + 1, i => by
    have := cntB_le p d (i + 1)
    simp only [cntB]
    split <;> omega
/-! ===== candles ===== -/
def RCand (h : Hs) (n : Nat) (T : Int) (ln lt : Nat → Int) : Prop :=
  (gI h 2 6 = iI n ∧ gI h 3 6 = iI T ∧ gI h 1253 29 = iI n ∧ gI h 1252 29 = iI T) ∧
  (∀ i, i < n → aI h 7 i = iI (ln i) ∧ aI h 8 i = iI (lt i + ln i) ∧ aI h 62 i = iI (ln i) ∧ aI h 63 i = iI (lt i)) ∧
  n ≤ 60 ∧ 0 ≤ T ∧ T ≤ 9999 ∧ ∀ i, i < n → 1 ≤ ln i ∧ ln i ≤ 300 ∧ 0 ≤ lt i ∧ lt i ≤ T
def ICand (h : Hs) : Prop := ∃ n T ln lt, RCand h n T ln lt
abbrev FCand : List Nat := [2, 3, 1252, 1253]
abbrev ACand : List Nat := [7, 8, 62, 63]
theorem ICand.k {F A : List Nat} {h h2 : Hs} (hC : ICand h) (k : Kq F A h h2) (hF : ∀ f ∈ FCand, f ∉ F) (hA : ∀ a ∈ ACand, a ∉ A) : ICand h2 := by
  obtain ⟨n, T, ln, lt, ⟨c1, c2, c3, c4⟩, c5, c6⟩ := hC
  refine ⟨n, T, ln, lt, ⟨?_, ?_, ?_, ?_⟩, fun i hi => ?_, c6⟩
  · rw [k.1 _ _ (hF _ (by decide))]; exact c1
  · rw [k.1 _ _ (hF _ (by decide))]; exact c2
  · rw [k.1 _ _ (hF _ (by decide))]; exact c3
  · rw [k.1 _ _ (hF _ (by decide))]; exact c4
  · rw [k.2.1 _ (hA 7 (by decide)), k.2.1 _ (hA 8 (by decide)), k.2.1 _ (hA 62 (by decide)), k.2.1 _ (hA 63 (by decide))]
    exact c5 i hi
theorem t_minutes {N : Nat} {h : Hs} (hS : Sk h) (hC : ICand h) (p : Int32) : ∃ r h1 h2, fX11_minutes N h 0 p = some (r, h1) ∧ fX12_minutes N h1 29 p = some (r, h2) ∧ ICand h2 ∧ Kq FCand ACand h h2 := by
  obtain ⟨z, z1, z2, rfl⟩ := iI_ex p
  obtain ⟨n, T, ln, lt, ⟨c1, c2, c3, c4⟩, c5, c6, c7, c8, c9⟩ := hC
  by_cases w : 1 ≤ z ∧ z ≤ 1000
  · by_cases w3 : T + z ≤ 9999
    · refine ⟨iI (T + z), uI h 3 6 (iI (T + z)), uI (uI h 3 6 (iI (T + z))) 1252 29 (iI (T + z)), ?_, ?_, ⟨n, T + z, ln, lt, ?_⟩, (Kq_rf.u _ _ _ (by decide)).u _ _ _ (by decide)⟩
      · simp (disch := omega) [oI, oR, qI, qZ, qR, rc, lit, iI_add, iI_sub, iI_mul, iI_neg, iI_le, iI_lt, iI_eq, v_isW, v_inW, bz, HR, Sk_rw hS, fX11_minutes, fX0_pass, c2, w, w3]
      · simp (disch := omega) [oI, oR, qI, qZ, qR, rc, lit, iI_add, iI_sub, iI_mul, iI_neg, iI_le, iI_lt, iI_eq, v_isW, v_inW, bz, HR, Sk_rw hS, fX12_minutes, c4, w, w3]
      · refine ⟨⟨?_, ?_, ?_, ?_⟩, ?_, c6, by omega, by omega, fun i hi => ?_⟩
        · simp [HR, c1]
        · simp [HR]
        · simp [HR, c3]
        · simp [HR]
        · simpa [HR] using c5
        · have := c9 i hi
          omega
    · refine ⟨-1, h, h, ?_, ?_, ⟨n, T, ln, lt, ⟨c1, c2, c3, c4⟩, c5, c6, c7, c8, c9⟩, Kq_rf⟩
      · simp (disch := omega) [oI, oR, qI, qZ, qR, rc, lit, iI_add, iI_sub, iI_mul, iI_neg, iI_le, iI_lt, iI_eq, v_isW, v_inW, bz, HR, Sk_rw hS, fX11_minutes, fX0_pass, fX0_pass_b23, c2, w, w3]
      · simp (disch := omega) [oI, oR, qI, qZ, qR, rc, lit, iI_add, iI_sub, iI_mul, iI_neg, iI_le, iI_lt, iI_eq, v_isW, v_inW, bz, HR, Sk_rw hS, fX12_minutes, fX12_minutes_b23, c4, w, w3]
  · refine ⟨-1, h, h, ?_, ?_, ⟨n, T, ln, lt, ⟨c1, c2, c3, c4⟩, c5, c6, c7, c8, c9⟩, Kq_rf⟩
    · simp (disch := omega) [oI, oR, qI, qZ, qR, rc, lit, iI_add, iI_sub, iI_mul, iI_neg, iI_le, iI_lt, iI_eq, v_isW, v_inW, bz, HR, Sk_rw hS, fX11_minutes, fX0_pass, fX0_pass_b23, c2, w]
    · simp (disch := omega) [oI, oR, qI, qZ, qR, rc, lit, iI_add, iI_sub, iI_mul, iI_neg, iI_le, iI_lt, iI_eq, v_isW, v_inW, bz, HR, Sk_rw hS, fX12_minutes, fX12_minutes_b23, c4, w]
theorem t_candle {N : Nat} {h : Hs} (hS : Sk h) (hC : ICand h) (p : Int32) : ∃ r h1 h2, fX11_candle N h 0 p = some (r, h1) ∧ fX12_candle N h1 29 p = some (r, h2) ∧ ICand h2 ∧ Kq FCand ACand h h2 := by
  obtain ⟨z, z1, z2, rfl⟩ := iI_ex p
  obtain ⟨n, T, ln, lt, ⟨c1, c2, c3, c4⟩, c5, c6, c7, c8, c9⟩ := hC
  by_cases w : 1 ≤ z ∧ z ≤ 300
  · by_cases w3 : n < 60
    · have e1 : ixb (iI (n : Int)) 60 = true := ixb_i (by omega) (by omega) (by omega)
      have e2 : (iI (n : Int)).toNatClampNeg = n := by rw [iI_cl (by omega) (by omega)]; simp
      refine ⟨iI n, uI (uA (uA h 7 n (iI z)) 8 n (iI (T + z))) 2 6 (iI (n + 1)), uI (uA (uA (uI (uA (uA h 7 n (iI z)) 8 n (iI (T + z))) 2 6 (iI (n + 1))) 62 n (iI z)) 63 n (iI T)) 1253 29 (iI (n + 1)), ?_, ?_, ⟨n + 1, T, fun i => if i = n then z else ln i, fun i => if i = n then T else lt i, ?_⟩, ?_⟩
      · have w4 : (n : Int) < 60 := by omega
        simp (disch := omega) [oI, oR, qI, qZ, qR, rc, lit, iI_add, iI_sub, iI_mul, iI_neg, iI_le, iI_lt, iI_eq, v_isW, v_inW, bz, HR, Sk_rw hS, fX11_candle, fX0_add, sA, c1, c2, w, w4, e1, e2]
      · have w4 : ¬ (n : Int) = 60 := by omega
        simp (disch := omega) [oI, oR, qI, qZ, qR, rc, lit, iI_add, iI_sub, iI_mul, iI_neg, iI_le, iI_lt, iI_eq, v_isW, v_inW, bz, HR, Sk_rw hS, fX12_candle, sA, c3, c4, w, w4, e1, e2]
      · refine ⟨⟨?_, ?_, ?_, ?_⟩, fun i hi => ?_, by omega, c7, c8, fun i hi => ?_⟩
        · simp [HR]
        · simp [HR, c2]
        · simp [HR]
        · simp [HR, c4]
        · by_cases e : i = n
          · subst e
            simp [HR]
          · have := c5 i (by omega)
            simp [HR, e, this]
        · by_cases e : i = n
          · subst e
            simp
            omega
          · have := c9 i (by omega)
            simp [e, this]
      · exact (((((Kq_rf.b _ _ _ (by decide)).b _ _ _ (by decide)).u _ _ _ (by decide)).b _ _ _ (by decide)).b _ _ _ (by decide)).u _ _ _ (by decide)
    · refine ⟨-3, h, h, ?_, ?_, ⟨n, T, ln, lt, ⟨c1, c2, c3, c4⟩, c5, c6, c7, c8, c9⟩, Kq_rf⟩
      · have w4 : ¬ (n : Int) < 60 := by omega
        simp (disch := omega) [oI, oR, qI, qZ, qR, rc, lit, iI_add, iI_sub, iI_mul, iI_neg, iI_le, iI_lt, iI_eq, v_isW, v_inW, bz, HR, Sk_rw hS, fX11_candle, fX0_add, c1, c2, w, w4]
      · have w4 : (n : Int) = 60 := by omega
        simp (disch := omega) [oI, oR, qI, qZ, qR, rc, lit, iI_add, iI_sub, iI_mul, iI_neg, iI_le, iI_lt, iI_eq, v_isW, v_inW, bz, HR, Sk_rw hS, fX12_candle, c3, w, w4]
  · refine ⟨-1, h, h, ?_, ?_, ⟨n, T, ln, lt, ⟨c1, c2, c3, c4⟩, c5, c6, c7, c8, c9⟩, Kq_rf⟩
    · simp (disch := omega) [oI, oR, qI, qZ, qR, rc, lit, iI_add, iI_sub, iI_mul, iI_neg, iI_le, iI_lt, iI_eq, v_isW, v_inW, bz, HR, Sk_rw hS, fX11_candle, fX0_add, w]
    · simp (disch := omega) [oI, oR, qI, qZ, qR, rc, lit, iI_add, iI_sub, iI_mul, iI_neg, iI_le, iI_lt, iI_eq, v_isW, v_inW, bz, HR, Sk_rw hS, fX12_candle, w]
def lstF (e : Nat → Int) (acc : Int) (i : Nat) : Nat → Int
  | 0 => acc
  | d + 1 => lstF e (if 0 < e i ∧ (acc < 0 ∨ e i < acc) then e i else acc) (i + 1) d
theorem L_burning {N : Nat} {h : Hs} (hS : Sk h) {n : Nat} {T : Int} {e : Nat → Int} (c1 : gI h 2 6 = iI n) (c2 : gI h 3 6 = iI T) (c5 : ∀ i, i < n → aI h 8 i = iI (e i)) (hn : n ≤ 60) (hT : 0 ≤ T ∧ T ≤ 9999) (he : ∀ i, i < n → 0 ≤ e i ∧ e i ≤ 20000) : ∀ (d i : Nat) (m : Int) (fu : Nat), i + d = n → d < fu → 0 ≤ m → m ≤ i → fX0_burning_b4 N 6 fu h (iI m) (iI i) = some (iI (m + cntB (fun j => decide (T < e j)) i d), h) := by
  intro d
  induction d with
  | zero =>
    intro i m fu hi hf h0 h1
    obtain ⟨fu, rfl⟩ : ∃ k, fu = k + 1 := ⟨fu - 1, by omega⟩
    show fX0_burning_b4_body N (fX0_burning_b4 N 6 fu) 6 h (iI m) (iI i) = _
    have w : (n : Int) ≤ i := by omega
    simp (disch := omega) [oI, oR, qI, qZ, qR, rc, lit, iI_add, iI_sub, iI_mul, iI_neg, iI_le, iI_lt, iI_eq, v_isW, v_inW, bz, HR, Sk_rw hS, fX0_burning_b4_body, c1, w, cntB]
  | succ d ih =>
    intro i m fu hi hf h0 h1
    obtain ⟨fu, rfl⟩ : ∃ k, fu = k + 1 := ⟨fu - 1, by omega⟩
    show fX0_burning_b4_body N (fX0_burning_b4 N 6 fu) 6 h (iI m) (iI i) = _
    have w : ¬ (n : Int) ≤ i := by omega
    have e1 : ixb (iI (i : Int)) 60 = true := ixb_i (by omega) (by omega) (by omega)
    have e2 : (iI (i : Int)).toNatClampNeg = i := by rw [iI_cl (by omega) (by omega)]; simp
    have e3 := c5 i (by omega)
    have e4 := he i (by omega)
    by_cases w2 : e i ≤ T
    · have q := ih (i + 1) m fu (by omega) (by omega) h0 (by omega)
      simp only [Int.natCast_add, Int.natCast_one] at q
      have w3 : ¬ T < e i := by omega
      simp (disch := omega) [oI, oR, qI, qZ, qR, rc, lit, iI_add, iI_sub, iI_mul, iI_neg, iI_le, iI_lt, iI_eq, v_isW, v_inW, bz, HR, Sk_rw hS, fX0_burning_b4_body, fX0_burning_b28, lA, c1, c2, w, e1, e2, e3, w2, w3, q, cntB]
    · have q := ih (i + 1) (m + 1) fu (by omega) (by omega) (by omega) (by omega)
      simp only [Int.natCast_add, Int.natCast_one] at q
      have w3 : T < e i := by omega
      simp (disch := omega) [oI, oR, qI, qZ, qR, rc, lit, iI_add, iI_sub, iI_mul, iI_neg, iI_le, iI_lt, iI_eq, v_isW, v_inW, bz, HR, Sk_rw hS, fX0_burning_b4_body, fX0_burning_b28, lA, c1, c2, w, e1, e2, e3, w2, w3, q, cntB]
      congr 1
      omega
theorem L_leastLeft {N : Nat} {h : Hs} (hS : Sk h) {n : Nat} {T : Int} {e : Nat → Int} (c1 : gI h 2 6 = iI n) (c2 : gI h 3 6 = iI T) (c5 : ∀ i, i < n → aI h 8 i = iI (e i)) (hn : n ≤ 60) (hT : 0 ≤ T ∧ T ≤ 9999) (he : ∀ i, i < n → 0 ≤ e i ∧ e i ≤ 20000) : ∀ (d i : Nat) (m : Int) (fu : Nat), i + d = n → d < fu → -1 ≤ m → m ≤ 20000 → fX0_leastLeft_b4 N 6 fu h (iI m) (iI i) = some (iI (lstF (fun j => e j - T) m i d), h) := by
  intro d
  induction d with
  | zero =>
    intro i m fu hi hf h0 h1
    obtain ⟨fu, rfl⟩ : ∃ k, fu = k + 1 := ⟨fu - 1, by omega⟩
    show fX0_leastLeft_b4_body N (fX0_leastLeft_b4 N 6 fu) 6 h (iI m) (iI i) = _
    have w : (n : Int) ≤ i := by omega
    simp (disch := omega) [oI, oR, qI, qZ, qR, rc, lit, iI_add, iI_sub, iI_mul, iI_neg, iI_le, iI_lt, iI_eq, v_isW, v_inW, bz, HR, Sk_rw hS, fX0_leastLeft_b4_body, c1, w, lstF]
  | succ d ih =>
    intro i m fu hi hf h0 h1
    obtain ⟨fu, rfl⟩ : ∃ k, fu = k + 1 := ⟨fu - 1, by omega⟩
    show fX0_leastLeft_b4_body N (fX0_leastLeft_b4 N 6 fu) 6 h (iI m) (iI i) = _
    have w : ¬ (n : Int) ≤ i := by omega
    have e1 : ixb (iI (i : Int)) 60 = true := ixb_i (by omega) (by omega) (by omega)
    have e2 : (iI (i : Int)).toNatClampNeg = i := by rw [iI_cl (by omega) (by omega)]; simp
    have e3 := c5 i (by omega)
    have e4 := he i (by omega)
    by_cases w2 : 0 < e i - T ∧ (m < 0 ∨ e i - T < m)
    · have q := ih (i + 1) (e i - T) fu (by omega) (by omega) (by omega) (by omega)
      simp only [Int.natCast_add, Int.natCast_one] at q
      have w3 : ¬ e i - T ≤ 0 := by omega
      simp only [lstF]
      rw [if_pos w2]
      by_cases w4 : m < 0
      · simp (disch := omega) [oI, oR, qI, qZ, qR, rc, lit, iI_add, iI_sub, iI_mul, iI_neg, iI_le, iI_lt, iI_eq, v_isW, v_inW, bz, HR, Sk_rw hS, fX0_leastLeft_b4_body, fX0_leastLeft_b37, fX0_leastLeft_b39, lA, c1, c2, w, e1, e2, e3, w3, w4, q]
      · have w5 : ¬ m ≤ e i - T := by omega
        simp (disch := omega) [oI, oR, qI, qZ, qR, rc, lit, iI_add, iI_sub, iI_mul, iI_neg, iI_le, iI_lt, iI_eq, v_isW, v_inW, bz, HR, Sk_rw hS, fX0_leastLeft_b4_body, fX0_leastLeft_b37, fX0_leastLeft_b39, lA, c1, c2, w, e1, e2, e3, w3, w4, w5, q]
    · have q := ih (i + 1) m fu (by omega) (by omega) (by omega) (by omega)
      simp only [Int.natCast_add, Int.natCast_one] at q
      simp only [lstF]
      rw [if_neg w2]
      by_cases w3 : e i - T ≤ 0
      · simp (disch := omega) [oI, oR, qI, qZ, qR, rc, lit, iI_add, iI_sub, iI_mul, iI_neg, iI_le, iI_lt, iI_eq, v_isW, v_inW, bz, HR, Sk_rw hS, fX0_leastLeft_b4_body, fX0_leastLeft_b37, fX0_leastLeft_b39, lA, c1, c2, w, e1, e2, e3, w3, q]
      · have w4 : ¬ m < 0 := by omega
        have w5 : m ≤ e i - T := by omega
        simp (disch := omega) [oI, oR, qI, qZ, qR, rc, lit, iI_add, iI_sub, iI_mul, iI_neg, iI_le, iI_lt, iI_eq, v_isW, v_inW, bz, HR, Sk_rw hS, fX0_leastLeft_b4_body, fX0_leastLeft_b37, fX0_leastLeft_b39, lA, c1, c2, w, e1, e2, e3, w3, w4, w5, q]
theorem v_left {N : Nat} {h : Hs} (hS : Sk h) {T a b : Int} {i : Nat} (hi : i < 60) (c : gI h 1252 29 = iI T) (c1 : aI h 63 i = iI a) (c2 : aI h 62 i = iI b) : fX12_left N h 29 (iI i) = some (iI (a + b - T), h) := by
  have e1 : ixb (iI (i : Int)) 60 = true := ixb_i (by omega) (by omega) (by omega)
  have e2 : (iI (i : Int)).toNatClampNeg = i := by rw [iI_cl (by omega) (by omega)]; simp
  simp (disch := omega) [oI, oR, qI, qZ, qR, rc, lit, iI_add, iI_sub, iI_mul, iI_neg, iI_le, iI_lt, iI_eq, v_isW, v_inW, bz, HR, Sk_rw hS, fX12_left, lA, c, c1, c2, e1, e2]
theorem L_light {N : Nat} {h : Hs} (hS : Sk h) {n : Nat} {lf : Nat → Int} (c1 : gI h 1253 29 = iI n) (c5 : ∀ i : Nat, i < n → fX12_left N h 29 (iI i) = some (iI (lf i), h)) (hn : n ≤ 60) (he : ∀ i, i < n → -20000 ≤ lf i ∧ lf i ≤ 20000) (x : Int) (hx : -2147483648 ≤ x ∧ x < 2147483648) : ∀ (d i : Nat) (dk m : Int) (fu : Nat), i + d = n → d < fu → 0 ≤ dk → dk ≤ i → -1 ≤ m → m ≤ 20000 → fX12_light_b7 N 29 fu h (iI x) (iI dk) (iI m) (iI i) = some (if x = 0 then iI (dk + cntB (fun j => decide (lf j ≤ 0)) i d) else if x = 1 then iI (n - (dk + cntB (fun j => decide (lf j ≤ 0)) i d)) else if x = 2 then iI (lstF lf m i d) else iI (-1), h) := by
  intro d
  induction d with
  | zero =>
    intro i dk m fu hi hf h0 h1 h2 h3
    obtain ⟨fu, rfl⟩ : ∃ k, fu = k + 1 := ⟨fu - 1, by omega⟩
    show fX12_light_b7_body N (fX12_light_b7 N 29 fu) 29 h (iI x) (iI dk) (iI m) (iI i) = _
    have w : (n : Int) ≤ i := by omega
    by_cases x0 : x = 0
    · subst x0
      simp (disch := omega) [oI, oR, qI, qZ, qR, rc, lit, iI_add, iI_sub, iI_mul, iI_neg, iI_le, iI_lt, iI_eq, v_isW, v_inW, bz, HR, Sk_rw hS, fX12_light_b7_body, c1, w, lstF, cntB]
    · by_cases x1 : x = 1
      · subst x1
        simp (disch := omega) [oI, oR, qI, qZ, qR, rc, lit, iI_add, iI_sub, iI_mul, iI_neg, iI_le, iI_lt, iI_eq, v_isW, v_inW, bz, HR, Sk_rw hS, fX12_light_b7_body, c1, w, lstF, cntB]
      · by_cases x2 : x = 2
        · subst x2
          simp (disch := omega) [oI, oR, qI, qZ, qR, rc, lit, iI_add, iI_sub, iI_mul, iI_neg, iI_le, iI_lt, iI_eq, v_isW, v_inW, bz, HR, Sk_rw hS, fX12_light_b7_body, c1, w, lstF, cntB]
        · simp (disch := omega) [oI, oR, qI, qZ, qR, rc, lit, iI_add, iI_sub, iI_mul, iI_neg, iI_le, iI_lt, iI_eq, v_isW, v_inW, bz, HR, Sk_rw hS, fX12_light_b7_body, c1, w, lstF, cntB, x0, x1, x2]
  | succ d ih =>
    intro i dk m fu hi hf h0 h1 h2 h3
    obtain ⟨fu, rfl⟩ : ∃ k, fu = k + 1 := ⟨fu - 1, by omega⟩
    show fX12_light_b7_body N (fX12_light_b7 N 29 fu) 29 h (iI x) (iI dk) (iI m) (iI i) = _
    have w : ¬ (n : Int) ≤ i := by omega
    have lc := c5 i (by omega)
    have e4 := he i (by omega)
    by_cases w1 : lf i ≤ 0
    · have q := ih (i + 1) (dk + 1) m fu (by omega) (by omega) (by omega) (by omega) h2 h3
      simp only [Int.natCast_add, Int.natCast_one] at q
      have w2 : ¬ 0 < lf i := by omega
      have e5 : lstF lf m i (d + 1) = lstF lf m (i + 1) d := by simp [lstF, w2]
      have e6 : dk + (cntB (fun j => decide (lf j ≤ 0)) i (d + 1) : Int) = dk + 1 + (cntB (fun j => decide (lf j ≤ 0)) (i + 1) d : Int) := by simp [cntB, w1]; omega
      rw [e5, e6, ← q]
      simp (disch := omega) [oI, oR, qI, qZ, qR, rc, lit, iI_add, iI_sub, iI_mul, iI_neg, iI_le, iI_lt, iI_eq, v_isW, v_inW, bz, HR, Sk_rw hS, fX12_light_b7_body, fX12_light_b56, c1, w, lc, w2]
    · have w2 : 0 < lf i := by omega
      have e6 : dk + (cntB (fun j => decide (lf j ≤ 0)) i (d + 1) : Int) = dk + (cntB (fun j => decide (lf j ≤ 0)) (i + 1) d : Int) := by simp [cntB, w1]
      by_cases w3 : m < 0 ∨ lf i < m
      · have q := ih (i + 1) dk (lf i) fu (by omega) (by omega) (by omega) (by omega) (by omega) (by omega)
        simp only [Int.natCast_add, Int.natCast_one] at q
        have e5 : lstF lf m i (d + 1) = lstF lf (lf i) (i + 1) d := by simp [lstF, w2, w3]
        rw [e5, e6, ← q]
        by_cases w4 : m < 0
        · simp (disch := omega) [oI, oR, qI, qZ, qR, rc, lit, iI_add, iI_sub, iI_mul, iI_neg, iI_le, iI_lt, iI_eq, v_isW, v_inW, bz, HR, Sk_rw hS, fX12_light_b7_body, fX12_light_b56, fX12_light_b45, fX12_light_b55, c1, w, lc, w2, w4]
        · have w5 : ¬ m ≤ lf i := by omega
          simp (disch := omega) [oI, oR, qI, qZ, qR, rc, lit, iI_add, iI_sub, iI_mul, iI_neg, iI_le, iI_lt, iI_eq, v_isW, v_inW, bz, HR, Sk_rw hS, fX12_light_b7_body, fX12_light_b56, fX12_light_b45, fX12_light_b55, c1, w, lc, w2, w4, w5]
      · have q := ih (i + 1) dk m fu (by omega) (by omega) (by omega) (by omega) (by omega) (by omega)
        simp only [Int.natCast_add, Int.natCast_one] at q
        have e5 : lstF lf m i (d + 1) = lstF lf m (i + 1) d := by simp [lstF, w3]
        rw [e5, e6, ← q]
        have w4 : ¬ m < 0 := by omega
        have w5 : m ≤ lf i := by omega
        simp (disch := omega) [oI, oR, qI, qZ, qR, rc, lit, iI_add, iI_sub, iI_mul, iI_neg, iI_le, iI_lt, iI_eq, v_isW, v_inW, bz, HR, Sk_rw hS, fX12_light_b7_body, fX12_light_b56, fX12_light_b45, fX12_light_b55, c1, w, lc, w2, w4, w5]
theorem cntB_not (p q : Nat → Bool) : ∀ (d i : Nat), (∀ j, i ≤ j → j < i + d → q j = !p j) → cntB p i d + cntB q i d = d
  | 0, _, _ => rfl
  | d + 1, i, h => by
    have h1 := cntB_not p q d (i + 1) (fun j a b => h j (by omega) (by omega))
    have h2 := h i (Nat.le_refl i) (by omega)
    simp only [cntB, h2]
    cases p i <;> simp <;> omega
theorem lstF_congr {e e2 : Nat → Int} : ∀ (d i : Nat) (m : Int), (∀ j, i ≤ j → j < i + d → e j = e2 j) → lstF e m i d = lstF e2 m i d
  | 0, _, _, _ => rfl
  | d + 1, i, m, h => by
    simp only [lstF]
    rw [h i (Nat.le_refl i) (by omega)]
    exact lstF_congr d (i + 1) _ (fun j a b => h j (by omega) (by omega))
theorem t_light {N : Nat} (hN : 100000000 ≤ N) {h : Hs} (hS : Sk h) (hC : ICand h) (p : Int32) : ∃ r h1 h2, fX11_light N h 0 p = some (r, h1) ∧ fX12_light N h1 29 p = some (r, h2) ∧ ICand h2 ∧ Kq FCand ACand h h2 := by
  obtain ⟨z, z1, z2, rfl⟩ := iI_ex p
  have hC0 := hC
  obtain ⟨n, T, ln, lt, ⟨c1, c2, c3, c4⟩, c5, c6, c7, c8, c9⟩ := hC
  have LB := L_burning (N := N) hS (e := fun i => lt i + ln i) c1 c2 (fun i hi => (c5 i hi).2.1) c6 ⟨c7, c8⟩ (fun i hi => by have := c9 i hi; omega) n 0 0 N (by omega) (by omega) (by omega) (by omega)
  have LL := L_leastLeft (N := N) hS (e := fun i => lt i + ln i) c1 c2 (fun i hi => (c5 i hi).2.1) c6 ⟨c7, c8⟩ (fun i hi => by have := c9 i hi; omega) n 0 (-1) N (by omega) (by omega) (by omega) (by omega)
  have LR := L_light (N := N) hS (lf := fun i => lt i + ln i - T) c3 (fun i hi => v_left hS (by omega) c4 (c5 i hi).2.2.2 (c5 i hi).2.2.1) c6 (fun i hi => by have := c9 i hi; omega) z ⟨z1, z2⟩ n 0 0 (-1) N (by omega) (by omega) (by omega) (by omega) (by omega) (by omega)
  have hc := cntB_not (fun j => decide (T < lt j + ln j)) (fun j => decide (lt j + ln j - T ≤ 0)) n 0 (fun j _ _ => by show decide _ = !decide _; rw [← decide_not]; exact decide_eq_decide.mpr (by omega))
  simp only [Int.natCast_zero] at LB LL LR
  refine ⟨_, h, h, ?_, LR, hC0, Kq_rf⟩
  by_cases x0 : z = 0
  · subst x0
    simp (disch := omega) [oI, oR, qI, qZ, qR, rc, lit, iI_add, iI_sub, iI_mul, iI_neg, iI_le, iI_lt, iI_eq, v_isW, v_inW, bz, HR, Sk_rw hS, fX11_light, fX0_tell, fX0_burning, c1, LB]
    congr 1
    omega
  · by_cases x1 : z = 1
    · subst x1
      simp (disch := omega) [oI, oR, qI, qZ, qR, rc, lit, iI_add, iI_sub, iI_mul, iI_neg, iI_le, iI_lt, iI_eq, v_isW, v_inW, bz, HR, Sk_rw hS, fX11_light, fX0_tell, fX0_burning, c1, LB]
      congr 1
      omega
    · by_cases x2 : z = 2
      · subst x2
        simp (disch := omega) [oI, oR, qI, qZ, qR, rc, lit, iI_add, iI_sub, iI_mul, iI_neg, iI_le, iI_lt, iI_eq, v_isW, v_inW, bz, HR, Sk_rw hS, fX11_light, fX0_tell, fX0_leastLeft, c1, LL]
      · simp (disch := omega) [oI, oR, qI, qZ, qR, rc, lit, iI_add, iI_sub, iI_mul, iI_neg, iI_le, iI_lt, iI_eq, v_isW, v_inW, bz, HR, Sk_rw hS, fX11_light, fX0_tell, x0, x1, x2]
theorem L_renew {N : Nat} {n : Nat} {T k : Int} {ln e : Nat → Int} (hn : n ≤ 60) (hT : 0 ≤ T ∧ T ≤ 9999) (hk : 0 ≤ k ∧ k ≤ 300) (hl : ∀ i, i < n → 1 ≤ ln i ∧ ln i ≤ 300) (he : ∀ i, i < n → 0 ≤ e i ∧ e i ≤ 20000) : ∀ (d i : Nat) (m : Int) (h : Hs) (fu : Nat), i + d = n → d < fu → 0 ≤ m → m ≤ i → Sk h → gI h 2 6 = iI n → gI h 3 6 = iI T → (∀ j, j < n → aI h 7 j = iI (ln j)) → (∀ j, i ≤ j → j < n → aI h 8 j = iI (e j)) → fX0_renew_b17 N 6 fu h (iI k) (iI m) (iI i) = some (iI (m + cntB (fun j => decide (1 ≤ e j - T ∧ e j - T ≤ k)) i d), wA h 8 (fun j => if i ≤ j ∧ j < n ∧ 1 ≤ e j - T ∧ e j - T ≤ k then iI (T + ln j) else aI h 8 j)) := by
  intro d
  induction d with
  | zero =>
    intro i m h fu hi hf h0 h1 hS c1 c2 c3 c4
    obtain ⟨fu, rfl⟩ : ∃ k, fu = k + 1 := ⟨fu - 1, by omega⟩
    show fX0_renew_b17_body N (fX0_renew_b17 N 6 fu) 6 h (iI k) (iI m) (iI i) = _
    have w : (n : Int) ≤ i := by omega
    have e0 : (fun j => if i ≤ j ∧ j < n ∧ 1 ≤ e j - T ∧ e j - T ≤ k then iI (T + ln j) else aI h 8 j) = aI h 8 := by
      funext j
      rw [if_neg (by omega)]
    rw [e0, wA_self]
    simp (disch := omega) [oI, oR, qI, qZ, qR, rc, lit, iI_add, iI_sub, iI_mul, iI_neg, iI_le, iI_lt, iI_eq, v_isW, v_inW, bz, HR, Sk_rw hS, fX0_renew_b17_body, c1, w, cntB]
  | succ d ih =>
    intro i m h fu hi hf h0 h1 hS c1 c2 c3 c4
    obtain ⟨fu, rfl⟩ : ∃ k, fu = k + 1 := ⟨fu - 1, by omega⟩
    show fX0_renew_b17_body N (fX0_renew_b17 N 6 fu) 6 h (iI k) (iI m) (iI i) = _
    have w : ¬ (n : Int) ≤ i := by omega
    have e1 : ixb (iI (i : Int)) 60 = true := ixb_i (by omega) (by omega) (by omega)
    have e2 : (iI (i : Int)).toNatClampNeg = i := by rw [iI_cl (by omega) (by omega)]; simp
    have e3 := c4 i (by omega) (by omega)
    have e5 := c3 i (by omega)
    have e4 := he i (by omega)
    by_cases w2 : 1 ≤ e i - T ∧ e i - T ≤ k
    · have q := ih (i + 1) (m + 1) (uA h 8 i (iI (T + ln i))) fu (by omega) (by omega) (by omega) (by omega) (hS.k (Kq_uA 8 i _)) (by simp [HR, c1]) (by simp [HR, c2]) (fun j hj => by simp [HR, c3 j hj]) (fun j h7 h8 => (by have hji : j ≠ i := (by omega); simp [HR, hji, c4 j (by omega) h8]))
      simp only [Int.natCast_add, Int.natCast_one] at q
      have e6 : m + (cntB (fun j => decide (1 ≤ e j - T ∧ e j - T ≤ k)) i (d + 1) : Int) = m + 1 + (cntB (fun j => decide (1 ≤ e j - T ∧ e j - T ≤ k)) (i + 1) d : Int) := by
        simp only [cntB, w2, decide_true, if_true, and_self, Int.natCast_add, Int.natCast_one]
        omega
      have e7 : wA (uA h 8 i (iI (T + ln i))) 8 (fun j => if i + 1 ≤ j ∧ j < n ∧ 1 ≤ e j - T ∧ e j - T ≤ k then iI (T + ln j) else aI (uA h 8 i (iI (T + ln i))) 8 j) = wA h 8 (fun j => if i ≤ j ∧ j < n ∧ 1 ≤ e j - T ∧ e j - T ≤ k then iI (T + ln j) else aI h 8 j) := by
        rw [uA_wA, wA_wA]
        congr 1
        funext j
        by_cases ej : j = i
        · subst ej
          rw [if_neg (by omega), if_pos ⟨Nat.le_refl _, by omega, w2⟩]
          simp [aI_wA]
        · by_cases cj : i + 1 ≤ j ∧ j < n ∧ 1 ≤ e j - T ∧ e j - T ≤ k
          · rw [if_pos cj, if_pos ⟨by omega, cj.2⟩]
          · rw [if_neg cj, if_neg (fun z => cj ⟨by omega, z.2⟩)]
            simp [aI_wA, ej]
      rw [e7] at q
      rw [e6, ← q]
      simp (disch := omega) [oI, oR, qI, qZ, qR, rc, lit, iI_add, iI_sub, iI_mul, iI_neg, iI_le, iI_lt, iI_eq, v_isW, v_inW, bz, HR, Sk_rw hS, fX0_renew_b17_body, fX0_renew_b64, lA, sA, c1, c2, w, e1, e2, e3, e5, w2]
    · have q := ih (i + 1) m h fu (by omega) (by omega) (by omega) (by omega) hS c1 c2 c3 (fun j h7 h8 => c4 j (by omega) h8)
      simp only [Int.natCast_add, Int.natCast_one] at q
      have e6 : m + (cntB (fun j => decide (1 ≤ e j - T ∧ e j - T ≤ k)) i (d + 1) : Int) = m + (cntB (fun j => decide (1 ≤ e j - T ∧ e j - T ≤ k)) (i + 1) d : Int) := by
        simp only [cntB, w2, decide_false, Int.natCast_add]
        simp
      have e7 : wA h 8 (fun j => if i + 1 ≤ j ∧ j < n ∧ 1 ≤ e j - T ∧ e j - T ≤ k then iI (T + ln j) else aI h 8 j) = wA h 8 (fun j => if i ≤ j ∧ j < n ∧ 1 ≤ e j - T ∧ e j - T ≤ k then iI (T + ln j) else aI h 8 j) := by
        congr 1
        funext j
        by_cases ej : j = i
        · subst ej
          rw [if_neg (by omega), if_neg (fun z => w2 z.2.2)]
        · by_cases cj : i + 1 ≤ j ∧ j < n ∧ 1 ≤ e j - T ∧ e j - T ≤ k
          · rw [if_pos cj, if_pos ⟨by omega, cj.2⟩]
          · rw [if_neg cj, if_neg (fun z => cj ⟨by omega, z.2⟩)]
      rw [e7] at q
      rw [e6, ← q]
      simp (disch := omega) [oI, oR, qI, qZ, qR, rc, lit, iI_add, iI_sub, iI_mul, iI_neg, iI_le, iI_lt, iI_eq, v_isW, v_inW, bz, HR, Sk_rw hS, fX0_renew_b17_body, fX0_renew_b64, lA, sA, c1, c2, w, e1, e2, e3, w2]
theorem L_trim {N : Nat} {n : Nat} {T k : Int} {ln lt : Nat → Int} (hn : n ≤ 60) (hT : 0 ≤ T ∧ T ≤ 9999) (hk : 0 ≤ k ∧ k ≤ 300) (hl : ∀ i, i < n → 1 ≤ ln i ∧ ln i ≤ 300) (he : ∀ i, i < n → 0 ≤ lt i ∧ lt i ≤ 9999) : ∀ (d i : Nat) (m : Int) (h : Hs) (fu : Nat), i + d = n → d < fu → 0 ≤ m → m ≤ i → Sk h → gI h 1253 29 = iI n → gI h 1252 29 = iI T → (∀ j, j < n → aI h 62 j = iI (ln j)) → (∀ j, i ≤ j → j < n → aI h 63 j = iI (lt j)) → fX12_trim_b17 N 29 fu h (iI k) (iI m) (iI i) = some (iI (m + cntB (fun j => decide (1 ≤ lt j + ln j - T ∧ lt j + ln j - T ≤ k)) i d), wA h 63 (fun j => if i ≤ j ∧ j < n ∧ 1 ≤ lt j + ln j - T ∧ lt j + ln j - T ≤ k then iI T else aI h 63 j)) := by
  intro d
  induction d with
  | zero =>
    intro i m h fu hi hf h0 h1 hS c1 c2 c3 c4
    obtain ⟨fu, rfl⟩ : ∃ k, fu = k + 1 := ⟨fu - 1, by omega⟩
    show fX12_trim_b17_body N (fX12_trim_b17 N 29 fu) 29 h (iI k) (iI m) (iI i) = _
    have w : (n : Int) ≤ i := by omega
    have e0 : (fun j => if i ≤ j ∧ j < n ∧ 1 ≤ lt j + ln j - T ∧ lt j + ln j - T ≤ k then iI T else aI h 63 j) = aI h 63 := by
      funext j
      rw [if_neg (by omega)]
    rw [e0, wA_self]
    simp (disch := omega) [oI, oR, qI, qZ, qR, rc, lit, iI_add, iI_sub, iI_mul, iI_neg, iI_le, iI_lt, iI_eq, v_isW, v_inW, bz, HR, Sk_rw hS, fX12_trim_b17_body, c1, w, cntB]
  | succ d ih =>
    intro i m h fu hi hf h0 h1 hS c1 c2 c3 c4
    obtain ⟨fu, rfl⟩ : ∃ k, fu = k + 1 := ⟨fu - 1, by omega⟩
    show fX12_trim_b17_body N (fX12_trim_b17 N 29 fu) 29 h (iI k) (iI m) (iI i) = _
    have w : ¬ (n : Int) ≤ i := by omega
    have e1 : ixb (iI (i : Int)) 60 = true := ixb_i (by omega) (by omega) (by omega)
    have e2 : (iI (i : Int)).toNatClampNeg = i := by rw [iI_cl (by omega) (by omega)]; simp
    have e3 := c4 i (by omega) (by omega)
    have e5 := c3 i (by omega)
    have e4 := he i (by omega)
    have e8 := hl i (by omega)
    have lc := v_left (N := N) hS (i := i) (by omega) c2 e3 e5
    by_cases w2 : 1 ≤ lt i + ln i - T ∧ lt i + ln i - T ≤ k
    · have q := ih (i + 1) (m + 1) (uA h 63 i (iI T)) fu (by omega) (by omega) (by omega) (by omega) (hS.k (Kq_uA 63 i _)) (by simp [HR, c1]) (by simp [HR, c2]) (fun j hj => by simp [HR, c3 j hj]) (fun j h7 h8 => (by have hji : j ≠ i := (by omega); simp [HR, hji, c4 j (by omega) h8]))
      simp only [Int.natCast_add, Int.natCast_one] at q
      have e6 : m + (cntB (fun j => decide (1 ≤ lt j + ln j - T ∧ lt j + ln j - T ≤ k)) i (d + 1) : Int) = m + 1 + (cntB (fun j => decide (1 ≤ lt j + ln j - T ∧ lt j + ln j - T ≤ k)) (i + 1) d : Int) := by
        simp only [cntB, w2, decide_true, if_true, and_self, Int.natCast_add, Int.natCast_one]
        omega
      have e7 : wA (uA h 63 i (iI T)) 63 (fun j => if i + 1 ≤ j ∧ j < n ∧ 1 ≤ lt j + ln j - T ∧ lt j + ln j - T ≤ k then iI T else aI (uA h 63 i (iI T)) 63 j) = wA h 63 (fun j => if i ≤ j ∧ j < n ∧ 1 ≤ lt j + ln j - T ∧ lt j + ln j - T ≤ k then iI T else aI h 63 j) := by
        rw [uA_wA, wA_wA]
        congr 1
        funext j
        by_cases ej : j = i
        · subst ej
          rw [if_neg (by omega), if_pos ⟨Nat.le_refl _, by omega, w2⟩]
          simp [aI_wA]
        · by_cases cj : i + 1 ≤ j ∧ j < n ∧ 1 ≤ lt j + ln j - T ∧ lt j + ln j - T ≤ k
          · rw [if_pos cj, if_pos ⟨by omega, cj.2⟩]
          · rw [if_neg cj, if_neg (fun z => cj ⟨by omega, z.2⟩)]
            simp [aI_wA, ej]
      rw [e7] at q
      rw [e6, ← q]
      generalize lt i + ln i - T = L at *
      simp (disch := omega) [oI, oR, qI, qZ, qR, rc, lit, iI_add, iI_sub, iI_mul, iI_neg, iI_le, iI_lt, iI_eq, v_isW, v_inW, bz, HR, Sk_rw hS, fX12_trim_b17_body, fX12_trim_b54, sA, c1, c2, w, e1, e2, lc, w2]
    · have q := ih (i + 1) m h fu (by omega) (by omega) (by omega) (by omega) hS c1 c2 c3 (fun j h7 h8 => c4 j (by omega) h8)
      simp only [Int.natCast_add, Int.natCast_one] at q
      have e6 : m + (cntB (fun j => decide (1 ≤ lt j + ln j - T ∧ lt j + ln j - T ≤ k)) i (d + 1) : Int) = m + (cntB (fun j => decide (1 ≤ lt j + ln j - T ∧ lt j + ln j - T ≤ k)) (i + 1) d : Int) := by
        simp only [cntB, w2, decide_false, Int.natCast_add]
        simp
      have e7 : wA h 63 (fun j => if i + 1 ≤ j ∧ j < n ∧ 1 ≤ lt j + ln j - T ∧ lt j + ln j - T ≤ k then iI T else aI h 63 j) = wA h 63 (fun j => if i ≤ j ∧ j < n ∧ 1 ≤ lt j + ln j - T ∧ lt j + ln j - T ≤ k then iI T else aI h 63 j) := by
        congr 1
        funext j
        by_cases ej : j = i
        · subst ej
          rw [if_neg (by omega), if_neg (fun z => w2 z.2.2)]
        · by_cases cj : i + 1 ≤ j ∧ j < n ∧ 1 ≤ lt j + ln j - T ∧ lt j + ln j - T ≤ k
          · rw [if_pos cj, if_pos ⟨by omega, cj.2⟩]
          · rw [if_neg cj, if_neg (fun z => cj ⟨by omega, z.2⟩)]
      rw [e7] at q
      rw [e6, ← q]
      simp (disch := omega) [oI, oR, qI, qZ, qR, rc, lit, iI_add, iI_sub, iI_mul, iI_neg, iI_le, iI_lt, iI_eq, v_isW, v_inW, bz, HR, Sk_rw hS, fX12_trim_b17_body, fX12_trim_b54, c1, c2, w, lc, w2]
theorem t_trim {N : Nat} (hN : 100000000 ≤ N) {h : Hs} (hS : Sk h) (hC : ICand h) (p : Int32) : ∃ r h1 h2, fX11_trim N h 0 p = some (r, h1) ∧ fX12_trim N h1 29 p = some (r, h2) ∧ ICand h2 ∧ Kq FCand ACand h h2 := by
  obtain ⟨z, z1, z2, rfl⟩ := iI_ex p
  have hC0 := hC
  obtain ⟨n, T, ln, lt, ⟨c1, c2, c3, c4⟩, c5, c6, c7, c8, c9⟩ := hC
  by_cases w : 0 ≤ z ∧ z ≤ 300
  · have LA := L_renew (N := N) (n := n) (T := T) (k := z) (ln := ln) (e := fun i => lt i + ln i) c6 ⟨c7, c8⟩ w (fun i hi => by have := c9 i hi; omega) (fun i hi => by have := c9 i hi; omega) n 0 0 h N (by omega) (by omega) (by omega) (by omega) hS c1 c2 (fun j hj => (c5 j hj).1) (fun j _ hj => (c5 j hj).2.1)
    generalize hh1 : wA h 8 _ = h1 at LA
    have kk : Kq FCand ACand h h1 := by rw [← hh1]; exact Kq_rf.a _ _ (by decide)
    have LR := L_trim (N := N) (n := n) (T := T) (k := z) (ln := ln) (lt := lt) c6 ⟨c7, c8⟩ w (fun i hi => by have := c9 i hi; omega) (fun i hi => by have := c9 i hi; omega) n 0 0 h1 N (by omega) (by omega) (by omega) (by omega) (hS.k kk) (by rw [← hh1]; simp [HR, c3]) (by rw [← hh1]; simp [HR, c4]) (fun j hj => by rw [← hh1]; simp [HR, (c5 j hj)]) (fun j _ hj => by rw [← hh1]; simp [HR, (c5 j hj)])
    simp only [Int.natCast_zero] at LA LR
    refine ⟨iI (0 + (cntB (fun j => decide (1 ≤ lt j + ln j - T ∧ lt j + ln j - T ≤ z)) 0 n : Int)), h1, wA h1 63 (fun j => if 0 ≤ j ∧ j < n ∧ 1 ≤ lt j + ln j - T ∧ lt j + ln j - T ≤ z then iI T else aI h1 63 j), ?_, ?_, ⟨n, T, ln, fun i => if 1 ≤ lt i + ln i - T ∧ lt i + ln i - T ≤ z then T else lt i, ?_⟩, kk.a 63 _ (by decide)⟩
    · simp (disch := omega) [oI, oR, qI, qZ, qR, rc, lit, iI_add, iI_sub, iI_mul, iI_neg, iI_le, iI_lt, iI_eq, v_isW, v_inW, bz, HR, Sk_rw hS, fX11_trim, fX0_renew, w, LA]
    · have hS1 := hS.k kk
      have e9 := v_inW (N := N) (h := h1) (x := z) (a := 0) (b := 300) (by omega) (by omega) (by omega) (by omega) (by omega) (by omega)
      rw [if_pos w] at e9
      simp [fX12_trim, lit, e9, LR, iI_eq]
    · refine ⟨⟨?_, ?_, ?_, ?_⟩, fun i hi => ?_, c6, c7, c8, fun i hi => ?_⟩
      · rw [← hh1]; simp [HR, c1]
      · rw [← hh1]; simp [HR, c2]
      · rw [← hh1]; simp [HR, c3]
      · rw [← hh1]; simp [HR, c4]
      · have q := c5 i hi
        rw [← hh1]
        by_cases cj : 1 ≤ lt i + ln i - T ∧ lt i + ln i - T ≤ z
        · simp only [HR]
          simp [q, hi, cj]
        · simp only [HR]
          simp [q, hi, cj]
      · have q := c9 i hi
        by_cases cj : 1 ≤ lt i + ln i - T ∧ lt i + ln i - T ≤ z
        · simp only [cj, and_self, if_true]; omega
        · simp only [cj, if_false]; omega
  · refine ⟨-1, h, h, ?_, ?_, hC0, Kq_rf⟩
    · simp (disch := omega) [oI, oR, qI, qZ, qR, rc, lit, iI_add, iI_sub, iI_mul, iI_neg, iI_le, iI_lt, iI_eq, v_isW, v_inW, bz, HR, Sk_rw hS, fX11_trim, fX0_renew, w]
    · simp (disch := omega) [oI, oR, qI, qZ, qR, rc, lit, iI_add, iI_sub, iI_mul, iI_neg, iI_le, iI_lt, iI_eq, v_isW, v_inW, bz, HR, Sk_rw hS, fX12_trim, w]
/-! ===== division toward 0, by 100 and 10 ===== -/
theorem iI_dv {a b : Int} (h1 : -2147483648 ≤ a) (h2 : a < 2147483648) (h3 : 2 ≤ b) (h4 : b < 2147483648) : iI a / iI b = iI (a.tdiv b) := by
  by_cases ha : a = -2147483648
  · subst ha
    apply Int32.toInt_inj.1
    have e0 : ((-2147483648 : Int).tdiv b) = -((2147483648 : Int) / b) := by
      rw [show (-2147483648 : Int) = -(2147483648 : Int) from rfl, Int.neg_tdiv, Int.tdiv_eq_ediv_of_nonneg (by omega)]
    have e1 : 0 ≤ (2147483648 : Int) / b := Int.ediv_nonneg (by omega) (by omega)
    have e2 : (2147483648 : Int) / b ≤ 2147483648 := Int.ediv_le_self _ (by omega)
    rw [iI_t (by omega) (by omega), Int32.toInt_div, iI_t (by omega) (by omega), iI_t (by omega) h4, iI_bmod (by omega) (by omega)]
  · exact iI_div (by omega) h2 (by omega) h4
theorem td_cases (a : Int) (b : Int) : (0 ≤ a ∧ a.tdiv b = a / b) ∨ (a < 0 ∧ a.tdiv b = -((-a) / b)) := by
  rcases Int.lt_or_le a 0 with q | q
  · refine Or.inr ⟨q, ?_⟩
    have e : a.tdiv b = -((-a).tdiv b) := by rw [Int.neg_tdiv]; omega
    rw [e, Int.tdiv_eq_ediv_of_nonneg (by omega)]
  · exact Or.inl ⟨q, Int.tdiv_eq_ediv_of_nonneg q⟩
/-! ===== new cells ===== -/
theorem gI_nw {h : Hs} {k : Nat × Nat} {f a : Nat} (ha : a < sz h) : gI (nw h k) f a = gI h f a := by
  have e : ¬ a = sz h := by omega
  simp [gI, nw, e]
theorem gR_nw {h : Hs} {k : Nat × Nat} {f a : Nat} (ha : a < sz h) : gR (nw h k) f a = gR h f a := by
  have e : ¬ a = sz h := by omega
  simp [gR, nw, e]
theorem aI_nw {h : Hs} {k : Nat × Nat} {a : Nat} (ha : a < sz h) : aI (nw h k) a = aI h a := by
  have e : ¬ a = sz h := by omega
  funext j
  simp [aI, nw, e]
theorem aR_nw {h : Hs} {k : Nat × Nat} {a : Nat} (ha : a < sz h) : aR (nw h k) a = aR h a := by
  have e : ¬ a = sz h := by omega
  funext j
  simp [aR, nw, e]
theorem sh_nw {h : Hs} {k : Nat × Nat} {a : Nat} (ha : a < sz h) : sh (nw h k) a = sh h a := by
  have e : ¬ a = sz h := by omega
  simp [sh, nw, e]
theorem sh_nwS (h : Hs) (k : Nat × Nat) : sh (nw h k) (sz h) = k := by simp [sh, nw]
theorem sz_nw (h : Hs) (k : Nat × Nat) : sz (nw h k) = sz h + 1 := rfl
theorem gI_nwS (h : Hs) (k : Nat × Nat) (f : Nat) : gI (nw h k) f (sz h) = 0 := by simp [gI, nw]
theorem gR_nwS (h : Hs) (k : Nat × Nat) (f : Nat) : gR (nw h k) f (sz h) = none := by simp [gR, nw]
theorem aI_nwS (h : Hs) (k : Nat × Nat) (j : Nat) : aI (nw h k) (sz h) j = 0 := by simp [aI, nw]
/-! ===== what a call leaves as it was, where it may make cells and write references ===== -/
def Ke (F A FR AQ : List Nat) (h h2 : Hs) : Prop := (∀ f a, f ∉ F → a < sz h → gI h2 f a = gI h f a) ∧ (∀ a, a ∉ A → a < sz h → aI h2 a = aI h a) ∧ (∀ f a, f ∉ FR → a < sz h → gR h2 f a = gR h f a) ∧ (∀ a, a ∉ AQ → a < sz h → aR h2 a = aR h a) ∧ (∀ a, a < sz h → sh h2 a = sh h a) ∧ sz h ≤ sz h2
theorem Ke_rf {F A FR AQ : List Nat} {h : Hs} : Ke F A FR AQ h h := ⟨fun _ _ _ _ => rfl, fun _ _ _ => rfl, fun _ _ _ _ => rfl, fun _ _ _ => rfl, fun _ _ => rfl, Nat.le_refl _⟩
theorem Ke.tr {F A FR AQ : List Nat} {h h1 h2 : Hs} (k : Ke F A FR AQ h h1) (k2 : Ke F A FR AQ h1 h2) : Ke F A FR AQ h h2 := by
  obtain ⟨a1, a2, a3, a4, a5, a6⟩ := k
  obtain ⟨b1, b2, b3, b4, b5, b6⟩ := k2
  refine ⟨fun f a q z => ?_, fun a q z => ?_, fun f a q z => ?_, fun a q z => ?_, fun a z => ?_, by omega⟩
  · rw [b1 f a q (by omega), a1 f a q z]
  · rw [b2 a q (by omega), a2 a q z]
  · rw [b3 f a q (by omega), a3 f a q z]
  · rw [b4 a q (by omega), a4 a q z]
  · rw [b5 a (by omega), a5 a z]
theorem Kq.e {F A FR AQ : List Nat} {h h2 : Hs} (k : Kq F A h h2) : Ke F A FR AQ h h2 := ⟨fun f a q _ => k.1 f a q, fun a q _ => k.2.1 a q, fun f a _ _ => by rw [k.2.2.1], fun a _ _ => by rw [k.2.2.2.1], fun a _ => by rw [k.2.2.2.2.1], by rw [k.2.2.2.2.2]; exact Nat.le_refl _⟩
theorem Ke.u {F A FR AQ : List Nat} {h h1 : Hs} (k : Ke F A FR AQ h h1) (f a : Nat) (v : Int32) (hf : f ∈ F) : Ke F A FR AQ h (uI h1 f a v) := k.tr (((Kq_rf (F := F) (A := A)).u f a v hf).e)
theorem Ke.b {F A FR AQ : List Nat} {h h1 : Hs} (k : Ke F A FR AQ h h1) (a j : Nat) (v : Int32) (ha : a ∈ A) : Ke F A FR AQ h (uA h1 a j v) := k.tr (((Kq_rf (F := F) (A := A)).b a j v ha).e)
theorem Ke.a {F A FR AQ : List Nat} {h h1 : Hs} (k : Ke F A FR AQ h h1) (a : Nat) (f : Nat → Int32) (ha : a ∈ A) : Ke F A FR AQ h (wA h1 a f) := k.tr (((Kq_rf (F := F) (A := A)).a a f ha).e)
theorem Ke.n {F A FR AQ : List Nat} {h h1 : Hs} (k : Ke F A FR AQ h h1) (kd : Nat × Nat) : Ke F A FR AQ h (nw h1 kd) := k.tr ⟨fun f a _ z => gI_nw z, fun a _ z => aI_nw z, fun f a _ z => gR_nw z, fun a _ z => aR_nw z, fun a z => sh_nw z, Nat.le_succ _⟩
theorem Ke.r {F A FR AQ : List Nat} {h h1 : Hs} (k : Ke F A FR AQ h h1) (f a : Nat) (v : Option Nat) (hf : f ∈ FR) : Ke F A FR AQ h (uR h1 f a v) := k.tr ⟨fun _ _ _ _ => rfl, fun _ _ _ => rfl, fun f' a' q _ => (by have e : f' ≠ f := fun z => q (by rw [z]; exact hf); simp [HR, e]), fun _ _ _ => rfl, fun _ _ => rfl, Nat.le_refl _⟩
theorem Ke.q {F A FR AQ : List Nat} {h h1 : Hs} (k : Ke F A FR AQ h h1) (a j : Nat) (v : Option Nat) (ha : a ∈ AQ) : Ke F A FR AQ h (uQ h1 a j v) := k.tr ⟨fun _ _ _ _ => rfl, fun _ _ _ => rfl, fun _ _ _ _ => rfl, fun a' q _ => (by have e : a' ≠ a := fun z => q (by rw [z]; exact ha); funext j'; simp [HR, e]), fun _ _ => rfl, Nat.le_refl _⟩
theorem Sk.e {F A FR AQ : List Nat} {h h2 : Hs} (hS : Sk h) (hz : 70 ≤ sz h) (k : Ke F A FR AQ h h2) (hF : ∀ f ∈ FR, f = 909 ∨ f = 911 ∨ f = 405 ∨ f = 409 ∨ f = 401 ∨ f = 906) : Sk h2 := by
  obtain ⟨k1, k2, k3, k4, k5, k6⟩ := k
  have g : ∀ f a, f ≠ 909 → f ≠ 911 → f ≠ 405 → f ≠ 409 → f ≠ 401 → f ≠ 906 → a < 70 → gR h2 f a = gR h f a := fun f a q1 q2 q3 q4 q5 q6 ha => k3 f a (fun z => by have := hF f z; omega) (by omega)
  have g5 : ∀ a, a < 70 → sh h2 a = sh h a := fun a ha => k5 a (by omega)
  unfold Sk at hS ⊢
  simp (disch := decide) only [g5, g]
  exact hS
theorem ICand.e {F A FR AQ : List Nat} {h h2 : Hs} (hC : ICand h) (hz : 70 ≤ sz h) (k : Ke F A FR AQ h h2) (hF : ∀ f ∈ FCand, f ∉ F) (hA : ∀ a ∈ ACand, a ∉ A) : ICand h2 := by
  obtain ⟨n, T, ln, lt, ⟨c1, c2, c3, c4⟩, c5, c6⟩ := hC
  refine ⟨n, T, ln, lt, ⟨?_, ?_, ?_, ?_⟩, fun i hi => ?_, c6⟩
  · rw [k.1 _ _ (hF _ (by decide)) (by omega)]; exact c1
  · rw [k.1 _ _ (hF _ (by decide)) (by omega)]; exact c2
  · rw [k.1 _ _ (hF _ (by decide)) (by omega)]; exact c3
  · rw [k.1 _ _ (hF _ (by decide)) (by omega)]; exact c4
  · rw [k.2.1 _ (hA 7 (by decide)) (by omega), k.2.1 _ (hA 8 (by decide)) (by omega), k.2.1 _ (hA 62 (by decide)) (by omega), k.2.1 _ (hA 63 (by decide)) (by omega)]
    exact c5 i hi
/-! ===== stock: flats, wants, what was given ===== -/
def RPan (h : Hs) (qa a1 a2 : Nat) (n : Nat) (pA : Nat → Nat) (ht wd pt : Nat → Int) : Prop := ∀ i, i < n → (aR h qa i = some (pA i) ∧ 70 ≤ pA i ∧ pA i < sz h ∧ sh h (pA i) = (3, 0) ∧ gI h 300 (pA i) = iI (ht i) ∧ gI h 301 (pA i) = iI (wd i) ∧ gI h 302 (pA i) = iI (pt i)) ∧ aI h a1 i = iI (100 * ht i + wd i) ∧ aI h a2 i = iI (pt i) ∧ 1 ≤ ht i ∧ ht i ≤ 99 ∧ 1 ≤ wd i ∧ wd i ≤ 99 ∧ 0 ≤ pt i ∧ pt i ≤ 9
def IStk (h : Hs) : Prop := ∃ (nf nv ng : Nat) (fA vA : Nat → Nat) (fh fw fp vh vw vp gv : Nat → Int),
  (gI h 604 9 = iI nf ∧ gI h 605 9 = iI nv ∧ gI h 606 9 = iI ng ∧ gI h 1256 29 = iI nf ∧ gI h 1259 29 = iI nv ∧ gI h 1263 29 = iI ng) ∧ nf ≤ 12 ∧ nv ≤ 6 ∧ ng ≤ 6 ∧
  RPan h 10 64 65 nf fA fh fw fp ∧ RPan h 11 66 67 nv vA vh vw vp ∧ ∀ i, i < ng → aI h 12 i = iI (gv i) ∧ aI h 69 i = iI (gv i)
abbrev FStk : List Nat := [604, 605, 606, 300, 301, 302, 1256, 1259, 1263]
abbrev AStk : List Nat := [12, 13, 64, 65, 66, 67, 68, 69]
abbrev QStk : List Nat := [10, 11]
theorem RPan.e {F A FR AQ : List Nat} {h h2 : Hs} {qa a1 a2 n : Nat} {pA : Nat → Nat} {ht wd pt : Nat → Int} (hR : RPan h qa a1 a2 n pA ht wd pt) (hz : 70 ≤ sz h) (k : Ke F A FR AQ h h2) (q1 : qa < 70) (q2 : a1 < 70) (q3 : a2 < 70) (hq : qa ∉ AQ) (h1 : a1 ∉ A) (h2' : a2 ∉ A) (f0 : 300 ∉ F) (f1 : 301 ∉ F) (f2 : 302 ∉ F) : RPan h2 qa a1 a2 n pA ht wd pt := by
  intro i hi
  obtain ⟨⟨r1, r2, r3, r4, r5, r6, r7⟩, r8, r9, r10⟩ := hR i hi
  obtain ⟨k1, k2, k3, k4, k5, k6⟩ := k
  refine ⟨⟨?_, r2, by omega, ?_, ?_, ?_, ?_⟩, ?_, ?_, r10⟩
  · rw [k4 _ hq (by omega)]; exact r1
  · rw [k5 _ r3]; exact r4
  · rw [k1 _ _ f0 r3]; exact r5
  · rw [k1 _ _ f1 r3]; exact r6
  · rw [k1 _ _ f2 r3]; exact r7
  · rw [k2 _ h1 (by omega)]; exact r8
  · rw [k2 _ h2' (by omega)]; exact r9
theorem IStk.e {F A FR AQ : List Nat} {h h2 : Hs} (hC : IStk h) (hz : 70 ≤ sz h) (k : Ke F A FR AQ h h2) (hF : ∀ f ∈ FStk, f ∉ F) (hA : ∀ a ∈ [12, 64, 65, 66, 67, 69], a ∉ A) (hQ : ∀ a ∈ QStk, a ∉ AQ) : IStk h2 := by
  obtain ⟨nf, nv, ng, fA, vA, fh, fw, fp, vh, vw, vp, gv, ⟨c1, c2, c3, c4, c5, c6⟩, b1, b2, b3, r1, r2, r3⟩ := hC
  refine ⟨nf, nv, ng, fA, vA, fh, fw, fp, vh, vw, vp, gv, ⟨?_, ?_, ?_, ?_, ?_, ?_⟩, b1, b2, b3, r1.e hz k (by omega) (by omega) (by omega) (hQ _ (by decide)) (hA _ (by decide)) (hA _ (by decide)) (hF _ (by decide)) (hF _ (by decide)) (hF _ (by decide)), r2.e hz k (by omega) (by omega) (by omega) (hQ _ (by decide)) (hA _ (by decide)) (hA _ (by decide)) (hF _ (by decide)) (hF _ (by decide)) (hF _ (by decide)), fun i hi => ?_⟩
  · rw [k.1 _ _ (hF _ (by decide)) (by omega)]; exact c1
  · rw [k.1 _ _ (hF _ (by decide)) (by omega)]; exact c2
  · rw [k.1 _ _ (hF _ (by decide)) (by omega)]; exact c3
  · rw [k.1 _ _ (hF _ (by decide)) (by omega)]; exact c4
  · rw [k.1 _ _ (hF _ (by decide)) (by omega)]; exact c5
  · rw [k.1 _ _ (hF _ (by decide)) (by omega)]; exact c6
  · rw [k.2.1 _ (hA 12 (by decide)) (by omega), k.2.1 _ (hA 69 (by decide)) (by omega)]
    exact r3 i hi
theorem t_given {N : Nat} {h : Hs} (hS : Sk h) (hC : IStk h) (p : Int32) : ∃ r, fX11_given N h 0 p = some (r, h) ∧ fX12_given N h 29 p = some (r, h) := by
  obtain ⟨z, z1, z2, rfl⟩ := iI_ex p
  obtain ⟨nf, nv, ng, fA, vA, fh, fw, fp, vh, vw, vp, gv, ⟨c1, c2, c3, c4, c5, c6⟩, b1, b2, b3, r1, r2, r3⟩ := hC
  by_cases w : 0 ≤ z ∧ z ≤ (ng : Int) - 1
  · obtain ⟨i, rfl⟩ : ∃ i : Nat, z = i := ⟨z.toNat, by omega⟩
    have e0 := r3 i (by omega)
    have e1 : ixb (iI (i : Int)) 6 = true := ixb_i (by omega) (by omega) (by omega)
    have e2 : (iI (i : Int)).toNatClampNeg = i := by rw [iI_cl (by omega) (by omega)]; simp
    refine ⟨iI (gv i), ?_, ?_⟩
    · simp (disch := omega) [oI, oR, qI, qZ, qR, rc, lit, iI_add, iI_sub, iI_mul, iI_neg, iI_le, iI_lt, iI_eq, v_isW, v_inW, bz, HR, Sk_rw hS, fX11_given, fX6_givenTo, fX6_givenTo_b24, lA, c3, w, e0, e1, e2]
    · simp (disch := omega) [oI, oR, qI, qZ, qR, rc, lit, iI_add, iI_sub, iI_mul, iI_neg, iI_le, iI_lt, iI_eq, v_isW, v_inW, bz, HR, Sk_rw hS, fX12_given, fX12_given_b24, lA, c6, w, e0, e1, e2]
  · refine ⟨-1, ?_, ?_⟩
    · simp (disch := omega) [oI, oR, qI, qZ, qR, rc, lit, iI_add, iI_sub, iI_mul, iI_neg, iI_le, iI_lt, iI_eq, v_isW, v_inW, bz, HR, Sk_rw hS, fX11_given, fX6_givenTo, fX6_givenTo_b24, c3, w]
    · simp (disch := omega) [oI, oR, qI, qZ, qR, rc, lit, iI_add, iI_sub, iI_mul, iI_neg, iI_le, iI_lt, iI_eq, v_isW, v_inW, bz, HR, Sk_rw hS, fX12_given, fX12_given_b24, c6, w]
theorem zc_i1 : zc (iI 1) = some (iI 1) := rfl
theorem zc_i0 : zc (iI 0) = some (iI 0) := rfl
theorem v_isPanel {N : Nat} {h : Hs} {s q : Int} (s1 : -2147483648 ≤ s) (s2 : s < 2147483648) (q1 : -2147483648 ≤ q) (q2 : q < 2147483648) : fX6_isPanel N h (iI s) (iI q) = some (if (100 ≤ s ∧ s ≤ 9999 ∧ s % 100 ≠ 0) ∧ 0 ≤ q ∧ q ≤ 9 then iI 1 else iI 0, h) := by
  have hd := td_cases s 100
  have e1 := iI_dv s1 s2 (b := 100) (by omega) (by omega)
  obtain ⟨H, hH⟩ : ∃ H, H = s.tdiv 100 := ⟨_, rfl⟩
  rw [← hH] at hd e1
  obtain ⟨R, hR⟩ : ∃ R, R = s - H * 100 := ⟨_, rfl⟩
  have e2 : iI s - iI H * iI 100 = iI R := by rw [iI_mul, iI_sub, hR]
  have b1 : -2147483648 ≤ H ∧ H < 2147483648 := by omega
  have b2 : -2147483648 ≤ R ∧ R < 2147483648 := by omega
  by_cases w1 : 1 ≤ H ∧ H ≤ 99
  · by_cases w2 : 1 ≤ R ∧ R ≤ 99
    · have w4 : 100 ≤ s ∧ s ≤ 9999 ∧ s % 100 ≠ 0 := by omega
      by_cases w3 : 0 ≤ q ∧ q ≤ 9
      · rw [if_pos ⟨w4, w3⟩]
        simp (disch := omega) only [fX6_isPanel, fX6_isPanel_b40, fX6_isPanel_b41, lit, e1, e2, v_isW, w1, w2, w3, and_self, if_true, iI_eq, Option.bind_some, zc_i1]
        simp
      · rw [if_neg (fun z => w3 z.2)]
        simp (disch := omega) only [fX6_isPanel, fX6_isPanel_b40, fX6_isPanel_b41, lit, e1, e2, v_isW, w1, w2, w3, and_self, if_true, if_false, iI_eq, Option.bind_some, zc_i0]
        simp
    · have w4 : ¬ (100 ≤ s ∧ s ≤ 9999 ∧ s % 100 ≠ 0) := by omega
      rw [if_neg (fun z => w4 z.1)]
      simp (disch := omega) only [fX6_isPanel, fX6_isPanel_b40, fX6_isPanel_b41, lit, e1, e2, v_isW, w1, w2, and_self, if_true, if_false, iI_eq, Option.bind_some, zc_i0]
      simp
  · have w4 : ¬ (100 ≤ s ∧ s ≤ 9999 ∧ s % 100 ≠ 0) := by omega
    rw [if_neg (fun z => w4 z.1)]
    simp (disch := omega) only [fX6_isPanel, fX6_isPanel_b40, fX6_isPanel_b41, lit, e1, e2, v_isW, w1, if_true, if_false, iI_eq, Option.bind_some, zc_i0]
theorem v_isSize {N : Nat} {h : Hs} {s : Int} (s1 : -2147483648 ≤ s) (s2 : s < 2147483648) : fX12_isSize N h (iI s) = some (if 100 ≤ s ∧ s ≤ 9999 ∧ s % 100 ≠ 0 then iI 1 else iI 0, h) := by
  have hd := td_cases s 100
  have e1 := iI_dv s1 s2 (b := 100) (by omega) (by omega)
  obtain ⟨H, hH⟩ : ∃ H, H = s.tdiv 100 := ⟨_, rfl⟩
  rw [← hH] at hd e1
  obtain ⟨R, hR⟩ : ∃ R, R = s - H * 100 := ⟨_, rfl⟩
  have e2 : iI s - iI H * iI 100 = iI R := by rw [iI_mul, iI_sub, hR]
  have b1 : -2147483648 ≤ H ∧ H < 2147483648 := by omega
  have b2 : -2147483648 ≤ R ∧ R < 2147483648 := by omega
  by_cases w0 : s < 0
  · rw [if_neg (by omega)]
    simp (disch := omega) only [fX12_isSize, fX12_isSize_b28, fX12_isSize_b29, lit, iI_lt, w0, if_true, Option.bind_some, zc_i0]
  · by_cases w1 : 1 ≤ H ∧ H ≤ 99
    · by_cases w2 : R ≤ 0
      · rw [if_neg (by omega)]
        simp (disch := omega) only [fX12_isSize, fX12_isSize_b28, fX12_isSize_b29, lit, e1, e2, iI_lt, iI_le, v_inW, w0, w1, w2, and_self, if_true, if_false, iI_eq, Option.bind_some, zc_i0]
        simp
      · rw [if_pos (by omega)]
        simp (disch := omega) only [fX12_isSize, fX12_isSize_b28, fX12_isSize_b29, lit, e1, e2, iI_lt, iI_le, v_inW, w0, w1, w2, and_self, if_true, if_false, iI_eq, Option.bind_some, zc_i1]
        simp
    · rw [if_neg (by omega)]
      simp (disch := omega) only [fX12_isSize, fX12_isSize_b28, fX12_isSize_b29, lit, e1, e2, iI_lt, iI_le, v_inW, w0, w1, if_true, if_false, iI_eq, Option.bind_some, zc_i0]
/-- a panel made: its three fields -/
theorem v_panel {N : Nat} {h : Hs} {s q : Int} (s1 : 100 ≤ s) (s2 : s ≤ 9999) : fX3_init N (nw h (3, 0)) (sz h) (iI s) (iI q) = some (uI (uI (uI (nw h (3, 0)) 300 (sz h) (iI (s / 100))) 301 (sz h) (iI (s % 100))) 302 (sz h) (iI q)) := by
  have e1 := iI_dv (a := s) (b := 100) (by omega) (by omega) (by omega) (by omega)
  rw [Int.tdiv_eq_ediv_of_nonneg (by omega)] at e1
  have e2 : iI s - iI (s / 100) * iI 100 = iI (s % 100) := by
    rw [iI_mul, iI_sub]
    congr 1
    omega
  have e3 : (sh (nw h (3, 0)) (sz h)).1 = 3 := by rw [sh_nwS]
  simp [fX3_init, qI, lit, e1, e2, HR, e3]
theorem RPan.add {h : Hs} {qa a1 a2 n : Nat} {pA : Nat → Nat} {ht wd pt : Nat → Int} (hR : RPan h qa a1 a2 n pA ht wd pt) (hz : 70 ≤ sz h) {h2 : Hs} {F A FR AQ : List Nat} (k : Ke F A FR AQ h h2) (q1 : qa < 70) (q2 : a1 < 70) (q3 : a2 < 70) {s q : Int} (s1 : 100 ≤ s) (s2 : s ≤ 9999) (s3 : s % 100 ≠ 0) (g1 : 0 ≤ q) (g2 : q ≤ 9)
    (z2 : sz h < sz h2) (n0 : aR h2 qa n = some (sz h)) (nq : ∀ i, i ≠ n → aR h2 qa i = aR h qa i) (ns : sh h2 (sz h) = (3, 0)) (m0 : gI h2 300 (sz h) = iI (s / 100)) (m1 : gI h2 301 (sz h) = iI (s % 100)) (m2 : gI h2 302 (sz h) = iI q) (o0 : ∀ a, a < sz h → gI h2 300 a = gI h 300 a ∧ gI h2 301 a = gI h 301 a ∧ gI h2 302 a = gI h 302 a)
    (p1 : aI h2 a1 n = iI s) (p2 : aI h2 a2 n = iI q) (pq1 : ∀ i, i ≠ n → aI h2 a1 i = aI h a1 i) (pq2 : ∀ i, i ≠ n → aI h2 a2 i = aI h a2 i) : RPan h2 qa a1 a2 (n + 1) (fun i => if i = n then sz h else pA i) (fun i => if i = n then s / 100 else ht i) (fun i => if i = n then s % 100 else wd i) (fun i => if i = n then q else pt i) := by
  intro i hi
  by_cases e : i = n
  · subst e
    simp only [if_true]
    refine ⟨⟨n0, hz, z2, ns, m0, m1, m2⟩, ?_, p2, by omega, by omega, by omega, by omega, g1, g2⟩
    rw [p1]
    congr 1
    omega
  · obtain ⟨⟨r1, r2, r3, r4, r5, r6, r7⟩, r8, r9, r10⟩ := hR i (by omega)
    simp only [e, if_false]
    have := o0 _ r3
    refine ⟨⟨by rw [nq i e]; exact r1, r2, by omega, by rw [k.2.2.2.2.1 _ r3]; exact r4, by rw [this.1]; exact r5, by rw [this.2.1]; exact r6, by rw [this.2.2]; exact r7⟩, by rw [pq1 i e]; exact r8, by rw [pq2 i e]; exact r9, r10⟩
theorem RPan.oth {h : Hs} {qa a1 a2 n : Nat} {pA : Nat → Nat} {ht wd pt : Nat → Int} (hR : RPan h qa a1 a2 n pA ht wd pt) (hz : 70 ≤ sz h) {h2 : Hs} {F A FR AQ : List Nat} (k : Ke F A FR AQ h h2) (q1 : qa < 70) (q2 : a1 < 70) (q3 : a2 < 70) (hq : qa ∉ AQ) (h1 : a1 ∉ A) (h2' : a2 ∉ A) (o0 : ∀ a, a < sz h → gI h2 300 a = gI h 300 a ∧ gI h2 301 a = gI h 301 a ∧ gI h2 302 a = gI h 302 a) : RPan h2 qa a1 a2 n pA ht wd pt := by
  intro i hi
  obtain ⟨⟨r1, r2, r3, r4, r5, r6, r7⟩, r8, r9, r10⟩ := hR i hi
  have := o0 _ r3
  have k6 := k.2.2.2.2.2
  refine ⟨⟨by rw [k.2.2.2.1 _ hq (by omega)]; exact r1, r2, by omega, by rw [k.2.2.2.2.1 _ r3]; exact r4, by rw [this.1]; exact r5, by rw [this.2.1]; exact r6, by rw [this.2.2]; exact r7⟩, by rw [k.2.1 _ h1 (by omega)]; exact r8, by rw [k.2.1 _ h2' (by omega)]; exact r9, r10⟩
theorem t_flat {N : Nat} {h : Hs} (hS : Sk h) (hz : 70 ≤ sz h) (hC : IStk h) (p1 p2 : Int32) : ∃ r h1 h2, fX11_flat N h 0 p1 p2 = some (r, h1) ∧ fX12_flat N h1 29 p1 p2 = some (r, h2) ∧ IStk h2 ∧ Ke [604, 1256, 300, 301, 302] [64, 65] [] [10] h h2 := by
  obtain ⟨s, s1, s2, rfl⟩ := iI_ex p1
  obtain ⟨q, q1, q2, rfl⟩ := iI_ex p2
  have hC0 := hC
  obtain ⟨nf, nv, ng, fA, vA, fh, fw, fp, vh, vw, vp, gv, ⟨c1, c2, c3, c4, c5, c6⟩, b1, b2, b3, r1, r2, r3⟩ := hC
  by_cases w1 : 100 ≤ s ∧ s ≤ 9999 ∧ s % 100 ≠ 0
  · by_cases w2 : 0 ≤ q ∧ q ≤ 9
    · by_cases w3 : nf < 12
      · obtain ⟨h0, hh0⟩ : ∃ h0, h0 = uI (uI (uI (nw h (3, 0)) 300 (sz h) (iI (s / 100))) 301 (sz h) (iI (s % 100))) 302 (sz h) (iI q) := ⟨_, rfl⟩
        have ke0 : Ke [604, 1256, 300, 301, 302] [64, 65] [] [10] h h0 := by
          rw [hh0]
          exact (((Ke_rf.n _).u _ _ _ (by decide)).u _ _ _ (by decide)).u _ _ _ (by decide)
        have kv := v_panel (N := N) (h := h) (q := q) w1.1 w1.2.1
        rw [← hh0] at kv
        have hS0 := hS.e hz ke0 (fun f hf => absurd hf List.not_mem_nil)
        have z0 : sz h0 = sz h + 1 := by rw [hh0]; rfl
        have x1 : gI h0 604 9 = iI nf := by rw [hh0]; simp [HR]; rw [gI_nw (by omega)]; exact c1
        have x2 : (sh h0 (sz h)).1 = 3 := by rw [hh0]; simp [HR, sh_nwS]
        have e1 : ixb (iI (nf : Int)) 12 = true := ixb_i (by omega) (by omega) (by omega)
        have e2 : (iI (nf : Int)).toNatClampNeg = nf := by rw [iI_cl (by omega) (by omega)]; simp
        obtain ⟨h1, hh1⟩ : ∃ h1, h1 = uI (uQ h0 10 nf (some (sz h))) 604 9 (iI (nf + 1)) := ⟨_, rfl⟩
        have ke1 : Ke [604, 1256, 300, 301, 302] [64, 65] [] [10] h h1 := by
          rw [hh1]
          exact (ke0.q _ _ _ (by decide)).u _ _ _ (by decide)
        have hS1 := hS.e hz ke1 (fun f hf => absurd hf List.not_mem_nil)
        have y1 : gI h1 1256 29 = iI nf := by rw [hh1, hh0]; simp [HR]; rw [gI_nw (by omega)]; exact c4
        obtain ⟨h2, hh2⟩ : ∃ h2, h2 = uI (uA (uA h1 64 nf (iI s)) 65 nf (iI q)) 1256 29 (iI (nf + 1)) := ⟨_, rfl⟩
        have ke2 : Ke [604, 1256, 300, 301, 302] [64, 65] [] [10] h h2 := by
          rw [hh2]
          exact ((ke1.b _ _ _ (by decide)).b _ _ _ (by decide)).u _ _ _ (by decide)
        refine ⟨iI nf, h1, h2, ?_, ?_, ?_, ke2⟩
        · have w4 : (nf : Int) < 12 := by omega
          rw [hh1]
          have hP := v_isPanel (N := N) (h := h) s1 s2 q1 q2
          rw [if_pos ⟨w1, w2⟩] at hP
          simp (disch := omega) [fX11_flat, fX6_addFlat, hP, oI, oR, rc, Sk_rw hS, c1, lit, iI_lt, iI_eq, w4, kv, sQ, qI, Sk_rw hS0, e1, e2, x1, x2, HR, iI_add]
        · have w4 : ¬ (nf : Int) = 12 := by omega
          rw [hh2]
          have hP := v_isSize (N := N) (h := h1) s1 s2
          rw [if_pos w1] at hP
          have hI := v_inW (N := N) (h := h1) (x := q) (a := 0) (b := 9) (by omega) (by omega) (by omega) (by omega) (by omega) (by omega)
          rw [if_pos w2] at hI
          simp (disch := omega) [fX12_flat, hP, hI, oI, oR, rc, Sk_rw hS1, y1, lit, iI_lt, iI_eq, w4, sA, qI, e1, e2, HR, iI_add, iI_sub]
        · have o0 : ∀ a, a < sz h → gI h2 300 a = gI h 300 a ∧ gI h2 301 a = gI h 301 a ∧ gI h2 302 a = gI h 302 a := fun a ha => by
            have e9 : ¬ a = sz h := by omega
            rw [hh2, hh1, hh0]
            simp [HR, e9, gI_nw ha]
          refine ⟨nf + 1, nv, ng, fun i => if i = nf then sz h else fA i, vA, fun i => if i = nf then s / 100 else fh i, fun i => if i = nf then s % 100 else fw i, fun i => if i = nf then q else fp i, vh, vw, vp, gv, ⟨?_, ?_, ?_, ?_, ?_, ?_⟩, by omega, b2, b3, ?_, ?_, ?_⟩
          · rw [hh2, hh1]; simp [HR]
          · rw [ke2.1 _ _ (by decide) (by omega)]; exact c2
          · rw [ke2.1 _ _ (by decide) (by omega)]; exact c3
          · rw [hh2]; simp [HR]
          · rw [ke2.1 _ _ (by decide) (by omega)]; exact c5
          · rw [ke2.1 _ _ (by decide) (by omega)]; exact c6
          · refine r1.add hz ke2 (by omega) (by omega) (by omega) w1.1 w1.2.1 w1.2.2 w2.1 w2.2 ?_ ?_ ?_ ?_ ?_ ?_ ?_ o0 ?_ ?_ ?_ ?_
            · rw [hh2, hh1]; simp [HR, z0]
            · rw [hh2, hh1]; simp [HR]
            · intro i hi
              rw [hh2, hh1, hh0]
              simp [HR, hi]
              rw [aR_nw (by omega)]
            · rw [hh2, hh1, hh0]; simp [HR, sh_nwS]
            · rw [hh2, hh1, hh0]; simp [HR]
            · rw [hh2, hh1, hh0]; simp [HR]
            · rw [hh2, hh1, hh0]; simp [HR]
            · rw [hh2]; simp [HR]
            · rw [hh2]; simp [HR]
            · intro i hi
              rw [hh2, hh1, hh0]
              simp [HR, hi]
              rw [aI_nw (by omega)]
            · intro i hi
              rw [hh2, hh1, hh0]
              simp [HR, hi]
              rw [aI_nw (by omega)]
          · exact r2.oth hz ke2 (by omega) (by omega) (by omega) (by decide) (by decide) (by decide) o0
          · intro i hi
            rw [ke2.2.1 _ (by decide) (by omega), ke2.2.1 _ (by decide) (by omega)]
            exact r3 i hi
      · have w4 : ¬ (nf : Int) < 12 := by omega
        have w5 : (nf : Int) = 12 := by omega
        refine ⟨-3, h, h, ?_, ?_, hC0, Ke_rf⟩
        · have hP := v_isPanel (N := N) (h := h) s1 s2 q1 q2
          rw [if_pos ⟨w1, w2⟩] at hP
          simp (disch := omega) [fX11_flat, fX6_addFlat, hP, oI, oR, rc, Sk_rw hS, c1, lit, iI_lt, iI_eq, w4]
        · have hP := v_isSize (N := N) (h := h) s1 s2
          rw [if_pos w1] at hP
          have hI := v_inW (N := N) (h := h) (x := q) (a := 0) (b := 9) (by omega) (by omega) (by omega) (by omega) (by omega) (by omega)
          rw [if_pos w2] at hI
          simp (disch := omega) [fX12_flat, hP, hI, oI, oR, rc, Sk_rw hS, c4, lit, iI_lt, iI_eq, w5]
    · refine ⟨-1, h, h, ?_, ?_, hC0, Ke_rf⟩
      · have hP := v_isPanel (N := N) (h := h) s1 s2 q1 q2
        rw [if_neg (fun z => w2 z.2)] at hP
        simp [fX11_flat, fX6_addFlat, hP, oR, rc, Sk_rw hS, lit]
      · have hP := v_isSize (N := N) (h := h) s1 s2
        rw [if_pos w1] at hP
        have hI := v_inW (N := N) (h := h) (x := q) (a := 0) (b := 9) (by omega) (by omega) (by omega) (by omega) (by omega) (by omega)
        rw [if_neg w2] at hI
        simp (disch := omega) [fX12_flat, fX12_flat_b17, hP, hI, lit, iI_eq]
  · refine ⟨-1, h, h, ?_, ?_, hC0, Ke_rf⟩
    · have hP := v_isPanel (N := N) (h := h) s1 s2 q1 q2
      rw [if_neg (fun z => w1 z.1)] at hP
      simp [fX11_flat, fX6_addFlat, hP, oR, rc, Sk_rw hS, lit]
    · have hP := v_isSize (N := N) (h := h) s1 s2
      rw [if_neg w1] at hP
      simp [fX12_flat, fX12_flat_b17, hP, lit]
theorem t_want {N : Nat} {h : Hs} (hS : Sk h) (hz : 70 ≤ sz h) (hC : IStk h) (p1 p2 : Int32) : ∃ r h1 h2, fX11_want N h 0 p1 p2 = some (r, h1) ∧ fX12_want N h1 29 p1 p2 = some (r, h2) ∧ IStk h2 ∧ Ke [605, 1259, 300, 301, 302] [66, 67] [] [11] h h2 := by
  obtain ⟨s, s1, s2, rfl⟩ := iI_ex p1
  obtain ⟨q, q1, q2, rfl⟩ := iI_ex p2
  have hC0 := hC
  obtain ⟨nf, nv, ng, fA, vA, fh, fw, fp, vh, vw, vp, gv, ⟨c1, c2, c3, c4, c5, c6⟩, b1, b2, b3, r1, r2, r3⟩ := hC
  by_cases w1 : 100 ≤ s ∧ s ≤ 9999 ∧ s % 100 ≠ 0
  · by_cases w2 : 0 ≤ q ∧ q ≤ 9
    · by_cases w3 : nv < 6
      · obtain ⟨h0, hh0⟩ : ∃ h0, h0 = uI (uI (uI (nw h (3, 0)) 300 (sz h) (iI (s / 100))) 301 (sz h) (iI (s % 100))) 302 (sz h) (iI q) := ⟨_, rfl⟩
        have ke0 : Ke [605, 1259, 300, 301, 302] [66, 67] [] [11] h h0 := by
          rw [hh0]
          exact (((Ke_rf.n _).u _ _ _ (by decide)).u _ _ _ (by decide)).u _ _ _ (by decide)
        have kv := v_panel (N := N) (h := h) (q := q) w1.1 w1.2.1
        rw [← hh0] at kv
        have hS0 := hS.e hz ke0 (fun f hf => absurd hf List.not_mem_nil)
        have z0 : sz h0 = sz h + 1 := by rw [hh0]; rfl
        have x1 : gI h0 605 9 = iI nv := by rw [hh0]; simp [HR]; rw [gI_nw (by omega)]; exact c2
        have x2 : (sh h0 (sz h)).1 = 3 := by rw [hh0]; simp [HR, sh_nwS]
        have e1 : ixb (iI (nv : Int)) 6 = true := ixb_i (by omega) (by omega) (by omega)
        have e2 : (iI (nv : Int)).toNatClampNeg = nv := by rw [iI_cl (by omega) (by omega)]; simp
        obtain ⟨h1, hh1⟩ : ∃ h1, h1 = uI (uQ h0 11 nv (some (sz h))) 605 9 (iI (nv + 1)) := ⟨_, rfl⟩
        have ke1 : Ke [605, 1259, 300, 301, 302] [66, 67] [] [11] h h1 := by
          rw [hh1]
          exact (ke0.q _ _ _ (by decide)).u _ _ _ (by decide)
        have hS1 := hS.e hz ke1 (fun f hf => absurd hf List.not_mem_nil)
        have y1 : gI h1 1259 29 = iI nv := by rw [hh1, hh0]; simp [HR]; rw [gI_nw (by omega)]; exact c5
        obtain ⟨h2, hh2⟩ : ∃ h2, h2 = uI (uA (uA h1 66 nv (iI s)) 67 nv (iI q)) 1259 29 (iI (nv + 1)) := ⟨_, rfl⟩
        have ke2 : Ke [605, 1259, 300, 301, 302] [66, 67] [] [11] h h2 := by
          rw [hh2]
          exact ((ke1.b _ _ _ (by decide)).b _ _ _ (by decide)).u _ _ _ (by decide)
        refine ⟨iI (nv + 1), h1, h2, ?_, ?_, ?_, ke2⟩
        · have w4 : (nv : Int) < 6 := by omega
          rw [hh1]
          have hP := v_isPanel (N := N) (h := h) s1 s2 q1 q2
          rw [if_pos ⟨w1, w2⟩] at hP
          simp (disch := omega) [fX11_want, fX6_addWant, hP, oI, oR, rc, Sk_rw hS, c2, lit, iI_lt, iI_eq, w4, kv, sQ, qI, Sk_rw hS0, e1, e2, x1, x2, HR, iI_add]
        · have w4 : ¬ (nv : Int) = 6 := by omega
          rw [hh2]
          have hP := v_isSize (N := N) (h := h1) s1 s2
          rw [if_pos w1] at hP
          have hI := v_inW (N := N) (h := h1) (x := q) (a := 0) (b := 9) (by omega) (by omega) (by omega) (by omega) (by omega) (by omega)
          rw [if_pos w2] at hI
          simp (disch := omega) [fX12_want, hP, hI, oI, oR, rc, Sk_rw hS1, y1, lit, iI_lt, iI_eq, w4, sA, qI, e1, e2, HR, iI_add, iI_sub]
        · have o0 : ∀ a, a < sz h → gI h2 300 a = gI h 300 a ∧ gI h2 301 a = gI h 301 a ∧ gI h2 302 a = gI h 302 a := fun a ha => by
            have e9 : ¬ a = sz h := by omega
            rw [hh2, hh1, hh0]
            simp [HR, e9, gI_nw ha]
          refine ⟨nf, nv + 1, ng, fA, fun i => if i = nv then sz h else vA i, fh, fw, fp, fun i => if i = nv then s / 100 else vh i, fun i => if i = nv then s % 100 else vw i, fun i => if i = nv then q else vp i, gv, ⟨?_, ?_, ?_, ?_, ?_, ?_⟩, b1, by omega, b3, r1.oth hz ke2 (by omega) (by omega) (by omega) (by decide) (by decide) (by decide) o0, ?_, ?_⟩
          · rw [ke2.1 _ _ (by decide) (by omega)]; exact c1
          · rw [hh2, hh1]; simp [HR]
          · rw [ke2.1 _ _ (by decide) (by omega)]; exact c3
          · rw [ke2.1 _ _ (by decide) (by omega)]; exact c4
          · rw [hh2]; simp [HR]
          · rw [ke2.1 _ _ (by decide) (by omega)]; exact c6
          · refine r2.add hz ke2 (by omega) (by omega) (by omega) w1.1 w1.2.1 w1.2.2 w2.1 w2.2 ?_ ?_ ?_ ?_ ?_ ?_ ?_ o0 ?_ ?_ ?_ ?_
            · rw [hh2, hh1]; simp [HR, z0]
            · rw [hh2, hh1]; simp [HR]
            · intro i hi
              rw [hh2, hh1, hh0]
              simp [HR, hi]
              rw [aR_nw (by omega)]
            · rw [hh2, hh1, hh0]; simp [HR, sh_nwS]
            · rw [hh2, hh1, hh0]; simp [HR]
            · rw [hh2, hh1, hh0]; simp [HR]
            · rw [hh2, hh1, hh0]; simp [HR]
            · rw [hh2]; simp [HR]
            · rw [hh2]; simp [HR]
            · intro i hi
              rw [hh2, hh1, hh0]
              simp [HR, hi]
              rw [aI_nw (by omega)]
            · intro i hi
              rw [hh2, hh1, hh0]
              simp [HR, hi]
              rw [aI_nw (by omega)]
          · intro i hi
            rw [ke2.2.1 _ (by decide) (by omega), ke2.2.1 _ (by decide) (by omega)]
            exact r3 i hi
      · have w4 : ¬ (nv : Int) < 6 := by omega
        have w5 : (nv : Int) = 6 := by omega
        refine ⟨-3, h, h, ?_, ?_, hC0, Ke_rf⟩
        · have hP := v_isPanel (N := N) (h := h) s1 s2 q1 q2
          rw [if_pos ⟨w1, w2⟩] at hP
          simp (disch := omega) [fX11_want, fX6_addWant, hP, oI, oR, rc, Sk_rw hS, c2, lit, iI_lt, iI_eq, w4]
        · have hP := v_isSize (N := N) (h := h) s1 s2
          rw [if_pos w1] at hP
          have hI := v_inW (N := N) (h := h) (x := q) (a := 0) (b := 9) (by omega) (by omega) (by omega) (by omega) (by omega) (by omega)
          rw [if_pos w2] at hI
          simp (disch := omega) [fX12_want, hP, hI, oI, oR, rc, Sk_rw hS, c5, lit, iI_lt, iI_eq, w5]
    · refine ⟨-1, h, h, ?_, ?_, hC0, Ke_rf⟩
      · have hP := v_isPanel (N := N) (h := h) s1 s2 q1 q2
        rw [if_neg (fun z => w2 z.2)] at hP
        simp [fX11_want, fX6_addWant, hP, oR, rc, Sk_rw hS, lit]
      · have hP := v_isSize (N := N) (h := h) s1 s2
        rw [if_pos w1] at hP
        have hI := v_inW (N := N) (h := h) (x := q) (a := 0) (b := 9) (by omega) (by omega) (by omega) (by omega) (by omega) (by omega)
        rw [if_neg w2] at hI
        simp (disch := omega) [fX12_want, fX12_want_b17, hP, hI, lit, iI_eq]
  · refine ⟨-1, h, h, ?_, ?_, hC0, Ke_rf⟩
    · have hP := v_isPanel (N := N) (h := h) s1 s2 q1 q2
      rw [if_neg (fun z => w1 z.1)] at hP
      simp [fX11_want, fX6_addWant, hP, oR, rc, Sk_rw hS, lit]
    · have hP := v_isSize (N := N) (h := h) s1 s2
      rw [if_neg w1] at hP
      simp [fX12_want, fX12_want_b17, hP, lit]
