/-! ===== paint: sets as numbers ===== -/
def pcn : Nat → Nat → Nat
  | 0, _ => 0
  | k + 1, T => T % 2 + pcn k (T / 2)
theorem mor_all : (List.range 12).all (fun i => decide (iI 1 <<< (iI i &&& iI 31) = iI ((2 ^ i : Nat) : Int))) = true := by decide +kernel
theorem bcn_all : (List.range 4096).all (fun T => decide ((fun p0 : Int32 => (fun y1 : Int32 => (fun y2 : Int32 => (fun y3 : Int32 => (fun y4 : Int32 => (fun y5 : Int32 => y5 &&& 63) (y4 + (((y4).toUInt32 >>> ((16 : Int32).toUInt32 &&& Int32.toUInt32 31)).toInt32))) (y3 + (((y3).toUInt32 >>> ((8 : Int32).toUInt32 &&& Int32.toUInt32 31)).toInt32))) ((y2 + (((y2).toUInt32 >>> ((4 : Int32).toUInt32 &&& Int32.toUInt32 31)).toInt32)) &&& 252645135)) ((y1 &&& 858993459) + ((((y1).toUInt32 >>> ((2 : Int32).toUInt32 &&& Int32.toUInt32 31)).toInt32) &&& 858993459))) (p0 - ((((p0).toUInt32 >>> ((1 : Int32).toUInt32 &&& Int32.toUInt32 31)).toInt32) &&& 1431655765))) (iI T) = iI (pcn 12 T))) = true := by decide +kernel
theorem pcn_or : ∀ (k i T : Nat), i < k → T.testBit i = false → pcn k (T ||| 2 ^ i) = pcn k T + 1
  | 0, i, T, h, _ => absurd h (Nat.not_lt_zero i)
  | k + 1, 0, T, _, h2 => by
    have h3 : ¬ T % 2 = 1 := by
      rw [Nat.testBit_zero] at h2
      exact of_decide_eq_false h2
    have e1 : (T ||| 2 ^ 0) / 2 = T / 2 := by
      rw [Nat.or_div_two]
      exact Nat.or_zero (T / 2)
    have e2 : (T ||| 2 ^ 0) % 2 = 1 := Nat.or_mod_two_eq_one.mpr (Or.inr rfl)
    show (T ||| 2 ^ 0) % 2 + pcn k ((T ||| 2 ^ 0) / 2) = T % 2 + pcn k (T / 2) + 1
    rw [e1, e2]
    omega
  | k + 1, i + 1, T, h1, h2 => by
    have h3 : (T / 2).testBit i = false := by
      rw [← Nat.testBit_add_one]
      exact h2
    have p2 : 2 ^ (i + 1) = 2 * 2 ^ i := by rw [Nat.pow_succ, Nat.mul_comm]
    have e1 : (T ||| 2 ^ (i + 1)) / 2 = T / 2 ||| 2 ^ i := by rw [Nat.or_div_two, p2, Nat.mul_div_cancel_left _ (by omega)]
    have e2 : (T ||| 2 ^ (i + 1)) % 2 = T % 2 := by
      have z : ¬ 2 ^ (i + 1) % 2 = 1 := by
        rw [p2, Nat.mul_mod_right]
        omega
      by_cases w : T % 2 = 1
      · rw [w]
        exact Nat.or_mod_two_eq_one.mpr (Or.inl w)
      · have : ¬ (T ||| 2 ^ (i + 1)) % 2 = 1 := fun q => (Nat.or_mod_two_eq_one.mp q).elim w z
        omega
    have q := pcn_or k i (T / 2) (by omega) h3
    show (T ||| 2 ^ (i + 1)) % 2 + pcn k ((T ||| 2 ^ (i + 1)) / 2) = T % 2 + pcn k (T / 2) + 1
    rw [e1, e2, q]
    omega
theorem iI_or {T U : Nat} (hT : T < 2147483648) (hU : U < 2147483648) : iI T ||| iI U = iI ((T ||| U : Nat) : Int) := by
  apply Int32.toBitVec_inj.mp
  apply BitVec.eq_of_toNat_eq
  simp [iI, Int32.toBitVec_or, BitVec.toNat_or]
