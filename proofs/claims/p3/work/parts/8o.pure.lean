/-! ===== paint: sets as numbers ===== -/
def pcn : Nat → Nat → Nat
  | 0, _ => 0
  | k + 1, T => T % 2 + pcn k (T / 2)
theorem mor_all : (List.range 12).all (fun i => decide (iI 1 <<< (iI i &&& iI 31) = iI ((2 ^ i : Nat) : Int))) = true := by decide +kernel
theorem bcn_all : (List.range 4096).all (fun T => decide ((fun p0 : Int32 => (fun y1 : Int32 => (fun y2 : Int32 => (fun y3 : Int32 => (fun y4 : Int32 => (fun y5 : Int32 => y5 &&& 63) (y4 + (((y4).toUInt32 >>> ((16 : Int32).toUInt32 &&& Int32.toUInt32 31)).toInt32))) (y3 + (((y3).toUInt32 >>> ((8 : Int32).toUInt32 &&& Int32.toUInt32 31)).toInt32))) ((y2 + (((y2).toUInt32 >>> ((4 : Int32).toUInt32 &&& Int32.toUInt32 31)).toInt32)) &&& 252645135)) ((y1 &&& 858993459) + ((((y1).toUInt32 >>> ((2 : Int32).toUInt32 &&& Int32.toUInt32 31)).toInt32) &&& 858993459))) (p0 - ((((p0).toUInt32 >>> ((1 : Int32).toUInt32 &&& Int32.toUInt32 31)).toInt32) &&& 1431655765))) (iI T) = iI (pcn 12 T))) = true := by decide +kernel
theorem set_all : (List.range 12).all (fun i => (List.range 4096).all (fun T => if T.testBit i then decide (T ||| 2 ^ i = T) else decide (T < T ||| 2 ^ i ∧ pcn 12 (T ||| 2 ^ i) = pcn 12 T + 1))) = true := by decide +kernel
theorem iI_or {T U : Nat} (hT : T < 2147483648) (hU : U < 2147483648) : iI T ||| iI U = iI ((T ||| U : Nat) : Int) := by
  apply Int32.toBitVec_inj.mp
  apply BitVec.eq_of_toNat_eq
  simp [iI, Int32.toBitVec_or, BitVec.toNat_or]
