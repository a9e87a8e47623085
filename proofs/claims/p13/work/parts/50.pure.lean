/-! ===== evaluation step by step: one operation, one row ===== -/
theorem bst {α β : Type} {x : Option α} {a : α} {f : α → Option β} {r : Option β} (e : x = some a) (k : f a = r) : x.bind f = r := by rw [e]; exact k
theorem ifp {c : Prop} [Decidable c] {α : Type} {a b r : α} (hc : c) (k : a = r) : (if c then a else b) = r := by rw [if_pos hc]; exact k
theorem ifn {c : Prop} [Decidable c] {α : Type} {a b r : α} (hc : ¬ c) (k : b = r) : (if c then a else b) = r := by rw [if_neg hc]; exact k
theorem n10 : ¬ iI 1 = iI 0 := by decide
theorem lAv {h : Hs} {a n i : Nat} {v : Int32} (hs : sh h a = (20, n)) (hi : i < n) (hn : n < 5000) (hv : aI h a i = v) : lA 20 h (some a) (iI i) = some v := by
  have e1 : ixb (iI (i : Int)) n = true := ixb_i (by omega) (by omega) (by omega)
  have e2 : (iI (i : Int)).toNatClampNeg = i := by rw [iI_cl (by omega) (by omega)]; simp
  simp [lA, hs, e1, e2, hv]
theorem lAz {h : Hs} {a n i : Nat} {v : Int32} (hs : sh h a = (21, n)) (hi : i < n) (hn : n < 5000) (hv : aI h a i = v) : lA 21 h (some a) (iI i) = some v := by
  have e1 : ixb (iI (i : Int)) n = true := ixb_i (by omega) (by omega) (by omega)
  have e2 : (iI (i : Int)).toNatClampNeg = i := by rw [iI_cl (by omega) (by omega)]; simp
  simp [lA, hs, e1, e2, hv]
theorem lQv {h : Hs} {t a n i : Nat} {v : Option Nat} (hs : sh h a = (t, n)) (hi : i < n) (hn : n < 5000) (hv : aR h a i = v) : lQ t h (some a) (iI i) = some v := by
  have e1 : ixb (iI (i : Int)) n = true := ixb_i (by omega) (by omega) (by omega)
  have e2 : (iI (i : Int)).toNatClampNeg = i := by rw [iI_cl (by omega) (by omega)]; simp
  simp [lQ, hs, e1, e2, hv]
theorem sAv {h : Hs} {a n i : Nat} {v : Int32} (hs : sh h a = (20, n)) (hi : i < n) (hn : n < 5000) : sA h (some a) (iI i) v = some (uA h a i v) := by
  have e1 : ixb (iI (i : Int)) n = true := ixb_i (by omega) (by omega) (by omega)
  have e2 : (iI (i : Int)).toNatClampNeg = i := by rw [iI_cl (by omega) (by omega)]; simp
  simp [sA, hs, e1, e2]
theorem oIv {h : Hs} {c j a : Nat} {v : Int32} (hs : (sh h a).1 = c) (hv : gI h (100 * c + j) a = v) : oI c j h (some a) = some v := by
  simp [oI, hs, hv]
theorem oRv {h : Hs} {c j a : Nat} {v : Option Nat} (hs : (sh h a).1 = c) (hv : gR h (100 * c + j) a = v) : oR c j h (some a) = some v := by
  simp [oR, hs, hv]
theorem rcv {h : Hs} {c a : Nat} (hs : (sh h a).1 = c) : rc c h (some a) = some a := by
  simp [rc, hs]
theorem ss_0 {h : Hs} (hS : Sk h) : sh h 0 = (11, 0) := by simp only [Sk_rw hS]
theorem ss_1 {h : Hs} (hS : Sk h) : sh h 1 = (8, 0) := by simp only [Sk_rw hS]
theorem ss_2 {h : Hs} (hS : Sk h) : sh h 2 = (20, 120) := by simp only [Sk_rw hS]
theorem ss_3 {h : Hs} (hS : Sk h) : sh h 3 = (20, 30) := by simp only [Sk_rw hS]
theorem ss_4 {h : Hs} (hS : Sk h) : sh h 4 = (20, 30) := by simp only [Sk_rw hS]
theorem ss_5 {h : Hs} (hS : Sk h) : sh h 5 = (20, 30) := by simp only [Sk_rw hS]
theorem ss_6 {h : Hs} (hS : Sk h) : sh h 6 = (0, 0) := by simp only [Sk_rw hS]
theorem ss_7 {h : Hs} (hS : Sk h) : sh h 7 = (20, 60) := by simp only [Sk_rw hS]
theorem ss_8 {h : Hs} (hS : Sk h) : sh h 8 = (20, 60) := by simp only [Sk_rw hS]
theorem ss_9 {h : Hs} (hS : Sk h) : sh h 9 = (6, 0) := by simp only [Sk_rw hS]
theorem ss_10 {h : Hs} (hS : Sk h) : sh h 10 = (26, 12) := by simp only [Sk_rw hS]
theorem ss_11 {h : Hs} (hS : Sk h) : sh h 11 = (26, 6) := by simp only [Sk_rw hS]
theorem ss_12 {h : Hs} (hS : Sk h) : sh h 12 = (20, 6) := by simp only [Sk_rw hS]
theorem ss_13 {h : Hs} (hS : Sk h) : sh h 13 = (20, 4096) := by simp only [Sk_rw hS]
theorem ss_14 {h : Hs} (hS : Sk h) : sh h 14 = (5, 0) := by simp only [Sk_rw hS]
theorem ss_15 {h : Hs} (hS : Sk h) : sh h 15 = (23, 40) := by simp only [Sk_rw hS]
theorem ss_16 {h : Hs} (hS : Sk h) : sh h 16 = (24, 20) := by simp only [Sk_rw hS]
theorem ss_17 {h : Hs} (hS : Sk h) : sh h 17 = (25, 40) := by simp only [Sk_rw hS]
theorem ss_18 {h : Hs} (hS : Sk h) : sh h 18 = (20, 20) := by simp only [Sk_rw hS]
theorem ss_19 {h : Hs} (hS : Sk h) : sh h 19 = (20, 20) := by simp only [Sk_rw hS]
theorem ss_20 {h : Hs} (hS : Sk h) : sh h 20 = (20, 80) := by simp only [Sk_rw hS]
theorem ss_21 {h : Hs} (hS : Sk h) : sh h 21 = (20, 16) := by simp only [Sk_rw hS]
theorem ss_22 {h : Hs} (hS : Sk h) : sh h 22 = (10, 0) := by simp only [Sk_rw hS]
theorem ss_23 {h : Hs} (hS : Sk h) : sh h 23 = (7, 0) := by simp only [Sk_rw hS]
theorem ss_24 {h : Hs} (hS : Sk h) : sh h 24 = (7, 0) := by simp only [Sk_rw hS]
theorem ss_25 {h : Hs} (hS : Sk h) : sh h 25 = (1, 0) := by simp only [Sk_rw hS]
theorem ss_26 {h : Hs} (hS : Sk h) : sh h 26 = (20, 40) := by simp only [Sk_rw hS]
theorem ss_27 {h : Hs} (hS : Sk h) : sh h 27 = (20, 40) := by simp only [Sk_rw hS]
theorem ss_28 {h : Hs} (hS : Sk h) : sh h 28 = (20, 125) := by simp only [Sk_rw hS]
theorem ss_29 {h : Hs} (hS : Sk h) : sh h 29 = (12, 0) := by simp only [Sk_rw hS]
theorem ss_30 {h : Hs} (hS : Sk h) : sh h 30 = (20, 40) := by simp only [Sk_rw hS]
theorem ss_31 {h : Hs} (hS : Sk h) : sh h 31 = (20, 40) := by simp only [Sk_rw hS]
theorem ss_32 {h : Hs} (hS : Sk h) : sh h 32 = (20, 40) := by simp only [Sk_rw hS]
theorem ss_33 {h : Hs} (hS : Sk h) : sh h 33 = (20, 40) := by simp only [Sk_rw hS]
theorem ss_34 {h : Hs} (hS : Sk h) : sh h 34 = (20, 40) := by simp only [Sk_rw hS]
theorem ss_35 {h : Hs} (hS : Sk h) : sh h 35 = (20, 40) := by simp only [Sk_rw hS]
theorem ss_36 {h : Hs} (hS : Sk h) : sh h 36 = (20, 40) := by simp only [Sk_rw hS]
theorem ss_37 {h : Hs} (hS : Sk h) : sh h 37 = (20, 20) := by simp only [Sk_rw hS]
theorem ss_38 {h : Hs} (hS : Sk h) : sh h 38 = (20, 40) := by simp only [Sk_rw hS]
theorem ss_39 {h : Hs} (hS : Sk h) : sh h 39 = (20, 40) := by simp only [Sk_rw hS]
theorem ss_40 {h : Hs} (hS : Sk h) : sh h 40 = (20, 40) := by simp only [Sk_rw hS]
theorem ss_41 {h : Hs} (hS : Sk h) : sh h 41 = (20, 40) := by simp only [Sk_rw hS]
theorem ss_42 {h : Hs} (hS : Sk h) : sh h 42 = (20, 40) := by simp only [Sk_rw hS]
theorem ss_43 {h : Hs} (hS : Sk h) : sh h 43 = (20, 40) := by simp only [Sk_rw hS]
theorem ss_44 {h : Hs} (hS : Sk h) : sh h 44 = (21, 40) := by simp only [Sk_rw hS]
theorem ss_45 {h : Hs} (hS : Sk h) : sh h 45 = (20, 20) := by simp only [Sk_rw hS]
theorem ss_46 {h : Hs} (hS : Sk h) : sh h 46 = (20, 16) := by simp only [Sk_rw hS]
theorem ss_47 {h : Hs} (hS : Sk h) : sh h 47 = (20, 80) := by simp only [Sk_rw hS]
theorem ss_48 {h : Hs} (hS : Sk h) : sh h 48 = (20, 400) := by simp only [Sk_rw hS]
theorem ss_49 {h : Hs} (hS : Sk h) : sh h 49 = (20, 40) := by simp only [Sk_rw hS]
theorem ss_50 {h : Hs} (hS : Sk h) : sh h 50 = (20, 40) := by simp only [Sk_rw hS]
theorem ss_51 {h : Hs} (hS : Sk h) : sh h 51 = (20, 40) := by simp only [Sk_rw hS]
theorem ss_52 {h : Hs} (hS : Sk h) : sh h 52 = (20, 2197) := by simp only [Sk_rw hS]
theorem ss_53 {h : Hs} (hS : Sk h) : sh h 53 = (22, 120) := by simp only [Sk_rw hS]
theorem ss_54 {h : Hs} (hS : Sk h) : sh h 54 = (20, 60) := by simp only [Sk_rw hS]
theorem ss_55 {h : Hs} (hS : Sk h) : sh h 55 = (20, 60) := by simp only [Sk_rw hS]
theorem ss_56 {h : Hs} (hS : Sk h) : sh h 56 = (20, 60) := by simp only [Sk_rw hS]
theorem ss_57 {h : Hs} (hS : Sk h) : sh h 57 = (20, 40) := by simp only [Sk_rw hS]
theorem ss_58 {h : Hs} (hS : Sk h) : sh h 58 = (20, 40) := by simp only [Sk_rw hS]
theorem ss_59 {h : Hs} (hS : Sk h) : sh h 59 = (20, 40) := by simp only [Sk_rw hS]
theorem ss_60 {h : Hs} (hS : Sk h) : sh h 60 = (20, 40) := by simp only [Sk_rw hS]
theorem ss_61 {h : Hs} (hS : Sk h) : sh h 61 = (20, 20) := by simp only [Sk_rw hS]
theorem ss_62 {h : Hs} (hS : Sk h) : sh h 62 = (20, 60) := by simp only [Sk_rw hS]
theorem ss_63 {h : Hs} (hS : Sk h) : sh h 63 = (20, 60) := by simp only [Sk_rw hS]
theorem ss_64 {h : Hs} (hS : Sk h) : sh h 64 = (20, 12) := by simp only [Sk_rw hS]
theorem ss_65 {h : Hs} (hS : Sk h) : sh h 65 = (20, 12) := by simp only [Sk_rw hS]
theorem ss_66 {h : Hs} (hS : Sk h) : sh h 66 = (20, 6) := by simp only [Sk_rw hS]
theorem ss_67 {h : Hs} (hS : Sk h) : sh h 67 = (20, 6) := by simp only [Sk_rw hS]
theorem ss_68 {h : Hs} (hS : Sk h) : sh h 68 = (20, 6) := by simp only [Sk_rw hS]
theorem ss_69 {h : Hs} (hS : Sk h) : sh h 69 = (20, 6) := by simp only [Sk_rw hS]
theorem sR_0_6 {h : Hs} (hS : Sk h) : oR 0 0 h (some 6) = some (some 7) := oRv (by rw [ss_6 hS]) (by simp only [Sk_rw hS])
theorem sR_1_6 {h : Hs} (hS : Sk h) : oR 0 1 h (some 6) = some (some 8) := oRv (by rw [ss_6 hS]) (by simp only [Sk_rw hS])
theorem sR_100_25 {h : Hs} (hS : Sk h) : oR 1 0 h (some 25) = some (some 14) := oRv (by rw [ss_25 hS]) (by simp only [Sk_rw hS])
theorem sR_101_25 {h : Hs} (hS : Sk h) : oR 1 1 h (some 25) = some (some 26) := oRv (by rw [ss_25 hS]) (by simp only [Sk_rw hS])
theorem sR_102_25 {h : Hs} (hS : Sk h) : oR 1 2 h (some 25) = some (some 27) := oRv (by rw [ss_25 hS]) (by simp only [Sk_rw hS])
theorem sR_103_25 {h : Hs} (hS : Sk h) : oR 1 3 h (some 25) = some (some 28) := oRv (by rw [ss_25 hS]) (by simp only [Sk_rw hS])
theorem sR_500_14 {h : Hs} (hS : Sk h) : oR 5 0 h (some 14) = some (some 15) := oRv (by rw [ss_14 hS]) (by simp only [Sk_rw hS])
theorem sR_501_14 {h : Hs} (hS : Sk h) : oR 5 1 h (some 14) = some (some 16) := oRv (by rw [ss_14 hS]) (by simp only [Sk_rw hS])
theorem sR_502_14 {h : Hs} (hS : Sk h) : oR 5 2 h (some 14) = some (some 17) := oRv (by rw [ss_14 hS]) (by simp only [Sk_rw hS])
theorem sR_503_14 {h : Hs} (hS : Sk h) : oR 5 3 h (some 14) = some (some 18) := oRv (by rw [ss_14 hS]) (by simp only [Sk_rw hS])
theorem sR_504_14 {h : Hs} (hS : Sk h) : oR 5 4 h (some 14) = some (some 19) := oRv (by rw [ss_14 hS]) (by simp only [Sk_rw hS])
theorem sR_505_14 {h : Hs} (hS : Sk h) : oR 5 5 h (some 14) = some (some 20) := oRv (by rw [ss_14 hS]) (by simp only [Sk_rw hS])
theorem sR_506_14 {h : Hs} (hS : Sk h) : oR 5 6 h (some 14) = some (some 21) := oRv (by rw [ss_14 hS]) (by simp only [Sk_rw hS])
theorem sR_600_9 {h : Hs} (hS : Sk h) : oR 6 0 h (some 9) = some (some 10) := oRv (by rw [ss_9 hS]) (by simp only [Sk_rw hS])
theorem sR_601_9 {h : Hs} (hS : Sk h) : oR 6 1 h (some 9) = some (some 11) := oRv (by rw [ss_9 hS]) (by simp only [Sk_rw hS])
theorem sR_602_9 {h : Hs} (hS : Sk h) : oR 6 2 h (some 9) = some (some 12) := oRv (by rw [ss_9 hS]) (by simp only [Sk_rw hS])
theorem sR_603_9 {h : Hs} (hS : Sk h) : oR 6 3 h (some 9) = some (some 13) := oRv (by rw [ss_9 hS]) (by simp only [Sk_rw hS])
theorem sR_800_1 {h : Hs} (hS : Sk h) : oR 8 0 h (some 1) = some (some 2) := oRv (by rw [ss_1 hS]) (by simp only [Sk_rw hS])
theorem sR_801_1 {h : Hs} (hS : Sk h) : oR 8 1 h (some 1) = some (some 3) := oRv (by rw [ss_1 hS]) (by simp only [Sk_rw hS])
theorem sR_802_1 {h : Hs} (hS : Sk h) : oR 8 2 h (some 1) = some (some 4) := oRv (by rw [ss_1 hS]) (by simp only [Sk_rw hS])
theorem sR_803_1 {h : Hs} (hS : Sk h) : oR 8 3 h (some 1) = some (some 5) := oRv (by rw [ss_1 hS]) (by simp only [Sk_rw hS])
theorem sR_1000_22 {h : Hs} (hS : Sk h) : oR 10 0 h (some 22) = some (some 14) := oRv (by rw [ss_22 hS]) (by simp only [Sk_rw hS])
theorem sR_1001_22 {h : Hs} (hS : Sk h) : oR 10 1 h (some 22) = some (some 23) := oRv (by rw [ss_22 hS]) (by simp only [Sk_rw hS])
theorem sR_1002_22 {h : Hs} (hS : Sk h) : oR 10 2 h (some 22) = some (some 24) := oRv (by rw [ss_22 hS]) (by simp only [Sk_rw hS])
theorem sR_1100_0 {h : Hs} (hS : Sk h) : oR 11 0 h (some 0) = some (some 14) := oRv (by rw [ss_0 hS]) (by simp only [Sk_rw hS])
theorem sR_1101_0 {h : Hs} (hS : Sk h) : oR 11 1 h (some 0) = some (some 22) := oRv (by rw [ss_0 hS]) (by simp only [Sk_rw hS])
theorem sR_1102_0 {h : Hs} (hS : Sk h) : oR 11 2 h (some 0) = some (some 25) := oRv (by rw [ss_0 hS]) (by simp only [Sk_rw hS])
theorem sR_1103_0 {h : Hs} (hS : Sk h) : oR 11 3 h (some 0) = some (some 1) := oRv (by rw [ss_0 hS]) (by simp only [Sk_rw hS])
theorem sR_1104_0 {h : Hs} (hS : Sk h) : oR 11 4 h (some 0) = some (some 6) := oRv (by rw [ss_0 hS]) (by simp only [Sk_rw hS])
theorem sR_1105_0 {h : Hs} (hS : Sk h) : oR 11 5 h (some 0) = some (some 9) := oRv (by rw [ss_0 hS]) (by simp only [Sk_rw hS])
theorem sR_1202_29 {h : Hs} (hS : Sk h) : oR 12 2 h (some 29) = some (some 30) := oRv (by rw [ss_29 hS]) (by simp only [Sk_rw hS])
theorem sR_1203_29 {h : Hs} (hS : Sk h) : oR 12 3 h (some 29) = some (some 31) := oRv (by rw [ss_29 hS]) (by simp only [Sk_rw hS])
theorem sR_1204_29 {h : Hs} (hS : Sk h) : oR 12 4 h (some 29) = some (some 32) := oRv (by rw [ss_29 hS]) (by simp only [Sk_rw hS])
theorem sR_1205_29 {h : Hs} (hS : Sk h) : oR 12 5 h (some 29) = some (some 33) := oRv (by rw [ss_29 hS]) (by simp only [Sk_rw hS])
theorem sR_1206_29 {h : Hs} (hS : Sk h) : oR 12 6 h (some 29) = some (some 34) := oRv (by rw [ss_29 hS]) (by simp only [Sk_rw hS])
theorem sR_1207_29 {h : Hs} (hS : Sk h) : oR 12 7 h (some 29) = some (some 35) := oRv (by rw [ss_29 hS]) (by simp only [Sk_rw hS])
theorem sR_1208_29 {h : Hs} (hS : Sk h) : oR 12 8 h (some 29) = some (some 36) := oRv (by rw [ss_29 hS]) (by simp only [Sk_rw hS])
theorem sR_1210_29 {h : Hs} (hS : Sk h) : oR 12 10 h (some 29) = some (some 37) := oRv (by rw [ss_29 hS]) (by simp only [Sk_rw hS])
theorem sR_1212_29 {h : Hs} (hS : Sk h) : oR 12 12 h (some 29) = some (some 38) := oRv (by rw [ss_29 hS]) (by simp only [Sk_rw hS])
theorem sR_1213_29 {h : Hs} (hS : Sk h) : oR 12 13 h (some 29) = some (some 39) := oRv (by rw [ss_29 hS]) (by simp only [Sk_rw hS])
theorem sR_1214_29 {h : Hs} (hS : Sk h) : oR 12 14 h (some 29) = some (some 40) := oRv (by rw [ss_29 hS]) (by simp only [Sk_rw hS])
theorem sR_1215_29 {h : Hs} (hS : Sk h) : oR 12 15 h (some 29) = some (some 41) := oRv (by rw [ss_29 hS]) (by simp only [Sk_rw hS])
theorem sR_1216_29 {h : Hs} (hS : Sk h) : oR 12 16 h (some 29) = some (some 42) := oRv (by rw [ss_29 hS]) (by simp only [Sk_rw hS])
theorem sR_1217_29 {h : Hs} (hS : Sk h) : oR 12 17 h (some 29) = some (some 43) := oRv (by rw [ss_29 hS]) (by simp only [Sk_rw hS])
theorem sR_1218_29 {h : Hs} (hS : Sk h) : oR 12 18 h (some 29) = some (some 44) := oRv (by rw [ss_29 hS]) (by simp only [Sk_rw hS])
theorem sR_1219_29 {h : Hs} (hS : Sk h) : oR 12 19 h (some 29) = some (some 45) := oRv (by rw [ss_29 hS]) (by simp only [Sk_rw hS])
theorem sR_1226_29 {h : Hs} (hS : Sk h) : oR 12 26 h (some 29) = some (some 46) := oRv (by rw [ss_29 hS]) (by simp only [Sk_rw hS])
theorem sR_1227_29 {h : Hs} (hS : Sk h) : oR 12 27 h (some 29) = some (some 47) := oRv (by rw [ss_29 hS]) (by simp only [Sk_rw hS])
theorem sR_1228_29 {h : Hs} (hS : Sk h) : oR 12 28 h (some 29) = some (some 48) := oRv (by rw [ss_29 hS]) (by simp only [Sk_rw hS])
theorem sR_1231_29 {h : Hs} (hS : Sk h) : oR 12 31 h (some 29) = some (some 49) := oRv (by rw [ss_29 hS]) (by simp only [Sk_rw hS])
theorem sR_1232_29 {h : Hs} (hS : Sk h) : oR 12 32 h (some 29) = some (some 50) := oRv (by rw [ss_29 hS]) (by simp only [Sk_rw hS])
theorem sR_1233_29 {h : Hs} (hS : Sk h) : oR 12 33 h (some 29) = some (some 51) := oRv (by rw [ss_29 hS]) (by simp only [Sk_rw hS])
theorem sR_1235_29 {h : Hs} (hS : Sk h) : oR 12 35 h (some 29) = some (some 52) := oRv (by rw [ss_29 hS]) (by simp only [Sk_rw hS])
theorem sR_1236_29 {h : Hs} (hS : Sk h) : oR 12 36 h (some 29) = some (some 53) := oRv (by rw [ss_29 hS]) (by simp only [Sk_rw hS])
theorem sR_1240_29 {h : Hs} (hS : Sk h) : oR 12 40 h (some 29) = some (some 54) := oRv (by rw [ss_29 hS]) (by simp only [Sk_rw hS])
theorem sR_1241_29 {h : Hs} (hS : Sk h) : oR 12 41 h (some 29) = some (some 55) := oRv (by rw [ss_29 hS]) (by simp only [Sk_rw hS])
theorem sR_1242_29 {h : Hs} (hS : Sk h) : oR 12 42 h (some 29) = some (some 56) := oRv (by rw [ss_29 hS]) (by simp only [Sk_rw hS])
theorem sR_1244_29 {h : Hs} (hS : Sk h) : oR 12 44 h (some 29) = some (some 57) := oRv (by rw [ss_29 hS]) (by simp only [Sk_rw hS])
theorem sR_1245_29 {h : Hs} (hS : Sk h) : oR 12 45 h (some 29) = some (some 58) := oRv (by rw [ss_29 hS]) (by simp only [Sk_rw hS])
theorem sR_1246_29 {h : Hs} (hS : Sk h) : oR 12 46 h (some 29) = some (some 59) := oRv (by rw [ss_29 hS]) (by simp only [Sk_rw hS])
theorem sR_1247_29 {h : Hs} (hS : Sk h) : oR 12 47 h (some 29) = some (some 60) := oRv (by rw [ss_29 hS]) (by simp only [Sk_rw hS])
theorem sR_1248_29 {h : Hs} (hS : Sk h) : oR 12 48 h (some 29) = some (some 61) := oRv (by rw [ss_29 hS]) (by simp only [Sk_rw hS])
theorem sR_1254_29 {h : Hs} (hS : Sk h) : oR 12 54 h (some 29) = some (some 62) := oRv (by rw [ss_29 hS]) (by simp only [Sk_rw hS])
theorem sR_1255_29 {h : Hs} (hS : Sk h) : oR 12 55 h (some 29) = some (some 63) := oRv (by rw [ss_29 hS]) (by simp only [Sk_rw hS])
theorem sR_1257_29 {h : Hs} (hS : Sk h) : oR 12 57 h (some 29) = some (some 64) := oRv (by rw [ss_29 hS]) (by simp only [Sk_rw hS])
theorem sR_1258_29 {h : Hs} (hS : Sk h) : oR 12 58 h (some 29) = some (some 65) := oRv (by rw [ss_29 hS]) (by simp only [Sk_rw hS])
theorem sR_1260_29 {h : Hs} (hS : Sk h) : oR 12 60 h (some 29) = some (some 66) := oRv (by rw [ss_29 hS]) (by simp only [Sk_rw hS])
theorem sR_1261_29 {h : Hs} (hS : Sk h) : oR 12 61 h (some 29) = some (some 67) := oRv (by rw [ss_29 hS]) (by simp only [Sk_rw hS])
theorem sR_1262_29 {h : Hs} (hS : Sk h) : oR 12 62 h (some 29) = some (some 68) := oRv (by rw [ss_29 hS]) (by simp only [Sk_rw hS])
theorem sR_1264_29 {h : Hs} (hS : Sk h) : oR 12 64 h (some 29) = some (some 69) := oRv (by rw [ss_29 hS]) (by simp only [Sk_rw hS])
