/-! ===== candles ===== -/
def RCand (h : Hs) (n : Nat) (T : Int) (ln lt : Nat → Int) : Prop :=
  (gI h 2 6 = iI n ∧ gI h 3 6 = iI T ∧ gI h 1253 29 = iI n ∧ gI h 1252 29 = iI T) ∧
  (∀ i, i < n → aI h 7 i = iI (ln i) ∧ aI h 8 i = iI (lt i + ln i) ∧ aI h 62 i = iI (ln i) ∧ aI h 63 i = iI (lt i)) ∧
  n ≤ 60 ∧ 0 ≤ T ∧ T ≤ 9999 ∧ ∀ i, i < n → 1 ≤ ln i ∧ ln i ≤ 300 ∧ 0 ≤ lt i ∧ lt i ≤ T
def ICand (h : Hs) : Prop := ∃ n T ln lt, RCand h n T ln lt
abbrev FCand : List Nat := [2, 3, 1252, 1253]
abbrev ACand : List Nat := [7, 8, 62, 63]
theorem ICand.k {F A : List Nat} {h h2 : Hs} (hC : ICand h) (k : Kq F A h h2) (hF : ∀ f ∈ FCand, f ∉ F) (hA : ∀ a ∈ ACand, a ∉ A) : ICand h2 := by
  obtain ⟨n, T, ln, lt, ⟨c1, c2, c3, c4⟩, c5, c6⟩ := hC
  refine ⟨n, T, ln, lt, ⟨?_, ?_, ?_, ?_⟩, fun i hi => ?_, c6⟩
  · rw [k.1 _ _ (hF _ (by decide))]; exact c1
  · rw [k.1 _ _ (hF _ (by decide))]; exact c2
  · rw [k.1 _ _ (hF _ (by decide))]; exact c3
  · rw [k.1 _ _ (hF _ (by decide))]; exact c4
  · rw [k.2.1 _ (hA 7 (by decide)), k.2.1 _ (hA 8 (by decide)), k.2.1 _ (hA 62 (by decide)), k.2.1 _ (hA 63 (by decide))]
    exact c5 i hi
theorem t_minutes {N : Nat} {h : Hs} (hS : Sk h) (hC : ICand h) (p : Int32) : ∃ r h1 h2, fX11_minutes N h 0 p = some (r, h1) ∧ fX12_minutes N h1 29 p = some (r, h2) ∧ ICand h2 ∧ Kq FCand ACand h h2 := by
  obtain ⟨z, z1, z2, rfl⟩ := iI_ex p
  obtain ⟨n, T, ln, lt, ⟨c1, c2, c3, c4⟩, c5, c6, c7, c8, c9⟩ := hC
  by_cases w : 1 ≤ z ∧ z ≤ 1000
  · by_cases w3 : T + z ≤ 9999
    · refine ⟨iI (T + z), uI h 3 6 (iI (T + z)), uI (uI h 3 6 (iI (T + z))) 1252 29 (iI (T + z)), ?_, ?_, ⟨n, T + z, ln, lt, ?_⟩, (Kq_rf.u _ _ _ (by decide)).u _ _ _ (by decide)⟩
      · simp (disch := omega) [oI, oR, qI, qZ, qR, rc, lit, iI_add, iI_sub, iI_mul, iI_neg, iI_le, iI_lt, iI_eq, v_isW, v_inW, bz, HR, Sk_rw hS, fX11_minutes, fX0_pass, c2, w, w3]
      · simp (disch := omega) [oI, oR, qI, qZ, qR, rc, lit, iI_add, iI_sub, iI_mul, iI_neg, iI_le, iI_lt, iI_eq, v_isW, v_inW, bz, HR, Sk_rw hS, fX12_minutes, c4, w, w3]
      · refine ⟨⟨?_, ?_, ?_, ?_⟩, ?_, c6, by omega, by omega, fun i hi => ?_⟩
        · simp [HR, c1]
        · simp [HR]
        · simp [HR, c3]
        · simp [HR]
        · simpa [HR] using c5
        · have := c9 i hi
          omega
    · refine ⟨-1, h, h, ?_, ?_, ⟨n, T, ln, lt, ⟨c1, c2, c3, c4⟩, c5, c6, c7, c8, c9⟩, Kq_rf⟩
      · simp (disch := omega) [oI, oR, qI, qZ, qR, rc, lit, iI_add, iI_sub, iI_mul, iI_neg, iI_le, iI_lt, iI_eq, v_isW, v_inW, bz, HR, Sk_rw hS, fX11_minutes, fX0_pass, fX0_pass_b23, c2, w, w3]
      · simp (disch := omega) [oI, oR, qI, qZ, qR, rc, lit, iI_add, iI_sub, iI_mul, iI_neg, iI_le, iI_lt, iI_eq, v_isW, v_inW, bz, HR, Sk_rw hS, fX12_minutes, fX12_minutes_b23, c4, w, w3]
  · refine ⟨-1, h, h, ?_, ?_, ⟨n, T, ln, lt, ⟨c1, c2, c3, c4⟩, c5, c6, c7, c8, c9⟩, Kq_rf⟩
    · simp (disch := omega) [oI, oR, qI, qZ, qR, rc, lit, iI_add, iI_sub, iI_mul, iI_neg, iI_le, iI_lt, iI_eq, v_isW, v_inW, bz, HR, Sk_rw hS, fX11_minutes, fX0_pass, fX0_pass_b23, c2, w]
    · simp (disch := omega) [oI, oR, qI, qZ, qR, rc, lit, iI_add, iI_sub, iI_mul, iI_neg, iI_le, iI_lt, iI_eq, v_isW, v_inW, bz, HR, Sk_rw hS, fX12_minutes, fX12_minutes_b23, c4, w]
theorem t_candle {N : Nat} {h : Hs} (hS : Sk h) (hC : ICand h) (p : Int32) : ∃ r h1 h2, fX11_candle N h 0 p = some (r, h1) ∧ fX12_candle N h1 29 p = some (r, h2) ∧ ICand h2 ∧ Kq FCand ACand h h2 := by
  obtain ⟨z, z1, z2, rfl⟩ := iI_ex p
  obtain ⟨n, T, ln, lt, ⟨c1, c2, c3, c4⟩, c5, c6, c7, c8, c9⟩ := hC
  by_cases w : 1 ≤ z ∧ z ≤ 300
  · by_cases w3 : n < 60
    · have e1 : ixb (iI (n : Int)) 60 = true := ixb_i (by omega) (by omega) (by omega)
      have e2 : (iI (n : Int)).toNatClampNeg = n := by rw [iI_cl (by omega) (by omega)]; simp
      refine ⟨iI n, uI (uA (uA h 7 n (iI z)) 8 n (iI (T + z))) 2 6 (iI (n + 1)), uI (uA (uA (uI (uA (uA h 7 n (iI z)) 8 n (iI (T + z))) 2 6 (iI (n + 1))) 62 n (iI z)) 63 n (iI T)) 1253 29 (iI (n + 1)), ?_, ?_, ⟨n + 1, T, fun i => if i = n then z else ln i, fun i => if i = n then T else lt i, ?_⟩, ?_⟩
      · have w4 : (n : Int) < 60 := by omega
        simp (disch := omega) [oI, oR, qI, qZ, qR, rc, lit, iI_add, iI_sub, iI_mul, iI_neg, iI_le, iI_lt, iI_eq, v_isW, v_inW, bz, HR, Sk_rw hS, fX11_candle, fX0_add, sA, c1, c2, w, w4, e1, e2]
      · have w4 : ¬ (n : Int) = 60 := by omega
        simp (disch := omega) [oI, oR, qI, qZ, qR, rc, lit, iI_add, iI_sub, iI_mul, iI_neg, iI_le, iI_lt, iI_eq, v_isW, v_inW, bz, HR, Sk_rw hS, fX12_candle, sA, c3, c4, w, w4, e1, e2]
      · refine ⟨⟨?_, ?_, ?_, ?_⟩, fun i hi => ?_, by omega, c7, c8, fun i hi => ?_⟩
        · simp [HR]
        · simp [HR, c2]
        · simp [HR]
        · simp [HR, c4]
        · by_cases e : i = n
          · subst e
            simp [HR]
          · have := c5 i (by omega)
            simp [HR, e, this]
        · by_cases e : i = n
          · subst e
            simp
            omega
          · have := c9 i (by omega)
            simp [e, this]
      · exact (((((Kq_rf.b _ _ _ (by decide)).b _ _ _ (by decide)).u _ _ _ (by decide)).b _ _ _ (by decide)).b _ _ _ (by decide)).u _ _ _ (by decide)
    · refine ⟨-3, h, h, ?_, ?_, ⟨n, T, ln, lt, ⟨c1, c2, c3, c4⟩, c5, c6, c7, c8, c9⟩, Kq_rf⟩
      · have w4 : ¬ (n : Int) < 60 := by omega
        simp (disch := omega) [oI, oR, qI, qZ, qR, rc, lit, iI_add, iI_sub, iI_mul, iI_neg, iI_le, iI_lt, iI_eq, v_isW, v_inW, bz, HR, Sk_rw hS, fX11_candle, fX0_add, c1, c2, w, w4]
      · have w4 : (n : Int) = 60 := by omega
        simp (disch := omega) [oI, oR, qI, qZ, qR, rc, lit, iI_add, iI_sub, iI_mul, iI_neg, iI_le, iI_lt, iI_eq, v_isW, v_inW, bz, HR, Sk_rw hS, fX12_candle, c3, w, w4]
  · refine ⟨-1, h, h, ?_, ?_, ⟨n, T, ln, lt, ⟨c1, c2, c3, c4⟩, c5, c6, c7, c8, c9⟩, Kq_rf⟩
    · simp (disch := omega) [oI, oR, qI, qZ, qR, rc, lit, iI_add, iI_sub, iI_mul, iI_neg, iI_le, iI_lt, iI_eq, v_isW, v_inW, bz, HR, Sk_rw hS, fX11_candle, fX0_add, w]
    · simp (disch := omega) [oI, oR, qI, qZ, qR, rc, lit, iI_add, iI_sub, iI_mul, iI_neg, iI_le, iI_lt, iI_eq, v_isW, v_inW, bz, HR, Sk_rw hS, fX12_candle, w]
def lstF (e : Nat → Int) (acc : Int) (i : Nat) : Nat → Int
  | 0 => acc
  | d + 1 => lstF e (if 0 < e i ∧ (acc < 0 ∨ e i < acc) then e i else acc) (i + 1) d
theorem L_burning {N : Nat} {h : Hs} (hS : Sk h) {n : Nat} {T : Int} {e : Nat → Int} (c1 : gI h 2 6 = iI n) (c2 : gI h 3 6 = iI T) (c5 : ∀ i, i < n → aI h 8 i = iI (e i)) (hn : n ≤ 60) (hT : 0 ≤ T ∧ T ≤ 9999) (he : ∀ i, i < n → 0 ≤ e i ∧ e i ≤ 20000) : ∀ (d i : Nat) (m : Int) (fu : Nat), i + d = n → d < fu → 0 ≤ m → m ≤ i → fX0_burning_b4 N 6 fu h (iI m) (iI i) = some (iI (m + cntB (fun j => decide (T < e j)) i d), h) := by
  intro d
  induction d with
  | zero =>
    intro i m fu hi hf h0 h1
    obtain ⟨fu, rfl⟩ : ∃ k, fu = k + 1 := ⟨fu - 1, by omega⟩
    show fX0_burning_b4_body N (fX0_burning_b4 N 6 fu) 6 h (iI m) (iI i) = _
    have w : (n : Int) ≤ i := by omega
    simp (disch := omega) [oI, oR, qI, qZ, qR, rc, lit, iI_add, iI_sub, iI_mul, iI_neg, iI_le, iI_lt, iI_eq, v_isW, v_inW, bz, HR, Sk_rw hS, fX0_burning_b4_body, c1, w, cntB]
  | succ d ih =>
    intro i m fu hi hf h0 h1
    obtain ⟨fu, rfl⟩ : ∃ k, fu = k + 1 := ⟨fu - 1, by omega⟩
    show fX0_burning_b4_body N (fX0_burning_b4 N 6 fu) 6 h (iI m) (iI i) = _
    have w : ¬ (n : Int) ≤ i := by omega
    have e1 : ixb (iI (i : Int)) 60 = true := ixb_i (by omega) (by omega) (by omega)
    have e2 : (iI (i : Int)).toNatClampNeg = i := by rw [iI_cl (by omega) (by omega)]; simp
    have e3 := c5 i (by omega)
    have e4 := he i (by omega)
    by_cases w2 : e i ≤ T
    · have q := ih (i + 1) m fu (by omega) (by omega) h0 (by omega)
      simp only [Int.natCast_add, Int.natCast_one] at q
      have w3 : ¬ T < e i := by omega
      simp (disch := omega) [oI, oR, qI, qZ, qR, rc, lit, iI_add, iI_sub, iI_mul, iI_neg, iI_le, iI_lt, iI_eq, v_isW, v_inW, bz, HR, Sk_rw hS, fX0_burning_b4_body, fX0_burning_b28, lA, c1, c2, w, e1, e2, e3, w2, w3, q, cntB]
    · have q := ih (i + 1) (m + 1) fu (by omega) (by omega) (by omega) (by omega)
      simp only [Int.natCast_add, Int.natCast_one] at q
      have w3 : T < e i := by omega
      simp (disch := omega) [oI, oR, qI, qZ, qR, rc, lit, iI_add, iI_sub, iI_mul, iI_neg, iI_le, iI_lt, iI_eq, v_isW, v_inW, bz, HR, Sk_rw hS, fX0_burning_b4_body, fX0_burning_b28, lA, c1, c2, w, e1, e2, e3, w2, w3, q, cntB]
      congr 1
      omega
theorem L_leastLeft {N : Nat} {h : Hs} (hS : Sk h) {n : Nat} {T : Int} {e : Nat → Int} (c1 : gI h 2 6 = iI n) (c2 : gI h 3 6 = iI T) (c5 : ∀ i, i < n → aI h 8 i = iI (e i)) (hn : n ≤ 60) (hT : 0 ≤ T ∧ T ≤ 9999) (he : ∀ i, i < n → 0 ≤ e i ∧ e i ≤ 20000) : ∀ (d i : Nat) (m : Int) (fu : Nat), i + d = n → d < fu → -1 ≤ m → m ≤ 20000 → fX0_leastLeft_b4 N 6 fu h (iI m) (iI i) = some (iI (lstF (fun j => e j - T) m i d), h) := by
  intro d
  induction d with
  | zero =>
    intro i m fu hi hf h0 h1
    obtain ⟨fu, rfl⟩ : ∃ k, fu = k + 1 := ⟨fu - 1, by omega⟩
    show fX0_leastLeft_b4_body N (fX0_leastLeft_b4 N 6 fu) 6 h (iI m) (iI i) = _
    have w : (n : Int) ≤ i := by omega
    simp (disch := omega) [oI, oR, qI, qZ, qR, rc, lit, iI_add, iI_sub, iI_mul, iI_neg, iI_le, iI_lt, iI_eq, v_isW, v_inW, bz, HR, Sk_rw hS, fX0_leastLeft_b4_body, c1, w, lstF]
  | succ d ih =>
    intro i m fu hi hf h0 h1
    obtain ⟨fu, rfl⟩ : ∃ k, fu = k + 1 := ⟨fu - 1, by omega⟩
    show fX0_leastLeft_b4_body N (fX0_leastLeft_b4 N 6 fu) 6 h (iI m) (iI i) = _
    have w : ¬ (n : Int) ≤ i := by omega
    have e1 : ixb (iI (i : Int)) 60 = true := ixb_i (by omega) (by omega) (by omega)
    have e2 : (iI (i : Int)).toNatClampNeg = i := by rw [iI_cl (by omega) (by omega)]; simp
    have e3 := c5 i (by omega)
    have e4 := he i (by omega)
    by_cases w2 : 0 < e i - T ∧ (m < 0 ∨ e i - T < m)
    · have q := ih (i + 1) (e i - T) fu (by omega) (by omega) (by omega) (by omega)
      simp only [Int.natCast_add, Int.natCast_one] at q
      have w3 : ¬ e i - T ≤ 0 := by omega
      simp only [lstF]
      rw [if_pos w2]
      by_cases w4 : m < 0
      · simp (disch := omega) [oI, oR, qI, qZ, qR, rc, lit, iI_add, iI_sub, iI_mul, iI_neg, iI_le, iI_lt, iI_eq, v_isW, v_inW, bz, HR, Sk_rw hS, fX0_leastLeft_b4_body, fX0_leastLeft_b37, fX0_leastLeft_b39, lA, c1, c2, w, e1, e2, e3, w3, w4, q]
      · have w5 : ¬ m ≤ e i - T := by omega
        simp (disch := omega) [oI, oR, qI, qZ, qR, rc, lit, iI_add, iI_sub, iI_mul, iI_neg, iI_le, iI_lt, iI_eq, v_isW, v_inW, bz, HR, Sk_rw hS, fX0_leastLeft_b4_body, fX0_leastLeft_b37, fX0_leastLeft_b39, lA, c1, c2, w, e1, e2, e3, w3, w4, w5, q]
    · have q := ih (i + 1) m fu (by omega) (by omega) (by omega) (by omega)
      simp only [Int.natCast_add, Int.natCast_one] at q
      simp only [lstF]
      rw [if_neg w2]
      by_cases w3 : e i - T ≤ 0
      · simp (disch := omega) [oI, oR, qI, qZ, qR, rc, lit, iI_add, iI_sub, iI_mul, iI_neg, iI_le, iI_lt, iI_eq, v_isW, v_inW, bz, HR, Sk_rw hS, fX0_leastLeft_b4_body, fX0_leastLeft_b37, fX0_leastLeft_b39, lA, c1, c2, w, e1, e2, e3, w3, q]
      · have w4 : ¬ m < 0 := by omega
        have w5 : m ≤ e i - T := by omega
        simp (disch := omega) [oI, oR, qI, qZ, qR, rc, lit, iI_add, iI_sub, iI_mul, iI_neg, iI_le, iI_lt, iI_eq, v_isW, v_inW, bz, HR, Sk_rw hS, fX0_leastLeft_b4_body, fX0_leastLeft_b37, fX0_leastLeft_b39, lA, c1, c2, w, e1, e2, e3, w3, w4, w5, q]
theorem v_left {N : Nat} {h : Hs} (hS : Sk h) {T a b : Int} {i : Nat} (hi : i < 60) (c : gI h 1252 29 = iI T) (c1 : aI h 63 i = iI a) (c2 : aI h 62 i = iI b) : fX12_left N h 29 (iI i) = some (iI (a + b - T), h) := by
  have e1 : ixb (iI (i : Int)) 60 = true := ixb_i (by omega) (by omega) (by omega)
  have e2 : (iI (i : Int)).toNatClampNeg = i := by rw [iI_cl (by omega) (by omega)]; simp
  simp (disch := omega) [oI, oR, qI, qZ, qR, rc, lit, iI_add, iI_sub, iI_mul, iI_neg, iI_le, iI_lt, iI_eq, v_isW, v_inW, bz, HR, Sk_rw hS, fX12_left, lA, c, c1, c2, e1, e2]
theorem L_light {N : Nat} {h : Hs} (hS : Sk h) {n : Nat} {lf : Nat → Int} (c1 : gI h 1253 29 = iI n) (c5 : ∀ i : Nat, i < n → fX12_left N h 29 (iI i) = some (iI (lf i), h)) (hn : n ≤ 60) (he : ∀ i, i < n → -20000 ≤ lf i ∧ lf i ≤ 20000) (x : Int) (hx : -2147483648 ≤ x ∧ x < 2147483648) : ∀ (d i : Nat) (dk m : Int) (fu : Nat), i + d = n → d < fu → 0 ≤ dk → dk ≤ i → -1 ≤ m → m ≤ 20000 → fX12_light_b7 N 29 fu h (iI x) (iI dk) (iI m) (iI i) = some (if x = 0 then iI (dk + cntB (fun j => decide (lf j ≤ 0)) i d) else if x = 1 then iI (n - (dk + cntB (fun j => decide (lf j ≤ 0)) i d)) else if x = 2 then iI (lstF lf m i d) else iI (-1), h) := by
  intro d
  induction d with
  | zero =>
    intro i dk m fu hi hf h0 h1 h2 h3
    obtain ⟨fu, rfl⟩ : ∃ k, fu = k + 1 := ⟨fu - 1, by omega⟩
    show fX12_light_b7_body N (fX12_light_b7 N 29 fu) 29 h (iI x) (iI dk) (iI m) (iI i) = _
    have w : (n : Int) ≤ i := by omega
    by_cases x0 : x = 0
    · subst x0
      simp (disch := omega) [oI, oR, qI, qZ, qR, rc, lit, iI_add, iI_sub, iI_mul, iI_neg, iI_le, iI_lt, iI_eq, v_isW, v_inW, bz, HR, Sk_rw hS, fX12_light_b7_body, c1, w, lstF, cntB]
    · by_cases x1 : x = 1
      · subst x1
        simp (disch := omega) [oI, oR, qI, qZ, qR, rc, lit, iI_add, iI_sub, iI_mul, iI_neg, iI_le, iI_lt, iI_eq, v_isW, v_inW, bz, HR, Sk_rw hS, fX12_light_b7_body, c1, w, lstF, cntB]
      · by_cases x2 : x = 2
        · subst x2
          simp (disch := omega) [oI, oR, qI, qZ, qR, rc, lit, iI_add, iI_sub, iI_mul, iI_neg, iI_le, iI_lt, iI_eq, v_isW, v_inW, bz, HR, Sk_rw hS, fX12_light_b7_body, c1, w, lstF, cntB]
        · simp (disch := omega) [oI, oR, qI, qZ, qR, rc, lit, iI_add, iI_sub, iI_mul, iI_neg, iI_le, iI_lt, iI_eq, v_isW, v_inW, bz, HR, Sk_rw hS, fX12_light_b7_body, c1, w, lstF, cntB, x0, x1, x2]
  | succ d ih =>
    intro i dk m fu hi hf h0 h1 h2 h3
    obtain ⟨fu, rfl⟩ : ∃ k, fu = k + 1 := ⟨fu - 1, by omega⟩
    show fX12_light_b7_body N (fX12_light_b7 N 29 fu) 29 h (iI x) (iI dk) (iI m) (iI i) = _
    have w : ¬ (n : Int) ≤ i := by omega
    have lc := c5 i (by omega)
    have e4 := he i (by omega)
    by_cases w1 : lf i ≤ 0
    · have q := ih (i + 1) (dk + 1) m fu (by omega) (by omega) (by omega) (by omega) h2 h3
      simp only [Int.natCast_add, Int.natCast_one] at q
      have w2 : ¬ 0 < lf i := by omega
      have e5 : lstF lf m i (d + 1) = lstF lf m (i + 1) d := by simp [lstF, w2]
      have e6 : dk + (cntB (fun j => decide (lf j ≤ 0)) i (d + 1) : Int) = dk + 1 + (cntB (fun j => decide (lf j ≤ 0)) (i + 1) d : Int) := by simp [cntB, w1]; omega
      rw [e5, e6, ← q]
      simp (disch := omega) [oI, oR, qI, qZ, qR, rc, lit, iI_add, iI_sub, iI_mul, iI_neg, iI_le, iI_lt, iI_eq, v_isW, v_inW, bz, HR, Sk_rw hS, fX12_light_b7_body, fX12_light_b56, c1, w, lc, w2]
    · have w2 : 0 < lf i := by omega
      have e6 : dk + (cntB (fun j => decide (lf j ≤ 0)) i (d + 1) : Int) = dk + (cntB (fun j => decide (lf j ≤ 0)) (i + 1) d : Int) := by simp [cntB, w1]
      by_cases w3 : m < 0 ∨ lf i < m
      · have q := ih (i + 1) dk (lf i) fu (by omega) (by omega) (by omega) (by omega) (by omega) (by omega)
        simp only [Int.natCast_add, Int.natCast_one] at q
        have e5 : lstF lf m i (d + 1) = lstF lf (lf i) (i + 1) d := by simp [lstF, w2, w3]
        rw [e5, e6, ← q]
        by_cases w4 : m < 0
        · simp (disch := omega) [oI, oR, qI, qZ, qR, rc, lit, iI_add, iI_sub, iI_mul, iI_neg, iI_le, iI_lt, iI_eq, v_isW, v_inW, bz, HR, Sk_rw hS, fX12_light_b7_body, fX12_light_b56, fX12_light_b45, fX12_light_b55, c1, w, lc, w2, w4]
        · have w5 : ¬ m ≤ lf i := by omega
          simp (disch := omega) [oI, oR, qI, qZ, qR, rc, lit, iI_add, iI_sub, iI_mul, iI_neg, iI_le, iI_lt, iI_eq, v_isW, v_inW, bz, HR, Sk_rw hS, fX12_light_b7_body, fX12_light_b56, fX12_light_b45, fX12_light_b55, c1, w, lc, w2, w4, w5]
      · have q := ih (i + 1) dk m fu (by omega) (by omega) (by omega) (by omega) (by omega) (by omega)
        simp only [Int.natCast_add, Int.natCast_one] at q
        have e5 : lstF lf m i (d + 1) = lstF lf m (i + 1) d := by simp [lstF, w3]
        rw [e5, e6, ← q]
        have w4 : ¬ m < 0 := by omega
        have w5 : m ≤ lf i := by omega
        simp (disch := omega) [oI, oR, qI, qZ, qR, rc, lit, iI_add, iI_sub, iI_mul, iI_neg, iI_le, iI_lt, iI_eq, v_isW, v_inW, bz, HR, Sk_rw hS, fX12_light_b7_body, fX12_light_b56, fX12_light_b45, fX12_light_b55, c1, w, lc, w2, w4, w5]
theorem cntB_not (p q : Nat → Bool) : ∀ (d i : Nat), (∀ j, i ≤ j → j < i + d → q j = !p j) → cntB p i d + cntB q i d = d
  | 0, _, _ => rfl
  | d + 1, i, h => by
    have h1 := cntB_not p q d (i + 1) (fun j a b => h j (by omega) (by omega))
    have h2 := h i (Nat.le_refl i) (by omega)
    simp only [cntB, h2]
    cases p i <;> simp <;> omega
theorem lstF_congr {e e2 : Nat → Int} : ∀ (d i : Nat) (m : Int), (∀ j, i ≤ j → j < i + d → e j = e2 j) → lstF e m i d = lstF e2 m i d
  | 0, _, _, _ => rfl
  | d + 1, i, m, h => by
    simp only [lstF]
    rw [h i (Nat.le_refl i) (by omega)]
    exact lstF_congr d (i + 1) _ (fun j a b => h j (by omega) (by omega))
theorem t_light {N : Nat} (hN : 100000000 ≤ N) {h : Hs} (hS : Sk h) (hC : ICand h) (p : Int32) : ∃ r h1 h2, fX11_light N h 0 p = some (r, h1) ∧ fX12_light N h1 29 p = some (r, h2) ∧ ICand h2 ∧ Kq FCand ACand h h2 := by
  obtain ⟨z, z1, z2, rfl⟩ := iI_ex p
  have hC0 := hC
  obtain ⟨n, T, ln, lt, ⟨c1, c2, c3, c4⟩, c5, c6, c7, c8, c9⟩ := hC
  have LB := L_burning (N := N) hS (e := fun i => lt i + ln i) c1 c2 (fun i hi => (c5 i hi).2.1) c6 ⟨c7, c8⟩ (fun i hi => by have := c9 i hi; omega) n 0 0 N (by omega) (by omega) (by omega) (by omega)
  have LL := L_leastLeft (N := N) hS (e := fun i => lt i + ln i) c1 c2 (fun i hi => (c5 i hi).2.1) c6 ⟨c7, c8⟩ (fun i hi => by have := c9 i hi; omega) n 0 (-1) N (by omega) (by omega) (by omega) (by omega)
  have LR := L_light (N := N) hS (lf := fun i => lt i + ln i - T) c3 (fun i hi => v_left hS (by omega) c4 (c5 i hi).2.2.2 (c5 i hi).2.2.1) c6 (fun i hi => by have := c9 i hi; omega) z ⟨z1, z2⟩ n 0 0 (-1) N (by omega) (by omega) (by omega) (by omega) (by omega) (by omega)
  have hc := cntB_not (fun j => decide (T < lt j + ln j)) (fun j => decide (lt j + ln j - T ≤ 0)) n 0 (fun j _ _ => by show decide _ = !decide _; rw [← decide_not]; exact decide_eq_decide.mpr (by omega))
  simp only [Int.natCast_zero] at LB LL LR
  refine ⟨_, h, h, ?_, LR, hC0, Kq_rf⟩
  by_cases x0 : z = 0
  · subst x0
    simp (disch := omega) [oI, oR, qI, qZ, qR, rc, lit, iI_add, iI_sub, iI_mul, iI_neg, iI_le, iI_lt, iI_eq, v_isW, v_inW, bz, HR, Sk_rw hS, fX11_light, fX0_tell, fX0_burning, c1, LB]
    congr 1
    omega
  · by_cases x1 : z = 1
    · subst x1
      simp (disch := omega) [oI, oR, qI, qZ, qR, rc, lit, iI_add, iI_sub, iI_mul, iI_neg, iI_le, iI_lt, iI_eq, v_isW, v_inW, bz, HR, Sk_rw hS, fX11_light, fX0_tell, fX0_burning, c1, LB]
      congr 1
      omega
    · by_cases x2 : z = 2
      · subst x2
        simp (disch := omega) [oI, oR, qI, qZ, qR, rc, lit, iI_add, iI_sub, iI_mul, iI_neg, iI_le, iI_lt, iI_eq, v_isW, v_inW, bz, HR, Sk_rw hS, fX11_light, fX0_tell, fX0_leastLeft, c1, LL]
      · simp (disch := omega) [oI, oR, qI, qZ, qR, rc, lit, iI_add, iI_sub, iI_mul, iI_neg, iI_le, iI_lt, iI_eq, v_isW, v_inW, bz, HR, Sk_rw hS, fX11_light, fX0_tell, x0, x1, x2]
