theorem L_renew {N : Nat} {n : Nat} {T k : Int} {ln e : Nat → Int} (hn : n ≤ 60) (hT : 0 ≤ T ∧ T ≤ 9999) (hk : 0 ≤ k ∧ k ≤ 300) (hl : ∀ i, i < n → 1 ≤ ln i ∧ ln i ≤ 300) (he : ∀ i, i < n → 0 ≤ e i ∧ e i ≤ 20000) : ∀ (d i : Nat) (m : Int) (h : Hs) (fu : Nat), i + d = n → d < fu → 0 ≤ m → m ≤ i → Sk h → gI h 2 6 = iI n → gI h 3 6 = iI T → (∀ j, j < n → aI h 7 j = iI (ln j)) → (∀ j, i ≤ j → j < n → aI h 8 j = iI (e j)) → fX0_renew_b17 N 6 fu h (iI k) (iI m) (iI i) = some (iI (m + cntB (fun j => decide (1 ≤ e j - T ∧ e j - T ≤ k)) i d), wA h 8 (fun j => if i ≤ j ∧ j < n ∧ 1 ≤ e j - T ∧ e j - T ≤ k then iI (T + ln j) else aI h 8 j)) := by
  intro d
  induction d with
  | zero =>
    intro i m h fu hi hf h0 h1 hS c1 c2 c3 c4
    obtain ⟨fu, rfl⟩ : ∃ k, fu = k + 1 := ⟨fu - 1, by omega⟩
    show fX0_renew_b17_body N (fX0_renew_b17 N 6 fu) 6 h (iI k) (iI m) (iI i) = _
    have w : (n : Int) ≤ i := by omega
    have e0 : (fun j => if i ≤ j ∧ j < n ∧ 1 ≤ e j - T ∧ e j - T ≤ k then iI (T + ln j) else aI h 8 j) = aI h 8 := by
      funext j
      rw [if_neg (by omega)]
    rw [e0, wA_self]
    simp (disch := omega) [oI, oR, qI, qZ, qR, rc, lit, iI_add, iI_sub, iI_mul, iI_neg, iI_le, iI_lt, iI_eq, v_isW, v_inW, bz, HR, Sk_rw hS, fX0_renew_b17_body, c1, w, cntB]
  | succ d ih =>
    intro i m h fu hi hf h0 h1 hS c1 c2 c3 c4
    obtain ⟨fu, rfl⟩ : ∃ k, fu = k + 1 := ⟨fu - 1, by omega⟩
    show fX0_renew_b17_body N (fX0_renew_b17 N 6 fu) 6 h (iI k) (iI m) (iI i) = _
    have w : ¬ (n : Int) ≤ i := by omega
    have e1 : ixb (iI (i : Int)) 60 = true := ixb_i (by omega) (by omega) (by omega)
    have e2 : (iI (i : Int)).toNatClampNeg = i := by rw [iI_cl (by omega) (by omega)]; simp
    have e3 := c4 i (by omega) (by omega)
    have e5 := c3 i (by omega)
    have e4 := he i (by omega)
    by_cases w2 : 1 ≤ e i - T ∧ e i - T ≤ k
    · have q := ih (i + 1) (m + 1) (uA h 8 i (iI (T + ln i))) fu (by omega) (by omega) (by omega) (by omega) (hS.k (Kq_uA 8 i _)) (by simp [HR, c1]) (by simp [HR, c2]) (fun j hj => by simp [HR, c3 j hj]) (fun j h7 h8 => (by have hji : j ≠ i := (by omega); simp [HR, hji, c4 j (by omega) h8]))
      simp only [Int.natCast_add, Int.natCast_one] at q
      have e6 : m + (cntB (fun j => decide (1 ≤ e j - T ∧ e j - T ≤ k)) i (d + 1) : Int) = m + 1 + (cntB (fun j => decide (1 ≤ e j - T ∧ e j - T ≤ k)) (i + 1) d : Int) := by
        simp only [cntB, w2, decide_true, if_true, and_self, Int.natCast_add, Int.natCast_one]
        omega
      have e7 : wA (uA h 8 i (iI (T + ln i))) 8 (fun j => if i + 1 ≤ j ∧ j < n ∧ 1 ≤ e j - T ∧ e j - T ≤ k then iI (T + ln j) else aI (uA h 8 i (iI (T + ln i))) 8 j) = wA h 8 (fun j => if i ≤ j ∧ j < n ∧ 1 ≤ e j - T ∧ e j - T ≤ k then iI (T + ln j) else aI h 8 j) := by
        rw [uA_wA, wA_wA]
        congr 1
        funext j
        by_cases ej : j = i
        · subst ej
          rw [if_neg (by omega), if_pos ⟨Nat.le_refl _, by omega, w2⟩]
          simp [aI_wA]
        · by_cases cj : i + 1 ≤ j ∧ j < n ∧ 1 ≤ e j - T ∧ e j - T ≤ k
          · rw [if_pos cj, if_pos ⟨by omega, cj.2⟩]
          · rw [if_neg cj, if_neg (fun z => cj ⟨by omega, z.2⟩)]
            simp [aI_wA, ej]
      rw [e7] at q
      rw [e6, ← q]
      simp (disch := omega) [oI, oR, qI, qZ, qR, rc, lit, iI_add, iI_sub, iI_mul, iI_neg, iI_le, iI_lt, iI_eq, v_isW, v_inW, bz, HR, Sk_rw hS, fX0_renew_b17_body, fX0_renew_b64, lA, sA, c1, c2, w, e1, e2, e3, e5, w2]
    · have q := ih (i + 1) m h fu (by omega) (by omega) (by omega) (by omega) hS c1 c2 c3 (fun j h7 h8 => c4 j (by omega) h8)
      simp only [Int.natCast_add, Int.natCast_one] at q
      have e6 : m + (cntB (fun j => decide (1 ≤ e j - T ∧ e j - T ≤ k)) i (d + 1) : Int) = m + (cntB (fun j => decide (1 ≤ e j - T ∧ e j - T ≤ k)) (i + 1) d : Int) := by
        simp only [cntB, w2, decide_false, Int.natCast_add]
        simp
      have e7 : wA h 8 (fun j => if i + 1 ≤ j ∧ j < n ∧ 1 ≤ e j - T ∧ e j - T ≤ k then iI (T + ln j) else aI h 8 j) = wA h 8 (fun j => if i ≤ j ∧ j < n ∧ 1 ≤ e j - T ∧ e j - T ≤ k then iI (T + ln j) else aI h 8 j) := by
        congr 1
        funext j
        by_cases ej : j = i
        · subst ej
          rw [if_neg (by omega), if_neg (fun z => w2 z.2.2)]
        · by_cases cj : i + 1 ≤ j ∧ j < n ∧ 1 ≤ e j - T ∧ e j - T ≤ k
          · rw [if_pos cj, if_pos ⟨by omega, cj.2⟩]
          · rw [if_neg cj, if_neg (fun z => cj ⟨by omega, z.2⟩)]
      rw [e7] at q
      rw [e6, ← q]
      simp (disch := omega) [oI, oR, qI, qZ, qR, rc, lit, iI_add, iI_sub, iI_mul, iI_neg, iI_le, iI_lt, iI_eq, v_isW, v_inW, bz, HR, Sk_rw hS, fX0_renew_b17_body, fX0_renew_b64, lA, sA, c1, c2, w, e1, e2, e3, w2]
theorem L_trim {N : Nat} {n : Nat} {T k : Int} {ln lt : Nat → Int} (hn : n ≤ 60) (hT : 0 ≤ T ∧ T ≤ 9999) (hk : 0 ≤ k ∧ k ≤ 300) (hl : ∀ i, i < n → 1 ≤ ln i ∧ ln i ≤ 300) (he : ∀ i, i < n → 0 ≤ lt i ∧ lt i ≤ 9999) : ∀ (d i : Nat) (m : Int) (h : Hs) (fu : Nat), i + d = n → d < fu → 0 ≤ m → m ≤ i → Sk h → gI h 1253 29 = iI n → gI h 1252 29 = iI T → (∀ j, j < n → aI h 62 j = iI (ln j)) → (∀ j, i ≤ j → j < n → aI h 63 j = iI (lt j)) → fX12_trim_b17 N 29 fu h (iI k) (iI m) (iI i) = some (iI (m + cntB (fun j => decide (1 ≤ lt j + ln j - T ∧ lt j + ln j - T ≤ k)) i d), wA h 63 (fun j => if i ≤ j ∧ j < n ∧ 1 ≤ lt j + ln j - T ∧ lt j + ln j - T ≤ k then iI T else aI h 63 j)) := by
  intro d
  induction d with
  | zero =>
    intro i m h fu hi hf h0 h1 hS c1 c2 c3 c4
    obtain ⟨fu, rfl⟩ : ∃ k, fu = k + 1 := ⟨fu - 1, by omega⟩
    show fX12_trim_b17_body N (fX12_trim_b17 N 29 fu) 29 h (iI k) (iI m) (iI i) = _
    have w : (n : Int) ≤ i := by omega
    have e0 : (fun j => if i ≤ j ∧ j < n ∧ 1 ≤ lt j + ln j - T ∧ lt j + ln j - T ≤ k then iI T else aI h 63 j) = aI h 63 := by
      funext j
      rw [if_neg (by omega)]
    rw [e0, wA_self]
    simp (disch := omega) [oI, oR, qI, qZ, qR, rc, lit, iI_add, iI_sub, iI_mul, iI_neg, iI_le, iI_lt, iI_eq, v_isW, v_inW, bz, HR, Sk_rw hS, fX12_trim_b17_body, c1, w, cntB]
  | succ d ih =>
    intro i m h fu hi hf h0 h1 hS c1 c2 c3 c4
    obtain ⟨fu, rfl⟩ : ∃ k, fu = k + 1 := ⟨fu - 1, by omega⟩
    show fX12_trim_b17_body N (fX12_trim_b17 N 29 fu) 29 h (iI k) (iI m) (iI i) = _
    have w : ¬ (n : Int) ≤ i := by omega
    have e1 : ixb (iI (i : Int)) 60 = true := ixb_i (by omega) (by omega) (by omega)
    have e2 : (iI (i : Int)).toNatClampNeg = i := by rw [iI_cl (by omega) (by omega)]; simp
    have e3 := c4 i (by omega) (by omega)
    have e5 := c3 i (by omega)
    have e4 := he i (by omega)
    have e8 := hl i (by omega)
    have lc := v_left (N := N) hS (i := i) (by omega) c2 e3 e5
    by_cases w2 : 1 ≤ lt i + ln i - T ∧ lt i + ln i - T ≤ k
    · have q := ih (i + 1) (m + 1) (uA h 63 i (iI T)) fu (by omega) (by omega) (by omega) (by omega) (hS.k (Kq_uA 63 i _)) (by simp [HR, c1]) (by simp [HR, c2]) (fun j hj => by simp [HR, c3 j hj]) (fun j h7 h8 => (by have hji : j ≠ i := (by omega); simp [HR, hji, c4 j (by omega) h8]))
      simp only [Int.natCast_add, Int.natCast_one] at q
      have e6 : m + (cntB (fun j => decide (1 ≤ lt j + ln j - T ∧ lt j + ln j - T ≤ k)) i (d + 1) : Int) = m + 1 + (cntB (fun j => decide (1 ≤ lt j + ln j - T ∧ lt j + ln j - T ≤ k)) (i + 1) d : Int) := by
        simp only [cntB, w2, decide_true, if_true, and_self, Int.natCast_add, Int.natCast_one]
        omega
      have e7 : wA (uA h 63 i (iI T)) 63 (fun j => if i + 1 ≤ j ∧ j < n ∧ 1 ≤ lt j + ln j - T ∧ lt j + ln j - T ≤ k then iI T else aI (uA h 63 i (iI T)) 63 j) = wA h 63 (fun j => if i ≤ j ∧ j < n ∧ 1 ≤ lt j + ln j - T ∧ lt j + ln j - T ≤ k then iI T else aI h 63 j) := by
        rw [uA_wA, wA_wA]
        congr 1
        funext j
        by_cases ej : j = i
        · subst ej
          rw [if_neg (by omega), if_pos ⟨Nat.le_refl _, by omega, w2⟩]
          simp [aI_wA]
        · by_cases cj : i + 1 ≤ j ∧ j < n ∧ 1 ≤ lt j + ln j - T ∧ lt j + ln j - T ≤ k
          · rw [if_pos cj, if_pos ⟨by omega, cj.2⟩]
          · rw [if_neg cj, if_neg (fun z => cj ⟨by omega, z.2⟩)]
            simp [aI_wA, ej]
      rw [e7] at q
      rw [e6, ← q]
      generalize lt i + ln i - T = L at *
      simp (disch := omega) [oI, oR, qI, qZ, qR, rc, lit, iI_add, iI_sub, iI_mul, iI_neg, iI_le, iI_lt, iI_eq, v_isW, v_inW, bz, HR, Sk_rw hS, fX12_trim_b17_body, fX12_trim_b54, sA, c1, c2, w, e1, e2, lc, w2]
    · have q := ih (i + 1) m h fu (by omega) (by omega) (by omega) (by omega) hS c1 c2 c3 (fun j h7 h8 => c4 j (by omega) h8)
      simp only [Int.natCast_add, Int.natCast_one] at q
      have e6 : m + (cntB (fun j => decide (1 ≤ lt j + ln j - T ∧ lt j + ln j - T ≤ k)) i (d + 1) : Int) = m + (cntB (fun j => decide (1 ≤ lt j + ln j - T ∧ lt j + ln j - T ≤ k)) (i + 1) d : Int) := by
        simp only [cntB, w2, decide_false, Int.natCast_add]
        simp
      have e7 : wA h 63 (fun j => if i + 1 ≤ j ∧ j < n ∧ 1 ≤ lt j + ln j - T ∧ lt j + ln j - T ≤ k then iI T else aI h 63 j) = wA h 63 (fun j => if i ≤ j ∧ j < n ∧ 1 ≤ lt j + ln j - T ∧ lt j + ln j - T ≤ k then iI T else aI h 63 j) := by
        congr 1
        funext j
        by_cases ej : j = i
        · subst ej
          rw [if_neg (by omega), if_neg (fun z => w2 z.2.2)]
        · by_cases cj : i + 1 ≤ j ∧ j < n ∧ 1 ≤ lt j + ln j - T ∧ lt j + ln j - T ≤ k
          · rw [if_pos cj, if_pos ⟨by omega, cj.2⟩]
          · rw [if_neg cj, if_neg (fun z => cj ⟨by omega, z.2⟩)]
      rw [e7] at q
      rw [e6, ← q]
      simp (disch := omega) [oI, oR, qI, qZ, qR, rc, lit, iI_add, iI_sub, iI_mul, iI_neg, iI_le, iI_lt, iI_eq, v_isW, v_inW, bz, HR, Sk_rw hS, fX12_trim_b17_body, fX12_trim_b54, c1, c2, w, lc, w2]
theorem t_trim {N : Nat} (hN : 100000000 ≤ N) {h : Hs} (hS : Sk h) (hC : ICand h) (p : Int32) : ∃ r h1 h2, fX11_trim N h 0 p = some (r, h1) ∧ fX12_trim N h1 29 p = some (r, h2) ∧ ICand h2 ∧ Kq FCand ACand h h2 := by
  obtain ⟨z, z1, z2, rfl⟩ := iI_ex p
  have hC0 := hC
  obtain ⟨n, T, ln, lt, ⟨c1, c2, c3, c4⟩, c5, c6, c7, c8, c9⟩ := hC
  by_cases w : 0 ≤ z ∧ z ≤ 300
  · have LA := L_renew (N := N) (n := n) (T := T) (k := z) (ln := ln) (e := fun i => lt i + ln i) c6 ⟨c7, c8⟩ w (fun i hi => by have := c9 i hi; omega) (fun i hi => by have := c9 i hi; omega) n 0 0 h N (by omega) (by omega) (by omega) (by omega) hS c1 c2 (fun j hj => (c5 j hj).1) (fun j _ hj => (c5 j hj).2.1)
    generalize hh1 : wA h 8 _ = h1 at LA
    have kk : Kq FCand ACand h h1 := by rw [← hh1]; exact Kq_rf.a _ _ (by decide)
    have LR := L_trim (N := N) (n := n) (T := T) (k := z) (ln := ln) (lt := lt) c6 ⟨c7, c8⟩ w (fun i hi => by have := c9 i hi; omega) (fun i hi => by have := c9 i hi; omega) n 0 0 h1 N (by omega) (by omega) (by omega) (by omega) (hS.k kk) (by rw [← hh1]; simp [HR, c3]) (by rw [← hh1]; simp [HR, c4]) (fun j hj => by rw [← hh1]; simp [HR, (c5 j hj)]) (fun j _ hj => by rw [← hh1]; simp [HR, (c5 j hj)])
    simp only [Int.natCast_zero] at LA LR
    refine ⟨iI (0 + (cntB (fun j => decide (1 ≤ lt j + ln j - T ∧ lt j + ln j - T ≤ z)) 0 n : Int)), h1, wA h1 63 (fun j => if 0 ≤ j ∧ j < n ∧ 1 ≤ lt j + ln j - T ∧ lt j + ln j - T ≤ z then iI T else aI h1 63 j), ?_, ?_, ⟨n, T, ln, fun i => if 1 ≤ lt i + ln i - T ∧ lt i + ln i - T ≤ z then T else lt i, ?_⟩, kk.a 63 _ (by decide)⟩
    · simp (disch := omega) [oI, oR, qI, qZ, qR, rc, lit, iI_add, iI_sub, iI_mul, iI_neg, iI_le, iI_lt, iI_eq, v_isW, v_inW, bz, HR, Sk_rw hS, fX11_trim, fX0_renew, w, LA]
    · have hS1 := hS.k kk
      have e9 := v_inW (N := N) (h := h1) (x := z) (a := 0) (b := 300) (by omega) (by omega) (by omega) (by omega) (by omega) (by omega)
      rw [if_pos w] at e9
      simp [fX12_trim, lit, e9, LR, iI_eq]
    · refine ⟨⟨?_, ?_, ?_, ?_⟩, fun i hi => ?_, c6, c7, c8, fun i hi => ?_⟩
      · rw [← hh1]; simp [HR, c1]
      · rw [← hh1]; simp [HR, c2]
      · rw [← hh1]; simp [HR, c3]
      · rw [← hh1]; simp [HR, c4]
      · have q := c5 i hi
        rw [← hh1]
        by_cases cj : 1 ≤ lt i + ln i - T ∧ lt i + ln i - T ≤ z
        · simp only [HR]
          simp [q, hi, cj]
        · simp only [HR]
          simp [q, hi, cj]
      · have q := c9 i hi
        by_cases cj : 1 ≤ lt i + ln i - T ∧ lt i + ln i - T ≤ z
        · simp only [cj, and_self, if_true]; omega
        · simp only [cj, if_false]; omega
  · refine ⟨-1, h, h, ?_, ?_, hC0, Kq_rf⟩
    · simp (disch := omega) [oI, oR, qI, qZ, qR, rc, lit, iI_add, iI_sub, iI_mul, iI_neg, iI_le, iI_lt, iI_eq, v_isW, v_inW, bz, HR, Sk_rw hS, fX11_trim, fX0_renew, w]
    · simp (disch := omega) [oI, oR, qI, qZ, qR, rc, lit, iI_add, iI_sub, iI_mul, iI_neg, iI_le, iI_lt, iI_eq, v_isW, v_inW, bz, HR, Sk_rw hS, fX12_trim, w]
