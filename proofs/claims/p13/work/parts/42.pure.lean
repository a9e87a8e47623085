/-! ===== the stage's own: things, drums ===== -/
def RTh (h : Hs) (nt : Nat) (tA : Nat → Nat) (tl tw tg ls ms pa : Nat → Int) : Prop :=
  (gI h 507 14 = iI nt ∧ gI h 1201 29 = iI nt ∧ nt ≤ 40) ∧
  (∀ i, i < nt → (aR h 15 i = some (tA i) ∧ 70 ≤ tA i ∧ tA i < sz h ∧ sh h (tA i) = (9, 0)) ∧ (gI h 900 (tA i) = iI i ∧ gI h 901 (tA i) = iI (tl i) ∧ gI h 902 (tA i) = iI (tw i) ∧ gI h 903 (tA i) = iI (tg i) ∧ gI h 904 (tA i) = iI (ls i) ∧ gI h 905 (tA i) = iI (ms i) ∧ gI h 907 (tA i) = iI (pa i)) ∧ (aI h 30 i = iI (tl i) ∧ aI h 31 i = iI (tw i) ∧ aI h 32 i = iI (tg i) ∧ aI h 33 i = iI (pa i) ∧ aI h 34 i = iI (ls i) ∧ aI h 35 i = iI (ms i)) ∧ (0 ≤ tl i ∧ tl i ≤ 15 ∧ 1 ≤ tw i ∧ tw i ≤ 60 ∧ 0 ≤ tg i ∧ tg i ≤ 999 ∧ 0 ≤ ls i ∧ ls i ≤ pa i ∧ pa i ≤ ms i ∧ ms i + tw i ≤ 100)) ∧ (∀ i j, i < nt → j < nt → tA i = tA j → i = j)
abbrev FTh : List Nat := [507, 1201, 900, 901, 902, 903, 904, 905, 907]
abbrev ATh : List Nat := [30, 31, 32, 33, 34, 35]
theorem RTh.e {F A FR AQ : List Nat} {h h2 : Hs} {nt : Nat} {tA : Nat → Nat} {tl tw tg ls ms pa : Nat → Int} (hC : RTh h nt tA tl tw tg ls ms pa) (hz : 70 ≤ sz h) (k : Ke F A FR AQ h h2) (hF : ∀ f ∈ FTh, f ∉ F) (hA : ∀ a ∈ ATh, a ∉ A) (hQ : 15 ∉ AQ) : RTh h2 nt tA tl tw tg ls ms pa := by
  obtain ⟨⟨c1, c2, c3⟩, c4, c5⟩ := hC
  have k6 := k.2.2.2.2.2
  refine ⟨⟨by rw [k.1 _ _ (hF _ (by decide)) (by omega)]; exact c1, by rw [k.1 _ _ (hF _ (by decide)) (by omega)]; exact c2, c3⟩, fun i hi => ?_, c5⟩
  obtain ⟨⟨d1, d2, d3, d4⟩, d5, d6, d7⟩ := c4 i hi
  refine ⟨⟨by rw [k.2.2.2.1 _ hQ (by omega)]; exact d1, d2, by omega, by rw [k.2.2.2.2.1 _ d3]; exact d4⟩, ?_, ?_, d7⟩
  · rw [k.1 _ _ (hF 900 (by decide)) d3, k.1 _ _ (hF 901 (by decide)) d3, k.1 _ _ (hF 902 (by decide)) d3, k.1 _ _ (hF 903 (by decide)) d3, k.1 _ _ (hF 904 (by decide)) d3, k.1 _ _ (hF 905 (by decide)) d3, k.1 _ _ (hF 907 (by decide)) d3]
    exact d5
  · rw [k.2.1 _ (hA 30 (by decide)) (by omega), k.2.1 _ (hA 31 (by decide)) (by omega), k.2.1 _ (hA 32 (by decide)) (by omega), k.2.1 _ (hA 33 (by decide)) (by omega), k.2.1 _ (hA 34 (by decide)) (by omega), k.2.1 _ (hA 35 (by decide)) (by omega)]
    exact d6
def RDr (h : Hs) (nd : Nat) (dA : Nat → Nat) (ds : Nat → Int) : Prop :=
  (gI h 508 14 = iI nd ∧ gI h 1209 29 = iI nd ∧ nd ≤ 20) ∧
  (∀ i, i < nd → (aR h 16 i = some (dA i) ∧ 70 ≤ dA i ∧ dA i < sz h ∧ sh h (dA i) = (2, 0)) ∧ (gI h 200 (dA i) = iI i ∧ gI h 201 (dA i) = iI (ds i)) ∧ aI h 37 i = iI (ds i) ∧ 1 ≤ ds i ∧ ds i ≤ 20) ∧ (∀ i j, i < nd → j < nd → dA i = dA j → i = j)
theorem RDr.e {F A FR AQ : List Nat} {h h2 : Hs} {nd : Nat} {dA : Nat → Nat} {ds : Nat → Int} (hC : RDr h nd dA ds) (hz : 70 ≤ sz h) (k : Ke F A FR AQ h h2) (hF : ∀ f ∈ [508, 1209, 200, 201], f ∉ F) (hA : 37 ∉ A) (hQ : 16 ∉ AQ) : RDr h2 nd dA ds := by
  obtain ⟨⟨c1, c2, c3⟩, c4, c5⟩ := hC
  have k6 := k.2.2.2.2.2
  refine ⟨⟨by rw [k.1 _ _ (hF _ (by decide)) (by omega)]; exact c1, by rw [k.1 _ _ (hF _ (by decide)) (by omega)]; exact c2, c3⟩, fun i hi => ?_, c5⟩
  obtain ⟨⟨d1, d2, d3, d4⟩, d5, d6, d7⟩ := c4 i hi
  refine ⟨⟨by rw [k.2.2.2.1 _ hQ (by omega)]; exact d1, d2, by omega, by rw [k.2.2.2.2.1 _ d3]; exact d4⟩, ?_, ?_, d7⟩
  · rw [k.1 _ _ (hF 200 (by decide)) d3, k.1 _ _ (hF 201 (by decide)) d3]
    exact d5
  · rw [k.2.1 _ hA (by omega)]
    exact d6
/-- the first of them, or none -/
def fstB (p : Nat → Bool) (i : Nat) : Nat → Int
  | 0 => -2
  | d + 1 => if p i then (i : Int) else fstB p (i + 1) d
theorem fst_y (p : Nat → Bool) {i d : Nat} (h : p i = true) : fstB p i (d + 1) = i := by
  simp only [fstB, h, if_true]
theorem fst_n (p : Nat → Bool) {i d : Nat} (h : p i = false) : fstB p i (d + 1) = fstB p (i + 1) d := by
  simp [fstB, h]
theorem L_standingOn {N : Nat} {h : Hs} (hS : Sk h) {nt : Nat} {tA : Nat → Nat} {tl tw tg ls ms pa : Nat → Int} (hC : RTh h nt tA tl tw tg ls ms pa) {z l x : Int} (hl : 0 ≤ l ∧ l ≤ 15) (hx : 0 ≤ x ∧ x ≤ 99) (hzx : iI z - iI z / iI 100 * iI 100 = iI x) : ∀ (d i : Nat) (fu : Nat), i + d = nt → d < fu → fX5_standingOn_b16 N 14 fu h (iI z) (iI l) (iI i) = some (iI (fstB (fun k => decide (tl k = l ∧ pa k ≤ x ∧ x < pa k + tw k)) i d), h) := by
  obtain ⟨⟨c1, c2, c3⟩, c4, c5⟩ := hC
  intro d
  induction d with
  | zero =>
    intro i fu hi hf
    obtain ⟨fu, rfl⟩ : ∃ k, fu = k + 1 := ⟨fu - 1, by omega⟩
    show fX5_standingOn_b16_body N (fX5_standingOn_b16 N 14 fu) 14 h (iI z) (iI l) (iI i) = _
    have w : (nt : Int) ≤ i := by omega
    simp (disch := omega) [oI, oR, qI, qZ, qR, rc, lit, iI_add, iI_sub, iI_mul, iI_neg, iI_le, iI_lt, iI_eq, v_isW, v_inW, bz, HR, Sk_rw hS, fX5_standingOn_b16_body, c1, w, fstB]
  | succ d ih =>
    intro i fu hi hf
    obtain ⟨fu, rfl⟩ : ∃ k, fu = k + 1 := ⟨fu - 1, by omega⟩
    show fX5_standingOn_b16_body N (fX5_standingOn_b16 N 14 fu) 14 h (iI z) (iI l) (iI i) = _
    have w : ¬ (nt : Int) ≤ i := by omega
    have e1 : ixb (iI (i : Int)) 40 = true := ixb_i (by omega) (by omega) (by omega)
    have e2 : (iI (i : Int)).toNatClampNeg = i := by rw [iI_cl (by omega) (by omega)]; simp
    obtain ⟨⟨d1, d2, d3, d4⟩, ⟨g0, g1, g2, g3, g4, g5, g7⟩, -, d7⟩ := c4 i (by omega)
    have q := ih (i + 1) fu (by omega) (by omega)
    simp only [Int.natCast_add, Int.natCast_one] at q
    have cov : fX9_covers N h (tA i) (iI x) = some (if pa i ≤ x ∧ x < pa i + tw i then iI 1 else iI 0, h) := by
      by_cases w1 : x < pa i
      · have w3 : ¬ pa i ≤ x := by omega
        simp (disch := omega) [oI, oR, qI, qZ, qR, rc, lit, iI_add, iI_sub, iI_mul, iI_neg, iI_le, iI_lt, iI_eq, v_isW, v_inW, bz, HR, Sk_rw hS, fX9_covers, fX9_covers_b25, fX9_covers_b26, d4, g7, w1, w3, zc_i0]
      · by_cases w2 : pa i + tw i ≤ x
        · have w3 : ¬ x < pa i + tw i := by omega
          simp (disch := omega) [oI, oR, qI, qZ, qR, rc, lit, iI_add, iI_sub, iI_mul, iI_neg, iI_le, iI_lt, iI_eq, v_isW, v_inW, bz, HR, Sk_rw hS, fX9_covers, fX9_covers_b25, fX9_covers_b26, d4, g7, g2, w1, w2, w3, zc_i0]
        · have w3 : pa i ≤ x ∧ x < pa i + tw i := by omega
          simp (disch := omega) [oI, oR, qI, qZ, qR, rc, lit, iI_add, iI_sub, iI_mul, iI_neg, iI_le, iI_lt, iI_eq, v_isW, v_inW, bz, HR, Sk_rw hS, fX9_covers, fX9_covers_b25, fX9_covers_b26, d4, g7, g2, w1, w2, w3, zc_i1]
    by_cases w1 : tl i = l
    · by_cases w2 : pa i ≤ x ∧ x < pa i + tw i
      · rw [if_pos w2] at cov
        have w3 : tl i = l ∧ pa i ≤ x ∧ x < pa i + tw i := ⟨w1, w2⟩
        rw [fst_y (fun k => decide (tl k = l ∧ pa k ≤ x ∧ x < pa k + tw k)) (decide_eq_true w3)]
        simp (disch := omega) only [fX5_standingOn_b16_body, fX5_standingOn_b55, lit, hzx, oI, oR, rc, lQ, Sk_rw hS, c1, iI_le, w, if_false, Option.bind_some, d1, e1, e2, d4, g1, w1, iI_eq, if_true, and_self, cov]
        try simp
      · rw [if_neg w2] at cov
        have w3 : ¬ (tl i = l ∧ pa i ≤ x ∧ x < pa i + tw i) := fun z9 => w2 z9.2
        rw [fst_n (fun k => decide (tl k = l ∧ pa k ≤ x ∧ x < pa k + tw k)) (decide_eq_false w3), ← q]
        simp (disch := omega) only [fX5_standingOn_b16_body, fX5_standingOn_b55, lit, hzx, oI, oR, rc, lQ, Sk_rw hS, c1, iI_le, w, if_false, Option.bind_some, d1, e1, e2, d4, g1, w1, iI_eq, if_true, and_self, cov, iI_add]
        try simp
    · have w3 : ¬ (tl i = l ∧ pa i ≤ x ∧ x < pa i + tw i) := fun z9 => w1 z9.1
      rw [fst_n (fun k => decide (tl k = l ∧ pa k ≤ x ∧ x < pa k + tw k)) (decide_eq_false w3), ← q]
      simp (disch := omega) only [fX5_standingOn_b16_body, fX5_standingOn_b55, lit, oI, oR, rc, lQ, Sk_rw hS, c1, iI_le, w, if_false, Option.bind_some, d1, e1, e2, d4, g1, w1, iI_eq, if_true, and_self, iI_add]
      try simp
theorem L_on {N : Nat} {h : Hs} (hS : Sk h) {nt : Nat} {tA : Nat → Nat} {tl tw tg ls ms pa : Nat → Int} (hC : RTh h nt tA tl tw tg ls ms pa) {z l x : Int} (hl : 0 ≤ l ∧ l ≤ 15) (hx : 0 ≤ x ∧ x ≤ 99) (hzl : iI z / iI 100 = iI l) (hzx : iI z - iI l * iI 100 = iI x) : ∀ (d i : Nat) (fu : Nat), i + d = nt → d < fu → fX12_on_b15 N 29 fu h (iI z) (iI i) = some (iI (fstB (fun k => decide (tl k = l ∧ pa k ≤ x ∧ x < pa k + tw k)) i d), h) := by
  obtain ⟨⟨c1, c2, c3⟩, c4, c5⟩ := hC
  intro d
  induction d with
  | zero =>
    intro i fu hi hf
    obtain ⟨fu, rfl⟩ : ∃ k, fu = k + 1 := ⟨fu - 1, by omega⟩
    show fX12_on_b15_body N (fX12_on_b15 N 29 fu) 29 h (iI z) (iI i) = _
    have w : (nt : Int) ≤ i := by omega
    simp (disch := omega) [oI, oR, qI, qZ, qR, rc, lit, iI_add, iI_sub, iI_mul, iI_neg, iI_le, iI_lt, iI_eq, v_isW, v_inW, bz, HR, Sk_rw hS, fX12_on_b15_body, c2, w, fstB]
  | succ d ih =>
    intro i fu hi hf
    obtain ⟨fu, rfl⟩ : ∃ k, fu = k + 1 := ⟨fu - 1, by omega⟩
    show fX12_on_b15_body N (fX12_on_b15 N 29 fu) 29 h (iI z) (iI i) = _
    have w : ¬ (nt : Int) ≤ i := by omega
    have e1 : ixb (iI (i : Int)) 40 = true := ixb_i (by omega) (by omega) (by omega)
    have e2 : (iI (i : Int)).toNatClampNeg = i := by rw [iI_cl (by omega) (by omega)]; simp
    obtain ⟨-, -, ⟨g0, g1, g2, g3, g4, g5⟩, d7⟩ := c4 i (by omega)
    have q := ih (i + 1) fu (by omega) (by omega)
    simp only [Int.natCast_add, Int.natCast_one] at q
    by_cases w1 : tl i = l
    · by_cases w2 : pa i ≤ x ∧ x ≤ pa i + tw i - 1
      · have w3 : tl i = l ∧ pa i ≤ x ∧ x < pa i + tw i := by omega
        rw [fst_y (fun k => decide (tl k = l ∧ pa k ≤ x ∧ x < pa k + tw k)) (decide_eq_true w3)]
        simp (disch := omega) only [fX12_on_b15_body, fX12_on_b69, lit, hzl, hzx, oI, oR, rc, lA, Sk_rw hS, c2, iI_le, w, if_false, Option.bind_some, e1, e2, g0, g1, g3, w1, iI_eq, if_true, and_self, iI_add, iI_sub, v_inW, w2]
        try simp
      · have w3 : ¬ (tl i = l ∧ pa i ≤ x ∧ x < pa i + tw i) := by omega
        rw [fst_n (fun k => decide (tl k = l ∧ pa k ≤ x ∧ x < pa k + tw k)) (decide_eq_false w3), ← q]
        simp (disch := omega) only [fX12_on_b15_body, fX12_on_b69, lit, hzl, hzx, oI, oR, rc, lA, Sk_rw hS, c2, iI_le, w, if_false, Option.bind_some, e1, e2, g0, g1, g3, w1, iI_eq, if_true, and_self, iI_add, iI_sub, v_inW, w2]
        try simp
    · have w3 : ¬ (tl i = l ∧ pa i ≤ x ∧ x < pa i + tw i) := fun z9 => w1 z9.1
      rw [fst_n (fun k => decide (tl k = l ∧ pa k ≤ x ∧ x < pa k + tw k)) (decide_eq_false w3), ← q]
      simp (disch := omega) only [fX12_on_b15_body, fX12_on_b69, lit, hzl, oI, oR, rc, lA, Sk_rw hS, c2, iI_le, w, if_false, Option.bind_some, e1, e2, g0, w1, iI_eq, if_true, and_self, iI_add]
      try simp
theorem t_on {N : Nat} (hN : 100000000 ≤ N) {h : Hs} (hS : Sk h) {nt : Nat} {tA : Nat → Nat} {tl tw tg ls ms pa : Nat → Int} (hC : RTh h nt tA tl tw tg ls ms pa) (p : Int32) : ∃ r, fX11_on N h 0 p = some (r, h) ∧ fX12_on N h 29 p = some (r, h) := by
  obtain ⟨z, z1, z2, rfl⟩ := iI_ex p
  by_cases w : 0 ≤ z ∧ z ≤ 1599
  · have d1 := iI_dv (a := z) (b := 100) (by omega) (by omega) (by omega) (by omega)
    rw [Int.tdiv_eq_ediv_of_nonneg (by omega)] at d1
    obtain ⟨l, hl⟩ : ∃ l : Int, l = z / 100 := ⟨_, rfl⟩
    rw [← hl] at d1
    obtain ⟨x, hx⟩ : ∃ x, x = z - l * 100 := ⟨_, rfl⟩
    have d2 : iI z - iI l * iI 100 = iI x := by rw [iI_mul, iI_sub, hx]
    have la := L_standingOn (N := N) hS hC (z := z) (l := l) (x := x) (by omega) (by omega) (by rw [d1]; exact d2) nt 0 N (by omega) (by have := hC.1.2.2; omega)
    have lr := L_on (N := N) hS hC (z := z) (l := l) (x := x) (by omega) (by omega) d1 d2 nt 0 N (by omega) (by have := hC.1.2.2; omega)
    simp only [Int.natCast_zero] at la lr
    refine ⟨iI (fstB (fun k => decide (tl k = l ∧ pa k ≤ x ∧ x < pa k + tw k)) 0 nt), ?_, ?_⟩
    · simp (disch := omega) [oI, oR, qI, qZ, qR, rc, lit, iI_add, iI_sub, iI_mul, iI_neg, iI_le, iI_lt, iI_eq, v_isW, v_inW, bz, HR, Sk_rw hS, fX11_on, fX5_standingOn, fX5_isStagePlace, w, zc_i1, d1, la]
    · simp (disch := omega) [oI, oR, qI, qZ, qR, rc, lit, iI_add, iI_sub, iI_mul, iI_neg, iI_le, iI_lt, iI_eq, v_isW, v_inW, bz, HR, Sk_rw hS, fX12_on, w, lr]
  · refine ⟨-1, ?_, ?_⟩
    · simp (disch := omega) [oI, oR, qI, qZ, qR, rc, lit, iI_add, iI_sub, iI_mul, iI_neg, iI_le, iI_lt, iI_eq, v_isW, v_inW, bz, HR, Sk_rw hS, fX11_on, fX5_standingOn, fX5_isStagePlace, w, zc_i0]
    · simp (disch := omega) [oI, oR, qI, qZ, qR, rc, lit, iI_add, iI_sub, iI_mul, iI_neg, iI_le, iI_lt, iI_eq, v_isW, v_inW, bz, HR, Sk_rw hS, fX12_on, w]
