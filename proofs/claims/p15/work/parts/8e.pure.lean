/-! ===== what a cue keeps, and how it goes back ===== -/
theorem qRv {h : Hs} {c j a : Nat} {v : Option Nat} (hs : (sh h a).1 = c) : qR c j h (some a) v = some (uR h (100 * c + j) a v) := by
  simp [qR, hs]
theorem v_cp20 {h : Hs} {a b : Nat} (ha : sh h a = (20, 20)) (hb : sh h b = (20, 20)) : cpA h (some a) (iI 0) (some b) (iI 0) (iI 20) = some (wA h b (fun k => if k < 20 then aI h a k else aI h b k)) := by
  have e0 : ¬ iI 0 < (0 : Int32) := by decide
  have e1 : ¬ iI 20 < (0 : Int32) := by decide
  have e2 : (iI 0).toNatClampNeg = 0 := by decide
  have e3 : (iI 20).toNatClampNeg = 20 := by decide
  simp only [cpA, ha, hb, e0, e1, e2, e3, not_false_eq_true, Nat.zero_add, Nat.le_refl, and_self, if_true, wA]
  congr 1
  congr 1
  congr 1
  congr 1
  funext a' j'
  by_cases w : a' = b
  · rw [if_pos w, if_pos w]
    simp [va_cpy]
  · rw [if_neg w, if_neg w]
theorem L_keepR {N : Nat} {h0 : Hs} (hS0 : Sk h0) (hz : 70 ≤ sz h0) {nr : Nat} {rA : Nat → Nat} (c9 : gI h0 509 14 = iI nr) (cr : nr ≤ 40) (hr17 : ∀ r, r < nr → aR h0 17 r = some (rA r) ∧ 70 ≤ rA r ∧ rA r < sz h0 ∧ sh h0 (rA r) = (4, 0)) (ri : ∀ i j, i < nr → j < nr → rA i = rA j → i = j) : ∀ (e j fu : Nat) (h : Hs), Ke [910, 410, 411, 513, 514] [19] [911, 409] [] h0 h → sz h = sz h0 → (∀ f a, f ≠ 910 → f ≠ 513 → f ≠ 514 → a < 70 → gI h f a = gI h0 f a) → (∀ r, r < nr → (gR h 409 (rA r) = if r < j then gR h0 405 (rA r) else gR h0 409 (rA r)) ∧ (gI h 410 (rA r) = if r < j then gI h0 406 (rA r) else gI h0 410 (rA r)) ∧ (gI h 411 (rA r) = if r < j then gI h0 407 (rA r) else gI h0 411 (rA r))) → j + e = nr → e < fu → ∃ h', fX5_keep_b54 N 14 fu h (iI j) = some h' ∧ Ke [910, 410, 411, 513, 514] [19] [911, 409] [] h0 h' ∧ sz h' = sz h0 ∧ (∀ a, gI h' 910 a = gI h 910 a ∧ gR h' 911 a = gR h 911 a) ∧ (∀ r, r < nr → gR h' 409 (rA r) = gR h0 405 (rA r) ∧ gI h' 410 (rA r) = gI h0 406 (rA r) ∧ gI h' 411 (rA r) = gI h0 407 (rA r)) ∧ (∀ i, i < 20 → aI h' 19 i = aI h0 18 i) ∧ gI h' 513 14 = gI h0 511 14 ∧ gI h' 514 14 = gI h0 512 14 := by
  intro e
  induction e with
  | zero =>
    intro j fu h ke s0 hs hc hj hf
    obtain ⟨fu, rfl⟩ : ∃ m, fu = m + 1 := ⟨fu - 1, by omega⟩
    have hS := hS0.e hz ke (by decide)
    have c14 : (sh h 14).1 = 5 := by rw [ss_14 hS]
    have o9 : oI 5 9 h (some 14) = some (iI nr) := oIv c14 ((ke.1 509 14 (by decide) (by omega)).trans c9)
    have a1 : iI (nr : Int) ≤ iI (j : Int) := (iI_le (by omega) (by omega) (by omega) (by omega)).mpr (by omega)
    obtain ⟨h4, eh4⟩ : ∃ h4, h4 = wA h 19 (fun k => if k < 20 then aI h 18 k else aI h 19 k) := ⟨_, rfl⟩
    have cp : cpA h (some 18) (iI 0) (some 19) (iI 0) (iI 20) = some h4 := by rw [eh4]; exact v_cp20 (ss_18 hS) (ss_19 hS)
    have c144 : (sh h4 14).1 = 5 := by rw [eh4]; exact c14
    have g11 : gI h4 511 14 = gI h0 511 14 := by rw [eh4]; exact hs 511 14 (by decide) (by decide) (by decide) (by decide)
    have g12 : gI (uI h4 513 14 (gI h0 511 14)) 512 14 = gI h0 512 14 := by
      have : gI h4 512 14 = gI h0 512 14 := by rw [eh4]; exact hs 512 14 (by decide) (by decide) (by decide) (by decide)
      simp [HR, this]
    obtain ⟨h8, eh8⟩ : ∃ h8, h8 = uI (uI h4 513 14 (gI h0 511 14)) 514 14 (gI h0 512 14) := ⟨_, rfl⟩
    have ke8 : Ke [910, 410, 411, 513, 514] [19] [911, 409] [] h h8 := by rw [eh8, eh4]; exact ((Ke_rf.a 19 _ (by decide)).u 513 _ _ (by decide)).u 514 _ _ (by decide)
    refine ⟨h8, ?_, ke.tr ke8, by rw [eh8, eh4]; exact s0, fun a => ?_, fun r hr => ?_, fun i hi => ?_, ?_, ?_⟩
    · show fX5_keep_b54_body N (fX5_keep_b54 N 14 fu) 14 h (iI j) = _
      simp only [fX5_keep_b54_body, lit]
      refine bst (o9) ?_
      refine ifp (a1) ?_
      refine bst (sR_503_14 hS) ?_
      refine bst (sR_504_14 hS) ?_
      refine bst (cp) ?_
      refine bst (oIv c144 g11) ?_
      refine bst (qIv c144) ?_
      refine bst (oIv (by rw [sh_uI]; exact c144) g12) ?_
      refine bst (qIv (by rw [sh_uI]; exact c144)) ?_
      rw [eh8]
    · rw [eh8, eh4]
      simp [HR]
    · obtain ⟨z1, z2, z3⟩ := hc r hr
      rw [if_pos (by omega)] at z1 z2 z3
      have hrb := (hr17 r hr).2.1
      have ne : ¬ rA r = 14 := by omega
      rw [eh8, eh4]
      simp [HR, z1, z2, z3]
    · have y : aI h 18 i = aI h0 18 i := by rw [ke.2.1 18 (by decide) (by omega)]
      rw [eh8, eh4]
      simp [HR, hi, y]
    · rw [eh8]
      simp [HR]
    · rw [eh8]
      simp [HR]
  | succ e ih =>
    intro j fu h ke s0 hs hc hj hf
    obtain ⟨fu, rfl⟩ : ∃ m, fu = m + 1 := ⟨fu - 1, by omega⟩
    have hS := hS0.e hz ke (by decide)
    have c14 : (sh h 14).1 = 5 := by rw [ss_14 hS]
    have o9 : oI 5 9 h (some 14) = some (iI nr) := oIv c14 ((ke.1 509 14 (by decide) (by omega)).trans c9)
    have a1 : ¬ iI (nr : Int) ≤ iI (j : Int) := fun q => by have := (iI_le (by omega) (by omega) (by omega) (by omega)).mp q; omega
    obtain ⟨d1, d2, d3, d4⟩ := hr17 j (by omega)
    have lq : lQ 25 h (some 17) (iI j) = some (some (rA j)) := lQv (ss_17 hS) (by omega) (by omega) ((congrFun (ke.2.2.2.1 17 (by decide) (by omega)) j).trans d1)
    have d4' : sh h (rA j) = (4, 0) := by rw [ke.2.2.2.2.1 _ d3]; exact d4
    have o5 : oR 4 5 h (some (rA j)) = some (gR h0 405 (rA j)) := oRv (by rw [d4']) (ke.2.2.1 405 _ (by decide) d3)
    have o6 : oI 4 6 (uR h 409 (rA j) (gR h0 405 (rA j))) (some (rA j)) = some (gI h0 406 (rA j)) := oIv (by rw [sh_uR, d4']) (ke.1 406 _ (by decide) d3)
    have o7 : oI 4 7 (uI (uR h 409 (rA j) (gR h0 405 (rA j))) 410 (rA j) (gI h0 406 (rA j))) (some (rA j)) = some (gI h0 407 (rA j)) := oIv (by rw [sh_uI, sh_uR, d4']) (by
      have := ke.1 407 (rA j) (by decide) d3
      simp [HR, this])
    obtain ⟨h2, eh2⟩ : ∃ h2, h2 = uI (uI (uR h 409 (rA j) (gR h0 405 (rA j))) 410 (rA j) (gI h0 406 (rA j))) 411 (rA j) (gI h0 407 (rA j)) := ⟨_, rfl⟩
    have ke2 : Ke [910, 410, 411, 513, 514] [19] [911, 409] [] h h2 := by rw [eh2]; exact ((Ke_rf.r 409 _ _ (by decide)).u 410 _ _ (by decide)).u 411 _ _ (by decide)
    obtain ⟨h', r1, r2, r3, r4, r5'⟩ := ih (j + 1) fu h2 (ke.tr ke2) (by rw [eh2]; exact s0) (fun f a f1 f2 f3 ha => by
      have ne : ¬ a = rA j := by omega
      rw [← hs f a f1 f2 f3 ha, eh2]
      simp [HR, ne]) (fun r hr => by
      obtain ⟨z1, z2, z3⟩ := hc r hr
      by_cases er : r = j
      · subst er
        rw [if_pos (Nat.lt_succ_self r), if_pos (Nat.lt_succ_self r), if_pos (Nat.lt_succ_self r), eh2]
        simp [HR]
      · have ne : ¬ rA r = rA j := fun q => er (ri r j hr (by omega) q)
        have y1 : gR h2 409 (rA r) = gR h 409 (rA r) := by rw [eh2]; simp [HR, ne]
        have y2 : gI h2 410 (rA r) = gI h 410 (rA r) := by rw [eh2]; simp [HR, ne]
        have y3 : gI h2 411 (rA r) = gI h 411 (rA r) := by rw [eh2]; simp [HR, ne]
        rw [y1, y2, y3, z1, z2, z3]
        by_cases w : r < j
        · rw [if_pos w, if_pos w, if_pos w, if_pos (show r < j + 1 by omega), if_pos (show r < j + 1 by omega), if_pos (show r < j + 1 by omega)]
          exact ⟨rfl, rfl, rfl⟩
        · rw [if_neg w, if_neg w, if_neg w, if_neg (by omega), if_neg (by omega), if_neg (by omega)]
          exact ⟨rfl, rfl, rfl⟩) (by omega) (by omega)
    simp only [Int.natCast_add, Int.natCast_one] at r1
    refine ⟨h', ?_, r2, r3, fun a => ?_, r5'⟩
    · rw [← r1]
      show fX5_keep_b54_body N (fX5_keep_b54 N 14 fu) 14 h (iI j) = _
      simp only [fX5_keep_b54_body, lit, iI_add, Option.bind_some]
      refine bst (o9) ?_
      refine ifn (a1) ?_
      refine bst (sR_502_14 hS) ?_
      refine bst (lq) ?_
      refine bst (o5) ?_
      refine bst (qRv (by rw [d4'])) ?_
      refine bst (o6) ?_
      refine bst (qIv (by rw [sh_uR, d4'])) ?_
      refine bst (o7) ?_
      refine bst (qIv (by rw [sh_uI, sh_uR, d4'])) ?_
      rw [← eh2]
    · rw [(r4 a).1, (r4 a).2, eh2]
      simp [HR]
theorem L_keepT {N : Nat} (hN : 100000000 ≤ N) {h0 : Hs} (hS0 : Sk h0) (hz : 70 ≤ sz h0) {nr nt : Nat} {rA tA : Nat → Nat} (c7 : gI h0 507 14 = iI nt) (ct : nt ≤ 40) (ht15 : ∀ i, i < nt → aR h0 15 i = some (tA i) ∧ 70 ≤ tA i ∧ tA i < sz h0 ∧ sh h0 (tA i) = (9, 0)) (ti : ∀ i j, i < nt → j < nt → tA i = tA j → i = j) (c9 : gI h0 509 14 = iI nr) (cr : nr ≤ 40) (hr17 : ∀ r, r < nr → aR h0 17 r = some (rA r) ∧ 70 ≤ rA r ∧ rA r < sz h0 ∧ sh h0 (rA r) = (4, 0)) (ri : ∀ i j, i < nr → j < nr → rA i = rA j → i = j) : ∀ (e j fu : Nat) (h : Hs), Ke [910, 410, 411, 513, 514] [19] [911, 409] [] h0 h → sz h = sz h0 → (∀ f a, f ≠ 910 → gI h f a = gI h0 f a) → (∀ f a, f ≠ 911 → gR h f a = gR h0 f a) → (∀ i, i < nt → (gI h 910 (tA i) = if i < j then gI h0 907 (tA i) else gI h0 910 (tA i)) ∧ (gR h 911 (tA i) = if i < j then gR h0 909 (tA i) else gR h0 911 (tA i))) → j + e = nt → e < fu → ∃ h', fX5_keep_b2 N 14 fu h (iI j) = some h' ∧ Ke [910, 410, 411, 513, 514] [19] [911, 409] [] h0 h' ∧ sz h' = sz h0 ∧ (∀ i, i < nt → gI h' 910 (tA i) = gI h0 907 (tA i) ∧ gR h' 911 (tA i) = gR h0 909 (tA i)) ∧ (∀ r, r < nr → gR h' 409 (rA r) = gR h0 405 (rA r) ∧ gI h' 410 (rA r) = gI h0 406 (rA r) ∧ gI h' 411 (rA r) = gI h0 407 (rA r)) ∧ (∀ i, i < 20 → aI h' 19 i = aI h0 18 i) ∧ gI h' 513 14 = gI h0 511 14 ∧ gI h' 514 14 = gI h0 512 14 := by
  intro e
  induction e with
  | zero =>
    intro j fu h ke s0 hfi hfr hc hj hf
    obtain ⟨fu, rfl⟩ : ∃ m, fu = m + 1 := ⟨fu - 1, by omega⟩
    have hS := hS0.e hz ke (by decide)
    have o7 : oI 5 7 h (some 14) = some (iI nt) := oIv (by rw [ss_14 hS]) ((ke.1 507 14 (by decide) (by omega)).trans c7)
    have a1 : iI (nt : Int) ≤ iI (j : Int) := (iI_le (by omega) (by omega) (by omega) (by omega)).mpr (by omega)
    obtain ⟨h', r1, r2, r3, r4, r5'⟩ := L_keepR (N := N) hS0 hz c9 cr hr17 ri nr 0 N h ke s0 (fun f a f1 _ _ _ => hfi f a f1) (fun r hr => by
      rw [if_neg (Nat.not_lt_zero r), if_neg (Nat.not_lt_zero r), if_neg (Nat.not_lt_zero r)]
      exact ⟨hfr _ _ (by decide), hfi _ _ (by decide), hfi _ _ (by decide)⟩) (by omega) (by omega)
    refine ⟨h', ?_, r2, r3, fun i hi => ?_, r5'⟩
    · rw [← r1]
      show fX5_keep_b2_body N (fX5_keep_b2 N 14 fu) 14 h (iI j) = _
      simp only [fX5_keep_b2_body, lit]
      refine bst (o7) ?_
      refine ifp (a1) ?_
      rfl
    · have z := hc i hi
      rw [if_pos (by omega), if_pos (by omega)] at z
      rw [(r4 (tA i)).1, (r4 (tA i)).2]
      exact z
  | succ e ih =>
    intro j fu h ke s0 hfi hfr hc hj hf
    obtain ⟨fu, rfl⟩ : ∃ m, fu = m + 1 := ⟨fu - 1, by omega⟩
    have hS := hS0.e hz ke (by decide)
    have o7 : oI 5 7 h (some 14) = some (iI nt) := oIv (by rw [ss_14 hS]) ((ke.1 507 14 (by decide) (by omega)).trans c7)
    have a1 : ¬ iI (nt : Int) ≤ iI (j : Int) := fun q => by have := (iI_le (by omega) (by omega) (by omega) (by omega)).mp q; omega
    obtain ⟨d1, d2, d3, d4⟩ := ht15 j (by omega)
    have lq : lQ 23 h (some 15) (iI j) = some (some (tA j)) := lQv (ss_15 hS) (by omega) (by omega) ((congrFun (ke.2.2.2.1 15 (by decide) (by omega)) j).trans d1)
    have d4' : sh h (tA j) = (9, 0) := by rw [ke.2.2.2.2.1 _ d3]; exact d4
    obtain ⟨h7, eh7⟩ : ∃ h7, h7 = uI h 910 (tA j) (gI h0 907 (tA j)) := ⟨_, rfl⟩
    have ke7 : Ke [910, 410, 411, 513, 514] [19] [911, 409] [] h h7 := by rw [eh7]; exact Ke_rf.u 910 _ _ (by decide)
    have hS7 := hS.e (by omega) ke7 (by decide)
    have lq7 : lQ 23 h7 (some 15) (iI j) = some (some (tA j)) := lQv (ss_15 hS7) (by omega) (by omega) (by rw [eh7]; exact (congrFun (ke.2.2.2.1 15 (by decide) (by omega)) j).trans d1)
    have d47 : sh h7 (tA j) = (9, 0) := by rw [eh7]; exact d4'
    have q7 : qI 9 10 h (some (tA j)) (gI h0 907 (tA j)) = some h7 := by rw [eh7]; exact qIv (by rw [d4'])
    have oS : oI 9 7 h (some (tA j)) = some (gI h0 907 (tA j)) := oIv (by rw [d4']) (hfi _ _ (by decide))
    have oSR : oR 9 9 h7 (some (tA j)) = some (gR h0 909 (tA j)) := oRv (by rw [d47]) (by rw [eh7]; exact hfr _ _ (by decide))
    obtain ⟨h2, eh2⟩ : ∃ h2, h2 = uR h7 911 (tA j) (gR h0 909 (tA j)) := ⟨_, rfl⟩
    have ke2 : Ke [910, 410, 411, 513, 514] [19] [911, 409] [] h h2 := by rw [eh2]; exact ke7.r 911 _ _ (by decide)
    obtain ⟨h', r1, r2⟩ := ih (j + 1) fu h2 (ke.tr ke2) (by rw [eh2, eh7]; exact s0) (fun f a f1 => by
      rw [← hfi f a f1, eh2, eh7]
      simp [HR, f1]) (fun f a f1 => by
      rw [← hfr f a f1, eh2, eh7]
      simp [HR, f1]) (fun i hi => by
      obtain ⟨z1, z2⟩ := hc i hi
      by_cases er : i = j
      · subst er
        rw [if_pos (Nat.lt_succ_self i), if_pos (Nat.lt_succ_self i), eh2, eh7]
        simp [HR]
      · have ne : ¬ tA i = tA j := fun q => er (ti i j hi (by omega) q)
        have y1 : gI h2 910 (tA i) = gI h 910 (tA i) := by rw [eh2, eh7]; simp [HR, ne]
        have y2 : gR h2 911 (tA i) = gR h 911 (tA i) := by rw [eh2, eh7]; simp [HR, ne]
        rw [y1, y2, z1, z2]
        by_cases w : i < j
        · rw [if_pos w, if_pos w, if_pos (show i < j + 1 by omega), if_pos (show i < j + 1 by omega)]
          exact ⟨rfl, rfl⟩
        · rw [if_neg w, if_neg w, if_neg (by omega), if_neg (by omega)]
          exact ⟨rfl, rfl⟩) (by omega) (by omega)
    simp only [Int.natCast_add, Int.natCast_one] at r1
    refine ⟨h', ?_, r2⟩
    rw [← r1]
    show fX5_keep_b2_body N (fX5_keep_b2 N 14 fu) 14 h (iI j) = _
    simp only [fX5_keep_b2_body, lit, iI_add, Option.bind_some]
    refine bst (o7) ?_
    refine ifn (a1) ?_
    refine bst (sR_500_14 hS) ?_
    refine bst (lq) ?_
    refine bst (sR_500_14 hS) ?_
    refine bst (lq) ?_
    refine bst (oS) ?_
    refine bst (q7) ?_
    refine bst (sR_500_14 hS7) ?_
    refine bst (lq7) ?_
    refine bst (sR_500_14 hS7) ?_
    refine bst (lq7) ?_
    refine bst (oSR) ?_
    refine bst (qRv (by rw [d47])) ?_
    rw [← eh2]
theorem v_keepC {N : Nat} (hN : 100000000 ≤ N) {h : Hs} (hS : Sk h) (hz : 70 ≤ sz h) {nr nt : Nat} {rA tA : Nat → Nat} (c7 : gI h 507 14 = iI nt) (ct : nt ≤ 40) (ht15 : ∀ i, i < nt → aR h 15 i = some (tA i) ∧ 70 ≤ tA i ∧ tA i < sz h ∧ sh h (tA i) = (9, 0)) (ti : ∀ i j, i < nt → j < nt → tA i = tA j → i = j) (c9 : gI h 509 14 = iI nr) (cr : nr ≤ 40) (hr17 : ∀ r, r < nr → aR h 17 r = some (rA r) ∧ 70 ≤ rA r ∧ rA r < sz h ∧ sh h (rA r) = (4, 0)) (ri : ∀ i j, i < nr → j < nr → rA i = rA j → i = j) : ∃ h', fX5_keep N h 14 = some h' ∧ Ke [910, 410, 411, 513, 514] [19] [911, 409] [] h h' ∧ sz h' = sz h ∧ (∀ i, i < nt → gI h' 910 (tA i) = gI h 907 (tA i) ∧ gR h' 911 (tA i) = gR h 909 (tA i)) ∧ (∀ r, r < nr → gR h' 409 (rA r) = gR h 405 (rA r) ∧ gI h' 410 (rA r) = gI h 406 (rA r) ∧ gI h' 411 (rA r) = gI h 407 (rA r)) ∧ (∀ i, i < 20 → aI h' 19 i = aI h 18 i) ∧ gI h' 513 14 = gI h 511 14 ∧ gI h' 514 14 = gI h 512 14 :=
  L_keepT (N := N) hN hS hz c7 ct ht15 ti c9 cr hr17 ri nt 0 N h Ke_rf rfl (fun _ _ _ => rfl) (fun _ _ _ => rfl) (fun i hi => by rw [if_neg (Nat.not_lt_zero i), if_neg (Nat.not_lt_zero i)]; exact ⟨rfl, rfl⟩) (by omega) (by omega)

theorem L_restR {N : Nat} {h0 : Hs} (hS0 : Sk h0) (hz : 70 ≤ sz h0) {nr : Nat} {rA : Nat → Nat} (c9 : gI h0 509 14 = iI nr) (cr : nr ≤ 40) (hr17 : ∀ r, r < nr → aR h0 17 r = some (rA r) ∧ 70 ≤ rA r ∧ rA r < sz h0 ∧ sh h0 (rA r) = (4, 0)) (ri : ∀ i j, i < nr → j < nr → rA i = rA j → i = j) : ∀ (e j fu : Nat) (h : Hs), Ke [907, 406, 407, 511, 512] [18] [909, 405] [] h0 h → sz h = sz h0 → (∀ f a, f ≠ 907 → f ≠ 511 → f ≠ 512 → a < 70 → gI h f a = gI h0 f a) → (∀ r, r < nr → (gR h 405 (rA r) = if r < j then gR h0 409 (rA r) else gR h0 405 (rA r)) ∧ (gI h 406 (rA r) = if r < j then gI h0 410 (rA r) else gI h0 406 (rA r)) ∧ (gI h 407 (rA r) = if r < j then gI h0 411 (rA r) else gI h0 407 (rA r))) → j + e = nr → e < fu → ∃ h', fX5_restore_b54 N 14 fu h (iI j) = some h' ∧ Ke [907, 406, 407, 511, 512] [18] [909, 405] [] h0 h' ∧ sz h' = sz h0 ∧ (∀ a, gI h' 907 a = gI h 907 a ∧ gR h' 909 a = gR h 909 a) ∧ (∀ r, r < nr → gR h' 405 (rA r) = gR h0 409 (rA r) ∧ gI h' 406 (rA r) = gI h0 410 (rA r) ∧ gI h' 407 (rA r) = gI h0 411 (rA r)) ∧ (∀ i, i < 20 → aI h' 18 i = aI h0 19 i) ∧ gI h' 511 14 = gI h0 513 14 ∧ gI h' 512 14 = gI h0 514 14 := by
  intro e
  induction e with
  | zero =>
    intro j fu h ke s0 hs hc hj hf
    obtain ⟨fu, rfl⟩ : ∃ m, fu = m + 1 := ⟨fu - 1, by omega⟩
    have hS := hS0.e hz ke (by decide)
    have c14 : (sh h 14).1 = 5 := by rw [ss_14 hS]
    have o9 : oI 5 9 h (some 14) = some (iI nr) := oIv c14 ((ke.1 509 14 (by decide) (by omega)).trans c9)
    have a1 : iI (nr : Int) ≤ iI (j : Int) := (iI_le (by omega) (by omega) (by omega) (by omega)).mpr (by omega)
    obtain ⟨h4, eh4⟩ : ∃ h4, h4 = wA h 18 (fun k => if k < 20 then aI h 19 k else aI h 18 k) := ⟨_, rfl⟩
    have cp : cpA h (some 19) (iI 0) (some 18) (iI 0) (iI 20) = some h4 := by rw [eh4]; exact v_cp20 (ss_19 hS) (ss_18 hS)
    have c144 : (sh h4 14).1 = 5 := by rw [eh4]; exact c14
    have g11 : gI h4 513 14 = gI h0 513 14 := by rw [eh4]; exact hs 513 14 (by decide) (by decide) (by decide) (by decide)
    have g12 : gI (uI h4 511 14 (gI h0 513 14)) 514 14 = gI h0 514 14 := by
      have : gI h4 514 14 = gI h0 514 14 := by rw [eh4]; exact hs 514 14 (by decide) (by decide) (by decide) (by decide)
      simp [HR, this]
    obtain ⟨h8, eh8⟩ : ∃ h8, h8 = uI (uI h4 511 14 (gI h0 513 14)) 512 14 (gI h0 514 14) := ⟨_, rfl⟩
    have ke8 : Ke [907, 406, 407, 511, 512] [18] [909, 405] [] h h8 := by rw [eh8, eh4]; exact ((Ke_rf.a 18 _ (by decide)).u 511 _ _ (by decide)).u 512 _ _ (by decide)
    refine ⟨h8, ?_, ke.tr ke8, by rw [eh8, eh4]; exact s0, fun a => ?_, fun r hr => ?_, fun i hi => ?_, ?_, ?_⟩
    · show fX5_restore_b54_body N (fX5_restore_b54 N 14 fu) 14 h (iI j) = _
      simp only [fX5_restore_b54_body, lit]
      refine bst (o9) ?_
      refine ifp (a1) ?_
      refine bst (sR_504_14 hS) ?_
      refine bst (sR_503_14 hS) ?_
      refine bst (cp) ?_
      refine bst (oIv c144 g11) ?_
      refine bst (qIv c144) ?_
      refine bst (oIv (by rw [sh_uI]; exact c144) g12) ?_
      refine bst (qIv (by rw [sh_uI]; exact c144)) ?_
      rw [eh8]
    · rw [eh8, eh4]
      simp [HR]
    · obtain ⟨z1, z2, z3⟩ := hc r hr
      rw [if_pos (by omega)] at z1 z2 z3
      have hrb := (hr17 r hr).2.1
      have ne : ¬ rA r = 14 := by omega
      rw [eh8, eh4]
      simp [HR, z1, z2, z3]
    · have y : aI h 19 i = aI h0 19 i := by rw [ke.2.1 19 (by decide) (by omega)]
      rw [eh8, eh4]
      simp [HR, hi, y]
    · rw [eh8]
      simp [HR]
    · rw [eh8]
      simp [HR]
  | succ e ih =>
    intro j fu h ke s0 hs hc hj hf
    obtain ⟨fu, rfl⟩ : ∃ m, fu = m + 1 := ⟨fu - 1, by omega⟩
    have hS := hS0.e hz ke (by decide)
    have c14 : (sh h 14).1 = 5 := by rw [ss_14 hS]
    have o9 : oI 5 9 h (some 14) = some (iI nr) := oIv c14 ((ke.1 509 14 (by decide) (by omega)).trans c9)
    have a1 : ¬ iI (nr : Int) ≤ iI (j : Int) := fun q => by have := (iI_le (by omega) (by omega) (by omega) (by omega)).mp q; omega
    obtain ⟨d1, d2, d3, d4⟩ := hr17 j (by omega)
    have lq : lQ 25 h (some 17) (iI j) = some (some (rA j)) := lQv (ss_17 hS) (by omega) (by omega) ((congrFun (ke.2.2.2.1 17 (by decide) (by omega)) j).trans d1)
    have d4' : sh h (rA j) = (4, 0) := by rw [ke.2.2.2.2.1 _ d3]; exact d4
    have o5 : oR 4 9 h (some (rA j)) = some (gR h0 409 (rA j)) := oRv (by rw [d4']) (ke.2.2.1 409 _ (by decide) d3)
    have o6 : oI 4 10 (uR h 405 (rA j) (gR h0 409 (rA j))) (some (rA j)) = some (gI h0 410 (rA j)) := oIv (by rw [sh_uR, d4']) (ke.1 410 _ (by decide) d3)
    have o7 : oI 4 11 (uI (uR h 405 (rA j) (gR h0 409 (rA j))) 406 (rA j) (gI h0 410 (rA j))) (some (rA j)) = some (gI h0 411 (rA j)) := oIv (by rw [sh_uI, sh_uR, d4']) (by
      have := ke.1 411 (rA j) (by decide) d3
      simp [HR, this])
    obtain ⟨h2, eh2⟩ : ∃ h2, h2 = uI (uI (uR h 405 (rA j) (gR h0 409 (rA j))) 406 (rA j) (gI h0 410 (rA j))) 407 (rA j) (gI h0 411 (rA j)) := ⟨_, rfl⟩
    have ke2 : Ke [907, 406, 407, 511, 512] [18] [909, 405] [] h h2 := by rw [eh2]; exact ((Ke_rf.r 405 _ _ (by decide)).u 406 _ _ (by decide)).u 407 _ _ (by decide)
    obtain ⟨h', r1, r2, r3, r4, r5'⟩ := ih (j + 1) fu h2 (ke.tr ke2) (by rw [eh2]; exact s0) (fun f a f1 f2 f3 ha => by
      have ne : ¬ a = rA j := by omega
      rw [← hs f a f1 f2 f3 ha, eh2]
      simp [HR, ne]) (fun r hr => by
      obtain ⟨z1, z2, z3⟩ := hc r hr
      by_cases er : r = j
      · subst er
        rw [if_pos (Nat.lt_succ_self r), if_pos (Nat.lt_succ_self r), if_pos (Nat.lt_succ_self r), eh2]
        simp [HR]
      · have ne : ¬ rA r = rA j := fun q => er (ri r j hr (by omega) q)
        have y1 : gR h2 405 (rA r) = gR h 405 (rA r) := by rw [eh2]; simp [HR, ne]
        have y2 : gI h2 406 (rA r) = gI h 406 (rA r) := by rw [eh2]; simp [HR, ne]
        have y3 : gI h2 407 (rA r) = gI h 407 (rA r) := by rw [eh2]; simp [HR, ne]
        rw [y1, y2, y3, z1, z2, z3]
        by_cases w : r < j
        · rw [if_pos w, if_pos w, if_pos w, if_pos (show r < j + 1 by omega), if_pos (show r < j + 1 by omega), if_pos (show r < j + 1 by omega)]
          exact ⟨rfl, rfl, rfl⟩
        · rw [if_neg w, if_neg w, if_neg w, if_neg (by omega), if_neg (by omega), if_neg (by omega)]
          exact ⟨rfl, rfl, rfl⟩) (by omega) (by omega)
    simp only [Int.natCast_add, Int.natCast_one] at r1
    refine ⟨h', ?_, r2, r3, fun a => ?_, r5'⟩
    · rw [← r1]
      show fX5_restore_b54_body N (fX5_restore_b54 N 14 fu) 14 h (iI j) = _
      simp only [fX5_restore_b54_body, lit, iI_add, Option.bind_some]
      refine bst (o9) ?_
      refine ifn (a1) ?_
      refine bst (sR_502_14 hS) ?_
      refine bst (lq) ?_
      refine bst (o5) ?_
      refine bst (qRv (by rw [d4'])) ?_
      refine bst (o6) ?_
      refine bst (qIv (by rw [sh_uR, d4'])) ?_
      refine bst (o7) ?_
      refine bst (qIv (by rw [sh_uI, sh_uR, d4'])) ?_
      rw [← eh2]
    · rw [(r4 a).1, (r4 a).2, eh2]
      simp [HR]
theorem L_restT {N : Nat} (hN : 100000000 ≤ N) {h0 : Hs} (hS0 : Sk h0) (hz : 70 ≤ sz h0) {nr nt : Nat} {rA tA : Nat → Nat} (c7 : gI h0 507 14 = iI nt) (ct : nt ≤ 40) (ht15 : ∀ i, i < nt → aR h0 15 i = some (tA i) ∧ 70 ≤ tA i ∧ tA i < sz h0 ∧ sh h0 (tA i) = (9, 0)) (ti : ∀ i j, i < nt → j < nt → tA i = tA j → i = j) (c9 : gI h0 509 14 = iI nr) (cr : nr ≤ 40) (hr17 : ∀ r, r < nr → aR h0 17 r = some (rA r) ∧ 70 ≤ rA r ∧ rA r < sz h0 ∧ sh h0 (rA r) = (4, 0)) (ri : ∀ i j, i < nr → j < nr → rA i = rA j → i = j) : ∀ (e j fu : Nat) (h : Hs), Ke [907, 406, 407, 511, 512] [18] [909, 405] [] h0 h → sz h = sz h0 → (∀ f a, f ≠ 907 → gI h f a = gI h0 f a) → (∀ f a, f ≠ 909 → gR h f a = gR h0 f a) → (∀ i, i < nt → (gI h 907 (tA i) = if i < j then gI h0 910 (tA i) else gI h0 907 (tA i)) ∧ (gR h 909 (tA i) = if i < j then gR h0 911 (tA i) else gR h0 909 (tA i))) → j + e = nt → e < fu → ∃ h', fX5_restore_b2 N 14 fu h (iI j) = some h' ∧ Ke [907, 406, 407, 511, 512] [18] [909, 405] [] h0 h' ∧ sz h' = sz h0 ∧ (∀ i, i < nt → gI h' 907 (tA i) = gI h0 910 (tA i) ∧ gR h' 909 (tA i) = gR h0 911 (tA i)) ∧ (∀ r, r < nr → gR h' 405 (rA r) = gR h0 409 (rA r) ∧ gI h' 406 (rA r) = gI h0 410 (rA r) ∧ gI h' 407 (rA r) = gI h0 411 (rA r)) ∧ (∀ i, i < 20 → aI h' 18 i = aI h0 19 i) ∧ gI h' 511 14 = gI h0 513 14 ∧ gI h' 512 14 = gI h0 514 14 := by
  intro e
  induction e with
  | zero =>
    intro j fu h ke s0 hfi hfr hc hj hf
    obtain ⟨fu, rfl⟩ : ∃ m, fu = m + 1 := ⟨fu - 1, by omega⟩
    have hS := hS0.e hz ke (by decide)
    have o7 : oI 5 7 h (some 14) = some (iI nt) := oIv (by rw [ss_14 hS]) ((ke.1 507 14 (by decide) (by omega)).trans c7)
    have a1 : iI (nt : Int) ≤ iI (j : Int) := (iI_le (by omega) (by omega) (by omega) (by omega)).mpr (by omega)
    obtain ⟨h', r1, r2, r3, r4, r5'⟩ := L_restR (N := N) hS0 hz c9 cr hr17 ri nr 0 N h ke s0 (fun f a f1 _ _ _ => hfi f a f1) (fun r hr => by
      rw [if_neg (Nat.not_lt_zero r), if_neg (Nat.not_lt_zero r), if_neg (Nat.not_lt_zero r)]
      exact ⟨hfr _ _ (by decide), hfi _ _ (by decide), hfi _ _ (by decide)⟩) (by omega) (by omega)
    refine ⟨h', ?_, r2, r3, fun i hi => ?_, r5'⟩
    · rw [← r1]
      show fX5_restore_b2_body N (fX5_restore_b2 N 14 fu) 14 h (iI j) = _
      simp only [fX5_restore_b2_body, lit]
      refine bst (o7) ?_
      refine ifp (a1) ?_
      rfl
    · have z := hc i hi
      rw [if_pos (by omega), if_pos (by omega)] at z
      rw [(r4 (tA i)).1, (r4 (tA i)).2]
      exact z
  | succ e ih =>
    intro j fu h ke s0 hfi hfr hc hj hf
    obtain ⟨fu, rfl⟩ : ∃ m, fu = m + 1 := ⟨fu - 1, by omega⟩
    have hS := hS0.e hz ke (by decide)
    have o7 : oI 5 7 h (some 14) = some (iI nt) := oIv (by rw [ss_14 hS]) ((ke.1 507 14 (by decide) (by omega)).trans c7)
    have a1 : ¬ iI (nt : Int) ≤ iI (j : Int) := fun q => by have := (iI_le (by omega) (by omega) (by omega) (by omega)).mp q; omega
    obtain ⟨d1, d2, d3, d4⟩ := ht15 j (by omega)
    have lq : lQ 23 h (some 15) (iI j) = some (some (tA j)) := lQv (ss_15 hS) (by omega) (by omega) ((congrFun (ke.2.2.2.1 15 (by decide) (by omega)) j).trans d1)
    have d4' : sh h (tA j) = (9, 0) := by rw [ke.2.2.2.2.1 _ d3]; exact d4
    obtain ⟨h7, eh7⟩ : ∃ h7, h7 = uI h 907 (tA j) (gI h0 910 (tA j)) := ⟨_, rfl⟩
    have ke7 : Ke [907, 406, 407, 511, 512] [18] [909, 405] [] h h7 := by rw [eh7]; exact Ke_rf.u 907 _ _ (by decide)
    have hS7 := hS.e (by omega) ke7 (by decide)
    have lq7 : lQ 23 h7 (some 15) (iI j) = some (some (tA j)) := lQv (ss_15 hS7) (by omega) (by omega) (by rw [eh7]; exact (congrFun (ke.2.2.2.1 15 (by decide) (by omega)) j).trans d1)
    have d47 : sh h7 (tA j) = (9, 0) := by rw [eh7]; exact d4'
    have q7 : qI 9 7 h (some (tA j)) (gI h0 910 (tA j)) = some h7 := by rw [eh7]; exact qIv (by rw [d4'])
    have oS : oI 9 10 h (some (tA j)) = some (gI h0 910 (tA j)) := oIv (by rw [d4']) (hfi _ _ (by decide))
    have oSR : oR 9 11 h7 (some (tA j)) = some (gR h0 911 (tA j)) := oRv (by rw [d47]) (by rw [eh7]; exact hfr _ _ (by decide))
    obtain ⟨h2, eh2⟩ : ∃ h2, h2 = uR h7 909 (tA j) (gR h0 911 (tA j)) := ⟨_, rfl⟩
    have ke2 : Ke [907, 406, 407, 511, 512] [18] [909, 405] [] h h2 := by rw [eh2]; exact ke7.r 909 _ _ (by decide)
    obtain ⟨h', r1, r2⟩ := ih (j + 1) fu h2 (ke.tr ke2) (by rw [eh2, eh7]; exact s0) (fun f a f1 => by
      rw [← hfi f a f1, eh2, eh7]
      simp [HR, f1]) (fun f a f1 => by
      rw [← hfr f a f1, eh2, eh7]
      simp [HR, f1]) (fun i hi => by
      obtain ⟨z1, z2⟩ := hc i hi
      by_cases er : i = j
      · subst er
        rw [if_pos (Nat.lt_succ_self i), if_pos (Nat.lt_succ_self i), eh2, eh7]
        simp [HR]
      · have ne : ¬ tA i = tA j := fun q => er (ti i j hi (by omega) q)
        have y1 : gI h2 907 (tA i) = gI h 907 (tA i) := by rw [eh2, eh7]; simp [HR, ne]
        have y2 : gR h2 909 (tA i) = gR h 909 (tA i) := by rw [eh2, eh7]; simp [HR, ne]
        rw [y1, y2, z1, z2]
        by_cases w : i < j
        · rw [if_pos w, if_pos w, if_pos (show i < j + 1 by omega), if_pos (show i < j + 1 by omega)]
          exact ⟨rfl, rfl⟩
        · rw [if_neg w, if_neg w, if_neg (by omega), if_neg (by omega)]
          exact ⟨rfl, rfl⟩) (by omega) (by omega)
    simp only [Int.natCast_add, Int.natCast_one] at r1
    refine ⟨h', ?_, r2⟩
    rw [← r1]
    show fX5_restore_b2_body N (fX5_restore_b2 N 14 fu) 14 h (iI j) = _
    simp only [fX5_restore_b2_body, lit, iI_add, Option.bind_some]
    refine bst (o7) ?_
    refine ifn (a1) ?_
    refine bst (sR_500_14 hS) ?_
    refine bst (lq) ?_
    refine bst (sR_500_14 hS) ?_
    refine bst (lq) ?_
    refine bst (oS) ?_
    refine bst (q7) ?_
    refine bst (sR_500_14 hS7) ?_
    refine bst (lq7) ?_
    refine bst (sR_500_14 hS7) ?_
    refine bst (lq7) ?_
    refine bst (oSR) ?_
    refine bst (qRv (by rw [d47])) ?_
    rw [← eh2]
theorem v_restC {N : Nat} (hN : 100000000 ≤ N) {h : Hs} (hS : Sk h) (hz : 70 ≤ sz h) {nr nt : Nat} {rA tA : Nat → Nat} (c7 : gI h 507 14 = iI nt) (ct : nt ≤ 40) (ht15 : ∀ i, i < nt → aR h 15 i = some (tA i) ∧ 70 ≤ tA i ∧ tA i < sz h ∧ sh h (tA i) = (9, 0)) (ti : ∀ i j, i < nt → j < nt → tA i = tA j → i = j) (c9 : gI h 509 14 = iI nr) (cr : nr ≤ 40) (hr17 : ∀ r, r < nr → aR h 17 r = some (rA r) ∧ 70 ≤ rA r ∧ rA r < sz h ∧ sh h (rA r) = (4, 0)) (ri : ∀ i j, i < nr → j < nr → rA i = rA j → i = j) : ∃ h', fX5_restore N h 14 = some h' ∧ Ke [907, 406, 407, 511, 512] [18] [909, 405] [] h h' ∧ sz h' = sz h ∧ (∀ i, i < nt → gI h' 907 (tA i) = gI h 910 (tA i) ∧ gR h' 909 (tA i) = gR h 911 (tA i)) ∧ (∀ r, r < nr → gR h' 405 (rA r) = gR h 409 (rA r) ∧ gI h' 406 (rA r) = gI h 410 (rA r) ∧ gI h' 407 (rA r) = gI h 411 (rA r)) ∧ (∀ i, i < 20 → aI h' 18 i = aI h 19 i) ∧ gI h' 511 14 = gI h 513 14 ∧ gI h' 512 14 = gI h 514 14 :=
  L_restT (N := N) hN hS hz c7 ct ht15 ti c9 cr hr17 ri nt 0 N h Ke_rf rfl (fun _ _ _ => rfl) (fun _ _ _ => rfl) (fun i hi => by rw [if_neg (Nat.not_lt_zero i), if_neg (Nat.not_lt_zero i)]; exact ⟨rfl, rfl⟩) (by omega) (by omega)

theorem L_mkeepW {N : Nat} {h0 : Hs} (hS0 : Sk h0) (hz : 70 ≤ sz h0) : ∀ (e j fu : Nat) (h : Hs), Ke [1249, 1250] [57, 58, 59, 60, 61] [] [] h0 h → sz h = sz h0 → (∀ f a, gI h f a = gI h0 f a) → (∀ k, k < 20 → aI h 61 k = if k < j then aI h0 45 k else aI h0 61 k) → j + e = 20 → e < fu → ∃ h', fX12_keep_b82 N 29 fu h (iI j) = some h' ∧ Ke [1249, 1250] [57, 58, 59, 60, 61] [] [] h0 h' ∧ sz h' = sz h0 ∧ (∀ a k, a ≠ 61 → aI h' a k = aI h a k) ∧ (∀ i, i < 20 → aI h' 61 i = aI h0 45 i) ∧ gI h' 1249 29 = gI h0 1221 29 ∧ gI h' 1250 29 = gI h0 1222 29 := by
  intro e
  induction e with
  | zero =>
    intro j fu h ke s0 hs hc hj hf
    obtain ⟨fu, rfl⟩ : ∃ m, fu = m + 1 := ⟨fu - 1, by omega⟩
    have hS := hS0.e hz ke (by decide)
    have c29 : (sh h 29).1 = 12 := by rw [ss_29 hS]
    have a1 : iI 20 ≤ iI (j : Int) := (iI_le (by omega) (by omega) (by omega) (by omega)).mpr (by omega)
    have gg : gI (uI h 1249 29 (gI h0 1221 29)) 1222 29 = gI h0 1222 29 := by simp [HR, hs]
    obtain ⟨h8, eh8⟩ : ∃ h8, h8 = uI (uI h 1249 29 (gI h0 1221 29)) 1250 29 (gI h0 1222 29) := ⟨_, rfl⟩
    have ke8 : Ke [1249, 1250] [57, 58, 59, 60, 61] [] [] h h8 := by rw [eh8]; exact (Ke_rf.u 1249 _ _ (by decide)).u 1250 _ _ (by decide)
    refine ⟨h8, ?_, ke.tr ke8, by rw [eh8]; exact s0, fun a k _ => by rw [eh8]; rfl, fun i hi => ?_, by rw [eh8]; simp [HR], by rw [eh8]; simp [HR]⟩
    · show fX12_keep_b82_body N (fX12_keep_b82 N 29 fu) 29 h (iI j) = _
      simp only [fX12_keep_b82_body, lit]
      refine ifp (a1) ?_
      refine bst (oIv c29 (hs _ _)) ?_
      refine bst (qIv c29) ?_
      refine bst (oIv (by rw [sh_uI]; exact c29) gg) ?_
      refine bst (qIv (by rw [sh_uI]; exact c29)) ?_
      rw [eh8]
    · have z := hc i hi
      rw [if_pos (by omega)] at z
      rw [eh8]
      exact z
  | succ e ih =>
    intro j fu h ke s0 hs hc hj hf
    obtain ⟨fu, rfl⟩ : ∃ m, fu = m + 1 := ⟨fu - 1, by omega⟩
    have hS := hS0.e hz ke (by decide)
    have a1 : ¬ iI 20 ≤ iI (j : Int) := fun q => by have := (iI_le (by omega) (by omega) (by omega) (by omega)).mp q; omega
    have l : lA 20 h (some 45) (iI j) = some (aI h0 45 j) := lAv (ss_45 hS) (by omega) (by omega) (congrFun (ke.2.1 45 (by decide) (by omega)) j)
    obtain ⟨h2, eh2⟩ : ∃ h2, h2 = uA h 61 j (aI h0 45 j) := ⟨_, rfl⟩
    have ke2 : Ke [1249, 1250] [57, 58, 59, 60, 61] [] [] h h2 := by rw [eh2]; exact Ke_rf.b 61 _ _ (by decide)
    obtain ⟨h', r1, r2, r3, r4, r5⟩ := ih (j + 1) fu h2 (ke.tr ke2) (by rw [eh2]; exact s0) (fun f a => by rw [eh2]; exact hs f a) (fun k hk => by
      by_cases w : k = j
      · subst w
        rw [if_pos (Nat.lt_succ_self k), eh2]
        simp [HR]
      · have y : aI h2 61 k = aI h 61 k := by rw [eh2]; simp [HR, w]
        rw [y, hc k hk]
        by_cases v : k < j
        · rw [if_pos v, if_pos (by omega)]
        · rw [if_neg v, if_neg (by omega)]) (by omega) (by omega)
    simp only [Int.natCast_add, Int.natCast_one] at r1
    refine ⟨h', ?_, r2, r3, fun a k ha => by rw [r4 a k ha, eh2]; simp [HR, ha], r5⟩
    rw [← r1]
    show fX12_keep_b82_body N (fX12_keep_b82 N 29 fu) 29 h (iI j) = _
    simp only [fX12_keep_b82_body, lit, iI_add, Option.bind_some]
    refine ifn (a1) ?_
    refine bst (sR_1248_29 hS) ?_
    refine bst (sR_1219_29 hS) ?_
    refine bst (l) ?_
    refine bst (sAv (ss_61 hS) (by omega) (by omega)) ?_
    rw [← eh2]
theorem L_mkeepR {N : Nat} (hN : 100000000 ≤ N) {h0 : Hs} (hS0 : Sk h0) (hz : 70 ≤ sz h0) {nt nr : Nat} (ct : nt ≤ 40) (cr : nr ≤ 40) (c1 : gI h0 1201 29 = iI nt) (c11 : gI h0 1211 29 = iI nr) : ∀ (e j fu : Nat) (h : Hs), Ke [1249, 1250] [57, 58, 59, 60, 61] [] [] h0 h → sz h = sz h0 → (∀ f a, gI h f a = gI h0 f a) → (∀ a k, a ≠ 57 ∧ a ≠ 58 ∧ a ≠ 59 ∧ a ≠ 60 → aI h a k = aI h0 a k) → (∀ k, k < nr → (aI h 59 k = if k < j then aI h0 42 k else aI h0 59 k) ∧ (aI h 60 k = if k < j then aI h0 43 k else aI h0 60 k)) → j + e = nr → e < fu → ∃ h', fX12_keep_b42 N 29 fu h (iI j) = some h' ∧ Ke [1249, 1250] [57, 58, 59, 60, 61] [] [] h0 h' ∧ sz h' = sz h0 ∧ (∀ a k, a = 57 ∨ a = 58 → aI h' a k = aI h a k) ∧ (∀ r, r < nr → aI h' 59 r = aI h0 42 r ∧ aI h' 60 r = aI h0 43 r) ∧ (∀ i, i < 20 → aI h' 61 i = aI h0 45 i) ∧ gI h' 1249 29 = gI h0 1221 29 ∧ gI h' 1250 29 = gI h0 1222 29 := by
  intro e
  induction e with
  | zero =>
    intro j fu h ke s0 hs hk hc hj hf
    obtain ⟨fu, rfl⟩ : ∃ m, fu = m + 1 := ⟨fu - 1, by omega⟩
    have hS := hS0.e hz ke (by decide)
    have o1 : oI 12 11 h (some 29) = some (iI nr) := oIv (by rw [ss_29 hS]) ((hs _ _).trans c11)
    have a1 : iI (nr : Int) ≤ iI (j : Int) := (iI_le (by omega) (by omega) (by omega) (by omega)).mpr (by omega)
    obtain ⟨h', r1, r2, r3, r4, r5⟩ := L_mkeepW (N := N) hS0 hz 20 0 N h ke s0 hs (fun k _ => by rw [if_neg (Nat.not_lt_zero k)]; exact hk 61 k (by decide)) (by omega) (by omega)
    refine ⟨h', ?_, r2, r3, fun a k ha => r4 a k (by omega), fun r hr => ?_, r5⟩
    case refine_2 =>
      have z := hc r hr
      rw [if_pos (by omega), if_pos (by omega)] at z
      rw [r4 59 r (by decide), r4 60 r (by decide)]
      exact z
    rw [← r1]
    show fX12_keep_b42_body N (fX12_keep_b42 N 29 fu) 29 h (iI j) = _
    simp only [fX12_keep_b42_body, lit]
    refine bst (o1) ?_
    refine ifp (a1) ?_
    rfl
  | succ e ih =>
    intro j fu h ke s0 hs hk hc hj hf
    obtain ⟨fu, rfl⟩ : ∃ m, fu = m + 1 := ⟨fu - 1, by omega⟩
    have hS := hS0.e hz ke (by decide)
    have o1 : oI 12 11 h (some 29) = some (iI nr) := oIv (by rw [ss_29 hS]) ((hs _ _).trans c11)
    have a1 : ¬ iI (nr : Int) ≤ iI (j : Int) := fun q => by have := (iI_le (by omega) (by omega) (by omega) (by omega)).mp q; omega
    have l1 : lA 20 h (some 42) (iI j) = some (aI h0 42 j) := lAv (ss_42 hS) (by omega) (by omega) (congrFun (ke.2.1 42 (by decide) (by omega)) j)
    obtain ⟨h5, eh5⟩ : ∃ h5, h5 = uA h 59 j (aI h0 42 j) := ⟨_, rfl⟩
    have ke5 : Ke [1249, 1250] [57, 58, 59, 60, 61] [] [] h h5 := by rw [eh5]; exact Ke_rf.b 59 _ _ (by decide)
    have hS5 := hS.e (by omega) ke5 (by decide)
    have l2 : lA 20 h5 (some 43) (iI j) = some (aI h0 43 j) := lAv (ss_43 hS5) (by omega) (by omega) (congrFun ((ke.tr ke5).2.1 43 (by decide) (by omega)) j)
    have q5 : sA h (some 59) (iI j) (aI h0 42 j) = some h5 := by rw [eh5]; exact sAv (ss_59 hS) (by omega) (by omega)
    obtain ⟨h2, eh2⟩ : ∃ h2, h2 = uA h5 60 j (aI h0 43 j) := ⟨_, rfl⟩
    have ke2 : Ke [1249, 1250] [57, 58, 59, 60, 61] [] [] h h2 := by rw [eh2]; exact ke5.b 60 _ _ (by decide)
    obtain ⟨h', r1, r2⟩ := ih (j + 1) fu h2 (ke.tr ke2) (by rw [eh2, eh5]; exact s0) (fun f a => by rw [eh2, eh5]; exact hs f a) (fun a k ha => by
      rw [← hk a k ha, eh2, eh5]
      simp [HR, ha]) (fun k hk' => by
      obtain ⟨z1, z2⟩ := hc k hk'
      by_cases w : k = j
      · subst w
        rw [if_pos (Nat.lt_succ_self k), if_pos (Nat.lt_succ_self k), eh2, eh5]
        simp [HR]
      · have y1 : aI h2 59 k = aI h 59 k := by rw [eh2, eh5]; simp [HR, w]
        have y2 : aI h2 60 k = aI h 60 k := by rw [eh2, eh5]; simp [HR, w]
        rw [y1, y2, z1, z2]
        by_cases v : k < j
        · rw [if_pos v, if_pos v, if_pos (show k < j + 1 by omega), if_pos (show k < j + 1 by omega)]
          exact ⟨rfl, rfl⟩
        · rw [if_neg v, if_neg v, if_neg (by omega), if_neg (by omega)]
          exact ⟨rfl, rfl⟩) (by omega) (by omega)
    simp only [Int.natCast_add, Int.natCast_one] at r1
    obtain ⟨y1, y2, y3, y4⟩ := r2
    refine ⟨h', ?_, y1, y2, fun a k ha => ?_, y4⟩
    case refine_2 =>
      rw [y3 a k ha, eh2, eh5]
      have n1 : ¬ a = 59 := by omega
      have n2 : ¬ a = 60 := by omega
      simp [HR, n1, n2]
    rw [← r1]
    show fX12_keep_b42_body N (fX12_keep_b42 N 29 fu) 29 h (iI j) = _
    simp only [fX12_keep_b42_body, lit, iI_add, Option.bind_some]
    refine bst (o1) ?_
    refine ifn (a1) ?_
    refine bst (sR_1246_29 hS) ?_
    refine bst (sR_1216_29 hS) ?_
    refine bst (l1) ?_
    refine bst (q5) ?_
    refine bst (sR_1247_29 hS5) ?_
    refine bst (sR_1217_29 hS5) ?_
    refine bst (l2) ?_
    refine bst (sAv (ss_60 hS5) (by omega) (by omega)) ?_
    rw [← eh2]
theorem L_mkeepT {N : Nat} (hN : 100000000 ≤ N) {h0 : Hs} (hS0 : Sk h0) (hz : 70 ≤ sz h0) {nt nr : Nat} (ct : nt ≤ 40) (cr : nr ≤ 40) (c1 : gI h0 1201 29 = iI nt) (c11 : gI h0 1211 29 = iI nr) : ∀ (e j fu : Nat) (h : Hs), Ke [1249, 1250] [57, 58, 59, 60, 61] [] [] h0 h → sz h = sz h0 → (∀ f a, gI h f a = gI h0 f a) → (∀ a k, a ≠ 57 ∧ a ≠ 58 → aI h a k = aI h0 a k) → (∀ k, k < nt → (aI h 57 k = if k < j then aI h0 33 k else aI h0 57 k) ∧ (aI h 58 k = if k < j then aI h0 36 k else aI h0 58 k)) → j + e = nt → e < fu → ∃ h', fX12_keep_b2 N 29 fu h (iI j) = some h' ∧ Ke [1249, 1250] [57, 58, 59, 60, 61] [] [] h0 h' ∧ sz h' = sz h0 ∧ (∀ k, k < nt → aI h' 57 k = aI h0 33 k ∧ aI h' 58 k = aI h0 36 k) ∧ (∀ r, r < nr → aI h' 59 r = aI h0 42 r ∧ aI h' 60 r = aI h0 43 r) ∧ (∀ i, i < 20 → aI h' 61 i = aI h0 45 i) ∧ gI h' 1249 29 = gI h0 1221 29 ∧ gI h' 1250 29 = gI h0 1222 29 := by
  intro e
  induction e with
  | zero =>
    intro j fu h ke s0 hs hk hc hj hf
    obtain ⟨fu, rfl⟩ : ∃ m, fu = m + 1 := ⟨fu - 1, by omega⟩
    have hS := hS0.e hz ke (by decide)
    have o1 : oI 12 1 h (some 29) = some (iI nt) := oIv (by rw [ss_29 hS]) ((hs _ _).trans c1)
    have a1 : iI (nt : Int) ≤ iI (j : Int) := (iI_le (by omega) (by omega) (by omega) (by omega)).mpr (by omega)
    obtain ⟨h', r1, r2, r3, r4, r5⟩ := L_mkeepR (N := N) hN hS0 hz ct cr c1 c11 nr 0 N h ke s0 hs (fun a k ha => hk a k ⟨ha.1, ha.2.1⟩) (fun k _ => by rw [if_neg (Nat.not_lt_zero k), if_neg (Nat.not_lt_zero k)]; exact ⟨hk 59 k (by decide), hk 60 k (by decide)⟩) (by omega) (by omega)
    refine ⟨h', ?_, r2, r3, fun k hk' => ?_, r5⟩
    case refine_2 =>
      have z := hc k hk'
      rw [if_pos (by omega), if_pos (by omega)] at z
      rw [r4 57 k (Or.inl rfl), r4 58 k (Or.inr rfl)]
      exact z
    rw [← r1]
    show fX12_keep_b2_body N (fX12_keep_b2 N 29 fu) 29 h (iI j) = _
    simp only [fX12_keep_b2_body, lit]
    refine bst (o1) ?_
    refine ifp (a1) ?_
    rfl
  | succ e ih =>
    intro j fu h ke s0 hs hk hc hj hf
    obtain ⟨fu, rfl⟩ : ∃ m, fu = m + 1 := ⟨fu - 1, by omega⟩
    have hS := hS0.e hz ke (by decide)
    have o1 : oI 12 1 h (some 29) = some (iI nt) := oIv (by rw [ss_29 hS]) ((hs _ _).trans c1)
    have a1 : ¬ iI (nt : Int) ≤ iI (j : Int) := fun q => by have := (iI_le (by omega) (by omega) (by omega) (by omega)).mp q; omega
    have l1 : lA 20 h (some 33) (iI j) = some (aI h0 33 j) := lAv (ss_33 hS) (by omega) (by omega) (congrFun (ke.2.1 33 (by decide) (by omega)) j)
    obtain ⟨h5, eh5⟩ : ∃ h5, h5 = uA h 57 j (aI h0 33 j) := ⟨_, rfl⟩
    have ke5 : Ke [1249, 1250] [57, 58, 59, 60, 61] [] [] h h5 := by rw [eh5]; exact Ke_rf.b 57 _ _ (by decide)
    have hS5 := hS.e (by omega) ke5 (by decide)
    have l2 : lA 20 h5 (some 36) (iI j) = some (aI h0 36 j) := lAv (ss_36 hS5) (by omega) (by omega) (congrFun ((ke.tr ke5).2.1 36 (by decide) (by omega)) j)
    have q5 : sA h (some 57) (iI j) (aI h0 33 j) = some h5 := by rw [eh5]; exact sAv (ss_57 hS) (by omega) (by omega)
    obtain ⟨h2, eh2⟩ : ∃ h2, h2 = uA h5 58 j (aI h0 36 j) := ⟨_, rfl⟩
    have ke2 : Ke [1249, 1250] [57, 58, 59, 60, 61] [] [] h h2 := by rw [eh2]; exact ke5.b 58 _ _ (by decide)
    obtain ⟨h', r1, r2⟩ := ih (j + 1) fu h2 (ke.tr ke2) (by rw [eh2, eh5]; exact s0) (fun f a => by rw [eh2, eh5]; exact hs f a) (fun a k ha => by
      rw [← hk a k ha, eh2, eh5]
      simp [HR, ha]) (fun k hk' => by
      obtain ⟨z1, z2⟩ := hc k hk'
      by_cases w : k = j
      · subst w
        rw [if_pos (Nat.lt_succ_self k), if_pos (Nat.lt_succ_self k), eh2, eh5]
        simp [HR]
      · have y1 : aI h2 57 k = aI h 57 k := by rw [eh2, eh5]; simp [HR, w]
        have y2 : aI h2 58 k = aI h 58 k := by rw [eh2, eh5]; simp [HR, w]
        rw [y1, y2, z1, z2]
        by_cases v : k < j
        · rw [if_pos v, if_pos v, if_pos (show k < j + 1 by omega), if_pos (show k < j + 1 by omega)]
          exact ⟨rfl, rfl⟩
        · rw [if_neg v, if_neg v, if_neg (by omega), if_neg (by omega)]
          exact ⟨rfl, rfl⟩) (by omega) (by omega)
    simp only [Int.natCast_add, Int.natCast_one] at r1
    refine ⟨h', ?_, r2⟩
    rw [← r1]
    show fX12_keep_b2_body N (fX12_keep_b2 N 29 fu) 29 h (iI j) = _
    simp only [fX12_keep_b2_body, lit, iI_add, Option.bind_some]
    refine bst (o1) ?_
    refine ifn (a1) ?_
    refine bst (sR_1244_29 hS) ?_
    refine bst (sR_1205_29 hS) ?_
    refine bst (l1) ?_
    refine bst (q5) ?_
    refine bst (sR_1245_29 hS5) ?_
    refine bst (sR_1208_29 hS5) ?_
    refine bst (l2) ?_
    refine bst (sAv (ss_58 hS5) (by omega) (by omega)) ?_
    rw [← eh2]

theorem L_mbackW {N : Nat} {h0 : Hs} (hS0 : Sk h0) (hz : 70 ≤ sz h0) : ∀ (e j fu : Nat) (h : Hs), Ke [1221, 1222] [33, 36, 42, 43, 45] [] [] h0 h → sz h = sz h0 → (∀ f a, gI h f a = gI h0 f a) → (∀ k, k < 20 → aI h 45 k = if k < j then aI h0 61 k else aI h0 45 k) → j + e = 20 → e < fu → ∃ h', fX12_back_b97 N 29 fu h (iI j) = some (iI 1, h') ∧ Ke [1221, 1222] [33, 36, 42, 43, 45] [] [] h0 h' ∧ sz h' = sz h0 ∧ (∀ a k, a ≠ 45 → aI h' a k = aI h a k) ∧ (∀ i, i < 20 → aI h' 45 i = aI h0 61 i) ∧ gI h' 1221 29 = gI h0 1249 29 ∧ gI h' 1222 29 = gI h0 1250 29 := by
  intro e
  induction e with
  | zero =>
    intro j fu h ke s0 hs hc hj hf
    obtain ⟨fu, rfl⟩ : ∃ m, fu = m + 1 := ⟨fu - 1, by omega⟩
    have hS := hS0.e hz ke (by decide)
    have c29 : (sh h 29).1 = 12 := by rw [ss_29 hS]
    have a1 : iI 20 ≤ iI (j : Int) := (iI_le (by omega) (by omega) (by omega) (by omega)).mpr (by omega)
    have gg : gI (uI h 1221 29 (gI h0 1249 29)) 1250 29 = gI h0 1250 29 := by simp [HR, hs]
    obtain ⟨h8, eh8⟩ : ∃ h8, h8 = uI (uI h 1221 29 (gI h0 1249 29)) 1222 29 (gI h0 1250 29) := ⟨_, rfl⟩
    have ke8 : Ke [1221, 1222] [33, 36, 42, 43, 45] [] [] h h8 := by rw [eh8]; exact (Ke_rf.u 1221 _ _ (by decide)).u 1222 _ _ (by decide)
    refine ⟨h8, ?_, ke.tr ke8, by rw [eh8]; exact s0, fun a k _ => by rw [eh8]; rfl, fun i hi => ?_, by rw [eh8]; simp [HR], by rw [eh8]; simp [HR]⟩
    · show fX12_back_b97_body N (fX12_back_b97 N 29 fu) 29 h (iI j) = _
      simp only [fX12_back_b97_body, lit]
      refine ifp (a1) ?_
      refine bst (oIv c29 (hs _ _)) ?_
      refine bst (qIv c29) ?_
      refine bst (oIv (by rw [sh_uI]; exact c29) gg) ?_
      refine bst (qIv (by rw [sh_uI]; exact c29)) ?_
      rw [eh8]
    · have z := hc i hi
      rw [if_pos (by omega)] at z
      rw [eh8]
      exact z
  | succ e ih =>
    intro j fu h ke s0 hs hc hj hf
    obtain ⟨fu, rfl⟩ : ∃ m, fu = m + 1 := ⟨fu - 1, by omega⟩
    have hS := hS0.e hz ke (by decide)
    have a1 : ¬ iI 20 ≤ iI (j : Int) := fun q => by have := (iI_le (by omega) (by omega) (by omega) (by omega)).mp q; omega
    have l : lA 20 h (some 61) (iI j) = some (aI h0 61 j) := lAv (ss_61 hS) (by omega) (by omega) (congrFun (ke.2.1 61 (by decide) (by omega)) j)
    obtain ⟨h2, eh2⟩ : ∃ h2, h2 = uA h 45 j (aI h0 61 j) := ⟨_, rfl⟩
    have ke2 : Ke [1221, 1222] [33, 36, 42, 43, 45] [] [] h h2 := by rw [eh2]; exact Ke_rf.b 45 _ _ (by decide)
    obtain ⟨h', r1, r2, r3, r4, r5⟩ := ih (j + 1) fu h2 (ke.tr ke2) (by rw [eh2]; exact s0) (fun f a => by rw [eh2]; exact hs f a) (fun k hk => by
      by_cases w : k = j
      · subst w
        rw [if_pos (Nat.lt_succ_self k), eh2]
        simp [HR]
      · have y : aI h2 45 k = aI h 45 k := by rw [eh2]; simp [HR, w]
        rw [y, hc k hk]
        by_cases v : k < j
        · rw [if_pos v, if_pos (by omega)]
        · rw [if_neg v, if_neg (by omega)]) (by omega) (by omega)
    simp only [Int.natCast_add, Int.natCast_one] at r1
    refine ⟨h', ?_, r2, r3, fun a k ha => by rw [r4 a k ha, eh2]; simp [HR, ha], r5⟩
    rw [← r1]
    show fX12_back_b97_body N (fX12_back_b97 N 29 fu) 29 h (iI j) = _
    simp only [fX12_back_b97_body, lit, iI_add, Option.bind_some]
    refine ifn (a1) ?_
    refine bst (sR_1219_29 hS) ?_
    refine bst (sR_1248_29 hS) ?_
    refine bst (l) ?_
    refine bst (sAv (ss_45 hS) (by omega) (by omega)) ?_
    rw [← eh2]
theorem L_mbackR {N : Nat} (hN : 100000000 ≤ N) {h0 : Hs} (hS0 : Sk h0) (hz : 70 ≤ sz h0) {nt nr : Nat} (ct : nt ≤ 40) (cr : nr ≤ 40) (c1 : gI h0 1201 29 = iI nt) (c11 : gI h0 1211 29 = iI nr) : ∀ (e j fu : Nat) (h : Hs), Ke [1221, 1222] [33, 36, 42, 43, 45] [] [] h0 h → sz h = sz h0 → (∀ f a, gI h f a = gI h0 f a) → (∀ a k, a ≠ 33 ∧ a ≠ 36 ∧ a ≠ 42 ∧ a ≠ 43 → aI h a k = aI h0 a k) → (∀ k, k < nr → (aI h 42 k = if k < j then aI h0 59 k else aI h0 42 k) ∧ (aI h 43 k = if k < j then aI h0 60 k else aI h0 43 k)) → j + e = nr → e < fu → ∃ h', fX12_back_b57 N 29 fu h (iI j) = some (iI 1, h') ∧ Ke [1221, 1222] [33, 36, 42, 43, 45] [] [] h0 h' ∧ sz h' = sz h0 ∧ (∀ a k, a = 33 ∨ a = 36 → aI h' a k = aI h a k) ∧ (∀ r, r < nr → aI h' 42 r = aI h0 59 r ∧ aI h' 43 r = aI h0 60 r) ∧ (∀ i, i < 20 → aI h' 45 i = aI h0 61 i) ∧ gI h' 1221 29 = gI h0 1249 29 ∧ gI h' 1222 29 = gI h0 1250 29 := by
  intro e
  induction e with
  | zero =>
    intro j fu h ke s0 hs hk hc hj hf
    obtain ⟨fu, rfl⟩ : ∃ m, fu = m + 1 := ⟨fu - 1, by omega⟩
    have hS := hS0.e hz ke (by decide)
    have o1 : oI 12 11 h (some 29) = some (iI nr) := oIv (by rw [ss_29 hS]) ((hs _ _).trans c11)
    have a1 : iI (nr : Int) ≤ iI (j : Int) := (iI_le (by omega) (by omega) (by omega) (by omega)).mpr (by omega)
    obtain ⟨h', r1, r2, r3, r4, r5⟩ := L_mbackW (N := N) hS0 hz 20 0 N h ke s0 hs (fun k _ => by rw [if_neg (Nat.not_lt_zero k)]; exact hk 45 k (by decide)) (by omega) (by omega)
    refine ⟨h', ?_, r2, r3, fun a k ha => r4 a k (by omega), fun r hr => ?_, r5⟩
    case refine_2 =>
      have z := hc r hr
      rw [if_pos (by omega), if_pos (by omega)] at z
      rw [r4 42 r (by decide), r4 43 r (by decide)]
      exact z
    rw [← r1]
    show fX12_back_b57_body N (fX12_back_b57 N 29 fu) 29 h (iI j) = _
    simp only [fX12_back_b57_body, lit]
    refine bst (o1) ?_
    refine ifp (a1) ?_
    rfl
  | succ e ih =>
    intro j fu h ke s0 hs hk hc hj hf
    obtain ⟨fu, rfl⟩ : ∃ m, fu = m + 1 := ⟨fu - 1, by omega⟩
    have hS := hS0.e hz ke (by decide)
    have o1 : oI 12 11 h (some 29) = some (iI nr) := oIv (by rw [ss_29 hS]) ((hs _ _).trans c11)
    have a1 : ¬ iI (nr : Int) ≤ iI (j : Int) := fun q => by have := (iI_le (by omega) (by omega) (by omega) (by omega)).mp q; omega
    have l1 : lA 20 h (some 59) (iI j) = some (aI h0 59 j) := lAv (ss_59 hS) (by omega) (by omega) (congrFun (ke.2.1 59 (by decide) (by omega)) j)
    obtain ⟨h5, eh5⟩ : ∃ h5, h5 = uA h 42 j (aI h0 59 j) := ⟨_, rfl⟩
    have ke5 : Ke [1221, 1222] [33, 36, 42, 43, 45] [] [] h h5 := by rw [eh5]; exact Ke_rf.b 42 _ _ (by decide)
    have hS5 := hS.e (by omega) ke5 (by decide)
    have l2 : lA 20 h5 (some 60) (iI j) = some (aI h0 60 j) := lAv (ss_60 hS5) (by omega) (by omega) (congrFun ((ke.tr ke5).2.1 60 (by decide) (by omega)) j)
    have q5 : sA h (some 42) (iI j) (aI h0 59 j) = some h5 := by rw [eh5]; exact sAv (ss_42 hS) (by omega) (by omega)
    obtain ⟨h2, eh2⟩ : ∃ h2, h2 = uA h5 43 j (aI h0 60 j) := ⟨_, rfl⟩
    have ke2 : Ke [1221, 1222] [33, 36, 42, 43, 45] [] [] h h2 := by rw [eh2]; exact ke5.b 43 _ _ (by decide)
    obtain ⟨h', r1, r2⟩ := ih (j + 1) fu h2 (ke.tr ke2) (by rw [eh2, eh5]; exact s0) (fun f a => by rw [eh2, eh5]; exact hs f a) (fun a k ha => by
      rw [← hk a k ha, eh2, eh5]
      simp [HR, ha]) (fun k hk' => by
      obtain ⟨z1, z2⟩ := hc k hk'
      by_cases w : k = j
      · subst w
        rw [if_pos (Nat.lt_succ_self k), if_pos (Nat.lt_succ_self k), eh2, eh5]
        simp [HR]
      · have y1 : aI h2 42 k = aI h 42 k := by rw [eh2, eh5]; simp [HR, w]
        have y2 : aI h2 43 k = aI h 43 k := by rw [eh2, eh5]; simp [HR, w]
        rw [y1, y2, z1, z2]
        by_cases v : k < j
        · rw [if_pos v, if_pos v, if_pos (show k < j + 1 by omega), if_pos (show k < j + 1 by omega)]
          exact ⟨rfl, rfl⟩
        · rw [if_neg v, if_neg v, if_neg (by omega), if_neg (by omega)]
          exact ⟨rfl, rfl⟩) (by omega) (by omega)
    simp only [Int.natCast_add, Int.natCast_one] at r1
    obtain ⟨y1, y2, y3, y4⟩ := r2
    refine ⟨h', ?_, y1, y2, fun a k ha => ?_, y4⟩
    case refine_2 =>
      rw [y3 a k ha, eh2, eh5]
      have n1 : ¬ a = 42 := by omega
      have n2 : ¬ a = 43 := by omega
      simp [HR, n1, n2]
    rw [← r1]
    show fX12_back_b57_body N (fX12_back_b57 N 29 fu) 29 h (iI j) = _
    simp only [fX12_back_b57_body, lit, iI_add, Option.bind_some]
    refine bst (o1) ?_
    refine ifn (a1) ?_
    refine bst (sR_1216_29 hS) ?_
    refine bst (sR_1246_29 hS) ?_
    refine bst (l1) ?_
    refine bst (q5) ?_
    refine bst (sR_1217_29 hS5) ?_
    refine bst (sR_1247_29 hS5) ?_
    refine bst (l2) ?_
    refine bst (sAv (ss_43 hS5) (by omega) (by omega)) ?_
    rw [← eh2]
theorem L_mbackT {N : Nat} (hN : 100000000 ≤ N) {h0 : Hs} (hS0 : Sk h0) (hz : 70 ≤ sz h0) {nt nr : Nat} (ct : nt ≤ 40) (cr : nr ≤ 40) (c1 : gI h0 1201 29 = iI nt) (c11 : gI h0 1211 29 = iI nr) : ∀ (e j fu : Nat) (h : Hs), Ke [1221, 1222] [33, 36, 42, 43, 45] [] [] h0 h → sz h = sz h0 → (∀ f a, gI h f a = gI h0 f a) → (∀ a k, a ≠ 33 ∧ a ≠ 36 → aI h a k = aI h0 a k) → (∀ k, k < nt → (aI h 33 k = if k < j then aI h0 57 k else aI h0 33 k) ∧ (aI h 36 k = if k < j then aI h0 58 k else aI h0 36 k)) → j + e = nt → e < fu → ∃ h', fX12_back_b17 N 29 fu h (iI j) = some (iI 1, h') ∧ Ke [1221, 1222] [33, 36, 42, 43, 45] [] [] h0 h' ∧ sz h' = sz h0 ∧ (∀ k, k < nt → aI h' 33 k = aI h0 57 k ∧ aI h' 36 k = aI h0 58 k) ∧ (∀ r, r < nr → aI h' 42 r = aI h0 59 r ∧ aI h' 43 r = aI h0 60 r) ∧ (∀ i, i < 20 → aI h' 45 i = aI h0 61 i) ∧ gI h' 1221 29 = gI h0 1249 29 ∧ gI h' 1222 29 = gI h0 1250 29 := by
  intro e
  induction e with
  | zero =>
    intro j fu h ke s0 hs hk hc hj hf
    obtain ⟨fu, rfl⟩ : ∃ m, fu = m + 1 := ⟨fu - 1, by omega⟩
    have hS := hS0.e hz ke (by decide)
    have o1 : oI 12 1 h (some 29) = some (iI nt) := oIv (by rw [ss_29 hS]) ((hs _ _).trans c1)
    have a1 : iI (nt : Int) ≤ iI (j : Int) := (iI_le (by omega) (by omega) (by omega) (by omega)).mpr (by omega)
    obtain ⟨h', r1, r2, r3, r4, r5⟩ := L_mbackR (N := N) hN hS0 hz ct cr c1 c11 nr 0 N h ke s0 hs (fun a k ha => hk a k ⟨ha.1, ha.2.1⟩) (fun k _ => by rw [if_neg (Nat.not_lt_zero k), if_neg (Nat.not_lt_zero k)]; exact ⟨hk 42 k (by decide), hk 43 k (by decide)⟩) (by omega) (by omega)
    refine ⟨h', ?_, r2, r3, fun k hk' => ?_, r5⟩
    case refine_2 =>
      have z := hc k hk'
      rw [if_pos (by omega), if_pos (by omega)] at z
      rw [r4 33 k (Or.inl rfl), r4 36 k (Or.inr rfl)]
      exact z
    rw [← r1]
    show fX12_back_b17_body N (fX12_back_b17 N 29 fu) 29 h (iI j) = _
    simp only [fX12_back_b17_body, lit]
    refine bst (o1) ?_
    refine ifp (a1) ?_
    rfl
  | succ e ih =>
    intro j fu h ke s0 hs hk hc hj hf
    obtain ⟨fu, rfl⟩ : ∃ m, fu = m + 1 := ⟨fu - 1, by omega⟩
    have hS := hS0.e hz ke (by decide)
    have o1 : oI 12 1 h (some 29) = some (iI nt) := oIv (by rw [ss_29 hS]) ((hs _ _).trans c1)
    have a1 : ¬ iI (nt : Int) ≤ iI (j : Int) := fun q => by have := (iI_le (by omega) (by omega) (by omega) (by omega)).mp q; omega
    have l1 : lA 20 h (some 57) (iI j) = some (aI h0 57 j) := lAv (ss_57 hS) (by omega) (by omega) (congrFun (ke.2.1 57 (by decide) (by omega)) j)
    obtain ⟨h5, eh5⟩ : ∃ h5, h5 = uA h 33 j (aI h0 57 j) := ⟨_, rfl⟩
    have ke5 : Ke [1221, 1222] [33, 36, 42, 43, 45] [] [] h h5 := by rw [eh5]; exact Ke_rf.b 33 _ _ (by decide)
    have hS5 := hS.e (by omega) ke5 (by decide)
    have l2 : lA 20 h5 (some 58) (iI j) = some (aI h0 58 j) := lAv (ss_58 hS5) (by omega) (by omega) (congrFun ((ke.tr ke5).2.1 58 (by decide) (by omega)) j)
    have q5 : sA h (some 33) (iI j) (aI h0 57 j) = some h5 := by rw [eh5]; exact sAv (ss_33 hS) (by omega) (by omega)
    obtain ⟨h2, eh2⟩ : ∃ h2, h2 = uA h5 36 j (aI h0 58 j) := ⟨_, rfl⟩
    have ke2 : Ke [1221, 1222] [33, 36, 42, 43, 45] [] [] h h2 := by rw [eh2]; exact ke5.b 36 _ _ (by decide)
    obtain ⟨h', r1, r2⟩ := ih (j + 1) fu h2 (ke.tr ke2) (by rw [eh2, eh5]; exact s0) (fun f a => by rw [eh2, eh5]; exact hs f a) (fun a k ha => by
      rw [← hk a k ha, eh2, eh5]
      simp [HR, ha]) (fun k hk' => by
      obtain ⟨z1, z2⟩ := hc k hk'
      by_cases w : k = j
      · subst w
        rw [if_pos (Nat.lt_succ_self k), if_pos (Nat.lt_succ_self k), eh2, eh5]
        simp [HR]
      · have y1 : aI h2 33 k = aI h 33 k := by rw [eh2, eh5]; simp [HR, w]
        have y2 : aI h2 36 k = aI h 36 k := by rw [eh2, eh5]; simp [HR, w]
        rw [y1, y2, z1, z2]
        by_cases v : k < j
        · rw [if_pos v, if_pos v, if_pos (show k < j + 1 by omega), if_pos (show k < j + 1 by omega)]
          exact ⟨rfl, rfl⟩
        · rw [if_neg v, if_neg v, if_neg (by omega), if_neg (by omega)]
          exact ⟨rfl, rfl⟩) (by omega) (by omega)
    simp only [Int.natCast_add, Int.natCast_one] at r1
    refine ⟨h', ?_, r2⟩
    rw [← r1]
    show fX12_back_b17_body N (fX12_back_b17 N 29 fu) 29 h (iI j) = _
    simp only [fX12_back_b17_body, lit, iI_add, Option.bind_some]
    refine bst (o1) ?_
    refine ifn (a1) ?_
    refine bst (sR_1205_29 hS) ?_
    refine bst (sR_1244_29 hS) ?_
    refine bst (l1) ?_
    refine bst (q5) ?_
    refine bst (sR_1208_29 hS5) ?_
    refine bst (sR_1245_29 hS5) ?_
    refine bst (l2) ?_
    refine bst (sAv (ss_36 hS5) (by omega) (by omega)) ?_
    rw [← eh2]
/-! ===== back ===== -/
def RKc (h : Hs) (nt nr : Nat) (tA dA rA : Nat → Nat) (pk : Nat → Int) (dk tk : Nat → Option Nat) (sk nk ck : Nat → Int) : Prop := (∀ i, i < nt → gI h 910 (tA i) = iI (pk i) ∧ gR h 911 (tA i) = (tk i).map rA) ∧ (∀ r, r < nr → gR h 409 (rA r) = (dk r).map dA ∧ (dk r ≠ none → gI h 410 (rA r) = iI (sk r) ∧ gI h 411 (rA r) = iI (nk r))) ∧ ∀ i, i < 20 → aI h 19 i = iI (ck i)
def RKm (h : Hs) (nt nr : Nat) (rT : Nat → Nat) (pk : Nat → Int) (dk : Nat → Option Nat) (sk nk ck : Nat → Int) : Prop := (∀ i, i < nt → aI h 57 i = iI (pk i)) ∧ (∀ r, r < nr → aI h 59 r = iI (od (dk r)) ∧ (dk r ≠ none → aI h 60 r = iI (nk r) ∧ aI h 58 (rT r) = iI (sk r))) ∧ ∀ i, i < 20 → aI h 61 i = iI (ck i)
def RKl (nt nd nr : Nat) (rT : Nat → Nat) (wy gr ls ms : Nat → Int) (pk : Nat → Int) (dk tk : Nat → Option Nat) (sk nk ck : Nat → Int) : Prop := (∀ i, i < nt → ls i ≤ pk i ∧ pk i ≤ ms i) ∧ (∀ r, r < nr → dk r ≠ none → pk (rT r) = sk r + wy r * (nk r).tdiv (100 * gr r) ∧ ls (rT r) ≤ sk r ∧ sk r ≤ ms (rT r)) ∧ (∀ i, i < 20 → -9999 ≤ ck i ∧ ck i ≤ 9999) ∧ RTl nt nd nr rT dk tk
def RKs (h : Hs) : Prop := gI h 513 14 = gI h 1249 29 ∧ gI h 514 14 = gI h 1250 29
theorem RKc.e {F A FR AQ : List Nat} {h h2 : Hs} {nt nr : Nat} {tA dA rA : Nat → Nat} {pk : Nat → Int} {dk tk : Nat → Option Nat} {sk nk ck : Nat → Int} (hC : RKc h nt nr tA dA rA pk dk tk sk nk ck) (hz : 70 ≤ sz h) (ht : ∀ i, i < nt → tA i < sz h) (hr : ∀ r, r < nr → rA r < sz h) (k : Ke F A FR AQ h h2) (hF : ∀ f ∈ [910, 410, 411], f ∉ F) (hA : 19 ∉ A) (hR : ∀ f ∈ [911, 409], f ∉ FR) : RKc h2 nt nr tA dA rA pk dk tk sk nk ck := by
  obtain ⟨c1, c2, c3⟩ := hC
  refine ⟨fun i hi => ?_, fun r hr' => ?_, fun i hi => ?_⟩
  · rw [k.1 _ _ (hF 910 (by decide)) (ht i hi), k.2.2.1 _ _ (hR 911 (by decide)) (ht i hi)]
    exact c1 i hi
  · rw [k.2.2.1 _ _ (hR 409 (by decide)) (hr r hr'), k.1 _ _ (hF 410 (by decide)) (hr r hr'), k.1 _ _ (hF 411 (by decide)) (hr r hr')]
    exact c2 r hr'
  · rw [k.2.1 _ hA (by omega)]
    exact c3 i hi
theorem RKm.e {F A FR AQ : List Nat} {h h2 : Hs} {nt nr : Nat} {rT : Nat → Nat} {pk : Nat → Int} {dk : Nat → Option Nat} {sk nk ck : Nat → Int} (hC : RKm h nt nr rT pk dk sk nk ck) (hz : 70 ≤ sz h) (k : Ke F A FR AQ h h2) (hA : ∀ a ∈ [57, 58, 59, 60, 61], a ∉ A) : RKm h2 nt nr rT pk dk sk nk ck := by
  obtain ⟨c1, c2, c3⟩ := hC
  refine ⟨fun i hi => ?_, fun r hr' => ?_, fun i hi => ?_⟩
  · rw [k.2.1 _ (hA 57 (by decide)) (by omega)]
    exact c1 i hi
  · rw [k.2.1 _ (hA 59 (by decide)) (by omega), k.2.1 _ (hA 60 (by decide)) (by omega), k.2.1 _ (hA 58 (by decide)) (by omega)]
    exact c2 r hr'
  · rw [k.2.1 _ (hA 61 (by decide)) (by omega)]
    exact c3 i hi
theorem RKs.e {F A FR AQ : List Nat} {h h2 : Hs} (hC : RKs h) (hz : 70 ≤ sz h) (k : Ke F A FR AQ h h2) (hF : ∀ f ∈ [513, 514, 1249, 1250], f ∉ F) : RKs h2 := by
  refine ⟨?_, ?_⟩
  · rw [k.1 _ _ (hF 513 (by decide)) (by omega), k.1 _ _ (hF 1249 (by decide)) (by omega)]; exact hC.1
  · rw [k.1 _ _ (hF 514 (by decide)) (by omega), k.1 _ _ (hF 1250 (by decide)) (by omega)]; exact hC.2
theorem n01 : ¬ iI 0 = iI 1 := by decide
theorem t_back {N : Nat} (hN : 100000000 ≤ N) {h : Hs} (hS : Sk h) (hz : 70 ≤ sz h) {nr nt nd : Nat} {rA tA dA rT : Nat → Nat} {wy gr hd : Nat → Int} {gn : Nat → Bool} {tl tw tg ls ms pa : Nat → Int} (hT : RTh h nt tA tl tw tg ls ms pa) (hR : RRo h nr nt rA tA rT wy gr hd gn) (hB : ICan h) {pk : Nat → Int} {dk tk : Nat → Option Nat} {sk nk ck : Nat → Int} (hK : gI h 1106 0 = iI 1 → RKc h nt nr tA dA rA pk dk tk sk nk ck ∧ RKm h nt nr rT pk dk sk nk ck ∧ RKl nt nd nr rT wy gr ls ms pk dk tk sk nk ck ∧ RKs h) : ∃ a h1 h2, fX11_back N h 0 = some (a, h1) ∧ fX12_back N h1 29 = some (a, h2) ∧ (h2 = h ∨ (gI h 1106 0 = iI 1 ∧ gI h2 1106 0 = iI 0 ∧ ICan h2 ∧ RTh h2 nt tA tl tw tg ls ms pk ∧ RTi h2 nt nd nr tA dA rA rT dk tk sk nk ∧ (∀ i, i < 20 → aI h2 18 i = iI (ck i) ∧ aI h2 45 i = iI (ck i)) ∧ RSh h2 ∧ Ke [907, 406, 407, 511, 512, 1106, 1243, 1221, 1222] [18, 33, 36, 42, 43, 45] [909, 405] [] h h2 ∧ sz h2 = sz h)) := by
  obtain ⟨c, b1, b2', b3⟩ := hB
  have o6 : oI 11 6 h (some 0) = some (iI c) := oIv (by rw [ss_0 hS]) b1
  have ct := hT.1.2.2
  have cr := hR.1.2.2
  rcases b3 with rfl | rfl
  · refine ⟨iI (-2), h, h, ?_, ?_, Or.inl rfl⟩
    · simp only [fX11_back, lit, iI_neg]
      refine bst (o6) ?_
      refine ifp (rfl) ?_
      rfl
    · simp only [fX12_back, lit, iI_neg]
      refine bst (oIv (by rw [ss_29 hS]) b2') ?_
      refine ifp (rfl) ?_
      rfl
  · obtain ⟨kc, km, kl, ks⟩ := hK b1
    obtain ⟨hq, ehq⟩ : ∃ hq, hq = uI h 1106 0 (iI 0) := ⟨_, rfl⟩
    have keq : Ke [1106] [] [] [] h hq := by rw [ehq]; exact Ke_rf.u 1106 _ _ (by decide)
    have szq : sz hq = sz h := by rw [ehq]; rfl
    have hSq := hS.e hz keq (by decide)
    have hTq := hT.e hz keq (by decide) (by decide) (by decide)
    have hRq := hR.e hz keq (by decide) (by decide) (by decide) (by decide)
    have kcq := kc.e hz hT.lt hR.lt keq (by decide) (by decide) (by decide)
    obtain ⟨h3, e3, ke3, s3, x1, x2, x3, x4, x5⟩ := v_restC (N := N) hN hSq (by omega) hTq.1.1 ct (fun i hi => (hTq.2.1 i hi).1) hTq.2.2 hRq.1.1 cr (fun r hr => (hRq.2.1 r hr).1) hRq.2.2
    have keh3 : Ke [907, 406, 407, 511, 512, 1106] [18] [909, 405] [] h h3 := (keq.w (by decide) (by decide) (by decide) (by decide)).tr (ke3.w (by decide) (by decide) (by decide) (by decide))
    have hS3 := hS.e hz keh3 (by decide)
    have hz3 : 70 ≤ sz h3 := by omega
    have cl : fX11_back N h 0 = some (iI 1, h3) := by
      have zq : qZ 11 6 h (some 0) (iI 0) = some hq := by rw [ehq]; exact qZv (by rw [ss_0 hS]) (by omega)
      simp only [fX11_back, lit]
      refine bst (o6) ?_
      refine ifn (n10) ?_
      refine bst (zq) ?_
      refine bst (sR_1100_0 hSq) ?_
      refine bst (rcv (by rw [ss_14 hSq])) ?_
      refine bst (e3) ?_
      rfl
    obtain ⟨hw, ehw⟩ : ∃ hw, hw = uI h3 1243 29 (iI 0) := ⟨_, rfl⟩
    have kew : Ke [1243] [] [] [] h3 hw := by rw [ehw]; exact Ke_rf.u 1243 _ _ (by decide)
    have szw : sz hw = sz h3 := by rw [ehw]; rfl
    have hSw := hS3.e hz3 kew (by decide)
    have kehw : Ke [907, 406, 407, 511, 512, 1106, 1243] [18] [909, 405] [] h hw := (keh3.w (by decide) (by decide) (by decide) (by decide)).tr (kew.w (by decide) (by decide) (by decide) (by decide))
    obtain ⟨h5, e5, ke5, s5, y1, y2, y3, y4, y5⟩ := L_mbackT (N := N) hN hSw (by omega) ct cr ((kehw.1 1201 29 (by decide) (by omega)).trans hT.1.2.1) ((kehw.1 1211 29 (by decide) (by omega)).trans hR.1.2.1) nt 0 N hw Ke_rf rfl (fun _ _ => rfl) (fun _ _ _ => rfl) (fun k _ => by rw [if_neg (Nat.not_lt_zero k), if_neg (Nat.not_lt_zero k)]; exact ⟨rfl, rfl⟩) (by omega) (by omega)
    have rf : fX12_back N h3 29 = some (iI 1, h5) := by
      have o43 : oI 12 43 h3 (some 29) = some (iI 1) := oIv (by rw [ss_29 hS3]) ((keh3.1 1243 29 (by decide) (by omega)).trans b2')
      have zw : qZ 12 43 h3 (some 29) (iI 0) = some hw := by rw [ehw]; exact qZv (by rw [ss_29 hS3]) (by omega)
      simp only [fX12_back, lit]
      refine bst (o43) ?_
      refine ifn (n10) ?_
      refine bst (zw) ?_
      exact e5
    have ke3_5 : Ke [1243, 1221, 1222] [33, 36, 42, 43, 45] [] [] h3 h5 := (kew.w (by decide) (by decide) (by decide) (by decide)).tr (ke5.w (by decide) (by decide) (by decide) (by decide))
    have ke : Ke [907, 406, 407, 511, 512, 1106, 1243, 1221, 1222] [18, 33, 36, 42, 43, 45] [909, 405] [] h h5 := (keh3.w (by decide) (by decide) (by decide) (by decide)).tr (ke3_5.w (by decide) (by decide) (by decide) (by decide))
    have kmw := km.e hz kehw (by decide)
    have t3 : ∀ i, i < nt → tA i < sz h3 := fun i hi => by have := hT.lt i hi; omega
    have r3 : ∀ r, r < nr → rA r < sz h3 := fun r hr => by have := hR.lt r hr; omega
    refine ⟨iI 1, h3, h5, cl, rf, Or.inr ⟨b1, ?_, ?_, ?_, ?_, ?_, ?_, ke, by omega⟩⟩
    · rw [ke3_5.1 1106 0 (by decide) (by omega), ke3.1 1106 0 (by decide) (by omega), ehq]
      simp [HR]
    · refine ⟨0, ?_, ?_, Or.inl rfl⟩
      · rw [ke3_5.1 1106 0 (by decide) (by omega), ke3.1 1106 0 (by decide) (by omega), ehq]
        simp [HR]
      · rw [ke5.1 1243 29 (by decide) (by omega), ehw]
        simp [HR]
    · refine RTh_of (hT.o.mv hz ke (by decide) (by decide) (fun i hi => ?_) (fun i hi => kl.1 i hi)) (by rw [ke.1 1201 29 (by decide) (by omega)]; exact hT.1.2.1) (fun i hi => ?_)
      · rw [ke3_5.1 907 _ (by decide) (t3 i hi), (x1 i hi).1]
        exact (kcq.1 i hi).1
      · obtain ⟨-, -, ⟨z0, z1, z2, z3, z4, z5⟩, -⟩ := hT.2.1 i hi
        rw [ke.2.1 30 (by decide) (by omega), ke.2.1 31 (by decide) (by omega), ke.2.1 32 (by decide) (by omega), ke.2.1 34 (by decide) (by omega), ke.2.1 35 (by decide) (by omega), (y1 i hi).1]
        exact ⟨z0, z1, z2, kmw.1 i hi, z4, z5⟩
    · refine RTi_iff.mpr ⟨⟨fun r hr => ?_, fun i hi => ?_⟩, fun r hr => ?_, kl.2.2.2⟩
      · rw [ke3_5.2.2.1 405 _ (by decide) (r3 r hr), ke3_5.1 406 _ (by decide) (r3 r hr), ke3_5.1 407 _ (by decide) (r3 r hr), (x2 r hr).1, (x2 r hr).2.1, (x2 r hr).2.2]
        exact kcq.2.1 r hr
      · rw [ke3_5.2.2.1 909 _ (by decide) (t3 i hi), (x1 i hi).2]
        exact (kcq.1 i hi).2
      · have hrt := (hR.2.1 r hr).2.2.2.1
        rw [(y2 r hr).1, (y2 r hr).2, (y1 _ hrt).2]
        exact kmw.2.1 r hr
    · intro i hi
      rw [ke3_5.2.1 18 (by decide) (by omega), x3 i hi, y3 i hi]
      exact ⟨kcq.2.2 i hi, kmw.2.2 i hi⟩
    · refine ⟨?_, ?_⟩
      · rw [ke3_5.1 511 14 (by decide) (by omega), x4, y4, keq.1 513 14 (by decide) (by omega), kehw.1 1249 29 (by decide) (by omega)]
        exact ks.1
      · rw [ke3_5.1 512 14 (by decide) (by omega), x5, y5, keq.1 514 14 (by decide) (by omega), kehw.1 1250 29 (by decide) (by omega)]
        exact ks.2
/-! ===== the tape's text, and how the class reads it ===== -/
def pkf (bt : Nat → Int) (L p : Nat) : Int := if p < L then bt p else -1
def dgs (pk : Nat → Int) : Nat → Nat → Int → Nat × Int
  | 0, p, v => (p, v)
  | f + 1, p, v => if 48 ≤ pk p ∧ pk p ≤ 57 then dgs pk f (p + 1) (10 * v + pk p - 48) else (p, v)
theorem dgs_p (pk : Nat → Int) : ∀ (f p : Nat) (v : Int), p ≤ (dgs pk f p v).1 ∧ (dgs pk f p v).1 ≤ p + f
  | 0, p, v => by simp [dgs]
  | f + 1, p, v => by
    rw [dgs]
    have := dgs_p pk f (p + 1) (10 * v + pk p - 48)
    split
    · omega
    · simp only; omega
theorem dgs_v (pk : Nat → Int) : ∀ (f p : Nat) (v : Int), 0 ≤ v → 0 ≤ (dgs pk f p v).2 ∧ (dgs pk f p v).2 + 1 ≤ (v + 1) * 10 ^ f
  | 0, p, v, hv => by simp [dgs]; omega
  | f + 1, p, v, hv => by
    rw [dgs]
    have hp : (0 : Int) ≤ 10 ^ f := Int.pow_nonneg (by omega)
    have e : (v + 1) * 10 ^ (f + 1) = 10 * (v + 1) * 10 ^ f := by
      rw [Int.pow_succ, Int.mul_comm (10 ^ f) 10, ← Int.mul_assoc, Int.mul_comm (v + 1) 10]
    split
    · rename_i w
      have := dgs_v pk f (p + 1) (10 * v + pk p - 48) (by omega)
      have h2 : (10 * v + pk p - 48 + 1) * 10 ^ f ≤ 10 * (v + 1) * 10 ^ f := Int.mul_le_mul_of_nonneg_right (by omega) hp
      omega
    · have h3 : (v + 1) * 1 ≤ (v + 1) * 10 ^ (f + 1) := Int.mul_le_mul_of_nonneg_left (by have hq : (0 : Int) < 10 ^ (f + 1) := Int.pow_pos (by omega); omega) (by omega)
      simp only
      omega
/-- whether the number is there, where one stands behind it, the number -/
def rdN (pk : Nat → Int) (sg : Bool) (p : Nat) : Bool × Nat × Int := if pk p ≠ 32 then (false, p, 0) else if sg = true ∧ pk (p + 1) = 45 then (decide (p + 2 < (dgs pk 4 (p + 2) 0).1), (dgs pk 4 (p + 2) 0).1, -(dgs pk 4 (p + 2) 0).2) else (decide (p + 1 < (dgs pk 4 (p + 1) 0).1), (dgs pk 4 (p + 1) 0).1, (dgs pk 4 (p + 1) 0).2)
theorem rdN_b (pk : Nat → Int) (sg : Bool) (p : Nat) : p ≤ (rdN pk sg p).2.1 ∧ (rdN pk sg p).2.1 ≤ p + 6 ∧ ((rdN pk sg p).1 = true → p + 2 ≤ (rdN pk sg p).2.1) ∧ -9999 ≤ (rdN pk sg p).2.2 ∧ (rdN pk sg p).2.2 ≤ 9999 ∧ (sg = false → 0 ≤ (rdN pk sg p).2.2) := by
  unfold rdN
  have a1 := dgs_p pk 4 (p + 2) 0
  have a2 := dgs_v pk 4 (p + 2) 0 (by omega)
  have a3 := dgs_p pk 4 (p + 1) 0
  have a4 := dgs_v pk 4 (p + 1) 0 (by omega)
  have e : (0 + 1 : Int) * 10 ^ 4 = 10000 := by decide
  rw [e] at a2 a4
  split
  · simp only
    refine ⟨by omega, by omega, (fun q => by cases q), by omega, by omega, fun _ => by omega⟩
  · split
    · rename_i w
      simp only [decide_eq_true_eq]
      refine ⟨by omega, by omega, fun q => by omega, by omega, by omega, fun q => by rw [q] at w; cases w.1⟩
    · simp only [decide_eq_true_eq]
      refine ⟨by omega, by omega, fun q => by omega, by omega, by omega, fun _ => by omega⟩
/-- a line: whether it is one, where one stands behind it, its letter and numbers -/
def rdE (pk : Nat → Int) (p : Nat) (c : Int × Int × Int) : Bool × Nat × (Int × Int × Int) := if pk p = 59 then (true, p + 1, c) else (false, p, c)
def rdL (pk : Nat → Int) (p : Nat) : Bool × Nat × (Int × Int × Int) :=
  if pk p = 115 ∨ pk p = 117 then (if (rdN pk (decide (pk p = 115)) (p + 1)).1 then rdE pk (rdN pk (decide (pk p = 115)) (p + 1)).2.1 (pk p, (rdN pk (decide (pk p = 115)) (p + 1)).2.2, 0) else (false, (rdN pk (decide (pk p = 115)) (p + 1)).2.1, (0, 0, 0)))
  else if pk p = 116 ∨ pk p = 119 then (if (rdN pk false (p + 1)).1 then (if (rdN pk (decide (pk p = 119)) (rdN pk false (p + 1)).2.1).1 then rdE pk (rdN pk (decide (pk p = 119)) (rdN pk false (p + 1)).2.1).2.1 (pk p, (rdN pk false (p + 1)).2.2, (rdN pk (decide (pk p = 119)) (rdN pk false (p + 1)).2.1).2.2) else (false, (rdN pk (decide (pk p = 119)) (rdN pk false (p + 1)).2.1).2.1, (0, 0, 0))) else (false, (rdN pk false (p + 1)).2.1, (0, 0, 0)))
  else (false, p, (0, 0, 0))
theorem rdL_b (bt : Nat → Int) (L p : Nat) : p ≤ (rdL (pkf bt L) p).2.1 ∧ (rdL (pkf bt L) p).2.1 ≤ p + 20 ∧ ((rdL (pkf bt L) p).1 = true → p + 4 ≤ (rdL (pkf bt L) p).2.1 ∧ (rdL (pkf bt L) p).2.1 ≤ L ∧ ((rdL (pkf bt L) p).2.2.1 = 115 ∨ (rdL (pkf bt L) p).2.2.1 = 116 ∨ (rdL (pkf bt L) p).2.2.1 = 117 ∨ (rdL (pkf bt L) p).2.2.1 = 119) ∧ -9999 ≤ (rdL (pkf bt L) p).2.2.2.1 ∧ (rdL (pkf bt L) p).2.2.2.1 ≤ 9999 ∧ -9999 ≤ (rdL (pkf bt L) p).2.2.2.2 ∧ (rdL (pkf bt L) p).2.2.2.2 ≤ 9999) := by
  have pe : ∀ (q : Nat) (c : Int × Int × Int), q ≤ (rdE (pkf bt L) q c).2.1 ∧ (rdE (pkf bt L) q c).2.1 ≤ q + 1 ∧ (rdE (pkf bt L) q c).2.2 = c ∧ ((rdE (pkf bt L) q c).1 = true → (rdE (pkf bt L) q c).2.1 = q + 1 ∧ q + 1 ≤ L) := by
    intro q c
    unfold rdE
    by_cases w : pkf bt L q = 59
    · rw [if_pos w]
      refine ⟨by simp only; omega, by simp only; omega, rfl, fun _ => ⟨rfl, ?_⟩⟩
      unfold pkf at w
      by_cases v : q < L
      · omega
      · rw [if_neg v] at w; omega
    · rw [if_neg w]
      exact ⟨by simp only; omega, by simp only; omega, rfl, fun q => by cases q⟩
  unfold rdL
  by_cases w1 : pkf bt L p = 115 ∨ pkf bt L p = 117
  · rw [if_pos w1]
    have b1 := rdN_b (pkf bt L) (decide (pkf bt L p = 115)) (p + 1)
    generalize rdN (pkf bt L) (decide (pkf bt L p = 115)) (p + 1) = r1 at *
    by_cases w2 : r1.1 = true
    · rw [if_pos w2]
      have e := pe r1.2.1 (pkf bt L p, r1.2.2, 0)
      generalize rdE (pkf bt L) r1.2.1 (pkf bt L p, r1.2.2, 0) = r2 at *
      obtain ⟨e1, e2, e3, e4⟩ := e
      have b2 := b1.2.2.1 w2
      refine ⟨by omega, by omega, fun q => ?_⟩
      have e5 := e4 q
      rw [e3]
      simp only
      omega
    · rw [if_neg w2]
      exact ⟨by simp only; omega, by simp only; omega, fun q => by cases q⟩
  · rw [if_neg w1]
    by_cases w2 : pkf bt L p = 116 ∨ pkf bt L p = 119
    · rw [if_pos w2]
      have b1 := rdN_b (pkf bt L) false (p + 1)
      generalize rdN (pkf bt L) false (p + 1) = r1 at *
      by_cases w3 : r1.1 = true
      · rw [if_pos w3]
        have b3 := b1.2.2.1 w3
        have b2 := rdN_b (pkf bt L) (decide (pkf bt L p = 119)) r1.2.1
        generalize rdN (pkf bt L) (decide (pkf bt L p = 119)) r1.2.1 = r2 at *
        by_cases w4 : r2.1 = true
        · rw [if_pos w4]
          have e := pe r2.2.1 (pkf bt L p, r1.2.2, r2.2.2)
          generalize rdE (pkf bt L) r2.2.1 (pkf bt L p, r1.2.2, r2.2.2) = r3 at *
          obtain ⟨e1, e2, e3, e4⟩ := e
          have b4 := b2.2.2.1 w4
          refine ⟨by omega, by omega, fun q => ?_⟩
          have e5 := e4 q
          rw [e3]
          simp only
          omega
        · rw [if_neg w4]
          exact ⟨by simp only; omega, by simp only; omega, fun q => by cases q⟩
      · rw [if_neg w3]
        exact ⟨by simp only; omega, by simp only; omega, fun q => by cases q⟩
    · rw [if_neg w2]
      exact ⟨by simp only; omega, by simp only; omega, fun q => by cases q⟩
/-- the fault, or -1; how many lines; the lines -/
def prs (pk : Nat → Int) (L : Nat) : Nat → Nat → Nat → (Nat → Int × Int × Int) → Int × Nat × (Nat → Int × Int × Int)
  | 0, p, ln, lc => ((p : Int), ln, lc)
  | f + 1, p, ln, lc => if (rdL pk p).1 then (if (rdL pk p).2.1 < L then prs pk L f (rdL pk p).2.1 (ln + 1) (updO lc ln (rdL pk p).2.2) else (-1, ln + 1, updO lc ln (rdL pk p).2.2)) else (((rdL pk p).2.1 : Int), ln, lc)
def TC (h : Hs) (L : Nat) (bt : Nat → Int) : Prop := gI h 804 1 = iI L ∧ L ≤ 120 ∧ ∀ i, i < L → aI h 2 i = iI (bt i) ∧ 0 ≤ bt i ∧ bt i ≤ 255
theorem TC.e {F A FR AQ : List Nat} {h h2 : Hs} {L : Nat} {bt : Nat → Int} (hC : TC h L bt) (hz : 70 ≤ sz h) (k : Ke F A FR AQ h h2) (f1 : 804 ∉ F) (a1 : 2 ∉ A) : TC h2 L bt := ⟨by rw [k.1 _ _ f1 (by omega)]; exact hC.1, hC.2.1, fun i hi => by rw [k.2.1 _ a1 (by omega)]; exact hC.2.2 i hi⟩
theorem pkf_b {h : Hs} {L : Nat} {bt : Nat → Int} (hC : TC h L bt) (p : Nat) : -1 ≤ pkf bt L p ∧ pkf bt L p ≤ 255 := by
  unfold pkf
  by_cases w : p < L
  · rw [if_pos w]; have := hC.2.2 p w; omega
  · rw [if_neg w]; omega
theorem v_peek {N : Nat} {h : Hs} (hS : Sk h) {L : Nat} {bt : Nat → Int} (hC : TC h L bt) {p : Nat} (hp : p ≤ 1000) (g6 : gI h 806 1 = iI p) : fX8_peek N h 1 = some (iI (pkf bt L p), h) := by
  obtain ⟨c1, c2, c3⟩ := hC
  have cc : (sh h 1).1 = 8 := by rw [ss_1 hS]
  have o6 : oI 8 6 h (some 1) = some (iI p) := oIv cc g6
  have o4 : oI 8 4 h (some 1) = some (iI L) := oIv cc c1
  have n0 : ¬ iI (p : Int) < iI 0 := fun q => by have := (iI_lt (by omega) (by omega) (by omega) (by omega)).mp q; omega
  have le : iI (L : Int) ≤ iI (p : Int) ↔ (L : Int) ≤ p := iI_le (by omega) (by omega) (by omega) (by omega)
  simp only [fX8_peek, fX8_peek_b30, fX8_peek_b31, lit, iI_neg]
  unfold pkf
  by_cases w : p < L
  · rw [if_pos w]
    refine bst (o6) ?_
    refine ifn (n0) ?_
    refine bst (o6) ?_
    refine bst (o4) ?_
    refine ifn (fun q => by have := le.mp q; omega) ?_
    refine bst (sR_800_1 hS) ?_
    refine bst (o6) ?_
    refine bst (lAv (ss_2 hS) (by omega) (by omega) (c3 p w).1) ?_
    rfl
  · rw [if_neg w]
    refine bst (o6) ?_
    refine ifn (n0) ?_
    refine bst (o6) ?_
    refine bst (o4) ?_
    refine ifp (le.mpr (by omega)) ?_
    rfl
theorem v_sign {N : Nat} {h : Hs} (hS : Sk h) {L : Nat} {bt : Nat → Int} (hC : TC h L bt) {p : Nat} (hp : p ≤ 1000) (g6 : gI h 806 1 = iI p) {c : Int} (c1 : 0 ≤ c) (c2 : c ≤ 127) : (pkf bt L p = c → fX8_readSign N h 1 (iI c) = some (iI 1, uI h 806 1 (iI ((p + 1 : Nat) : Int)))) ∧ (pkf bt L p ≠ c → fX8_readSign N h 1 (iI c) = some (iI 0, h)) := by
  have vp := v_peek (N := N) hS hC hp g6
  have b := pkf_b hC p
  have rc8 : rc 8 h (some 1) = some 1 := rcv (by rw [ss_1 hS])
  have cc : (sh h 1).1 = 8 := by rw [ss_1 hS]
  have le : iI (pkf bt L p) = iI c ↔ pkf bt L p = c := iI_eq (by omega) (by omega) (by omega) (by omega)
  simp only [fX8_readSign, lit]
  constructor
  · intro w
    refine bst (rc8) ?_
    refine bst (vp) ?_
    refine ifp (le.mpr w) ?_
    refine bst (oIv cc g6) ?_
    refine bst (qIv cc) ?_
    rw [iI_add, Int.natCast_add, Int.natCast_one]
  · intro w
    refine bst (rc8) ?_
    refine bst (vp) ?_
    refine ifn (fun q => w (le.mp q)) ?_
    rfl
theorem L_dgC {N : Nat} {L : Nat} {bt : Nat → Int} {g : Int32} : ∀ (f p : Nat) (v : Int) (fu : Nat) (h : Hs), Sk h → 70 ≤ sz h → TC h L bt → p + f ≤ 900 → f ≤ 4 → f < fu → gI h 806 1 = iI p → gI h 807 1 = iI v → 0 ≤ v → ∃ h', fX8_readNumber_b37 N 1 fu h g (iI ((4 - f : Nat) : Int)) = fX8_readNumber_b91 N 1 h' g (iI ((4 - f + ((dgs (pkf bt L) f p v).1 - p) : Nat) : Int)) ∧ Ke [806, 807] [] [] [] h h' ∧ sz h' = sz h ∧ gI h' 806 1 = iI (((dgs (pkf bt L) f p v).1 : Nat) : Int) ∧ gI h' 807 1 = iI (dgs (pkf bt L) f p v).2 := by
  intro f
  induction f with
  | zero =>
    intro p v fu h hS hz hC hp hf4 hf g6 g7 hv
    obtain ⟨fu, rfl⟩ : ∃ m, fu = m + 1 := ⟨fu - 1, by omega⟩
    refine ⟨h, ?_, Ke_rf, rfl, g6, g7⟩
    show fX8_readNumber_b37_body N (fX8_readNumber_b37 N 1 fu) 1 h g (iI ((4 - 0 : Nat) : Int)) = _
    simp only [fX8_readNumber_b37_body, lit]
    refine ifp (by decide) ?_
    simp [dgs]
  | succ f ih =>
    intro p v fu h hS hz hC hp hf4 hf g6 g7 hv
    obtain ⟨fu, rfl⟩ : ∃ m, fu = m + 1 := ⟨fu - 1, by omega⟩
    have a1 : ¬ iI 4 ≤ iI ((4 - (f + 1) : Nat) : Int) := fun q => by have := (iI_le (by omega) (by omega) (by omega) (by omega)).mp q; omega
    have vp := v_peek (N := N) hS hC (by omega) g6
    have b := pkf_b hC p
    have rc8 : rc 8 h (some 1) = some 1 := rcv (by rw [ss_1 hS])
    have cc : (sh h 1).1 = 8 := by rw [ss_1 hS]
    have iw := v_isW (N := N) (h := h) (x := pkf bt L p) (a := 48) (b := 57) (by omega) (by omega) (by omega) (by omega) (by omega) (by omega)
    by_cases w : 48 ≤ pkf bt L p ∧ pkf bt L p ≤ 57
    · rw [if_pos w] at iw
      have ed : dgs (pkf bt L) (f + 1) p v = dgs (pkf bt L) f (p + 1) (10 * v + pkf bt L p - 48) := by rw [dgs, if_pos w]
      rw [ed]
      have ev : iI 10 * iI v + iI (pkf bt L p) - iI 48 = iI (10 * v + pkf bt L p - 48) := by rw [iI_mul, iI_add, iI_sub]
      obtain ⟨h2, eh2⟩ : ∃ h2, h2 = uI (uI h 807 1 (iI (10 * v + pkf bt L p - 48))) 806 1 (iI ((p + 1 : Nat) : Int)) := ⟨_, rfl⟩
      have ke2 : Ke [806, 807] [] [] [] h h2 := by rw [eh2]; exact (Ke_rf.u 807 _ _ (by decide)).u 806 _ _ (by decide)
      have g6b : gI (uI h 807 1 (iI (10 * v + pkf bt L p - 48))) 806 1 = iI p := by simp [HR, g6]
      obtain ⟨h', r1, r2, r3, r4, r5⟩ := ih (p + 1) (10 * v + pkf bt L p - 48) fu h2 (hS.e hz ke2 (by decide)) (by rw [eh2]; exact hz) (hC.e hz ke2 (by decide) (by decide)) (by omega) (by omega) (by omega) (by rw [eh2]; simp [HR]) (by rw [eh2]; simp [HR]) (by omega)
      have dp := dgs_p (pkf bt L) f (p + 1) (10 * v + pkf bt L p - 48)
      have en : 4 - (f + 1) + ((dgs (pkf bt L) f (p + 1) (10 * v + pkf bt L p - 48)).1 - p) = 4 - f + ((dgs (pkf bt L) f (p + 1) (10 * v + pkf bt L p - 48)).1 - (p + 1)) := by omega
      rw [en]
      refine ⟨h', ?_, ke2.tr r2, by rw [r3, eh2]; rfl, r4, r5⟩
      rw [← r1]
      show fX8_readNumber_b37_body N (fX8_readNumber_b37 N 1 fu) 1 h g (iI ((4 - (f + 1) : Nat) : Int)) = _
      have e4 : iI ((4 - (f + 1) : Nat) : Int) + iI 1 = iI ((4 - f : Nat) : Int) := by rw [iI_add]; congr 1; omega
      have e5 : iI (p : Int) + iI 1 = iI ((p + 1 : Nat) : Int) := by rw [iI_add]; congr 1
      simp only [fX8_readNumber_b37_body, lit, Option.bind_some]
      refine ifn (a1) ?_
      refine bst (rc8) ?_
      refine bst (vp) ?_
      refine bst (iw) ?_
      refine ifn (n10) ?_
      refine bst (oIv cc g7) ?_
      refine bst (rc8) ?_
      refine bst (vp) ?_
      rw [ev]
      refine bst (qIv cc) ?_
      refine bst (oIv (by rw [sh_uI]; exact cc) g6b) ?_
      rw [e5]
      refine bst (qIv (by rw [sh_uI]; exact cc)) ?_
      rw [← eh2, e4]
    · rw [if_neg w] at iw
      have ed : dgs (pkf bt L) (f + 1) p v = (p, v) := by rw [dgs, if_neg w]
      rw [ed]
      refine ⟨h, ?_, Ke_rf, rfl, g6, g7⟩
      show fX8_readNumber_b37_body N (fX8_readNumber_b37 N 1 fu) 1 h g (iI ((4 - (f + 1) : Nat) : Int)) = _
      simp only [fX8_readNumber_b37_body, lit]
      refine ifn (a1) ?_
      refine bst (rc8) ?_
      refine bst (vp) ?_
      refine bst (iw) ?_
      refine ifp (rfl) ?_
      simp
theorem v_rdN {N : Nat} (hN : 100000000 ≤ N) {L : Nat} {bt : Nat → Int} {h : Hs} (hS : Sk h) (hz : 70 ≤ sz h) (hC : TC h L bt) {p : Nat} (hp : p ≤ 800) (g6 : gI h 806 1 = iI p) (sg : Bool) : ∃ h', fX8_readNumber N h 1 (iI (b2 sg)) = some (iI (b2 (rdN (pkf bt L) sg p).1), h') ∧ Ke [806, 807] [] [] [] h h' ∧ sz h' = sz h ∧ gI h' 806 1 = iI (((rdN (pkf bt L) sg p).2.1 : Nat) : Int) ∧ ((rdN (pkf bt L) sg p).1 = true → gI h' 807 1 = iI (rdN (pkf bt L) sg p).2.2) := by
  have rc8 : rc 8 h (some 1) = some 1 := rcv (by rw [ss_1 hS])
  obtain ⟨s1, s0⟩ := v_sign (N := N) hS hC (by omega) g6 (c := 32) (by omega) (by omega)
  by_cases w : pkf bt L p = 32
  · obtain ⟨h1, eh1⟩ : ∃ h1, h1 = uI h 806 1 (iI ((p + 1 : Nat) : Int)) := ⟨_, rfl⟩
    have s1' := s1 w
    rw [← eh1] at s1'
    have ke1 : Ke [806, 807] [] [] [] h h1 := by rw [eh1]; exact Ke_rf.u 806 _ _ (by decide)
    have sz1 : sz h1 = sz h := by rw [eh1]; rfl
    have hS1 := hS.e hz ke1 (by decide)
    have hC1 := hC.e hz ke1 (by decide) (by decide)
    have g61 : gI h1 806 1 = iI ((p + 1 : Nat) : Int) := by rw [eh1]; simp [HR]
    -- the digits from q on
    have dig : ∀ (h2 : Hs) (q : Nat) (ng : Bool), Ke [806, 807] [] [] [] h h2 → sz h2 = sz h → q ≤ 810 → gI h2 806 1 = iI q → ∃ h', fX8_readNumber_b29 N 1 h2 (iI (b2 ng)) = some (iI (b2 (decide (q < (dgs (pkf bt L) 4 q 0).1))), h') ∧ Ke [806, 807] [] [] [] h h' ∧ sz h' = sz h ∧ gI h' 806 1 = iI (((dgs (pkf bt L) 4 q 0).1 : Nat) : Int) ∧ gI h' 807 1 = iI (if ng then -(dgs (pkf bt L) 4 q 0).2 else (dgs (pkf bt L) 4 q 0).2) := by
      intro h2 q ng ke2 s2 hq g62
      have hS2 := hS.e hz ke2 (by decide)
      have cc2 : (sh h2 1).1 = 8 := by rw [ss_1 hS2]
      obtain ⟨h3, eh3⟩ : ∃ h3, h3 = uI h2 807 1 (iI 0) := ⟨_, rfl⟩
      have ke3 : Ke [806, 807] [] [] [] h h3 := by rw [eh3]; exact ke2.u 807 _ _ (by decide)
      have sz3 : sz h3 = sz h := by rw [eh3]; exact s2
      obtain ⟨h4, r1, r2, r3, r4, r5⟩ := L_dgC (N := N) (bt := bt) (L := L) (g := iI (b2 ng)) 4 q 0 N h3 (hS.e hz ke3 (by decide)) (by omega) (hC.e hz ke3 (by decide) (by decide)) (by omega) (by omega) (by omega) (by rw [eh3]; simp [HR, g62]) (by rw [eh3]; simp [HR]) (by omega)
      have st : fX8_readNumber_b29 N 1 h2 (iI (b2 ng)) = fX8_readNumber_b91 N 1 h4 (iI (b2 ng)) (iI (((dgs (pkf bt L) 4 q 0).1 - q : Nat) : Int)) := by
        have r1' : fX8_readNumber_b37 N 1 N h3 (iI (b2 ng)) (iI 0) = fX8_readNumber_b91 N 1 h4 (iI (b2 ng)) (iI (((dgs (pkf bt L) 4 q 0).1 - q : Nat) : Int)) := by
          rw [show 4 - 4 + ((dgs (pkf bt L) 4 q 0).1 - q) = (dgs (pkf bt L) 4 q 0).1 - q by omega] at r1
          exact r1
        simp only [fX8_readNumber_b29, lit]
        refine bst (qIv cc2) ?_
        rw [← eh3]
        exact r1'
      have dp := dgs_p (pkf bt L) 4 q 0
      have ke4 : Ke [806, 807] [] [] [] h h4 := ke3.tr r2
      have hS4 := hS.e hz ke4 (by decide)
      have cc4 : (sh h4 1).1 = 8 := by rw [ss_1 hS4]
      have lz : iI (((dgs (pkf bt L) 4 q 0).1 - q : Nat) : Int) ≤ iI 0 ↔ (((dgs (pkf bt L) 4 q 0).1 - q : Nat) : Int) ≤ 0 := iI_le (by omega) (by omega) (by omega) (by omega)
      have b104 : ∀ h5, fX8_readNumber_b104 N 1 h5 (iI (((dgs (pkf bt L) 4 q 0).1 - q : Nat) : Int)) = some (iI (b2 (decide (q < (dgs (pkf bt L) 4 q 0).1))), h5) := by
        intro h5
        simp only [fX8_readNumber_b104, fX8_readNumber_b113, lit]
        by_cases v : q < (dgs (pkf bt L) 4 q 0).1
        · rw [decide_eq_true v]
          refine ifn (fun z => by have := lz.mp z; omega) ?_
          refine bst (zc_i1) ?_
          rfl
        · rw [decide_eq_false v]
          refine ifp (lz.mpr (by omega)) ?_
          refine bst (zc_i0) ?_
          rfl
      cases ng with
      | false =>
        refine ⟨h4, ?_, ke4, by omega, r4, r5⟩
        rw [st]
        simp only [fX8_readNumber_b91, lit]
        refine ifp (rfl) ?_
        exact b104 h4
      | true =>
        refine ⟨uI h4 807 1 (iI (-(dgs (pkf bt L) 4 q 0).2)), ?_, ke4.u 807 _ _ (by decide), by show sz h4 = sz h; omega, by simp [HR, r4], by simp [HR]⟩
        rw [st]
        simp only [fX8_readNumber_b91, lit]
        refine ifn (n10) ?_
        refine bst (oIv cc4 r5) ?_
        rw [iI_neg]
        refine bst (qIv cc4) ?_
        exact b104 _
    simp only [fX8_readNumber, fX8_readNumber_b28, lit]
    unfold rdN
    rw [if_neg (fun z => z w)]
    cases sg with
    | false =>
      obtain ⟨h', r1, r2, r3, r4, r5⟩ := dig h1 (p + 1) false ke1 sz1 (by omega) g61
      rw [if_neg (fun z => by cases z.1)]
      refine ⟨h', ?_, r2, r3, r4, fun _ => r5⟩
      refine bst (rc8) ?_
      refine bst (s1') ?_
      refine ifn (n10) ?_
      refine ifp (rfl) ?_
      exact r1
    | true =>
      obtain ⟨t1, t0⟩ := v_sign (N := N) hS1 hC1 (by omega) g61 (c := 45) (by omega) (by omega)
      have rc81 : rc 8 h1 (some 1) = some 1 := rcv (by rw [ss_1 hS1])
      by_cases v : pkf bt L (p + 1) = 45
      · rw [if_pos ⟨rfl, v⟩]
        obtain ⟨h', r1, r2, r3, r4, r5⟩ := dig (uI h1 806 1 (iI ((p + 1 + 1 : Nat) : Int))) (p + 2) true (ke1.u 806 _ _ (by decide)) sz1 (by omega) (by have e : (p + 1 + 1 : Nat) = p + 2 := rfl; rw [e]; simp [HR])
        refine ⟨h', ?_, r2, r3, r4, fun _ => r5⟩
        refine bst (rc8) ?_
        refine bst (s1') ?_
        refine ifn (n10) ?_
        refine ifn (n10) ?_
        refine bst (rc81) ?_
        refine bst (t1 v) ?_
        refine ifn (n10) ?_
        exact r1
      · rw [if_neg (fun z => v z.2)]
        obtain ⟨h', r1, r2, r3, r4, r5⟩ := dig h1 (p + 1) false ke1 sz1 (by omega) g61
        refine ⟨h', ?_, r2, r3, r4, fun _ => r5⟩
        refine bst (rc8) ?_
        refine bst (s1') ?_
        refine ifn (n10) ?_
        refine ifn (n10) ?_
        refine bst (rc81) ?_
        refine bst (t0 v) ?_
        refine ifp (rfl) ?_
        exact r1
  · have er : rdN (pkf bt L) sg p = (false, p, 0) := by unfold rdN; rw [if_pos w]
    rw [er]
    refine ⟨h, ?_, Ke_rf, rfl, g6, fun q => by cases q⟩
    simp only [fX8_readNumber, lit]
    refine bst (rc8) ?_
    refine bst (s0 w) ?_
    refine ifp (rfl) ?_
    rfl
