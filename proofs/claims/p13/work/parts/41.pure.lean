theorem hext {h h2 : Hs} (h1 : ∀ f a, gI h f a = gI h2 f a) (h3 : ∀ f a, gR h f a = gR h2 f a) (h4 : ∀ a j, aI h a j = aI h2 a j) (h5 : ∀ a j, aR h a j = aR h2 a j) (h6 : ∀ a, sh h a = sh h2 a) (h7 : sz h = sz h2) : h = h2 := by
  obtain ⟨a1, a2, a3, a4, a5, a6⟩ := h
  obtain ⟨b1, b2, b3, b4, b5, b6⟩ := h2
  have e1 : a1 = b1 := by funext f a; exact h1 f a
  have e2 : a2 = b2 := by funext f a; exact h3 f a
  have e3 : a3 = b3 := by funext f a; exact h4 f a
  have e4 : a4 = b4 := by funext f a; exact h5 f a
  have e5 : a5 = b5 := by funext f; exact h6 f
  have e6 : a6 = b6 := h7
  rw [e1, e2, e3, e4, e5, e6]
/-! ===== the tape: feed ===== -/
def sg (c : Int) : Int := if c < 128 then c else c - 256
theorem byte_rel (b : Int32) : ∃ c : Int, 0 ≤ c ∧ c ≤ 255 ∧ b &&& 255 = iI c ∧ b.toInt8.toInt32 = iI (sg c) := by
  have e1 : b &&& 255 = nI (b.toBitVec.toNat % 2 ^ 8) := pk_and b 8 (by decide)
  have e2 : b.toInt = if 2 * b.toBitVec.toNat < 4294967296 then (b.toBitVec.toNat : Int) else (b.toBitVec.toNat : Int) - 4294967296 := by
    rw [← Int32.toInt_toBitVec, BitVec.toInt_eq_toNat_cond]
    split <;> rfl
  have e3 : b.toBitVec.toNat < 4294967296 := b.toBitVec.isLt
  have e4 : b.toInt % 256 = ((b.toBitVec.toNat % 256 : Nat) : Int) := by
    rw [e2]
    split <;> omega
  refine ⟨b.toInt % 256, by omega, by omega, ?_, ?_⟩
  · rw [e1, nI_iI, e4]
  · apply Int32.toInt_inj.1
    have e5 : -2147483648 ≤ sg (b.toInt % 256) ∧ sg (b.toInt % 256) < 2147483648 := by
      unfold sg
      split <;> omega
    rw [Int8.toInt_toInt32, Int32.toInt_toInt8, iI_t e5.1 e5.2, Int.bmod_def]
    unfold sg
    rfl
def RTape (h : Hs) (L : Nat) (bt : Nat → Int) : Prop := gI h 804 1 = iI L ∧ gI h 1237 29 = iI L ∧ L ≤ 120 ∧ ∀ i, i < L → aI h 2 i = iI (bt i) ∧ aI h 53 i = iI (sg (bt i)) ∧ 0 ≤ bt i ∧ bt i ≤ 255
theorem RTape.e {F A FR AQ : List Nat} {h h2 : Hs} {L : Nat} {bt : Nat → Int} (hC : RTape h L bt) (hz : 70 ≤ sz h) (k : Ke F A FR AQ h h2) (f1 : 804 ∉ F) (f2 : 1237 ∉ F) (a1 : 2 ∉ A) (a2 : 53 ∉ A) : RTape h2 L bt := by
  obtain ⟨c1, c2, c3, c4⟩ := hC
  exact ⟨by rw [k.1 _ _ f1 (by omega)]; exact c1, by rw [k.1 _ _ f2 (by omega)]; exact c2, c3, fun i hi => by rw [k.2.1 _ a1 (by omega), k.2.1 _ a2 (by omega)]; exact c4 i hi⟩
theorem L_take {N : Nat} {L n : Nat} {v : Int32} (hn : n ≤ 4) (hL : L + n ≤ 120) : ∀ (d i : Nat) (h : Hs) (fu : Nat), i + d = n → d < fu → Sk h → gI h 804 1 = iI L → fX8_take_b27 N 1 fu h (iI n) v (iI i) = some (iI (L + n), uI (wA h 2 (fun j => if L + i ≤ j ∧ j < L + n then (v >>> (iI (8 * ((j - L : Nat) : Int)) &&& 31)) &&& 255 else aI h 2 j)) 804 1 (iI (L + n))) := by
  intro d
  induction d with
  | zero =>
    intro i h fu hi hf hS c1
    obtain ⟨fu, rfl⟩ : ∃ k, fu = k + 1 := ⟨fu - 1, by omega⟩
    show fX8_take_b27_body N (fX8_take_b27 N 1 fu) 1 h (iI n) v (iI i) = _
    have w : (n : Int) ≤ i := by omega
    have e0 : (fun j => if L + i ≤ j ∧ j < L + n then (v >>> (iI (8 * ((j - L : Nat) : Int)) &&& 31)) &&& 255 else aI h 2 j) = aI h 2 := by
      funext j
      rw [if_neg (by omega)]
    rw [e0, wA_self]
    simp (disch := omega) [oI, oR, qI, qZ, qR, rc, lit, iI_add, iI_sub, iI_mul, iI_neg, iI_le, iI_lt, iI_eq, v_isW, v_inW, bz, HR, Sk_rw hS, fX8_take_b27_body, c1, w]
  | succ d ih =>
    intro i h fu hi hf hS c1
    obtain ⟨fu, rfl⟩ : ∃ k, fu = k + 1 := ⟨fu - 1, by omega⟩
    show fX8_take_b27_body N (fX8_take_b27 N 1 fu) 1 h (iI n) v (iI i) = _
    have w : ¬ (n : Int) ≤ i := by omega
    have e1 : ixb (iI ((L : Int) + i)) 120 = true := ixb_i (by omega) (by omega) (by omega)
    have e2 : (iI ((L : Int) + i)).toNatClampNeg = L + i := by rw [iI_cl (by omega) (by omega)]; omega
    obtain ⟨bb, hbb⟩ : ∃ bb : Int32, bb = (v >>> (iI (8 * (i : Int)) &&& 31)) &&& 255 := ⟨_, rfl⟩
    have q := ih (i + 1) (uA h 2 (L + i) bb) fu (by omega) (by omega) (hS.k (Kq_uA 2 _ _)) (by simp [HR, c1])
    simp only [Int.natCast_add, Int.natCast_one] at q
    have e7 : wA (uA h 2 (L + i) bb) 2 (fun j => if L + (i + 1) ≤ j ∧ j < L + n then (v >>> (iI (8 * ((j - L : Nat) : Int)) &&& 31)) &&& 255 else aI (uA h 2 (L + i) bb) 2 j) = wA h 2 (fun j => if L + i ≤ j ∧ j < L + n then (v >>> (iI (8 * ((j - L : Nat) : Int)) &&& 31)) &&& 255 else aI h 2 j) := by
      rw [uA_wA, wA_wA]
      congr 1
      funext j
      by_cases ej : j = L + i
      · subst ej
        rw [if_neg (by omega), if_pos (by omega)]
        simp [aI_wA, hbb]
      · by_cases cj : L + (i + 1) ≤ j ∧ j < L + n
        · rw [if_pos cj, if_pos (by omega)]
        · rw [if_neg cj, if_neg (by omega)]
          simp [aI_wA, ej]
    rw [e7] at q
    rw [← q, hbb]
    simp (disch := omega) [oI, oR, qI, qZ, qR, rc, lit, iI_add, iI_sub, iI_mul, iI_neg, iI_le, iI_lt, iI_eq, v_isW, v_inW, bz, HR, Sk_rw hS, fX8_take_b27_body, sA, c1, w, e1, e2]
theorem L_feed {N : Nat} {L n : Nat} {v : Int32} (hn : n ≤ 4) (hL : L + n ≤ 120) : ∀ (d i : Nat) (h : Hs) (fu : Nat), i + d = n → d < fu → Sk h → gI h 1237 29 = iI (L + i) → fX12_feed_b27 N 29 fu h (iI n) v (iI i) = some (iI (L + n), uI (wA h 53 (fun j => if L + i ≤ j ∧ j < L + n then (v >>> (iI (8 * ((j - L : Nat) : Int)) &&& 31)).toInt8.toInt32 else aI h 53 j)) 1237 29 (iI (L + n))) := by
  intro d
  induction d with
  | zero =>
    intro i h fu hi hf hS c1
    obtain ⟨fu, rfl⟩ : ∃ k, fu = k + 1 := ⟨fu - 1, by omega⟩
    show fX12_feed_b27_body N (fX12_feed_b27 N 29 fu) 29 h (iI n) v (iI i) = _
    have w : (n : Int) ≤ i := by omega
    have e0 : (fun j => if L + i ≤ j ∧ j < L + n then (v >>> (iI (8 * ((j - L : Nat) : Int)) &&& 31)).toInt8.toInt32 else aI h 53 j) = aI h 53 := by
      funext j
      rw [if_neg (by omega)]
    have e9 : (i : Int) = n := by omega
    have e8 : uI h 1237 29 (iI (L + n)) = h := by
      rw [← e9, ← c1]
      unfold uI gI
      congr 1
      funext f a
      by_cases q : f = 1237 ∧ a = 29
      · rw [if_pos q, q.1, q.2]
      · rw [if_neg q]
    rw [e0, wA_self, e8]
    rw [e9] at c1
    simp (disch := omega) [oI, oR, qI, qZ, qR, rc, lit, iI_add, iI_sub, iI_mul, iI_neg, iI_le, iI_lt, iI_eq, v_isW, v_inW, bz, HR, Sk_rw hS, fX12_feed_b27_body, c1, w]
  | succ d ih =>
    intro i h fu hi hf hS c1
    obtain ⟨fu, rfl⟩ : ∃ k, fu = k + 1 := ⟨fu - 1, by omega⟩
    show fX12_feed_b27_body N (fX12_feed_b27 N 29 fu) 29 h (iI n) v (iI i) = _
    have w : ¬ (n : Int) ≤ i := by omega
    have e1 : ixb (iI ((L : Int) + i)) 120 = true := ixb_i (by omega) (by omega) (by omega)
    have e2 : (iI ((L : Int) + i)).toNatClampNeg = L + i := by rw [iI_cl (by omega) (by omega)]; omega
    obtain ⟨bb, hbb⟩ : ∃ bb : Int32, bb = (v >>> (iI (8 * (i : Int)) &&& 31)).toInt8.toInt32 := ⟨_, rfl⟩
    have kk : Kq [1237] [53] h (uI (uA h 53 (L + i) bb) 1237 29 (iI (L + i + 1))) := (Kq_rf.b _ _ _ (by decide)).u _ _ _ (by decide)
    have q := ih (i + 1) (uI (uA h 53 (L + i) bb) 1237 29 (iI (L + i + 1))) fu (by omega) (by omega) (hS.k kk) (by simp [HR, Int.add_assoc])
    simp only [Int.natCast_add, Int.natCast_one] at q
    have e7 : uI (wA (uI (uA h 53 (L + i) bb) 1237 29 (iI (L + i + 1))) 53 (fun j => if L + (i + 1) ≤ j ∧ j < L + n then (v >>> (iI (8 * ((j - L : Nat) : Int)) &&& 31)).toInt8.toInt32 else aI (uI (uA h 53 (L + i) bb) 1237 29 (iI (L + i + 1))) 53 j)) 1237 29 (iI (L + n)) = uI (wA h 53 (fun j => if L + i ≤ j ∧ j < L + n then (v >>> (iI (8 * ((j - L : Nat) : Int)) &&& 31)).toInt8.toInt32 else aI h 53 j)) 1237 29 (iI (L + n)) := by
      have ea : (fun j => if L + (i + 1) ≤ j ∧ j < L + n then (v >>> (iI (8 * ((j - L : Nat) : Int)) &&& 31)).toInt8.toInt32 else aI (uI (uA h 53 (L + i) bb) 1237 29 (iI (L + i + 1))) 53 j) = (fun j => if L + i ≤ j ∧ j < L + n then (v >>> (iI (8 * ((j - L : Nat) : Int)) &&& 31)).toInt8.toInt32 else aI h 53 j) := by
        funext j
        by_cases ej : j = L + i
        · subst ej
          rw [if_neg (by omega), if_pos (by omega)]
          simp [HR, hbb]
        · by_cases cj : L + (i + 1) ≤ j ∧ j < L + n
          · rw [if_pos cj, if_pos (by omega)]
          · rw [if_neg cj, if_neg (by omega)]
            simp [HR, ej]
      rw [ea]
      refine hext (fun f a => ?_) (fun _ _ => rfl) (fun a j => ?_) (fun _ _ => rfl) (fun _ => rfl) rfl
      · by_cases q9 : f = 1237 ∧ a = 29 <;> simp [HR, q9]
      · by_cases q9 : a = 53 <;> simp [HR, q9]
    rw [e7] at q
    rw [← q, hbb]
    simp (disch := omega) [oI, oR, qI, qZ, qR, rc, lit, iI_add, iI_sub, iI_mul, iI_neg, iI_le, iI_lt, iI_eq, v_isW, v_inW, bz, HR, Sk_rw hS, fX12_feed_b27_body, sB, c1, w, e1, e2, pk_vb]
theorem t_feed {N : Nat} (hN : 100000000 ≤ N) {h : Hs} (hS : Sk h) {L : Nat} {bt : Nat → Int} (hC : RTape h L bt) (p1 p2 : Int32) : ∃ r h1 h2 L' bt', fX11_feed N h 0 p1 p2 = some (r, h1) ∧ fX12_feed N h1 29 p1 p2 = some (r, h2) ∧ RTape h2 L' bt' ∧ L' ≤ L + 4 ∧ Kq [804, 1237] [2, 53] h h2 := by
  obtain ⟨z, z1, z2, rfl⟩ := iI_ex p1
  have hC0 := hC
  obtain ⟨c1, c2, c3, c4⟩ := hC
  by_cases w : 1 ≤ z ∧ z ≤ 4
  · obtain ⟨n, rfl⟩ : ∃ n : Nat, z = n := ⟨z.toNat, by omega⟩
    by_cases w2 : (L : Int) + n ≤ 120
    · have la := L_take (N := N) (L := L) (n := n) (v := p2) (by omega) (by omega) n 0 h N (by omega) (by omega) hS c1
      generalize hh1 : uI (wA h 2 _) 804 1 _ = h1 at la
      have kk : Kq [804, 1237] [2, 53] h h1 := by rw [← hh1]; exact (Kq_rf.a _ _ (by decide)).u _ _ _ (by decide)
      have lr := L_feed (N := N) (L := L) (n := n) (v := p2) (by omega) (by omega) n 0 h1 N (by omega) (by omega) (hS.k kk) (by rw [← hh1]; simp [HR, c2])
      generalize hh2 : uI (wA h1 53 _) 1237 29 _ = h2 at lr
      have kk2 : Kq [804, 1237] [2, 53] h h2 := by rw [← hh2]; exact (kk.a _ _ (by decide)).u _ _ _ (by decide)
      simp only [Int.natCast_zero] at la lr
      refine ⟨iI (L + n), h1, h2, L + n, fun j => if j < L then bt j else Classical.choose (byte_rel (p2 >>> (iI (8 * ((j - L : Nat) : Int)) &&& 31))), ?_, ?_, ⟨?_, ?_, by omega, fun j hj => ?_⟩, by omega, kk2⟩
      · simp (disch := omega) [oI, oR, qI, qZ, qR, rc, lit, iI_add, iI_sub, iI_mul, iI_neg, iI_le, iI_lt, iI_eq, v_isW, v_inW, bz, HR, Sk_rw hS, fX11_feed, fX8_take, w, c1, w2, la]
      · have hS := hS.k kk
        have c2' : gI h1 1237 29 = iI L := by rw [← hh1]; simp [HR, c2]
        simp (disch := omega) [oI, oR, qI, qZ, qR, rc, lit, iI_add, iI_sub, iI_mul, iI_neg, iI_le, iI_lt, iI_eq, v_isW, v_inW, bz, HR, Sk_rw hS, fX12_feed, w, c2', w2, lr]
      · rw [← hh2, ← hh1]; simp [HR]
      · rw [← hh2]; simp [HR]
      · by_cases cj : j < L
        · simp only [cj, if_true]
          rw [← hh2, ← hh1]
          have a0 := c4 j cj
          have a1 : ¬ (L + 0 ≤ j ∧ j < L + n) := by omega
          simp only [HR]
          simp [a0]
          exact ⟨fun q9 => absurd q9 (by omega), fun q9 => absurd q9 (by omega)⟩
        · simp only [cj, if_false]
          have sp := Classical.choose_spec (byte_rel (p2 >>> (iI (8 * ((j - L : Nat) : Int)) &&& 31)))
          have a1 : L + 0 ≤ j ∧ j < L + n := by omega
          rw [← hh2, ← hh1]
          refine ⟨?_, ?_, sp.1, sp.2.1⟩
          · rw [← sp.2.2.1]
            simp only [HR]
            simp
            intro q
            omega
          · rw [← sp.2.2.2]
            simp only [HR]
            simp
            intro q
            omega
    · refine ⟨-3, h, h, L, bt, ?_, ?_, hC0, by omega, Kq_rf⟩
      · simp (disch := omega) [oI, oR, qI, qZ, qR, rc, lit, iI_add, iI_sub, iI_mul, iI_neg, iI_le, iI_lt, iI_eq, v_isW, v_inW, bz, HR, Sk_rw hS, fX11_feed, fX8_take, w, c1, w2]
      · simp (disch := omega) [oI, oR, qI, qZ, qR, rc, lit, iI_add, iI_sub, iI_mul, iI_neg, iI_le, iI_lt, iI_eq, v_isW, v_inW, bz, HR, Sk_rw hS, fX12_feed, w, c2, w2]
  · refine ⟨-1, h, h, L, bt, ?_, ?_, hC0, by omega, Kq_rf⟩
    · simp (disch := omega) [oI, oR, qI, qZ, qR, rc, lit, iI_add, iI_sub, iI_mul, iI_neg, iI_le, iI_lt, iI_eq, v_isW, v_inW, bz, HR, Sk_rw hS, fX11_feed, fX8_take, w]
    · simp (disch := omega) [oI, oR, qI, qZ, qR, rc, lit, iI_add, iI_sub, iI_mul, iI_neg, iI_le, iI_lt, iI_eq, v_isW, v_inW, bz, HR, Sk_rw hS, fX12_feed, w]
