/-! ===== paint: the class gives ===== -/
def gfl (ct : Nat → Nat → Int) (S : Nat → Int) (T j : Nat) (v : Int) : Nat → Nat → Nat
  | 0, i => i
  | e + 1, i => if swt ct S T i j = v then i else gfl ct S T j v e (i + 1)
theorem gfl_p {ct : Nat → Nat → Int} {S : Nat → Int} {T j : Nat} {v : Int} : ∀ (e i f : Nat), i ≤ f → f ≤ i + e → swt ct S T f j = v → swt ct S T (gfl ct S T j v e i) j = v ∧ i ≤ gfl ct S T j v e i ∧ gfl ct S T j v e i ≤ i + e ∧ ∀ g, i ≤ g → g < gfl ct S T j v e i → swt ct S T g j ≠ v := by
  intro e
  induction e with
  | zero =>
    intro i f h1 h2 h3
    have : f = i := by omega
    subst this
    simp only [gfl]
    exact ⟨h3, by omega, by omega, fun g a b => by omega⟩
  | succ e ih =>
    intro i f h1 h2 h3
    simp only [gfl]
    by_cases w : swt ct S T i j = v
    · rw [if_pos w]
      exact ⟨w, by omega, by omega, fun g a b => by omega⟩
    · rw [if_neg w]
      have ne : f ≠ i := fun z => w (by rw [← z]; exact h3)
      obtain ⟨q1, q2, q3, q4⟩ := ih (i + 1) f (by omega) (by omega) h3
      refine ⟨q1, by omega, by omega, fun g a b => ?_⟩
      by_cases z : g = i
      · rw [z]; exact w
      · exact q4 g (by omega) b
theorem lsb_ex {ct : Nat → Nat → Int} {S : Nat → Int} {T j : Nat} : ∀ n : Nat, lsb ct S T j n < 1000000 → ∃ i, i < n ∧ swt ct S T i j = lsb ct S T j n := by
  intro n
  induction n with
  | zero => intro q; simp only [lsb] at q; omega
  | succ n ih =>
    intro q
    simp only [lsb] at q ⊢
    by_cases w : swt ct S T n j < lsb ct S T j n
    · rw [if_pos w]
      exact ⟨n, by omega, rfl⟩
    · rw [if_neg w] at q ⊢
      obtain ⟨i, h1, h2⟩ := ih q
      exact ⟨i, by omega, h2⟩
theorem swt_in {ct : Nat → Nat → Int} {S : Nat → Int} {T i j : Nat} (q : swt ct S T i j < 1000000) : T.testBit i = false ∧ 0 ≤ ct i j ∧ swt ct S T i j = ct i j + S (T ||| 2 ^ i) := by
  unfold swt at q ⊢
  by_cases w : T.testBit i = true ∨ ct i j < 0
  · rw [if_pos w] at q; omega
  · rw [if_neg w] at q ⊢
    have w1 : T.testBit i = false := by cases hb : T.testBit i with
      | true => exact absurd (Or.inl hb) w
      | false => rfl
    have w2 : ¬ ct i j < 0 := fun z => w (Or.inr z)
    by_cases m : ct i j + S (T ||| 2 ^ i) < 1000000
    · rw [if_pos m]
      exact ⟨w1, by omega, rfl⟩
    · rw [if_neg m] at q; omega
/-- the flat that want nv - (e + 1) gets -/
def gf1 (ct : Nat → Nat → Int) (nf nv e T : Nat) : Nat := gfl ct (bsm ct nf nv e) T (nv - (e + 1)) (bsm ct nf nv (e + 1) T) (nf - 1) 0
def gvs (ct : Nat → Nat → Int) (nf nv : Nat) : Nat → Nat → Nat → Nat
  | 0, _, _ => 0
  | e + 1, T, 0 => gf1 ct nf nv e T
  | e + 1, T, k + 1 => gvs ct nf nv e (T ||| 2 ^ gf1 ct nf nv e T) k
theorem gf1_p {ct : Nat → Nat → Int} {nf nv e T : Nat} (q : bsm ct nf nv (e + 1) T < 1000000) : gf1 ct nf nv e T < nf ∧ T.testBit (gf1 ct nf nv e T) = false ∧ 0 ≤ ct (gf1 ct nf nv e T) (nv - (e + 1)) ∧ bsm ct nf nv (e + 1) T = ct (gf1 ct nf nv e T) (nv - (e + 1)) + bsm ct nf nv e (T ||| 2 ^ gf1 ct nf nv e T) ∧ ∀ g, g < gf1 ct nf nv e T → swt ct (bsm ct nf nv e) T g (nv - (e + 1)) ≠ bsm ct nf nv (e + 1) T := by
  have q' : lsb ct (bsm ct nf nv e) T (nv - (e + 1)) nf < 1000000 := q
  obtain ⟨i, h1, h2⟩ := lsb_ex nf q'
  have h2' : swt ct (bsm ct nf nv e) T i (nv - (e + 1)) = bsm ct nf nv (e + 1) T := h2
  obtain ⟨p1, p2, p3, p4⟩ := gfl_p (nf - 1) 0 i (by omega) (by omega) h2'
  have p1' : swt ct (bsm ct nf nv e) T (gf1 ct nf nv e T) (nv - (e + 1)) = bsm ct nf nv (e + 1) T := p1
  obtain ⟨s1, s2, s3⟩ := swt_in (ct := ct) (S := bsm ct nf nv e) (T := T) (i := gf1 ct nf nv e T) (j := nv - (e + 1)) (by rw [p1']; exact q)
  refine ⟨by have : gf1 ct nf nv e T ≤ 0 + (nf - 1) := p3; omega, s1, s2, by rw [← p1']; exact s3, fun g hg => p4 g (by omega) hg⟩
theorem L_g14 {N : Nat} {h : Hs} (hS : Sk h) {nf nv : Nat} {fA vA : Nat → Nat} {fh fw fp vh vw vp : Nat → Int} (hf : nf ≤ 12) (hnv : nv ≤ 6) (g4 : gI h 604 9 = iI nf) (pF : PF h nf fA fh fw fp) (pV : PV h nv vA vh vw vp) {T j : Nat} (hT : T < 2 ^ nf) (hj : j < nv) {S : Nat → Int} {v : Int} (v0 : 0 ≤ v ∧ v ≤ 1000000) (h13 : aI h 13 T = iI v) (hv : ∀ i, i < nf → T.testBit i = false → aI h 13 (T ||| 2 ^ i) = iI (S (T ||| 2 ^ i)) ∧ 0 ≤ S (T ||| 2 ^ i) ∧ S (T ||| 2 ^ i) ≤ 1000000) (G : Hs → Int32 → Int32 → Option Hs) : ∀ (e i fu : Nat), i + e + 1 = nf → e < fu → fX6_give_b14 N G 9 fu h (iI T) (iI j) (iI i) = fX6_give_b51 N G 9 h (iI T) (iI j) (iI (gfl (ctf fh fw fp vh vw vp) S T j v e i)) := by
  have o4 : oI 6 4 h (some 9) = some (iI nf) := oIv (by rw [ss_9 hS]) g4
  have hp := p12 hf
  intro e
  induction e with
  | zero =>
    intro i fu hi hfu
    obtain ⟨fu, rfl⟩ : ∃ m, fu = m + 1 := ⟨fu - 1, by omega⟩
    show fX6_give_b14_body N G (fX6_give_b14 N G 9 fu) 9 h (iI T) (iI j) (iI i) = _
    have a1 : iI ((nf : Int) - 1) ≤ iI (i : Int) := (iI_le (by omega) (by omega) (by omega) (by omega)).mpr (by omega)
    simp only [fX6_give_b14_body, lit, gfl]
    refine bst o4 ?_
    rw [iI_sub]
    refine ifp (a1) ?_
    rfl
  | succ e ih =>
    intro i fu hi hfu
    obtain ⟨fu, rfl⟩ : ∃ m, fu = m + 1 := ⟨fu - 1, by omega⟩
    show fX6_give_b14_body N G (fX6_give_b14 N G 9 fu) 9 h (iI T) (iI j) (iI i) = _
    have a1 : ¬ iI ((nf : Int) - 1) ≤ iI (i : Int) := fun z => by have := (iI_le (by omega) (by omega) (by omega) (by omega)).mp z; omega
    have hil : i < nf := by omega
    have sw := v_swt (N := N) hS hf pF pV hT hil hj (hv i hil)
    have b1 := swt_b (ct := ctf fh fw fp vh vw vp) (j := j) (fun z => (hv i hil z).2.1)
    have lq := lQv (t := 26) (ss_11 hS) (show j < 6 by omega) (by omega) (pV j hj).1.1
    have lv := lAv (ss_13 hS) (show T < 4096 by omega) (by omega) h13
    have le : iI (swt (ctf fh fw fp vh vw vp) S T i j) = iI v ↔ swt (ctf fh fw fp vh vw vp) S T i j = v := iI_eq (by omega) (by omega) (by omega) (by omega)
    have q := ih (i + 1) fu (by omega) (by omega)
    simp only [Int.natCast_add, Int.natCast_one] at q
    simp only [fX6_give_b14_body, lit, iI_add, Option.bind_some, gfl]
    refine bst o4 ?_
    rw [iI_sub]
    by_cases m : swt (ctf fh fw fp vh vw vp) S T i j = v
    · rw [if_pos m]
      refine ifn (a1) ?_
      refine bst (sR_601_9 hS) ?_
      refine bst (lq) ?_
      refine bst (rcv (by rw [ss_9 hS])) ?_
      refine bst (sw) ?_
      refine bst (sR_603_9 hS) ?_
      refine bst (lv) ?_
      refine ifp (le.mpr m) ?_
      rfl
    · rw [if_neg m]
      refine ifn (a1) ?_
      refine bst (sR_601_9 hS) ?_
      refine bst (lq) ?_
      refine bst (rcv (by rw [ss_9 hS])) ?_
      refine bst (sw) ?_
      refine bst (sR_603_9 hS) ?_
      refine bst (lv) ?_
      refine ifn (fun z => m (le.mp z)) ?_
      exact q
theorem L_give {N : Nat} (hN : 100000000 ≤ N) {h0 : Hs} (hS0 : Sk h0) (hz : 70 ≤ sz h0) {nf nv : Nat} {fA vA : Nat → Nat} {fh fw fp vh vw vp : Nat → Int} (hf : nf ≤ 12) (hnv : nv ≤ 6) (g4 : gI h0 604 9 = iI nf) (g5 : gI h0 605 9 = iI nv) (pF : PF h0 nf fA fh fw fp) (pV : PV h0 nv vA vh vw vp) (hsm : ∀ W, W < 2 ^ nf → pcn 12 W ≤ nv → aI h0 13 W = iI (bsm (ctf fh fw fp vh vw vp) nf nv (nv - pcn 12 W) W)) : ∀ (e j T fu : Nat) (h : Hs), j + e = nv → e < fu → T < 2 ^ nf → pcn 12 T = j → bsm (ctf fh fw fp vh vw vp) nf nv e T < 1000000 → Ke [606] [12] [] [] h0 h → sz h = sz h0 → ∃ h', fX6_give_b4 N 9 fu h (iI T) (iI j) = some h' ∧ Ke [606] [12] [] [] h0 h' ∧ sz h' = sz h0 ∧ gI h' 606 9 = iI nv ∧ (∀ k, k < e → aI h' 12 (j + k) = iI (gvs (ctf fh fw fp vh vw vp) nf nv e T k)) ∧ (∀ k, k < j → aI h' 12 k = aI h 12 k) := by
  have hp := p12 hf
  intro e
  induction e with
  | zero =>
    intro j T fu h hj hfu hT hpc hb ke s
    obtain ⟨fu, rfl⟩ : ∃ m, fu = m + 1 := ⟨fu - 1, by omega⟩
    have hS := hS0.e hz ke (by decide)
    have o5 : oI 6 5 h (some 9) = some (iI nv) := oIv (by rw [ss_9 hS]) ((ke.1 605 9 (by decide) (by omega)).trans g5)
    have a1 : iI (nv : Int) ≤ iI (j : Int) := (iI_le (by omega) (by omega) (by omega) (by omega)).mpr (by omega)
    refine ⟨uI h 606 9 (iI nv), ?_, ke.u 606 9 _ (by decide), s, by simp [HR], fun k hk => by omega, fun k hk => rfl⟩
    show fX6_give_b4_body N (fX6_give_b4 N 9 fu) 9 h (iI T) (iI j) = _
    have zq : qI 6 6 h (some 9) (iI nv) = some (uI h 606 9 (iI nv)) := qIv (by rw [ss_9 hS])
    simp only [fX6_give_b4_body]
    refine bst (o5) ?_
    refine ifp (a1) ?_
    refine bst (o5) ?_
    refine bst (zq) ?_
    rfl
  | succ e ih =>
    intro j T fu h hj hfu hT hpc hb ke s
    obtain ⟨fu, rfl⟩ : ∃ m, fu = m + 1 := ⟨fu - 1, by omega⟩
    have hS := hS0.e hz ke (by decide)
    have o5 : oI 6 5 h (some 9) = some (iI nv) := oIv (by rw [ss_9 hS]) ((ke.1 605 9 (by decide) (by omega)).trans g5)
    have a1 : ¬ iI (nv : Int) ≤ iI (j : Int) := fun z => by have := (iI_le (by omega) (by omega) (by omega) (by omega)).mp z; omega
    have jj : nv - (e + 1) = j := by omega
    have bb := bsm_b (ctf fh fw fp vh vw vp) nf nv (e + 1) T
    obtain ⟨p1, p2, p3, p4, p5⟩ := gf1_p hb
    have h13 : aI h 13 T = iI (bsm (ctf fh fw fp vh vw vp) nf nv (e + 1) T) := by
      rw [ke.2.1 13 (by decide) (by omega), hsm T hT (by omega), show nv - pcn 12 T = e + 1 by omega]
    have q14 := L_g14 (N := N) hS hf hnv ((ke.1 604 9 (by decide) (by omega)).trans g4) (pF.e hz ke (by decide) (by decide)) (pV.e hz ke (by decide) (by decide)) hT (show j < nv by omega) (S := bsm (ctf fh fw fp vh vw vp) nf nv e) bb h13 (fun i hi hb => by
      obtain ⟨-, s2⟩ := set_f (i := i) (T := T) (by omega) (by omega)
      obtain ⟨s3, s4⟩ := s2 hb
      have b3 := bsm_b (ctf fh fw fp vh vw vp) nf nv e (T ||| 2 ^ i)
      refine ⟨?_, b3⟩
      rw [ke.2.1 13 (by decide) (by omega), hsm (T ||| 2 ^ i) (or_lt hi hT) (by omega), s4, show nv - (pcn 12 T + 1) = e by omega]) (fX6_give_b4 N 9 fu) (nf - 1) 0 N (by omega) (by omega)
    have eg : gfl (ctf fh fw fp vh vw vp) (bsm (ctf fh fw fp vh vw vp) nf nv e) T j (bsm (ctf fh fw fp vh vw vp) nf nv (e + 1) T) (nf - 1) 0 = gf1 (ctf fh fw fp vh vw vp) nf nv e T := by unfold gf1; rw [jj]
    rw [eg] at q14
    have e2 : ∀ k, gvs (ctf fh fw fp vh vw vp) nf nv (e + 1) T (k + 1) = gvs (ctf fh fw fp vh vw vp) nf nv e (T ||| 2 ^ gf1 (ctf fh fw fp vh vw vp) nf nv e T) k := fun k => rfl
    have e0 : gvs (ctf fh fw fp vh vw vp) nf nv (e + 1) T 0 = gf1 (ctf fh fw fp vh vw vp) nf nv e T := rfl
    have b4 := bsm_b (ctf fh fw fp vh vw vp) nf nv e (T ||| 2 ^ gf1 (ctf fh fw fp vh vw vp) nf nv e T)
    generalize gf1 (ctf fh fw fp vh vw vp) nf nv e T = f at *
    obtain ⟨-, s2⟩ := set_f (i := f) (T := T) (by omega) (by omega)
    obtain ⟨s3, s4⟩ := s2 p2
    obtain ⟨h', r1, r2, r3, r4, r5, r6⟩ := ih (j + 1) (T ||| 2 ^ f) fu (uA h 12 j (iI f)) (by omega) (by omega) (or_lt p1 hT) (by omega) (by omega) (ke.b 12 j _ (by decide)) s
    refine ⟨h', ?_, r2, r3, r4, fun k hk => ?_, fun k hk => ?_⟩
    · show fX6_give_b4_body N (fX6_give_b4 N 9 fu) 9 h (iI T) (iI j) = _
      simp only [fX6_give_b4_body]
      refine bst o5 (ifn a1 ?_)
      refine q14.trans ?_
      have st : sA h (some 12) (iI (j : Int)) (iI (f : Int)) = some (uA h 12 j (iI f)) := sAv (ss_12 hS) (show j < 6 by omega) (by omega)
      have eo : iI (T : Int) ||| (iI 1 <<< (iI (f : Int) &&& iI 31)) = iI ((T ||| 2 ^ f : Nat) : Int) := by
        rw [sh_f (by omega), iI_or (by omega) (by have := Nat.pow_lt_pow_right (a := 2) (by omega) p1; omega)]
      simp only [Int.natCast_add, Int.natCast_one] at r1
      simp only [fX6_give_b51, lit, iI_add, Option.bind_some, eo]
      refine bst (sR_602_9 hS) ?_
      refine bst (st) ?_
      exact r1
    · cases k with
      | zero =>
        have := r6 j (by omega)
        rw [Nat.add_zero, this, e0]
        simp [HR]
      | succ k =>
        have := r5 k (by omega)
        rw [e2, ← this]
        congr 1
        omega
    · rw [r6 k (by omega)]
      have : k ≠ j := by omega
      simp [HR, this]
