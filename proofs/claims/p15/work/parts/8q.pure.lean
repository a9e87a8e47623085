/-! ===== paint: the class's least sum ===== -/
theorem PF.e {F A FR AQ : List Nat} {h h2 : Hs} {nf : Nat} {fA : Nat → Nat} {fh fw fp : Nat → Int} (hP : PF h nf fA fh fw fp) (hz : 70 ≤ sz h) (k : Ke F A FR AQ h h2) (hF : ∀ f ∈ [300, 301, 302], f ∉ F) (hQ : 10 ∉ AQ) : PF h2 nf fA fh fw fp := fun i hi => by
  obtain ⟨⟨f1, f2, f3, f4, f5, f6, f7⟩, f8⟩ := hP i hi
  have k6 := k.2.2.2.2.2
  exact ⟨⟨by rw [k.2.2.2.1 _ hQ (by omega)]; exact f1, f2, by omega, (k.2.2.2.2.1 _ f3).trans f4, (k.1 _ _ (hF 300 (by decide)) f3).trans f5, (k.1 _ _ (hF 301 (by decide)) f3).trans f6, (k.1 _ _ (hF 302 (by decide)) f3).trans f7⟩, f8⟩
theorem PV.e {F A FR AQ : List Nat} {h h2 : Hs} {nv : Nat} {vA : Nat → Nat} {vh vw vp : Nat → Int} (hP : PV h nv vA vh vw vp) (hz : 70 ≤ sz h) (k : Ke F A FR AQ h h2) (hF : ∀ f ∈ [300, 301, 302], f ∉ F) (hQ : 11 ∉ AQ) : PV h2 nv vA vh vw vp := fun i hi => by
  obtain ⟨⟨f1, f2, f3, f4, f5, f6, f7⟩, f8⟩ := hP i hi
  have k6 := k.2.2.2.2.2
  exact ⟨⟨by rw [k.2.2.2.1 _ hQ (by omega)]; exact f1, f2, by omega, (k.2.2.2.2.1 _ f3).trans f4, (k.1 _ _ (hF 300 (by decide)) f3).trans f5, (k.1 _ _ (hF 301 (by decide)) f3).trans f6, (k.1 _ _ (hF 302 (by decide)) f3).trans f7⟩, f8⟩
theorem swt_b {ct : Nat → Nat → Int} {S : Nat → Int} {T i j : Nat} (hv : T.testBit i = false → 0 ≤ S (T ||| 2 ^ i)) : 0 ≤ swt ct S T i j ∧ swt ct S T i j ≤ 1000000 := by
  unfold swt
  by_cases w : T.testBit i = true ∨ ct i j < 0
  · rw [if_pos w]; omega
  · rw [if_neg w]
    have w1 : T.testBit i = false := by cases hb : T.testBit i with
      | true => exact absurd (Or.inl hb) w
      | false => rfl
    have w2 : ¬ ct i j < 0 := fun z => w (Or.inr z)
    have := hv w1
    by_cases q : ct i j + S (T ||| 2 ^ i) < 1000000
    · rw [if_pos q]; omega
    · rw [if_neg q]; omega
theorem lsb_b {ct : Nat → Nat → Int} {S : Nat → Int} {T j : Nat} : ∀ n : Nat, (∀ i, i < n → T.testBit i = false → 0 ≤ S (T ||| 2 ^ i)) → 0 ≤ lsb ct S T j n ∧ lsb ct S T j n ≤ 1000000 := by
  intro n
  induction n with
  | zero => intro _; simp only [lsb]; omega
  | succ n ih =>
    intro hv
    have a1 := ih (fun i hi => hv i (by omega))
    have a2 := swt_b (ct := ct) (j := j) (hv n (by omega))
    simp only [lsb]
    by_cases q : swt ct S T n j < lsb ct S T j n
    · rw [if_pos q]; omega
    · rw [if_neg q]; omega
def bsm (ct : Nat → Nat → Int) (nf nv : Nat) : Nat → Nat → Int
  | 0, _ => 0
  | e + 1, T => lsb ct (bsm ct nf nv e) T (nv - (e + 1)) nf
theorem bsm_b (ct : Nat → Nat → Int) (nf nv : Nat) : ∀ e T : Nat, 0 ≤ bsm ct nf nv e T ∧ bsm ct nf nv e T ≤ 1000000 := by
  intro e
  induction e with
  | zero => intro T; simp only [bsm]; omega
  | succ e ih => intro T; exact lsb_b nf (fun i _ _ => (ih _).1)
theorem L_lsb {N : Nat} {h : Hs} (hS : Sk h) {nf nv : Nat} {fA vA : Nat → Nat} {fh fw fp vh vw vp : Nat → Int} (hf : nf ≤ 12) (g4 : gI h 604 9 = iI nf) (pF : PF h nf fA fh fw fp) (pV : PV h nv vA vh vw vp) {T j : Nat} (hT : T < 2 ^ nf) (hj : j < nv) {S : Nat → Int} (hv : ∀ i, i < nf → T.testBit i = false → aI h 13 (T ||| 2 ^ i) = iI (S (T ||| 2 ^ i)) ∧ 0 ≤ S (T ||| 2 ^ i) ∧ S (T ||| 2 ^ i) ≤ 1000000) : ∀ (e i fu : Nat), i + e = nf → e < fu → fX6_leastSumBehind_b6 N 9 fu h (iI T) (some (vA j)) (iI (lsb (ctf fh fw fp vh vw vp) S T j i)) (iI i) = some (iI (lsb (ctf fh fw fp vh vw vp) S T j nf), h) := by
  have o4 : oI 6 4 h (some 9) = some (iI nf) := oIv (by rw [ss_9 hS]) g4
  intro e
  induction e with
  | zero =>
    intro i fu hi hfu
    obtain ⟨fu, rfl⟩ : ∃ m, fu = m + 1 := ⟨fu - 1, by omega⟩
    have ei : i = nf := by omega
    subst ei
    show fX6_leastSumBehind_b6_body N (fX6_leastSumBehind_b6 N 9 fu) 9 h (iI T) (some (vA j)) (iI (lsb (ctf fh fw fp vh vw vp) S T j i)) (iI i) = _
    have a1 : iI (i : Int) ≤ iI (i : Int) := (iI_le (by omega) (by omega) (by omega) (by omega)).mpr (by omega)
    simp only [fX6_leastSumBehind_b6_body]
    refine bst (o4) ?_
    refine ifp (a1) ?_
    rfl
  | succ e ih =>
    intro i fu hi hfu
    obtain ⟨fu, rfl⟩ : ∃ m, fu = m + 1 := ⟨fu - 1, by omega⟩
    have hil : i < nf := by omega
    have sw := v_swt (N := N) hS hf pF pV hT hil hj (hv i hil)
    have q := ih (i + 1) fu (by omega) (by omega)
    show fX6_leastSumBehind_b6_body N (fX6_leastSumBehind_b6 N 9 fu) 9 h (iI T) (some (vA j)) (iI (lsb (ctf fh fw fp vh vw vp) S T j i)) (iI i) = _
    have a1 : ¬ iI (nf : Int) ≤ iI (i : Int) := fun z => by have := (iI_le (by omega) (by omega) (by omega) (by omega)).mp z; omega
    have b1 := swt_b (ct := ctf fh fw fp vh vw vp) (j := j) (fun z => (hv i hil z).2.1)
    have b2 := lsb_b (ct := ctf fh fw fp vh vw vp) (S := S) (T := T) (j := j) i (fun k hk z => (hv k (by omega) z).2.1)
    have lm : iI (swt (ctf fh fw fp vh vw vp) S T i j) < iI (lsb (ctf fh fw fp vh vw vp) S T j i) ↔ swt (ctf fh fw fp vh vw vp) S T i j < lsb (ctf fh fw fp vh vw vp) S T j i := iI_lt (by omega) (by omega) (by omega) (by omega)
    rw [← q]
    simp only [fX6_leastSumBehind_b6_body, lit, iI_add, Option.bind_some, lsb, Int.natCast_add, Int.natCast_one]
    refine bst (o4) ?_
    refine ifn (a1) ?_
    refine bst (rcv (by rw [ss_9 hS])) ?_
    refine bst (sw) ?_
    skip
    by_cases m : swt (ctf fh fw fp vh vw vp) S T i j < lsb (ctf fh fw fp vh vw vp) S T j i
    · rw [if_pos m, if_pos (lm.mpr m)]
    · rw [if_neg m, if_neg (fun z => m (lm.mp z))]
theorem L_sum {N : Nat} (hN : 100000000 ≤ N) {h0 : Hs} (hS0 : Sk h0) (hz : 70 ≤ sz h0) {nf nv : Nat} {fA vA : Nat → Nat} {fh fw fp vh vw vp : Nat → Int} (hf : nf ≤ 12) (hnv : nv ≤ 6) (g4 : gI h0 604 9 = iI nf) (g5 : gI h0 605 9 = iI nv) (pF : PF h0 nf fA fh fw fp) (pV : PV h0 nv vA vh vw vp) : ∀ (k fu : Nat) (h : Hs), k ≤ 2 ^ nf → k < fu → Ke [] [13] [] [] h0 h → sz h = sz h0 → (∀ W, k ≤ W → W < 2 ^ nf → pcn 12 W ≤ nv → aI h 13 W = iI (bsm (ctf fh fw fp vh vw vp) nf nv (nv - pcn 12 W) W)) → ∃ h', fX6_leastSum_b9 N 9 fu h (iI ((k : Int) - 1)) = some (iI (bsm (ctf fh fw fp vh vw vp) nf nv nv 0), h') ∧ Ke [] [13] [] [] h0 h' ∧ sz h' = sz h0 ∧ (∀ W, W < 2 ^ nf → pcn 12 W ≤ nv → aI h' 13 W = iI (bsm (ctf fh fw fp vh vw vp) nf nv (nv - pcn 12 W) W)) := by
  have hp := p12 hf
  have hp0 : 0 < 2 ^ nf := Nat.pow_pos (by omega)
  intro k
  induction k with
  | zero =>
    intro fu h hk hfu ke s hv
    obtain ⟨fu, rfl⟩ : ∃ m, fu = m + 1 := ⟨fu - 1, by omega⟩
    have hS := hS0.e hz ke (by decide)
    have v0 := hv 0 (by omega) hp0 (by show 0 ≤ nv; omega)
    have lv := lAv (ss_13 hS) (show 0 < 4096 by omega) (by omega) v0
    refine ⟨h, ?_, ke, s, fun W h1 h2 => hv W (by omega) h1 h2⟩
    show fX6_leastSum_b9_body N (fX6_leastSum_b9 N 9 fu) 9 h (iI (((0 : Nat) : Int) - 1)) = _
    have a1 : iI (((0 : Nat) : Int) - 1) < iI 0 := by decide
    simp only [fX6_leastSum_b9_body, lit]
    refine ifp (a1) ?_
    refine bst (sR_603_9 hS) ?_
    refine bst (lv) ?_
    rfl
  | succ k ih =>
    intro fu h hk hfu ke s hv
    obtain ⟨fu, rfl⟩ : ∃ m, fu = m + 1 := ⟨fu - 1, by omega⟩
    have hS := hS0.e hz ke (by decide)
    have ek : (((k + 1 : Nat) : Int) - 1) = (k : Int) := by omega
    rw [ek]
    have hkl : k < 2 ^ nf := by omega
    have bc := v_bcn (N := N) (h := h) (T := k) (by omega)
    have o5 : oI 6 5 h (some 9) = some (iI nv) := oIv (by rw [ss_9 hS]) ((ke.1 605 9 (by decide) (by omega)).trans g5)
    have a1 : ¬ iI (k : Int) < iI 0 := fun z => by have := (iI_lt (by omega) (by omega) (by omega) (by omega)).mp z; omega
    have pb : pcn 12 k ≤ 12 := by simp only [pcn]; omega
    have pe : iI (pcn 12 k : Int) = iI (nv : Int) ↔ pcn 12 k = nv := (iI_eq (by omega) (by omega) (by omega) (by omega)).trans (by omega)
    have pl : iI (nv : Int) ≤ iI (pcn 12 k : Int) ↔ nv ≤ pcn 12 k := (iI_le (by omega) (by omega) (by omega) (by omega)).trans (by omega)
    have stp : ∀ v : Int, (pcn 12 k ≤ nv → v = bsm (ctf fh fw fp vh vw vp) nf nv (nv - pcn 12 k) k) → ∃ h', fX6_leastSum_b9 N 9 fu (uA h 13 k (iI v)) (iI ((k : Int) - 1)) = some (iI (bsm (ctf fh fw fp vh vw vp) nf nv nv 0), h') ∧ Ke [] [13] [] [] h0 h' ∧ sz h' = sz h0 ∧ (∀ W, W < 2 ^ nf → pcn 12 W ≤ nv → aI h' 13 W = iI (bsm (ctf fh fw fp vh vw vp) nf nv (nv - pcn 12 W) W)) := by
      intro v hvv
      refine ih fu (uA h 13 k (iI v)) (by omega) (by omega) (ke.b 13 k _ (by decide)) s (fun W h1 h2 h3 => ?_)
      by_cases w : W = k
      · subst w
        rw [← hvv h3]
        simp [HR]
      · have := hv W (by omega) h2 h3
        simp [HR, w, this]
    have un : fX6_leastSum_b9 N 9 (fu + 1) h (iI k) = fX6_leastSum_b9_body N (fX6_leastSum_b9 N 9 fu) 9 h (iI k) := rfl
    rw [un]
    have st13 : ∀ v, sA h (some 13) (iI (k : Int)) v = some (uA h 13 k v) := fun v => sAv (ss_13 hS) (show k < 4096 by omega) (by omega)
    have em : iI (k : Int) + iI (-1) = iI ((k : Int) - 1) := by rw [iI_add]; rfl
    simp only [fX6_leastSum_b9_body, fX6_leastSum_b61, lit, iI_neg, em, Option.bind_some]
    by_cases w1 : pcn 12 k = nv
    · obtain ⟨h', q1, q2⟩ := stp 0 (fun _ => by rw [w1, Nat.sub_self]; rfl)
      refine ⟨h', ?_, q2⟩
      refine ifn (a1) ?_
      refine bst (bc) ?_
      refine bst (o5) ?_
      refine ifp (pe.mpr w1) ?_
      refine bst (sR_603_9 hS) ?_
      refine bst (st13 _) ?_
      exact q1
    · by_cases w2 : nv ≤ pcn 12 k
      · obtain ⟨h', q1, q2⟩ := ih fu h (by omega) (by omega) ke s (fun W h1 h2 h3 => by
          by_cases w : W = k
          · subst w; omega
          · exact hv W (by omega) h2 h3)
        refine ⟨h', ?_, q2⟩
        refine ifn (a1) ?_
        refine bst (bc) ?_
        refine bst (o5) ?_
        refine ifn (fun z => w1 (pe.mp z)) ?_
        refine bst (o5) ?_
        refine ifp (pl.mpr w2) ?_
        exact q1
      · have pV1 := pV.e hz ke (by decide) (by decide)
        have pF1 := pF.e hz ke (by decide) (by decide)
        have hj : pcn 12 k < nv := by omega
        obtain ⟨e, he⟩ : ∃ e, nv - pcn 12 k = e + 1 := ⟨nv - pcn 12 k - 1, by omega⟩
        have ll := L_lsb (N := N) hS hf ((ke.1 604 9 (by decide) (by omega)).trans g4) pF1 pV1 hkl hj (S := bsm (ctf fh fw fp vh vw vp) nf nv e) (fun i hi hb => by
          obtain ⟨-, s2⟩ := set_f (i := i) (T := k) (by omega) (by omega)
          obtain ⟨s3, s4⟩ := s2 hb
          have bb := bsm_b (ctf fh fw fp vh vw vp) nf nv e (k ||| 2 ^ i)
          have := hv (k ||| 2 ^ i) (by omega) (or_lt hi hkl) (by omega)
          rw [s4, show nv - (pcn 12 k + 1) = e by omega] at this
          exact ⟨this, bb⟩) nf 0 N (by omega) (by omega)
        have jj : nv - (e + 1) = pcn 12 k := by omega
        obtain ⟨h', q1, q2⟩ := stp (lsb (ctf fh fw fp vh vw vp) (bsm (ctf fh fw fp vh vw vp) nf nv e) k (pcn 12 k) nf) (fun _ => by rw [he]; simp only [bsm]; rw [jj])
        refine ⟨h', ?_, q2⟩
        have lw := lQv (t := 26) (ss_11 hS) (show pcn 12 k < 6 by omega) (by omega) (pV1 (pcn 12 k) hj).1.1
        have l2 : fX6_leastSumBehind N h 9 (iI k) (some (vA (pcn 12 k))) = some (iI (lsb (ctf fh fw fp vh vw vp) (bsm (ctf fh fw fp vh vw vp) nf nv e) k (pcn 12 k) nf), h) := by
          simp only [fX6_leastSumBehind, lit]
          exact ll
        refine ifn (a1) ?_
        refine bst (bc) ?_
        refine bst (o5) ?_
        refine ifn (fun z => w1 (pe.mp z)) ?_
        refine bst (o5) ?_
        refine ifn (fun z => w2 (pl.mp z)) ?_
        refine bst (sR_603_9 hS) ?_
        refine bst (sR_601_9 hS) ?_
        refine bst (lw) ?_
        refine bst (rcv (by rw [ss_9 hS])) ?_
        refine bst (l2) ?_
        refine bst (st13 _) ?_
        exact q1
theorem v_lsum {N : Nat} (hN : 100000000 ≤ N) {h : Hs} (hS : Sk h) (hz : 70 ≤ sz h) {nf nv : Nat} {fA vA : Nat → Nat} {fh fw fp vh vw vp : Nat → Int} (hf : nf ≤ 12) (hnv : nv ≤ 6) (g4 : gI h 604 9 = iI nf) (g5 : gI h 605 9 = iI nv) (pF : PF h nf fA fh fw fp) (pV : PV h nv vA vh vw vp) : ∃ h', fX6_leastSum N h 9 = some (iI (bsm (ctf fh fw fp vh vw vp) nf nv nv 0), h') ∧ Ke [] [13] [] [] h h' ∧ sz h' = sz h ∧ (∀ W, W < 2 ^ nf → pcn 12 W ≤ nv → aI h' 13 W = iI (bsm (ctf fh fw fp vh vw vp) nf nv (nv - pcn 12 W) W)) := by
  have hp := p12 hf
  obtain ⟨h', q1, q2⟩ := L_sum (N := N) hN hS hz hf hnv g4 g5 pF pV (2 ^ nf) N h (by omega) (by omega) Ke_rf rfl (fun W h1 h2 => by omega)
  refine ⟨h', ?_, q2⟩
  have o4 : oI 6 4 h (some 9) = some (iI nf) := oIv (by rw [ss_9 hS]) g4
  have es : iI 1 <<< (iI (nf : Int) &&& iI 31) = iI ((2 ^ nf : Nat) : Int) := by
    by_cases w : nf < 12
    · exact sh_f w
    · have : nf = 12 := by omega
      subst this
      decide
  simp only [fX6_leastSum, lit, Option.bind_some]
  refine bst (o4) ?_
  skip
  rw [es, iI_sub]
  exact q1
/-! ===== paint: the class gives ===== -/
def gfl (ct : Nat → Nat → Int) (S : Nat → Int) (T j : Nat) (v : Int) : Nat → Nat → Nat
  | 0, i => i
  | e + 1, i => if swt ct S T i j = v then i else gfl ct S T j v e (i + 1)
theorem gfl_p {ct : Nat → Nat → Int} {S : Nat → Int} {T j : Nat} {v : Int} : ∀ (e i f : Nat), i ≤ f → f ≤ i + e → swt ct S T f j = v → swt ct S T (gfl ct S T j v e i) j = v ∧ i ≤ gfl ct S T j v e i ∧ gfl ct S T j v e i ≤ i + e ∧ ∀ g, i ≤ g → g < gfl ct S T j v e i → swt ct S T g j ≠ v := by
  intro e
  induction e with
  | zero =>
    intro i f h1 h2 h3
    have : f = i := by omega
    subst this
    simp only [gfl]
    exact ⟨h3, by omega, by omega, fun g a b => by omega⟩
  | succ e ih =>
    intro i f h1 h2 h3
    simp only [gfl]
    by_cases w : swt ct S T i j = v
    · rw [if_pos w]
      exact ⟨w, by omega, by omega, fun g a b => by omega⟩
    · rw [if_neg w]
      have ne : f ≠ i := fun z => w (by rw [← z]; exact h3)
      obtain ⟨q1, q2, q3, q4⟩ := ih (i + 1) f (by omega) (by omega) h3
      refine ⟨q1, by omega, by omega, fun g a b => ?_⟩
      by_cases z : g = i
      · rw [z]; exact w
      · exact q4 g (by omega) b
theorem lsb_ex {ct : Nat → Nat → Int} {S : Nat → Int} {T j : Nat} : ∀ n : Nat, lsb ct S T j n < 1000000 → ∃ i, i < n ∧ swt ct S T i j = lsb ct S T j n := by
  intro n
  induction n with
  | zero => intro q; simp only [lsb] at q; omega
  | succ n ih =>
    intro q
    simp only [lsb] at q ⊢
    by_cases w : swt ct S T n j < lsb ct S T j n
    · rw [if_pos w]
      exact ⟨n, by omega, rfl⟩
    · rw [if_neg w] at q ⊢
      obtain ⟨i, h1, h2⟩ := ih q
      exact ⟨i, by omega, h2⟩
theorem swt_in {ct : Nat → Nat → Int} {S : Nat → Int} {T i j : Nat} (q : swt ct S T i j < 1000000) : T.testBit i = false ∧ 0 ≤ ct i j ∧ swt ct S T i j = ct i j + S (T ||| 2 ^ i) := by
  unfold swt at q ⊢
  by_cases w : T.testBit i = true ∨ ct i j < 0
  · rw [if_pos w] at q; omega
  · rw [if_neg w] at q ⊢
    have w1 : T.testBit i = false := by cases hb : T.testBit i with
      | true => exact absurd (Or.inl hb) w
      | false => rfl
    have w2 : ¬ ct i j < 0 := fun z => w (Or.inr z)
    by_cases m : ct i j + S (T ||| 2 ^ i) < 1000000
    · rw [if_pos m]
      exact ⟨w1, by omega, rfl⟩
    · rw [if_neg m] at q; omega
/-- the flat that want nv - (e + 1) gets -/
def gf1 (ct : Nat → Nat → Int) (nf nv e T : Nat) : Nat := gfl ct (bsm ct nf nv e) T (nv - (e + 1)) (bsm ct nf nv (e + 1) T) (nf - 1) 0
def gvs (ct : Nat → Nat → Int) (nf nv : Nat) : Nat → Nat → Nat → Nat
  | 0, _, _ => 0
  | e + 1, T, 0 => gf1 ct nf nv e T
  | e + 1, T, k + 1 => gvs ct nf nv e (T ||| 2 ^ gf1 ct nf nv e T) k
theorem gf1_p {ct : Nat → Nat → Int} {nf nv e T : Nat} (q : bsm ct nf nv (e + 1) T < 1000000) : gf1 ct nf nv e T < nf ∧ T.testBit (gf1 ct nf nv e T) = false ∧ 0 ≤ ct (gf1 ct nf nv e T) (nv - (e + 1)) ∧ bsm ct nf nv (e + 1) T = ct (gf1 ct nf nv e T) (nv - (e + 1)) + bsm ct nf nv e (T ||| 2 ^ gf1 ct nf nv e T) ∧ ∀ g, g < gf1 ct nf nv e T → swt ct (bsm ct nf nv e) T g (nv - (e + 1)) ≠ bsm ct nf nv (e + 1) T := by
  have q' : lsb ct (bsm ct nf nv e) T (nv - (e + 1)) nf < 1000000 := q
  obtain ⟨i, h1, h2⟩ := lsb_ex nf q'
  have h2' : swt ct (bsm ct nf nv e) T i (nv - (e + 1)) = bsm ct nf nv (e + 1) T := h2
  obtain ⟨p1, p2, p3, p4⟩ := gfl_p (nf - 1) 0 i (by omega) (by omega) h2'
  have p1' : swt ct (bsm ct nf nv e) T (gf1 ct nf nv e T) (nv - (e + 1)) = bsm ct nf nv (e + 1) T := p1
  obtain ⟨s1, s2, s3⟩ := swt_in (ct := ct) (S := bsm ct nf nv e) (T := T) (i := gf1 ct nf nv e T) (j := nv - (e + 1)) (by rw [p1']; exact q)
  refine ⟨by have : gf1 ct nf nv e T ≤ 0 + (nf - 1) := p3; omega, s1, s2, by rw [← p1']; exact s3, fun g hg => p4 g (by omega) hg⟩
theorem L_g14 {N : Nat} {h : Hs} (hS : Sk h) {nf nv : Nat} {fA vA : Nat → Nat} {fh fw fp vh vw vp : Nat → Int} (hf : nf ≤ 12) (hnv : nv ≤ 6) (g4 : gI h 604 9 = iI nf) (pF : PF h nf fA fh fw fp) (pV : PV h nv vA vh vw vp) {T j : Nat} (hT : T < 2 ^ nf) (hj : j < nv) {S : Nat → Int} {v : Int} (v0 : 0 ≤ v ∧ v ≤ 1000000) (h13 : aI h 13 T = iI v) (hv : ∀ i, i < nf → T.testBit i = false → aI h 13 (T ||| 2 ^ i) = iI (S (T ||| 2 ^ i)) ∧ 0 ≤ S (T ||| 2 ^ i) ∧ S (T ||| 2 ^ i) ≤ 1000000) (G : Hs → Int32 → Int32 → Option Hs) : ∀ (e i fu : Nat), i + e + 1 = nf → e < fu → fX6_give_b14 N G 9 fu h (iI T) (iI j) (iI i) = fX6_give_b51 N G 9 h (iI T) (iI j) (iI (gfl (ctf fh fw fp vh vw vp) S T j v e i)) := by
  have o4 : oI 6 4 h (some 9) = some (iI nf) := oIv (by rw [ss_9 hS]) g4
  have hp := p12 hf
  intro e
  induction e with
  | zero =>
    intro i fu hi hfu
    obtain ⟨fu, rfl⟩ : ∃ m, fu = m + 1 := ⟨fu - 1, by omega⟩
    show fX6_give_b14_body N G (fX6_give_b14 N G 9 fu) 9 h (iI T) (iI j) (iI i) = _
    have a1 : iI ((nf : Int) - 1) ≤ iI (i : Int) := (iI_le (by omega) (by omega) (by omega) (by omega)).mpr (by omega)
    simp only [fX6_give_b14_body, lit, gfl]
    refine bst o4 ?_
    rw [iI_sub]
    refine ifp (a1) ?_
    rfl
  | succ e ih =>
    intro i fu hi hfu
    obtain ⟨fu, rfl⟩ : ∃ m, fu = m + 1 := ⟨fu - 1, by omega⟩
    show fX6_give_b14_body N G (fX6_give_b14 N G 9 fu) 9 h (iI T) (iI j) (iI i) = _
    have a1 : ¬ iI ((nf : Int) - 1) ≤ iI (i : Int) := fun z => by have := (iI_le (by omega) (by omega) (by omega) (by omega)).mp z; omega
    have hil : i < nf := by omega
    have sw := v_swt (N := N) hS hf pF pV hT hil hj (hv i hil)
    have b1 := swt_b (ct := ctf fh fw fp vh vw vp) (j := j) (fun z => (hv i hil z).2.1)
    have lq := lQv (t := 26) (ss_11 hS) (show j < 6 by omega) (by omega) (pV j hj).1.1
    have lv := lAv (ss_13 hS) (show T < 4096 by omega) (by omega) h13
    have le : iI (swt (ctf fh fw fp vh vw vp) S T i j) = iI v ↔ swt (ctf fh fw fp vh vw vp) S T i j = v := iI_eq (by omega) (by omega) (by omega) (by omega)
    have q := ih (i + 1) fu (by omega) (by omega)
    simp only [Int.natCast_add, Int.natCast_one] at q
    simp only [fX6_give_b14_body, lit, iI_add, Option.bind_some, gfl]
    refine bst o4 ?_
    rw [iI_sub]
    by_cases m : swt (ctf fh fw fp vh vw vp) S T i j = v
    · rw [if_pos m]
      refine ifn (a1) ?_
      refine bst (sR_601_9 hS) ?_
      refine bst (lq) ?_
      refine bst (rcv (by rw [ss_9 hS])) ?_
      refine bst (sw) ?_
      refine bst (sR_603_9 hS) ?_
      refine bst (lv) ?_
      refine ifp (le.mpr m) ?_
      rfl
    · rw [if_neg m]
      refine ifn (a1) ?_
      refine bst (sR_601_9 hS) ?_
      refine bst (lq) ?_
      refine bst (rcv (by rw [ss_9 hS])) ?_
      refine bst (sw) ?_
      refine bst (sR_603_9 hS) ?_
      refine bst (lv) ?_
      refine ifn (fun z => m (le.mp z)) ?_
      exact q
theorem L_give {N : Nat} (hN : 100000000 ≤ N) {h0 : Hs} (hS0 : Sk h0) (hz : 70 ≤ sz h0) {nf nv : Nat} {fA vA : Nat → Nat} {fh fw fp vh vw vp : Nat → Int} (hf : nf ≤ 12) (hnv : nv ≤ 6) (g4 : gI h0 604 9 = iI nf) (g5 : gI h0 605 9 = iI nv) (pF : PF h0 nf fA fh fw fp) (pV : PV h0 nv vA vh vw vp) (hsm : ∀ W, W < 2 ^ nf → pcn 12 W ≤ nv → aI h0 13 W = iI (bsm (ctf fh fw fp vh vw vp) nf nv (nv - pcn 12 W) W)) : ∀ (e j T fu : Nat) (h : Hs), j + e = nv → e < fu → T < 2 ^ nf → pcn 12 T = j → bsm (ctf fh fw fp vh vw vp) nf nv e T < 1000000 → Ke [606] [12] [] [] h0 h → sz h = sz h0 → ∃ h', fX6_give_b4 N 9 fu h (iI T) (iI j) = some h' ∧ Ke [606] [12] [] [] h0 h' ∧ sz h' = sz h0 ∧ gI h' 606 9 = iI nv ∧ (∀ k, k < e → aI h' 12 (j + k) = iI (gvs (ctf fh fw fp vh vw vp) nf nv e T k)) ∧ (∀ k, k < j → aI h' 12 k = aI h 12 k) := by
  have hp := p12 hf
  intro e
  induction e with
  | zero =>
    intro j T fu h hj hfu hT hpc hb ke s
    obtain ⟨fu, rfl⟩ : ∃ m, fu = m + 1 := ⟨fu - 1, by omega⟩
    have hS := hS0.e hz ke (by decide)
    have o5 : oI 6 5 h (some 9) = some (iI nv) := oIv (by rw [ss_9 hS]) ((ke.1 605 9 (by decide) (by omega)).trans g5)
    have a1 : iI (nv : Int) ≤ iI (j : Int) := (iI_le (by omega) (by omega) (by omega) (by omega)).mpr (by omega)
    refine ⟨uI h 606 9 (iI nv), ?_, ke.u 606 9 _ (by decide), s, by simp [HR], fun k hk => by omega, fun k hk => rfl⟩
    show fX6_give_b4_body N (fX6_give_b4 N 9 fu) 9 h (iI T) (iI j) = _
    have zq : qI 6 6 h (some 9) (iI nv) = some (uI h 606 9 (iI nv)) := qIv (by rw [ss_9 hS])
    simp only [fX6_give_b4_body]
    refine bst (o5) ?_
    refine ifp (a1) ?_
    refine bst (o5) ?_
    refine bst (zq) ?_
    rfl
  | succ e ih =>
    intro j T fu h hj hfu hT hpc hb ke s
    obtain ⟨fu, rfl⟩ : ∃ m, fu = m + 1 := ⟨fu - 1, by omega⟩
    have hS := hS0.e hz ke (by decide)
    have o5 : oI 6 5 h (some 9) = some (iI nv) := oIv (by rw [ss_9 hS]) ((ke.1 605 9 (by decide) (by omega)).trans g5)
    have a1 : ¬ iI (nv : Int) ≤ iI (j : Int) := fun z => by have := (iI_le (by omega) (by omega) (by omega) (by omega)).mp z; omega
    have jj : nv - (e + 1) = j := by omega
    have bb := bsm_b (ctf fh fw fp vh vw vp) nf nv (e + 1) T
    obtain ⟨p1, p2, p3, p4, p5⟩ := gf1_p hb
    have h13 : aI h 13 T = iI (bsm (ctf fh fw fp vh vw vp) nf nv (e + 1) T) := by
      rw [ke.2.1 13 (by decide) (by omega), hsm T hT (by omega), show nv - pcn 12 T = e + 1 by omega]
    have q14 := L_g14 (N := N) hS hf hnv ((ke.1 604 9 (by decide) (by omega)).trans g4) (pF.e hz ke (by decide) (by decide)) (pV.e hz ke (by decide) (by decide)) hT (show j < nv by omega) (S := bsm (ctf fh fw fp vh vw vp) nf nv e) bb h13 (fun i hi hb => by
      obtain ⟨-, s2⟩ := set_f (i := i) (T := T) (by omega) (by omega)
      obtain ⟨s3, s4⟩ := s2 hb
      have b3 := bsm_b (ctf fh fw fp vh vw vp) nf nv e (T ||| 2 ^ i)
      refine ⟨?_, b3⟩
      rw [ke.2.1 13 (by decide) (by omega), hsm (T ||| 2 ^ i) (or_lt hi hT) (by omega), s4, show nv - (pcn 12 T + 1) = e by omega]) (fX6_give_b4 N 9 fu) (nf - 1) 0 N (by omega) (by omega)
    have eg : gfl (ctf fh fw fp vh vw vp) (bsm (ctf fh fw fp vh vw vp) nf nv e) T j (bsm (ctf fh fw fp vh vw vp) nf nv (e + 1) T) (nf - 1) 0 = gf1 (ctf fh fw fp vh vw vp) nf nv e T := by unfold gf1; rw [jj]
    rw [eg] at q14
    have e2 : ∀ k, gvs (ctf fh fw fp vh vw vp) nf nv (e + 1) T (k + 1) = gvs (ctf fh fw fp vh vw vp) nf nv e (T ||| 2 ^ gf1 (ctf fh fw fp vh vw vp) nf nv e T) k := fun k => rfl
    have e0 : gvs (ctf fh fw fp vh vw vp) nf nv (e + 1) T 0 = gf1 (ctf fh fw fp vh vw vp) nf nv e T := rfl
    have b4 := bsm_b (ctf fh fw fp vh vw vp) nf nv e (T ||| 2 ^ gf1 (ctf fh fw fp vh vw vp) nf nv e T)
    generalize gf1 (ctf fh fw fp vh vw vp) nf nv e T = f at *
    obtain ⟨-, s2⟩ := set_f (i := f) (T := T) (by omega) (by omega)
    obtain ⟨s3, s4⟩ := s2 p2
    obtain ⟨h', r1, r2, r3, r4, r5, r6⟩ := ih (j + 1) (T ||| 2 ^ f) fu (uA h 12 j (iI f)) (by omega) (by omega) (or_lt p1 hT) (by omega) (by omega) (ke.b 12 j _ (by decide)) s
    refine ⟨h', ?_, r2, r3, r4, fun k hk => ?_, fun k hk => ?_⟩
    · show fX6_give_b4_body N (fX6_give_b4 N 9 fu) 9 h (iI T) (iI j) = _
      simp only [fX6_give_b4_body]
      refine bst o5 (ifn a1 ?_)
      refine q14.trans ?_
      have st : sA h (some 12) (iI (j : Int)) (iI (f : Int)) = some (uA h 12 j (iI f)) := sAv (ss_12 hS) (show j < 6 by omega) (by omega)
      have eo : iI (T : Int) ||| (iI 1 <<< (iI (f : Int) &&& iI 31)) = iI ((T ||| 2 ^ f : Nat) : Int) := by
        rw [sh_f (by omega), iI_or (by omega) (by have := Nat.pow_lt_pow_right (a := 2) (by omega) p1; omega)]
      simp only [Int.natCast_add, Int.natCast_one] at r1
      simp only [fX6_give_b51, lit, iI_add, Option.bind_some, eo]
      refine bst (sR_602_9 hS) ?_
      refine bst (st) ?_
      exact r1
    · cases k with
      | zero =>
        have := r6 j (by omega)
        rw [Nat.add_zero, this, e0]
        simp [HR]
      | succ k =>
        have := r5 k (by omega)
        rw [e2, ← this]
        congr 1
        omega
    · rw [r6 k (by omega)]
      have : k ≠ j := by omega
      simp [HR, this]
/-! ===== paint: the class's answer; the reference's costs ===== -/
theorem v_paintC {N : Nat} (hN : 100000000 ≤ N) {h : Hs} (hS : Sk h) (hz : 70 ≤ sz h) {nf nv : Nat} {fA vA : Nat → Nat} {fh fw fp vh vw vp : Nat → Int} (hf : nf ≤ 12) (hnv : nv ≤ 6) (g4 : gI h 604 9 = iI nf) (g5 : gI h 605 9 = iI nv) (pF : PF h nf fA fh fw fp) (pV : PV h nv vA vh vw vp) : ∃ h1, fX11_paint N h 0 = some (iI (if nv = 0 ∨ 1000000 ≤ bsm (ctf fh fw fp vh vw vp) nf nv nv 0 then -2 else bsm (ctf fh fw fp vh vw vp) nf nv nv 0), h1) ∧ Ke [605, 606] [12, 13] [] [] h h1 ∧ sz h1 = sz h ∧ gI h1 605 9 = iI 0 ∧ (nv = 0 ∨ 1000000 ≤ bsm (ctf fh fw fp vh vw vp) nf nv nv 0 → gI h1 606 9 = gI h 606 9 ∧ ∀ k, aI h1 12 k = aI h 12 k) ∧ (¬ (nv = 0 ∨ 1000000 ≤ bsm (ctf fh fw fp vh vw vp) nf nv nv 0) → gI h1 606 9 = iI nv ∧ ∀ k, k < nv → aI h1 12 k = iI (gvs (ctf fh fw fp vh vw vp) nf nv nv 0 k)) := by
  have o5 : oI 6 5 h (some 9) = some (iI nv) := oIv (by rw [ss_9 hS]) g5
  have out : ∀ (a : Int) (h1 : Hs), fX6_leastPainting N h 9 = some (iI a, h1) → fX11_paint N h 0 = some (iI a, h1) := fun a h1 e => by
    simp only [fX11_paint]
    refine bst (sR_1105_0 hS) ?_
    refine bst (rcv (by rw [ss_9 hS])) ?_
    refine bst (e) ?_
    rfl
  have zq : ∀ hx : Hs, Sk hx → qI 6 5 hx (some 9) (iI 0) = some (uI hx 605 9 (iI 0)) := fun hx sx => qIv (by rw [ss_9 sx])
  have m0 : iI 1000000 ≤ iI 1000000 := by decide
  by_cases w : nv = 0
  · subst w
    rw [if_pos (Or.inl rfl)]
    refine ⟨uI h 605 9 (iI 0), out _ _ ?_, Ke_rf.u 605 9 _ (by decide), rfl, by simp [HR], fun _ => ⟨by simp [HR], fun k => rfl⟩, fun z => absurd (Or.inl rfl) z⟩
    simp only [fX6_leastPainting, fX6_leastPainting_b16, fX6_leastPainting_b27, fX6_leastPainting_b44, lit, iI_neg]
    refine bst (o5) ?_
    refine ifp (rfl) ?_
    refine ifp (m0) ?_
    refine bst (zq h hS) ?_
    refine ifp (m0) ?_
    rfl
  · obtain ⟨h2, e2, ke2, s2, sm⟩ := v_lsum (N := N) hN hS hz hf hnv g4 g5 pF pV
    have hS2 := hS.e hz ke2 (by decide)
    have n0 : ¬ iI (nv : Int) = iI 0 := fun z => by have := (iI_eq (by omega) (by omega) (by omega) (by omega)).mp z; omega
    have bb := bsm_b (ctf fh fw fp vh vw vp) nf nv nv 0
    have gg : bsm (ctf fh fw fp vh vw vp) nf nv nv 0 < 1000000 → ∃ h', fX6_give_b4 N 9 N h2 (iI ((0 : Nat) : Int)) (iI ((0 : Nat) : Int)) = some h' ∧ Ke [606] [12] [] [] h2 h' ∧ sz h' = sz h2 ∧ gI h' 606 9 = iI nv ∧ (∀ k, k < nv → aI h' 12 (0 + k) = iI (gvs (ctf fh fw fp vh vw vp) nf nv nv 0 k)) ∧ (∀ k, k < 0 → aI h' 12 k = aI h2 12 k) := fun q => L_give (N := N) hN hS2 (by omega) hf hnv ((ke2.1 604 9 (by decide) (by omega)).trans g4) ((ke2.1 605 9 (by decide) (by omega)).trans g5) (pF.e hz ke2 (by decide) (by decide)) (pV.e hz ke2 (by decide) (by decide)) sm nv 0 0 N h2 (by omega) (by omega) (Nat.pow_pos (by omega)) rfl q Ke_rf rfl
    generalize bsm (ctf fh fw fp vh vw vp) nf nv nv 0 = v at *
    have lm : iI 1000000 ≤ iI v ↔ 1000000 ≤ v := iI_le (by omega) (by omega) (by omega) (by omega)
    by_cases q : 1000000 ≤ v
    · rw [if_pos (Or.inr q)]
      refine ⟨uI h2 605 9 (iI 0), out _ _ ?_, (ke2.w (by decide) (by decide) (by decide) (by decide)).u 605 9 _ (by decide), s2, by simp [HR], fun _ => ⟨?_, fun k => ?_⟩, fun z => absurd (Or.inr q) z⟩
      · simp only [fX6_leastPainting, fX6_leastPainting_b16, fX6_leastPainting_b27, fX6_leastPainting_b44, lit, iI_neg]
        refine bst (o5) ?_
        refine ifn (n0) ?_
        refine bst (rcv (by rw [ss_9 hS])) ?_
        refine bst (e2) ?_
        refine ifp (lm.mpr q) ?_
        refine bst (zq h2 hS2) ?_
        refine ifp (lm.mpr q) ?_
        rfl
      · have := ke2.1 606 9 (by decide) (by omega)
        simp [HR, this]
      · show aI h2 12 k = aI h 12 k
        rw [ke2.2.1 12 (by decide) (by omega)]
    · have nq : ¬ (nv = 0 ∨ 1000000 ≤ v) := fun z => z.elim w q
      rw [if_neg nq]
      obtain ⟨h3, e3, ke3, s3, x1, x2, -⟩ := gg (by omega)
      have hS3 := hS2.e (by omega) ke3 (by decide)
      refine ⟨uI h3 605 9 (iI 0), out _ _ ?_, ((ke2.w (by decide) (by decide) (by decide) (by decide)).tr (ke3.w (by decide) (by decide) (by decide) (by decide))).u 605 9 _ (by decide), s3.trans s2, by simp [HR], fun z => absurd z nq, fun _ => ⟨?_, fun k hk => ?_⟩⟩
      · have eg : fX6_give N h2 9 = some h3 := by
          simp only [fX6_give, lit]
          exact e3
        simp only [fX6_leastPainting, fX6_leastPainting_b16, fX6_leastPainting_b27, fX6_leastPainting_b44, lit, iI_neg]
        refine bst (o5) ?_
        refine ifn (n0) ?_
        refine bst (rcv (by rw [ss_9 hS])) ?_
        refine bst (e2) ?_
        refine ifn (fun z => q (lm.mp z)) ?_
        refine bst (rcv (by rw [ss_9 hS2])) ?_
        refine bst (eg) ?_
        refine bst (zq h3 hS3) ?_
        refine ifn (fun z => q (lm.mp z)) ?_
        rfl
      · simp [HR, x1]
      · have := x2 k hk
        rw [Nat.zero_add] at this
        exact this
def QF (h : Hs) (a1 a2 n : Nat) (ht wd pt : Nat → Int) : Prop := ∀ i, i < n → aI h a1 i = iI (100 * ht i + wd i) ∧ aI h a2 i = iI (pt i) ∧ 1 ≤ ht i ∧ ht i ≤ 99 ∧ 1 ≤ wd i ∧ wd i ≤ 99 ∧ 0 ≤ pt i ∧ pt i ≤ 9
theorem QF.e {F A FR AQ : List Nat} {h h2 : Hs} {a1 a2 n : Nat} {ht wd pt : Nat → Int} (hQ : QF h a1 a2 n ht wd pt) (hz : 70 ≤ sz h) (k : Ke F A FR AQ h h2) (b1 : a1 < 70) (b2 : a2 < 70) (c1 : a1 ∉ A) (c2 : a2 ∉ A) : QF h2 a1 a2 n ht wd pt := fun i hi => by
  obtain ⟨q1, q2, q3⟩ := hQ i hi
  exact ⟨by rw [k.2.1 _ c1 (by omega)]; exact q1, by rw [k.2.1 _ c2 (by omega)]; exact q2, q3⟩
theorem pan_d {a b : Int} (h1 : 1 ≤ a ∧ a ≤ 99) (h2 : 1 ≤ b ∧ b ≤ 99) : iI (100 * a + b) / iI 100 = iI a ∧ iI (100 * a + b) - iI a * iI 100 = iI b := by
  have e1 := iI_dv (a := 100 * a + b) (b := 100) (by omega) (by omega) (by omega) (by omega)
  have e2 : (100 * a + b).tdiv 100 = a := by
    rw [Int.tdiv_eq_ediv_of_nonneg (by omega)]
    omega
  refine ⟨by rw [e1, e2], ?_⟩
  rw [iI_mul, iI_sub]
  congr 1
  omega
theorem v_area2 {N : Nat} {h : Hs} {a b : Int} (h1 : 1 ≤ a ∧ a ≤ 99) (h2 : 1 ≤ b ∧ b ≤ 99) : fX12_area N h (iI (100 * a + b)) = some (iI (a * b), h) := by
  obtain ⟨e1, e2⟩ := pan_d h1 h2
  simp only [fX12_area, lit]
  rw [e1, e2, iI_mul]
theorem v_cost {N : Nat} {h : Hs} (hS : Sk h) {nf nv : Nat} {fh fw fp vh vw vp : Nat → Int} (hf : nf ≤ 12) (hnv : nv ≤ 6) (qF : QF h 64 65 nf fh fw fp) (qV : QF h 66 67 nv vh vw vp) {i j : Nat} (hi : i < nf) (hj : j < nv) : fX12_cost N h 29 (iI i) (iI j) = some (iI (ctf fh fw fp vh vw vp i j), h) := by
  obtain ⟨f1, f2, f3, f4, f5, f6, f7, f8⟩ := qF i hi
  obtain ⟨w1, w2, w3, w4, w5, w6, w7, w8⟩ := qV j hj
  have l1 := lAv (ss_64 hS) (show i < 12 by omega) (by omega) f1
  have l2 := lAv (ss_65 hS) (show i < 12 by omega) (by omega) f2
  have l3 := lAv (ss_66 hS) (show j < 6 by omega) (by omega) w1
  have l4 := lAv (ss_67 hS) (show j < 6 by omega) (by omega) w2
  obtain ⟨d1, d2⟩ := pan_d ⟨f3, f4⟩ ⟨f5, f6⟩
  obtain ⟨d3, d4⟩ := pan_d ⟨w3, w4⟩ ⟨w5, w6⟩
  have aF := v_area2 (N := N) (h := h) ⟨f3, f4⟩ ⟨f5, f6⟩
  have aV := v_area2 (N := N) (h := h) ⟨w3, w4⟩ ⟨w5, w6⟩
  have lh : iI (fh i) < iI (vh j) ↔ fh i < vh j := iI_lt (by omega) (by omega) (by omega) (by omega)
  have lw : iI (vw j) ≤ iI (fw i) ↔ vw j ≤ fw i := iI_le (by omega) (by omega) (by omega) (by omega)
  have lp' : iI (fp i) = iI (vp j) ↔ fp i = vp j := iI_eq (by omega) (by omega) (by omega) (by omega)
  simp only [fX12_cost, fX12_cost_b42, fX12_cost_b72, lit, iI_neg]
  unfold ctf
  refine bst (sR_1257_29 hS) (bst l1 (bst (sR_1260_29 hS) (bst l3 ?_)))
  rw [d1, d3]
  by_cases q1 : fh i < vh j
  · have nq : ¬ (vh j ≤ fh i ∧ vw j ≤ fw i) := by omega
    rw [if_neg nq]
    refine ifp (lh.mpr q1) ?_
    rfl
  · refine ifn (fun z => q1 (lh.mp z)) (bst (sR_1257_29 hS) (bst l1 (bst (sR_1260_29 hS) (bst l3 ?_))))
    rw [d1, d3, d2, d4]
    by_cases q2 : vw j ≤ fw i
    · have yq : vh j ≤ fh i ∧ vw j ≤ fw i := by omega
      rw [if_pos yq]
      by_cases q3 : fp i = vp j
      · rw [if_pos q3]
        refine ifp (lw.mpr q2) ?_
        refine bst (sR_1258_29 hS) ?_
        refine bst (l2) ?_
        refine bst (sR_1261_29 hS) ?_
        refine bst (l4) ?_
        refine ifp (lp'.mpr q3) ?_
        refine bst (sR_1257_29 hS) ?_
        refine bst (l1) ?_
        refine bst (aF) ?_
        refine bst (sR_1260_29 hS) ?_
        refine bst (l3) ?_
        refine bst (aV) ?_
        rw [iI_add, iI_sub]
      · rw [if_neg q3]
        refine ifp (lw.mpr q2) ?_
        refine bst (sR_1258_29 hS) ?_
        refine bst (l2) ?_
        refine bst (sR_1261_29 hS) ?_
        refine bst (l4) ?_
        refine ifn (fun z => q3 (lp'.mp z)) ?_
        refine bst (sR_1257_29 hS) ?_
        refine bst (l1) ?_
        refine bst (aF) ?_
        refine bst (sR_1257_29 hS) ?_
        refine bst (l1) ?_
        refine bst (aF) ?_
        refine bst (sR_1260_29 hS) ?_
        refine bst (l3) ?_
        refine bst (aV) ?_
        rw [iI_add, iI_sub]
    · have nq : ¬ (vh j ≤ fh i ∧ vw j ≤ fw i) := by omega
      rw [if_neg nq]
      refine ifn (fun z => q2 (lw.mp z)) ?_
      rfl
/-! ===== paint: the reference's prefix ===== -/
theorem tb_or (T i f : Nat) : (T ||| 2 ^ i).testBit f = (T.testBit f || decide (i = f)) := by
  rw [Nat.testBit_or, Nat.testBit_two_pow]
def mkP (c : Nat → Nat) : Nat → Nat
  | 0 => 0
  | d + 1 => mkP c d ||| 2 ^ c d
theorem mkP_t (c : Nat → Nat) (f : Nat) : ∀ d : Nat, (mkP c d).testBit f = true ↔ ∃ k, k < d ∧ c k = f := by
  intro d
  induction d with
  | zero =>
    simp only [mkP, Nat.zero_testBit]
    exact ⟨(fun z => absurd z (by decide)), (fun ⟨k, hk, _⟩ => by omega)⟩
  | succ d ih =>
    simp only [mkP, tb_or, Bool.or_eq_true, decide_eq_true_eq]
    rw [ih]
    constructor
    · rintro (⟨k, hk, e⟩ | e)
      · exact ⟨k, by omega, e⟩
      · exact ⟨d, by omega, e⟩
    · rintro ⟨k, hk, e⟩
      by_cases w : k = d
      · subst w; exact Or.inr e
      · exact Or.inl ⟨k, by omega, e⟩
theorem mkP_e {c c' : Nat → Nat} : ∀ d : Nat, (∀ k, k < d → c k = c' k) → mkP c d = mkP c' d := by
  intro d
  induction d with
  | zero => intro _; rfl
  | succ d ih => intro q; simp only [mkP]; rw [ih (fun k hk => q k (by omega)), q d (by omega)]
def csP (ct : Nat → Nat → Int) (c : Nat → Nat) : Nat → Int
  | 0 => 0
  | d + 1 => csP ct c d + ct (c d) d
theorem csP_e {ct : Nat → Nat → Int} {c c' : Nat → Nat} : ∀ d : Nat, (∀ k, k < d → c k = c' k) → csP ct c d = csP ct c' d := by
  intro d
  induction d with
  | zero => intro _; rfl
  | succ d ih => intro q; simp only [csP]; rw [ih (fun k hk => q k (by omega)), q d (by omega)]
theorem L_tk {N : Nat} {h : Hs} (hS : Sk h) {c : Nat → Nat} {d : Nat} (hd : d < 6) (hc : ∀ k, k ≤ d → aI h 68 k = iI (c k) ∧ c k < 13) : ∀ (e k fu : Nat), k + e = d → e < fu → (∀ g, g < k → c g ≠ c d) → fX12_isTaken_b2 N 29 fu h (iI d) (iI k) = some (iI (b2 ((mkP c d).testBit (c d))), h) := by
  have ld := lAv (ss_68 hS) (show d < 6 by omega) (by omega) (hc d (by omega)).1
  intro e
  induction e with
  | zero =>
    intro k fu hk hfu hne
    obtain ⟨fu, rfl⟩ : ∃ m, fu = m + 1 := ⟨fu - 1, by omega⟩
    show fX12_isTaken_b2_body N (fX12_isTaken_b2 N 29 fu) 29 h (iI d) (iI k) = _
    have a1 : iI (d : Int) ≤ iI (k : Int) := (iI_le (by omega) (by omega) (by omega) (by omega)).mpr (by omega)
    have nt : (mkP c d).testBit (c d) = false := by
      cases hb : (mkP c d).testBit (c d) with
      | false => rfl
      | true =>
        obtain ⟨g, hg, e⟩ := (mkP_t c (c d) d).mp hb
        exact absurd e (hne g (by omega))
    rw [nt]
    simp only [fX12_isTaken_b2_body, lit]
    refine ifp (a1) ?_
    rfl
  | succ e ih =>
    intro k fu hk hfu hne
    obtain ⟨fu, rfl⟩ : ∃ m, fu = m + 1 := ⟨fu - 1, by omega⟩
    show fX12_isTaken_b2_body N (fX12_isTaken_b2 N 29 fu) 29 h (iI d) (iI k) = _
    have a1 : ¬ iI (d : Int) ≤ iI (k : Int) := fun z => by have := (iI_le (by omega) (by omega) (by omega) (by omega)).mp z; omega
    have lk := lAv (ss_68 hS) (show k < 6 by omega) (by omega) (hc k (by omega)).1
    have ck := (hc k (by omega)).2
    have cd := (hc d (by omega)).2
    have le : iI (c k : Int) = iI (c d : Int) ↔ c k = c d := (iI_eq (by omega) (by omega) (by omega) (by omega)).trans (by omega)
    by_cases w : c k = c d
    · have yt : (mkP c d).testBit (c d) = true := (mkP_t c (c d) d).mpr ⟨k, by omega, w⟩
      rw [yt]
      simp only [fX12_isTaken_b2_body, lit]
      refine ifn (a1) ?_
      refine bst (sR_1262_29 hS) ?_
      refine bst (lk) ?_
      refine bst (sR_1262_29 hS) ?_
      refine bst (ld) ?_
      refine ifp (le.mpr w) ?_
      rfl
    · have q := ih (k + 1) fu (by omega) (by omega) (fun g hg => by
        by_cases z : g = k
        · rw [z]; exact w
        · exact hne g (by omega))
      simp only [Int.natCast_add, Int.natCast_one] at q
      simp only [fX12_isTaken_b2_body, lit, iI_add, Option.bind_some]
      refine ifn (a1) ?_
      refine bst (sR_1262_29 hS) ?_
      refine bst (lk) ?_
      refine bst (sR_1262_29 hS) ?_
      refine bst (ld) ?_
      refine ifn (fun z => w (le.mp z)) ?_
      exact q
theorem L_ct {N : Nat} {h : Hs} (hS : Sk h) {nf nv : Nat} {fh fw fp vh vw vp : Nat → Int} (hf : nf ≤ 12) (hnv : nv ≤ 6) (qF : QF h 64 65 nf fh fw fp) (qV : QF h 66 67 nv vh vw vp) {c : Nat → Nat} {d : Nat} (hd : d ≤ nv) (hc : ∀ k, k < d → aI h 68 k = iI (c k) ∧ c k < nf) : ∀ (e k fu : Nat), k + e = d → e < fu → fX12_costTo_b4 N 29 fu h (iI d) (iI (csP (ctf fh fw fp vh vw vp) c k)) (iI k) = some (iI (csP (ctf fh fw fp vh vw vp) c d), h) := by
  intro e
  induction e with
  | zero =>
    intro k fu hk hfu
    obtain ⟨fu, rfl⟩ : ∃ m, fu = m + 1 := ⟨fu - 1, by omega⟩
    have : k = d := by omega
    subst this
    show fX12_costTo_b4_body N (fX12_costTo_b4 N 29 fu) 29 h (iI k) (iI (csP (ctf fh fw fp vh vw vp) c k)) (iI k) = _
    have a1 : iI (k : Int) ≤ iI (k : Int) := (iI_le (by omega) (by omega) (by omega) (by omega)).mpr (by omega)
    simp only [fX12_costTo_b4_body]
    refine ifp (a1) ?_
    rfl
  | succ e ih =>
    intro k fu hk hfu
    obtain ⟨fu, rfl⟩ : ∃ m, fu = m + 1 := ⟨fu - 1, by omega⟩
    show fX12_costTo_b4_body N (fX12_costTo_b4 N 29 fu) 29 h (iI d) (iI (csP (ctf fh fw fp vh vw vp) c k)) (iI k) = _
    have a1 : ¬ iI (d : Int) ≤ iI (k : Int) := fun z => by have := (iI_le (by omega) (by omega) (by omega) (by omega)).mp z; omega
    obtain ⟨hc1, hc2⟩ := hc k (by omega)
    have lk := lAv (ss_68 hS) (show k < 6 by omega) (by omega) hc1
    have co := v_cost (N := N) hS hf hnv qF qV hc2 (show k < nv by omega)
    have q := ih (k + 1) fu (by omega) (by omega)
    simp only [Int.natCast_add, Int.natCast_one, csP] at q
    simp only [fX12_costTo_b4_body, lit, iI_add, Option.bind_some]
    refine ifn a1 (bst (sR_1262_29 hS) (bst lk (bst (rcv (by rw [ss_29 hS])) (bst co ?_))))
    rw [iI_add]
    exact q
theorem v_tk {N : Nat} (hN : 100000000 ≤ N) {h : Hs} (hS : Sk h) {c : Nat → Nat} {d : Nat} (hd : d < 6) (hc : ∀ k, k ≤ d → aI h 68 k = iI (c k) ∧ c k < 13) : fX12_isTaken N h 29 (iI d) = some (iI (b2 ((mkP c d).testBit (c d))), h) := by
  simp only [fX12_isTaken, lit]
  exact L_tk hS hd hc d 0 N (by omega) (by omega) (fun g hg => by omega)
theorem v_ct {N : Nat} (hN : 100000000 ≤ N) {h : Hs} (hS : Sk h) {nf nv : Nat} {fh fw fp vh vw vp : Nat → Int} (hf : nf ≤ 12) (hnv : nv ≤ 6) (qF : QF h 64 65 nf fh fw fp) (qV : QF h 66 67 nv vh vw vp) {c : Nat → Nat} {d : Nat} (hd : d ≤ nv) (hc : ∀ k, k < d → aI h 68 k = iI (c k) ∧ c k < nf) : fX12_costTo N h 29 (iI d) = some (iI (csP (ctf fh fw fp vh vw vp) c d), h) := by
  simp only [fX12_costTo, lit]
  exact L_ct hS hf hnv qF qV hd hc d 0 N (by omega) (by omega)
/-! ===== paint: the best so far, candidate after candidate ===== -/
def sbt (s : Nat → Int) (P : Int) (gl : Nat → Nat → Nat) (r : Int × (Nat → Nat)) (i : Nat) : Int × (Nat → Nat) := if s i < 1000000 ∧ (r.1 < 0 ∨ P + s i < r.1) then (P + s i, gl i) else r
def fld (s : Nat → Int) (P : Int) (gl : Nat → Nat → Nat) : Nat → Nat → Int × (Nat → Nat) → Int × (Nat → Nat)
  | 0, _, r => r
  | n + 1, i, r => fld s P gl n (i + 1) (sbt s P gl r i)
theorem fld_A {s : Nat → Int} {P : Int} {gl : Nat → Nat → Nat} : ∀ (n i : Nat) (r : Int × (Nat → Nat)), (∀ k, i ≤ k → k < i + n → ¬ (s k < 1000000 ∧ (r.1 < 0 ∨ P + s k < r.1))) → fld s P gl n i r = r := by
  intro n
  induction n with
  | zero => intro i r _; rfl
  | succ n ih =>
    intro i r q
    have e : sbt s P gl r i = r := by unfold sbt; rw [if_neg (q i (by omega) (by omega))]
    simp only [fld, e]
    exact ih (i + 1) r (fun k h1 h2 => q k (by omega) (by omega))
theorem fld_B {s : Nat → Int} {P : Int} {gl : Nat → Nat → Nat} (hP : 0 ≤ P) (hs : ∀ k, 0 ≤ s k) : ∀ (n i f : Nat) (r : Int × (Nat → Nat)), i ≤ f → f < i + n → s f < 1000000 → (r.1 < 0 ∨ P + s f < r.1) → (∀ k, i ≤ k → k < i + n → s f ≤ s k) → (∀ k, i ≤ k → k < f → s k ≠ s f) → fld s P gl n i r = (P + s f, gl f) := by
  intro n
  induction n with
  | zero => intro i f r h1 h2; omega
  | succ n ih =>
    intro i f r h1 h2 h3 h4 h5 h6
    simp only [fld]
    by_cases w : f = i
    · subst w
      have e : sbt s P gl r f = (P + s f, gl f) := by unfold sbt; rw [if_pos ⟨h3, h4⟩]
      rw [e]
      refine fld_A n (f + 1) _ (fun k k1 k2 z => ?_)
      have a1 := h5 k (by omega) (by omega)
      have a2 := hs f
      rcases z.2 with z2 | z2
      · simp only at z2; omega
      · simp only at z2; omega
    · have a1 := h5 i (by omega) (by omega)
      have a2 := h6 i (by omega) (by omega)
      refine ih (i + 1) f _ (by omega) (by omega) h3 ?_ (fun k k1 k2 => h5 k (by omega) (by omega)) (fun k k1 k2 => h6 k (by omega) k2)
      unfold sbt
      by_cases z : s i < 1000000 ∧ (r.1 < 0 ∨ P + s i < r.1)
      · rw [if_pos z]
        right
        show P + s f < P + s i
        omega
      · rw [if_neg z]
        exact h4
theorem lsb_le {ct : Nat → Nat → Int} {S : Nat → Int} {T j : Nat} : ∀ n i : Nat, i < n → lsb ct S T j n ≤ swt ct S T i j := by
  intro n
  induction n with
  | zero => intro i hi; omega
  | succ n ih =>
    intro i hi
    simp only [lsb]
    by_cases w : i = n
    · subst w
      by_cases m : swt ct S T i j < lsb ct S T j i
      · rw [if_pos m]; omega
      · rw [if_neg m]; omega
    · have := ih i (by omega)
      by_cases m : swt ct S T n j < lsb ct S T j n
      · rw [if_pos m]; omega
      · rw [if_neg m]; omega
theorem swt_0 {ct : Nat → Nat → Int} {nf nv e T j : Nat} (k : Nat) : 0 ≤ swt ct (bsm ct nf nv e) T k j := (swt_b (fun _ => (bsm_b ct nf nv e _).1)).1
/-- all candidates of a want -/
theorem fld_all {ct : Nat → Nat → Int} {nf nv e T : Nat} {P : Int} (hP : 0 ≤ P) {gl : Nat → Nat → Nat} (r : Int × (Nat → Nat)) : fld (fun i => swt ct (bsm ct nf nv e) T i (nv - (e + 1))) P gl nf 0 r = if bsm ct nf nv (e + 1) T < 1000000 ∧ (r.1 < 0 ∨ P + bsm ct nf nv (e + 1) T < r.1) then (P + bsm ct nf nv (e + 1) T, gl (gf1 ct nf nv e T)) else r := by
  have le : ∀ k, k < nf → bsm ct nf nv (e + 1) T ≤ swt ct (bsm ct nf nv e) T k (nv - (e + 1)) := fun k hk => lsb_le nf k hk
  by_cases w : bsm ct nf nv (e + 1) T < 1000000 ∧ (r.1 < 0 ∨ P + bsm ct nf nv (e + 1) T < r.1)
  · rw [if_pos w]
    obtain ⟨p1, p2, p3, p4, p5⟩ := gf1_p w.1
    have es : swt ct (bsm ct nf nv e) T (gf1 ct nf nv e T) (nv - (e + 1)) = bsm ct nf nv (e + 1) T := by
      unfold swt
      rw [if_neg (fun z => z.elim (fun z => by rw [p2] at z; cases z) (fun z => by omega)), if_pos (by rw [← p4]; exact w.1), ← p4]
    have := fld_B (s := fun i => swt ct (bsm ct nf nv e) T i (nv - (e + 1))) (gl := gl) hP (fun k => swt_0 k) nf 0 (gf1 ct nf nv e T) r (by omega) (by omega) (by show swt _ _ _ _ _ < _; rw [es]; exact w.1) (by show r.1 < 0 ∨ P + swt _ _ _ _ _ < _; rw [es]; exact w.2) (fun k _ hk => by show swt _ _ _ _ _ ≤ swt _ _ _ _ _; rw [es]; exact le k (by omega)) (fun k _ hk => by show swt _ _ _ _ _ ≠ swt _ _ _ _ _; rw [es]; exact p5 k hk)
    rw [this]
    show (P + swt ct (bsm ct nf nv e) T (gf1 ct nf nv e T) (nv - (e + 1)), _) = _
    rw [es]
  · rw [if_neg w]
    refine fld_A nf 0 r (fun k _ hk z => w ?_)
    have a1 := le k (by omega)
    obtain ⟨z1, z2⟩ := z
    refine ⟨by omega, ?_⟩
    rcases z2 with z2 | z2
    · exact Or.inl z2
    · exact Or.inr (by omega)
/-- what can be served costs little -/
theorem bsm_s {ct : Nat → Nat → Int} {nf nv : Nat} (hc : ∀ i j, i < nf → j < nv → ct i j ≤ 19602) : ∀ e T : Nat, e ≤ nv → bsm ct nf nv e T < 1000000 → bsm ct nf nv e T ≤ 19602 * e := by
  intro e
  induction e with
  | zero => intro T _ _; simp only [bsm]; omega
  | succ e ih =>
    intro T he q
    obtain ⟨p1, p2, p3, p4, p5⟩ := gf1_p q
    have a1 := hc (gf1 ct nf nv e T) (nv - (e + 1)) p1 (by omega)
    have a2 := ih (T ||| 2 ^ gf1 ct nf nv e T) (by omega) (by omega)
    omega
/-! ===== paint: the reference's steps ===== -/
theorem L_cp {N : Nat} {G : Hs → Int32 → Int32 → Int32 → Option (Int32 × Hs)} {nv : Nat} (hnv : nv ≤ 6) {c : Nat → Nat} {x2 x3 : Int32} : ∀ (e k fu : Nat) (h : Hs), Sk h → 70 ≤ sz h → k + e = nv → e < fu → (∀ g, g < nv → aI h 68 g = iI (c g)) → (∀ g, g < k → aI h 69 g = iI (c g)) → ∃ h', fX12_paint_b132 N G 29 fu h (iI nv) x2 x3 (iI k) = G h' (iI nv) x2 x3 ∧ Ke [] [69] [] [] h h' ∧ sz h' = sz h ∧ ∀ g, g < nv → aI h' 69 g = iI (c g) := by
  intro e
  induction e with
  | zero =>
    intro k fu h hS hz hk hfu h8 h9
    obtain ⟨fu, rfl⟩ : ∃ m, fu = m + 1 := ⟨fu - 1, by omega⟩
    refine ⟨h, ?_, Ke_rf, rfl, fun g hg => h9 g (by omega)⟩
    show fX12_paint_b132_body N G (fX12_paint_b132 N G 29 fu) 29 h (iI nv) x2 x3 (iI k) = _
    have a1 : iI (nv : Int) ≤ iI (k : Int) := (iI_le (by omega) (by omega) (by omega) (by omega)).mpr (by omega)
    simp only [fX12_paint_b132_body]
    refine ifp (a1) ?_
    rfl
  | succ e ih =>
    intro k fu h hS hz hk hfu h8 h9
    obtain ⟨fu, rfl⟩ : ∃ m, fu = m + 1 := ⟨fu - 1, by omega⟩
    have a1 : ¬ iI (nv : Int) ≤ iI (k : Int) := fun z => by have := (iI_le (by omega) (by omega) (by omega) (by omega)).mp z; omega
    have l8 := lAv (ss_68 hS) (show k < 6 by omega) (by omega) (h8 k (by omega))
    have s9 : sA h (some 69) (iI (k : Int)) (iI (c k)) = some (uA h 69 k (iI (c k))) := sAv (ss_69 hS) (show k < 6 by omega) (by omega)
    have ke : Ke [] [69] [] [] h (uA h 69 k (iI (c k))) := Ke_rf.b 69 k _ (by decide)
    obtain ⟨h', q1, q2, q3, q4⟩ := ih (k + 1) fu (uA h 69 k (iI (c k))) (hS.e hz ke (by decide)) hz (by omega) (by omega) (fun g hg => by have := h8 g hg; simp [HR, this]) (fun g hg => by
      by_cases w : g = k
      · subst w; simp [HR]
      · have := h9 g (by omega)
        simp [HR, w, this])
    refine ⟨h', ?_, ke.tr q2, q3, q4⟩
    show fX12_paint_b132_body N G (fX12_paint_b132 N G 29 fu) 29 h (iI nv) x2 x3 (iI k) = _
    simp only [Int.natCast_add, Int.natCast_one] at q1
    simp only [fX12_paint_b132_body, lit, iI_add, Option.bind_some]
    refine ifn (a1) ?_
    refine bst (sR_1264_29 hS) ?_
    refine bst (sR_1262_29 hS) ?_
    refine bst (l8) ?_
    refine bst (s9) ?_
    exact q1
theorem v_over {N : Nat} {h : Hs} (hS : Sk h) (hz : 70 ≤ sz h) {nf nv d fu : Nat} {b : Int} (hf : nf ≤ 12) (hnv : nv ≤ 6) (g6 : gI h 1256 29 = iI nf) (hd : d < nv) (h8 : aI h 68 d = iI ((nf : Int) - 1)) : fX12_paint_b21 N 29 (fu + 1) h (iI nv) (iI b) (iI d) = fX12_paint_b21 N 29 fu (uA h 68 d (iI nf)) (iI nv) (iI b) (iI ((d : Int) - 1)) := by
  show fX12_paint_b21_body N (fX12_paint_b21 N 29 fu) 29 h (iI nv) (iI b) (iI d) = _
  have a1 : ¬ iI (d : Int) < iI 0 := fun z => by have := (iI_lt (by omega) (by omega) (by omega) (by omega)).mp z; omega
  have a2 : ¬ iI (nv : Int) ≤ iI 0 := fun z => by have := (iI_le (by omega) (by omega) (by omega) (by omega)).mp z; omega
  have a3 : ¬ iI (nf : Int) < iI (nf : Int) := fun z => by have := (iI_lt (by omega) (by omega) (by omega) (by omega)).mp z; omega
  have ke : Ke [] [68] [] [] h (uA h 68 d (iI nf)) := Ke_rf.b 68 d _ (by decide)
  have hS3 := hS.e hz ke (by decide)
  have g63 := (ke.1 1256 29 (by decide) (by omega)).trans g6
  have h83 : aI (uA h 68 d (iI nf)) 68 d = iI nf := by simp [HR]
  have l8 := lAv (ss_68 hS) (show d < 6 by omega) (by omega) h8
  have st : sA h (some 68) (iI (d : Int)) (iI ((nf : Int) - 1) + iI 1) = some (uA h 68 d (iI nf)) := by
    rw [iI_add, Int.sub_add_cancel]
    exact sAv (ss_68 hS) (show d < 6 by omega) (by omega)
  generalize uA h 68 d (iI nf) = h3 at *
  have l83 := lAv (ss_68 hS3) (show d < 6 by omega) (by omega) h83
  have em : iI (d : Int) + iI (-1) = iI ((d : Int) - 1) := by rw [iI_add]; rfl
  simp only [fX12_paint_b21_body, lit, iI_neg, em, Option.bind_some]
  refine ifn (a1) ?_
  refine ifn (a2) ?_
  refine bst (sR_1262_29 hS) ?_
  refine bst (l8) ?_
  refine bst (st) ?_
  refine bst (sR_1262_29 hS3) ?_
  refine bst (l83) ?_
  refine bst (oIv (by rw [ss_29 hS3]) g63) ?_
  refine ifn (a3) ?_
  rfl
theorem v_cand {N : Nat} (hN : 100000000 ≤ N) {h : Hs} (hS : Sk h) (hz : 70 ≤ sz h) {nf nv d fu i : Nat} {b : Int} {fh fw fp vh vw vp : Nat → Int} (hf : nf ≤ 12) (hnv : nv ≤ 6) (g6 : gI h 1256 29 = iI nf) (qF : QF h 64 65 nf fh fw fp) (qV : QF h 66 67 nv vh vw vp) (hd : d < nv) (hi : i < nf) {c : Nat → Nat} (hc : ∀ k, k < d → aI h 68 k = iI (c k) ∧ c k < nf) (h8 : aI h 68 d = iI ((i : Int) - 1)) (b1 : -1 ≤ b ∧ b ≤ 1000000) (P1 : 0 ≤ csP (ctf fh fw fp vh vw vp) c d ∧ csP (ctf fh fw fp vh vw vp) c d ≤ 1000000) : fX12_paint_b21 N 29 (fu + 1) h (iI nv) (iI b) (iI d) = if ctf fh fw fp vh vw vp i d < 0 ∨ (mkP c d).testBit i = true ∨ (0 ≤ b ∧ b ≤ csP (ctf fh fw fp vh vw vp) c d + ctf fh fw fp vh vw vp i d) then fX12_paint_b21 N 29 fu (uA h 68 d (iI i)) (iI nv) (iI b) (iI d) else fX12_paint_b98 N (fX12_paint_b21 N 29 fu) 29 (uA h 68 d (iI i)) (iI nv) (iI b) (iI d) := by
  show fX12_paint_b21_body N (fX12_paint_b21 N 29 fu) 29 h (iI nv) (iI b) (iI d) = _
  have a1 : ¬ iI (d : Int) < iI 0 := fun z => by have := (iI_lt (by omega) (by omega) (by omega) (by omega)).mp z; omega
  have a2 : ¬ iI (nv : Int) ≤ iI 0 := fun z => by have := (iI_le (by omega) (by omega) (by omega) (by omega)).mp z; omega
  have a3 : iI (i : Int) < iI (nf : Int) := (iI_lt (by omega) (by omega) (by omega) (by omega)).mpr (by omega)
  have ke : Ke [] [68] [] [] h (uA h 68 d (iI i)) := Ke_rf.b 68 d _ (by decide)
  have hS3 := hS.e hz ke (by decide)
  have g63 := (ke.1 1256 29 (by decide) (by omega)).trans g6
  have qF3 := qF.e hz ke (by omega) (by omega) (by decide) (by decide)
  have qV3 := qV.e hz ke (by omega) (by omega) (by decide) (by decide)
  have h83 : aI (uA h 68 d (iI i)) 68 d = iI i := by simp [HR]
  have h8k : ∀ k, k < d → aI (uA h 68 d (iI i)) 68 k = iI (c k) := fun k hk => by
    have w : k ≠ d := by omega
    have := (hc k hk).1
    simp [HR, w, this]
  have l8 := lAv (ss_68 hS) (show d < 6 by omega) (by omega) h8
  have st : sA h (some 68) (iI (d : Int)) (iI ((i : Int) - 1) + iI 1) = some (uA h 68 d (iI i)) := by
    rw [iI_add, Int.sub_add_cancel]
    exact sAv (ss_68 hS) (show d < 6 by omega) (by omega)
  generalize uA h 68 d (iI i) = h3 at *
  have l83 := lAv (ss_68 hS3) (show d < 6 by omega) (by omega) h83
  have fb := qF i hi
  have vb := qV d hd
  have cb := ctf_b (fh := fh) (fw := fw) (fp := fp) (vh := vh) (vw := vw) (vp := vp) (i := i) (j := d) ⟨fb.2.2.1, fb.2.2.2.1, fb.2.2.2.2.1, fb.2.2.2.2.2.1⟩ ⟨vb.2.2.1, vb.2.2.2.1, vb.2.2.2.2.1, vb.2.2.2.2.2.1⟩
  have co := v_cost (N := N) hS3 hf hnv qF3 qV3 hi hd
  have ud : ∀ k, k < d → updO c d i k = c k := fun k hk => updO_n _ _ (by omega)
  have tk := v_tk (N := N) hN hS3 (c := updO c d i) (d := d) (by omega) (fun k hk => by
    by_cases w : k = d
    · subst w; rw [updO_s]; exact ⟨h83, by omega⟩
    · rw [ud k (by omega)]; exact ⟨h8k k (by omega), by have := (hc k (by omega)).2; omega⟩)
  rw [updO_s, mkP_e d ud] at tk
  have cc := v_ct (N := N) hN hS3 hf hnv qF3 qV3 (c := updO c d i) (d := d + 1) (by omega) (fun k hk => by
    by_cases w : k = d
    · subst w; rw [updO_s]; exact ⟨h83, hi⟩
    · rw [ud k (by omega)]; exact ⟨h8k k (by omega), (hc k (by omega)).2⟩)
  simp only [csP, Int.natCast_add, Int.natCast_one] at cc
  rw [updO_s, csP_e d ud] at cc
  have lc : iI (ctf fh fw fp vh vw vp i d) < iI 0 ↔ ctf fh fw fp vh vw vp i d < 0 := iI_lt (by omega) (by omega) (by omega) (by omega)
  have lb : iI b < iI 0 ↔ b < 0 := iI_lt (by omega) (by omega) (by omega) (by omega)
  have ls : iI (csP (ctf fh fw fp vh vw vp) c d + ctf fh fw fp vh vw vp i d) < iI b ↔ csP (ctf fh fw fp vh vw vp) c d + ctf fh fw fp vh vw vp i d < b := iI_lt (by omega) (by omega) (by omega) (by omega)
  have rc12 : rc 12 h3 (some 29) = some 29 := rcv (by rw [ss_29 hS3])
  have z10 : ¬ iI (b2 true) = iI 0 := by decide
  have z00 : iI (b2 false) = iI 0 := by decide
  simp only [fX12_paint_b21_body, lit, iI_neg, iI_add]
  by_cases w1 : ctf fh fw fp vh vw vp i d < 0
  · rw [if_pos (Or.inl w1 : ctf fh fw fp vh vw vp i d < 0 ∨ (mkP c d).testBit i = true ∨ (0 ≤ b ∧ b ≤ csP (ctf fh fw fp vh vw vp) c d + ctf fh fw fp vh vw vp i d))]
    refine ifn (a1) ?_
    refine ifn (a2) ?_
    refine bst (sR_1262_29 hS) ?_
    refine bst (l8) ?_
    refine bst (st) ?_
    refine bst (sR_1262_29 hS3) ?_
    refine bst (l83) ?_
    refine bst (oIv (by rw [ss_29 hS3]) g63) ?_
    refine ifp (a3) ?_
    refine bst (sR_1262_29 hS3) ?_
    refine bst (l83) ?_
    refine bst (rc12) ?_
    refine bst (co) ?_
    refine ifp (lc.mpr w1) ?_
    rfl
  · cases w2 : (mkP c d).testBit i with
    | true =>
      rw [w2] at tk
      rw [if_pos (Or.inr (Or.inl rfl) : ctf fh fw fp vh vw vp i d < 0 ∨ true = true ∨ (0 ≤ b ∧ b ≤ csP (ctf fh fw fp vh vw vp) c d + ctf fh fw fp vh vw vp i d))]
      refine ifn (a1) ?_
      refine ifn (a2) ?_
      refine bst (sR_1262_29 hS) ?_
      refine bst (l8) ?_
      refine bst (st) ?_
      refine bst (sR_1262_29 hS3) ?_
      refine bst (l83) ?_
      refine bst (oIv (by rw [ss_29 hS3]) g63) ?_
      refine ifp (a3) ?_
      refine bst (sR_1262_29 hS3) ?_
      refine bst (l83) ?_
      refine bst (rc12) ?_
      refine bst (co) ?_
      refine ifn (fun z => w1 (lc.mp z)) ?_
      refine bst (rc12) ?_
      refine bst (tk) ?_
      refine ifn (z10) ?_
      rfl
    | false =>
      rw [w2] at tk
      by_cases w3 : 0 ≤ b ∧ b ≤ csP (ctf fh fw fp vh vw vp) c d + ctf fh fw fp vh vw vp i d
      · rw [if_pos (Or.inr (Or.inr w3) : ctf fh fw fp vh vw vp i d < 0 ∨ false = true ∨ (0 ≤ b ∧ b ≤ csP (ctf fh fw fp vh vw vp) c d + ctf fh fw fp vh vw vp i d))]
        refine ifn (a1) ?_
        refine ifn (a2) ?_
        refine bst (sR_1262_29 hS) ?_
        refine bst (l8) ?_
        refine bst (st) ?_
        refine bst (sR_1262_29 hS3) ?_
        refine bst (l83) ?_
        refine bst (oIv (by rw [ss_29 hS3]) g63) ?_
        refine ifp (a3) ?_
        refine bst (sR_1262_29 hS3) ?_
        refine bst (l83) ?_
        refine bst (rc12) ?_
        refine bst (co) ?_
        refine ifn (fun z => w1 (lc.mp z)) ?_
        refine bst (rc12) ?_
        refine bst (tk) ?_
        refine ifp (z00) ?_
        refine ifn (fun z => by have := lb.mp z; omega) ?_
        refine bst (rc12) ?_
        refine bst (cc) ?_
        refine ifn (fun z => by have := ls.mp z; omega) ?_
        rfl
      · have nn : ¬ (ctf fh fw fp vh vw vp i d < 0 ∨ false = true ∨ (0 ≤ b ∧ b ≤ csP (ctf fh fw fp vh vw vp) c d + ctf fh fw fp vh vw vp i d)) := fun z => z.elim w1 (fun z => z.elim (fun z => by cases z) w3)
        rw [if_neg nn]
        by_cases w4 : b < 0
        · skip
          refine ifn (a1) ?_
          refine ifn (a2) ?_
          refine bst (sR_1262_29 hS) ?_
          refine bst (l8) ?_
          refine bst (st) ?_
          refine bst (sR_1262_29 hS3) ?_
          refine bst (l83) ?_
          refine bst (oIv (by rw [ss_29 hS3]) g63) ?_
          refine ifp (a3) ?_
          refine bst (sR_1262_29 hS3) ?_
          refine bst (l83) ?_
          refine bst (rc12) ?_
          refine bst (co) ?_
          refine ifn (fun z => w1 (lc.mp z)) ?_
          refine bst (rc12) ?_
          refine bst (tk) ?_
          refine ifp (z00) ?_
          refine ifp (lb.mpr w4) ?_
          rfl
        · skip
          refine ifn (a1) ?_
          refine ifn (a2) ?_
          refine bst (sR_1262_29 hS) ?_
          refine bst (l8) ?_
          refine bst (st) ?_
          refine bst (sR_1262_29 hS3) ?_
          refine bst (l83) ?_
          refine bst (oIv (by rw [ss_29 hS3]) g63) ?_
          refine ifp (a3) ?_
          refine bst (sR_1262_29 hS3) ?_
          refine bst (l83) ?_
          refine bst (rc12) ?_
          refine bst (co) ?_
          refine ifn (fun z => w1 (lc.mp z)) ?_
          refine bst (rc12) ?_
          refine bst (tk) ?_
          refine ifp (z00) ?_
          refine ifn (fun z => w4 (lb.mp z)) ?_
          refine bst (rc12) ?_
          refine bst (cc) ?_
          refine ifp (ls.mpr (by omega)) ?_
          rfl
/-! ===== paint: the reference's search ===== -/
def wdt : Nat → Nat
  | 0 => 1
  | e + 1 => 12 * wdt e + 2
def glf (ct : Nat → Nat → Int) (nf nv : Nat) (c : Nat → Nat) (d e T i k : Nat) : Nat := if k < d then c k else if k = d then i else gvs ct nf nv e (T ||| 2 ^ i) (k - (d + 1))
def RB (h0 h : Hs) (nv : Nat) (r : Int × (Nat → Nat)) : Prop := -1 ≤ r.1 ∧ r.1 ≤ 200000 ∧ (r.1 < 0 → gI h 1263 29 = gI h0 1263 29 ∧ ∀ k, aI h 69 k = aI h0 69 k) ∧ (0 ≤ r.1 → gI h 1263 29 = iI nv ∧ ∀ k, k < nv → aI h 69 k = iI (r.2 k))
theorem RB.e {F A FR AQ : List Nat} {h0 h h2 : Hs} {nv : Nat} {r : Int × (Nat → Nat)} (hB : RB h0 h nv r) (hz : 70 ≤ sz h) (k : Ke F A FR AQ h h2) (f1 : 1263 ∉ F) (a1 : 69 ∉ A) : RB h0 h2 nv r := by
  unfold RB
  rw [k.1 1263 29 f1 (by omega), k.2.1 69 a1 (by omega)]
  exact hB
theorem glf_s {ct : Nat → Nat → Int} {nf nv : Nat} {c : Nat → Nat} {d e T i : Nat} : glf ct nf nv (updO c d i) (d + 1) e (T ||| 2 ^ i) (gf1 ct nf nv e (T ||| 2 ^ i)) = glf ct nf nv c d (e + 1) T i := by
  funext k
  unfold glf
  by_cases w1 : k < d
  · rw [if_pos (by omega), if_pos w1, updO_n _ _ (by omega)]
  · by_cases w2 : k = d
    · subst w2
      rw [if_pos (by omega), if_neg w1, if_pos rfl, updO_s]
    · rw [if_neg (by omega), if_neg w1, if_neg w2]
      by_cases w3 : k = d + 1
      · rw [if_pos w3, show k - (d + 1) = 0 by omega]
        rfl
      · rw [if_neg w3]
        obtain ⟨m, hm⟩ : ∃ m, k - (d + 1) = m + 1 := ⟨k - (d + 1) - 1, by omega⟩
        rw [hm, show k - (d + 1 + 1) = m by omega]
        rfl
theorem L_dfs {N : Nat} (hN : 100000000 ≤ N) {h0 : Hs} (hS0 : Sk h0) (hz : 70 ≤ sz h0) {nf nv : Nat} {fh fw fp vh vw vp : Nat → Int} (hf : nf ≤ 12) (hnv : nv ≤ 6) (g6 : gI h0 1256 29 = iI nf) (qF : QF h0 64 65 nf fh fw fp) (qV : QF h0 66 67 nv vh vw vp) : ∀ (e n d i : Nat) (c : Nat → Nat) (r : Int × (Nat → Nat)) (fu : Nat) (h : Hs), d + (e + 1) = nv → i + n = nf → (∀ k, k < d → aI h 68 k = iI (c k) ∧ c k < nf) → aI h 68 d = iI ((i : Int) - 1) → 0 ≤ csP (ctf fh fw fp vh vw vp) c d ∧ csP (ctf fh fw fp vh vw vp) c d ≤ 19602 * d → RB h0 h nv r → n * wdt e + 1 ≤ fu → Ke [1263] [68, 69] [] [] h0 h → sz h = sz h0 → ∃ (h' : Hs) (fu' : Nat), fu ≤ fu' + (n * wdt e + 1) ∧ fX12_paint_b21 N 29 fu h (iI nv) (iI r.1) (iI d) = fX12_paint_b21 N 29 fu' h' (iI nv) (iI (fld (fun i => swt (ctf fh fw fp vh vw vp) (bsm (ctf fh fw fp vh vw vp) nf nv e) (mkP c d) i d) (csP (ctf fh fw fp vh vw vp) c d) (glf (ctf fh fw fp vh vw vp) nf nv c d e (mkP c d)) n i r).1) (iI ((d : Int) - 1)) ∧ Ke [1263] [68, 69] [] [] h0 h' ∧ sz h' = sz h0 ∧ RB h0 h' nv (fld (fun i => swt (ctf fh fw fp vh vw vp) (bsm (ctf fh fw fp vh vw vp) nf nv e) (mkP c d) i d) (csP (ctf fh fw fp vh vw vp) c d) (glf (ctf fh fw fp vh vw vp) nf nv c d e (mkP c d)) n i r) ∧ (∀ k, k < d → aI h' 68 k = aI h 68 k) := by
  intro e
  induction e with
  | zero =>
    intro n
    induction n with
    | zero =>
      intro d i c r fu h hd hi hc h8 hP hB hfu ke s
      obtain ⟨fu, rfl⟩ : ∃ m, fu = m + 1 := ⟨fu - 1, by omega⟩
      have ei : i = nf := by omega
      subst ei
      have hS := hS0.e hz ke (by decide)
      have k1 : Ke [] [68] [] [] h (uA h 68 d (iI i)) := Ke_rf.b 68 d _ (by decide)
      refine ⟨uA h 68 d (iI i), fu, by omega, v_over hS (by omega) hf hnv ((ke.1 1256 29 (by decide) (by omega)).trans g6) (by omega) h8, ke.tr (k1.w (by decide) (by decide) (by decide) (by decide)), s, hB.e (by omega) k1 (by decide) (by decide), fun k hk => ?_⟩
      have : k ≠ d := by omega
      simp [HR, this]
    | succ n ihn =>
      intro d i c r fu h hd hi hc h8 hP hB hfu ke s
      obtain ⟨fu, rfl⟩ : ∃ m, fu = m + 1 := ⟨fu - 1, by omega⟩
      have hS := hS0.e hz ke (by decide)
      have hil : i < nf := by omega
      have qF1 := qF.e hz ke (by omega) (by omega) (by decide) (by decide)
      have qV1 := qV.e hz ke (by omega) (by omega) (by decide) (by decide)
      have vc := v_cand (N := N) (fu := fu) (b := r.1) hN hS (by omega) hf hnv ((ke.1 1256 29 (by decide) (by omega)).trans g6) qF1 qV1 (show d < nv by omega) hil hc h8 ⟨hB.1, by have := hB.2.1; omega⟩ ⟨hP.1, by omega⟩
      have k1 : Ke [] [68] [] [] h (uA h 68 d (iI i)) := Ke_rf.b 68 d _ (by decide)
      have h8d : aI (uA h 68 d (iI i)) 68 d = iI (((i + 1 : Nat) : Int) - 1) := by rw [show ((i + 1 : Nat) : Int) - 1 = i by omega]; simp [HR]
      have h8k : ∀ k, k < d → aI (uA h 68 d (iI i)) 68 k = aI h 68 k := fun k hk => by
        have : k ≠ d := by omega
        simp [HR, this]
      have s3 : sz (uA h 68 d (iI i)) = sz h0 := s
      rw [vc]
      generalize uA h 68 d (iI i) = h3 at *
      have ke3 : Ke [1263] [68, 69] [] [] h0 h3 := ke.tr (k1.w (by decide) (by decide) (by decide) (by decide))
      have hS3 := hS0.e hz ke3 (by decide)
      have hz3 : 70 ≤ sz h3 := by omega
      have hB3 := hB.e (by omega) k1 (by decide) (by decide)
      have w0 : (n + 1) * wdt 0 + 1 = n * wdt 0 + 1 + 1 := by simp only [wdt]; omega
      have w1 : wdt 0 = 1 := rfl
      by_cases w : ctf fh fw fp vh vw vp i d < 0 ∨ (mkP c d).testBit i = true ∨ (0 ≤ r.1 ∧ r.1 ≤ csP (ctf fh fw fp vh vw vp) c d + ctf fh fw fp vh vw vp i d)
      · rw [if_pos w]
        have es : sbt (fun i => swt (ctf fh fw fp vh vw vp) (bsm (ctf fh fw fp vh vw vp) nf nv 0) (mkP c d) i d) (csP (ctf fh fw fp vh vw vp) c d) (glf (ctf fh fw fp vh vw vp) nf nv c d 0 (mkP c d)) r i = r := by
          unfold sbt
          refine if_neg (fun z => ?_)
          obtain ⟨z1, z2⟩ := z
          obtain ⟨y1, y2, y3⟩ := swt_in z1
          have y4 := (bsm_b (ctf fh fw fp vh vw vp) nf nv 0 (mkP c d ||| 2 ^ i)).1
          simp only [y3] at z2
          rcases w with w | w | w
          · omega
          · rw [y1] at w; cases w
          · omega
        obtain ⟨h', fu', q1, q2, q3, q4, q5, q6⟩ := ihn d (i + 1) c r fu h3 hd (by omega) (fun k hk => ⟨(h8k k hk).trans (hc k hk).1, (hc k hk).2⟩) h8d hP hB3 (by omega) ke3 s3
        simp only [fld, es]
        exact ⟨h', fu', by omega, q2, q3, q4, q5, fun k hk => (q6 k hk).trans (h8k k hk)⟩
      · rw [if_neg w]
        have n1 : ¬ ctf fh fw fp vh vw vp i d < 0 := fun z => w (Or.inl z)
        have n2 : (mkP c d).testBit i = false := by cases hb : (mkP c d).testBit i with
          | true => exact absurd (Or.inr (Or.inl hb)) w
          | false => rfl
        have n3 : r.1 < 0 ∨ csP (ctf fh fw fp vh vw vp) c d + ctf fh fw fp vh vw vp i d < r.1 := by
          by_cases z : r.1 < 0
          · exact Or.inl z
          · exact Or.inr (by have : ¬ (0 ≤ r.1 ∧ r.1 ≤ csP (ctf fh fw fp vh vw vp) c d + ctf fh fw fp vh vw vp i d) := fun y => w (Or.inr (Or.inr y)); omega)
        have fb := qF i hil
        have vb := qV d (by omega)
        have cb := ctf_b (fh := fh) (fw := fw) (fp := fp) (vh := vh) (vw := vw) (vp := vp) (i := i) (j := d) ⟨fb.2.2.1, fb.2.2.2.1, fb.2.2.2.2.1, fb.2.2.2.2.2.1⟩ ⟨vb.2.2.1, vb.2.2.2.1, vb.2.2.2.2.1, vb.2.2.2.2.2.1⟩
        have e0 : bsm (ctf fh fw fp vh vw vp) nf nv 0 (mkP c d ||| 2 ^ i) = 0 := rfl
        have sw : swt (ctf fh fw fp vh vw vp) (bsm (ctf fh fw fp vh vw vp) nf nv 0) (mkP c d) i d = ctf fh fw fp vh vw vp i d := by
          unfold swt
          rw [if_neg (fun z => z.elim (fun z => by rw [n2] at z; cases z) n1), e0, Int.add_zero, if_pos (by omega)]
        have es : sbt (fun i => swt (ctf fh fw fp vh vw vp) (bsm (ctf fh fw fp vh vw vp) nf nv 0) (mkP c d) i d) (csP (ctf fh fw fp vh vw vp) c d) (glf (ctf fh fw fp vh vw vp) nf nv c d 0 (mkP c d)) r i = (csP (ctf fh fw fp vh vw vp) c d + ctf fh fw fp vh vw vp i d, glf (ctf fh fw fp vh vw vp) nf nv c d 0 (mkP c d) i) := by
          unfold sbt
          simp only [sw]
          rw [if_pos ⟨by omega, n3⟩]
        have ud : ∀ k, k < d → updO c d i k = c k := fun k hk => updO_n _ _ (by omega)
        have h8i : aI h3 68 d = iI i := by rw [h8d, show ((i + 1 : Nat) : Int) - 1 = i by omega]
        have hc3 : ∀ k, k < nv → aI h3 68 k = iI ((updO c d i k : Nat) : Int) ∧ updO c d i k < nf := fun k hk => by
          by_cases z : k = d
          · subst z; rw [updO_s]; exact ⟨h8i, hil⟩
          · rw [ud k (by omega)]; exact ⟨(h8k k (by omega)).trans (hc k (by omega)).1, (hc k (by omega)).2⟩
        have cc := v_ct (N := N) hN hS3 hf hnv (qF.e hz ke3 (by omega) (by omega) (by decide) (by decide)) (qV.e hz ke3 (by omega) (by omega) (by decide) (by decide)) (c := updO c d i) (d := nv) (by omega) hc3
        have ecs : csP (ctf fh fw fp vh vw vp) (updO c d i) nv = csP (ctf fh fw fp vh vw vp) c d + ctf fh fw fp vh vw vp i d := by
          rw [show nv = d + 1 by omega]
          simp only [csP]
          rw [updO_s, csP_e d ud]
        rw [ecs] at cc
        obtain ⟨h4, eh4⟩ : ∃ h4, h4 = uI h3 1263 29 (iI nv) := ⟨_, rfl⟩
        have z4 : qI 12 63 h3 (some 29) (iI nv) = some h4 := by rw [eh4]; exact qIv (by rw [ss_29 hS3])
        have ke34 : Ke [1263] [] [] [] h3 h4 := by rw [eh4]; exact Ke_rf.u 1263 _ _ (by decide)
        have s4 : sz h4 = sz h0 := by rw [eh4]; exact s3
        have g43 : gI h4 1263 29 = iI nv := by rw [eh4]; simp [HR]
        have ke4 : Ke [1263] [68, 69] [] [] h0 h4 := ke3.tr (ke34.w (by decide) (by decide) (by decide) (by decide))
        have hS4 := hS0.e hz ke4 (by decide)
        obtain ⟨h5, e5, ke45, s5, h59⟩ := L_cp (N := N) (G := fX12_paint_b21 N 29 fu) (x2 := iI (csP (ctf fh fw fp vh vw vp) c d + ctf fh fw fp vh vw vp i d)) (x3 := iI (d : Int)) hnv (c := updO c d i) nv 0 N h4 hS4 (by omega) (by omega) (by omega) (fun g hg => by rw [ke34.2.1 68 (by decide) (by omega)]; exact (hc3 g hg).1) (fun g hg => by omega)
        have ke5 : Ke [1263] [68, 69] [] [] h0 h5 := ke4.tr (ke45.w (by decide) (by decide) (by decide) (by decide))
        have h58 : ∀ k, aI h5 68 k = aI h3 68 k := fun k => by rw [ke45.2.1 68 (by decide) (by omega), ke34.2.1 68 (by decide) (by omega)]
        have hB5 : RB h0 h5 nv (csP (ctf fh fw fp vh vw vp) c d + ctf fh fw fp vh vw vp i d, glf (ctf fh fw fp vh vw vp) nf nv c d 0 (mkP c d) i) := by
          refine ⟨by simp only; omega, by simp only; omega, fun z => by simp only at z; omega, fun _ => ⟨(ke45.1 1263 29 (by decide) (by omega)).trans g43, fun k hk => ?_⟩⟩
          rw [h59 k hk]
          show iI _ = iI ((glf (ctf fh fw fp vh vw vp) nf nv c d 0 (mkP c d) i k : Nat) : Int)
          unfold glf
          by_cases z : k < d
          · rw [if_pos z, ud k z]
          · rw [if_neg z, if_pos (by omega), show k = d by omega, updO_s]
        obtain ⟨h', fu', q1, q2, q3, q4, q5, q6⟩ := ihn d (i + 1) c (csP (ctf fh fw fp vh vw vp) c d + ctf fh fw fp vh vw vp i d, glf (ctf fh fw fp vh vw vp) nf nv c d 0 (mkP c d) i) fu h5 hd (by omega) (fun k hk => ⟨(h58 k).trans ((h8k k hk).trans (hc k hk).1), (hc k hk).2⟩) ((h58 d).trans h8d) hP hB5 (by omega) ke5 (s5.trans s4)
        simp only [fld, es]
        refine ⟨h', fu', by omega, ?_, q3, q4, q5, fun k hk => (q6 k hk).trans ((h58 k).trans (h8k k hk))⟩
        rw [← q2, ← e5]
        have a1 : iI ((nv : Int) - 1) ≤ iI (d : Int) := (iI_le (by omega) (by omega) (by omega) (by omega)).mpr (by omega)
        simp only [fX12_paint_b98, lit, iI_sub]
        refine ifp (a1) ?_
        refine bst (rcv (by rw [ss_29 hS3])) ?_
        refine bst (cc) ?_
        refine bst (z4) ?_
        rfl
  | succ e ihe =>
    intro n
    induction n with
    | zero =>
      intro d i c r fu h hd hi hc h8 hP hB hfu ke s
      obtain ⟨fu, rfl⟩ : ∃ m, fu = m + 1 := ⟨fu - 1, by omega⟩
      have ei : i = nf := by omega
      subst ei
      have hS := hS0.e hz ke (by decide)
      have k1 : Ke [] [68] [] [] h (uA h 68 d (iI i)) := Ke_rf.b 68 d _ (by decide)
      refine ⟨uA h 68 d (iI i), fu, by omega, v_over hS (by omega) hf hnv ((ke.1 1256 29 (by decide) (by omega)).trans g6) (by omega) h8, ke.tr (k1.w (by decide) (by decide) (by decide) (by decide)), s, hB.e (by omega) k1 (by decide) (by decide), fun k hk => ?_⟩
      have : k ≠ d := by omega
      simp [HR, this]
    | succ n ihn =>
      intro d i c r fu h hd hi hc h8 hP hB hfu ke s
      obtain ⟨fu, rfl⟩ : ∃ m, fu = m + 1 := ⟨fu - 1, by omega⟩
      have hS := hS0.e hz ke (by decide)
      have hil : i < nf := by omega
      have qF1 := qF.e hz ke (by omega) (by omega) (by decide) (by decide)
      have qV1 := qV.e hz ke (by omega) (by omega) (by decide) (by decide)
      have vc := v_cand (N := N) (fu := fu) (b := r.1) hN hS (by omega) hf hnv ((ke.1 1256 29 (by decide) (by omega)).trans g6) qF1 qV1 (show d < nv by omega) hil hc h8 ⟨hB.1, by have := hB.2.1; omega⟩ ⟨hP.1, by omega⟩
      have k1 : Ke [] [68] [] [] h (uA h 68 d (iI i)) := Ke_rf.b 68 d _ (by decide)
      have h8d : aI (uA h 68 d (iI i)) 68 d = iI (((i + 1 : Nat) : Int) - 1) := by rw [show ((i + 1 : Nat) : Int) - 1 = i by omega]; simp [HR]
      have h8k : ∀ k, k < d → aI (uA h 68 d (iI i)) 68 k = aI h 68 k := fun k hk => by
        have : k ≠ d := by omega
        simp [HR, this]
      have s3 : sz (uA h 68 d (iI i)) = sz h0 := s
      rw [vc]
      generalize uA h 68 d (iI i) = h3 at *
      have ke3 : Ke [1263] [68, 69] [] [] h0 h3 := ke.tr (k1.w (by decide) (by decide) (by decide) (by decide))
      have hS3 := hS0.e hz ke3 (by decide)
      have hz3 : 70 ≤ sz h3 := by omega
      have hB3 := hB.e (by omega) k1 (by decide) (by decide)
      have w0 : (n + 1) * wdt (e + 1) + 1 = n * wdt (e + 1) + wdt (e + 1) + 1 := by rw [Nat.add_one_mul]
      have w1 : wdt (e + 1) = 12 * wdt e + 2 := rfl
      have w2 : nf * wdt e ≤ 12 * wdt e := Nat.mul_le_mul_right _ hf
      by_cases w : ctf fh fw fp vh vw vp i d < 0 ∨ (mkP c d).testBit i = true ∨ (0 ≤ r.1 ∧ r.1 ≤ csP (ctf fh fw fp vh vw vp) c d + ctf fh fw fp vh vw vp i d)
      · rw [if_pos w]
        have es : sbt (fun i => swt (ctf fh fw fp vh vw vp) (bsm (ctf fh fw fp vh vw vp) nf nv (e + 1)) (mkP c d) i d) (csP (ctf fh fw fp vh vw vp) c d) (glf (ctf fh fw fp vh vw vp) nf nv c d (e + 1) (mkP c d)) r i = r := by
          unfold sbt
          refine if_neg (fun z => ?_)
          obtain ⟨z1, z2⟩ := z
          obtain ⟨y1, y2, y3⟩ := swt_in z1
          have y4 := (bsm_b (ctf fh fw fp vh vw vp) nf nv (e + 1) (mkP c d ||| 2 ^ i)).1
          simp only [y3] at z2
          rcases w with w | w | w
          · omega
          · rw [y1] at w; cases w
          · omega
        obtain ⟨h', fu', q1, q2, q3, q4, q5, q6⟩ := ihn d (i + 1) c r fu h3 hd (by omega) (fun k hk => ⟨(h8k k hk).trans (hc k hk).1, (hc k hk).2⟩) h8d hP hB3 (by omega) ke3 s3
        simp only [fld, es]
        exact ⟨h', fu', by omega, q2, q3, q4, q5, fun k hk => (q6 k hk).trans (h8k k hk)⟩
      · rw [if_neg w]
        have n1 : ¬ ctf fh fw fp vh vw vp i d < 0 := fun z => w (Or.inl z)
        have n2 : (mkP c d).testBit i = false := by cases hb : (mkP c d).testBit i with
          | true => exact absurd (Or.inr (Or.inl hb)) w
          | false => rfl
        have fb := qF i hil
        have vb := qV d (by omega)
        have cb := ctf_b (fh := fh) (fw := fw) (fp := fp) (vh := vh) (vw := vw) (vp := vp) (i := i) (j := d) ⟨fb.2.2.1, fb.2.2.2.1, fb.2.2.2.2.1, fb.2.2.2.2.2.1⟩ ⟨vb.2.2.1, vb.2.2.2.1, vb.2.2.2.2.1, vb.2.2.2.2.2.1⟩
        have ud : ∀ k, k < d → updO c d i k = c k := fun k hk => updO_n _ _ (by omega)
        have h8i : aI h3 68 d = iI i := by rw [h8d, show ((i + 1 : Nat) : Int) - 1 = i by omega]
        have hc3 : ∀ k, k < d + 1 → aI h3 68 k = iI ((updO c d i k : Nat) : Int) ∧ updO c d i k < nf := fun k hk => by
          by_cases z : k = d
          · subst z; rw [updO_s]; exact ⟨h8i, hil⟩
          · rw [ud k (by omega)]; exact ⟨(h8k k (by omega)).trans (hc k (by omega)).1, (hc k (by omega)).2⟩
        have ecs : csP (ctf fh fw fp vh vw vp) (updO c d i) (d + 1) = csP (ctf fh fw fp vh vw vp) c d + ctf fh fw fp vh vw vp i d := by
          simp only [csP]
          rw [updO_s, csP_e d ud]
        have emk : mkP (updO c d i) (d + 1) = mkP c d ||| 2 ^ i := by
          simp only [mkP]
          rw [updO_s, mkP_e d ud]
        obtain ⟨h4, eh4⟩ : ∃ h4, h4 = uA h3 68 (d + 1) (iI (-1)) := ⟨_, rfl⟩
        have z4 : sA h3 (some 68) (iI ((d + 1 : Nat) : Int)) (iI (-1)) = some h4 := by rw [eh4]; exact sAv (ss_68 hS3) (show d + 1 < 6 by omega) (by omega)
        have ke34 : Ke [] [68] [] [] h3 h4 := by rw [eh4]; exact Ke_rf.b 68 _ _ (by decide)
        have s4 : sz h4 = sz h0 := by rw [eh4]; exact s3
        have h4d : aI h4 68 (d + 1) = iI (((0 : Nat) : Int) - 1) := by rw [eh4]; simp [HR]
        have h4k : ∀ k, k < d + 1 → aI h4 68 k = aI h3 68 k := fun k hk => by
          have : k ≠ d + 1 := by omega
          rw [eh4]
          simp [HR, this]
        have ke4 : Ke [1263] [68, 69] [] [] h0 h4 := ke3.tr (ke34.w (by decide) (by decide) (by decide) (by decide))
        have hB4 := hB3.e hz3 ke34 (by decide) (by decide)
        obtain ⟨h5, fu5, p1, p2, p3, p4, p5, p6⟩ := ihe nf (d + 1) 0 (updO c d i) r fu h4 (by omega) (by omega) (fun k hk => ⟨(h4k k hk).trans (hc3 k hk).1, (hc3 k hk).2⟩) h4d ⟨by rw [ecs]; omega, by rw [ecs]; omega⟩ hB4 (by omega) ke4 s4
        have jj : nv - (e + 1) = d + 1 := by omega
        have all := fld_all (ct := (ctf fh fw fp vh vw vp)) (nf := nf) (nv := nv) (e := e) (T := mkP c d ||| 2 ^ i) (P := csP (ctf fh fw fp vh vw vp) c d + ctf fh fw fp vh vw vp i d) (by omega) (gl := glf (ctf fh fw fp vh vw vp) nf nv (updO c d i) (d + 1) e (mkP c d ||| 2 ^ i)) r
        rw [jj, glf_s] at all
        rw [emk, ecs, all] at p2 p5
        have bs := bsm_s (ct := (ctf fh fw fp vh vw vp)) (nf := nf) (nv := nv) (fun a b ha hb => by
          have fb := qF a ha
          have vb := qV b hb
          exact (ctf_b (fh := fh) (fw := fw) (fp := fp) (vh := vh) (vw := vw) (vp := vp) (i := a) (j := b) ⟨fb.2.2.1, fb.2.2.2.1, fb.2.2.2.2.1, fb.2.2.2.2.2.1⟩ ⟨vb.2.2.1, vb.2.2.2.1, vb.2.2.2.2.1, vb.2.2.2.2.2.1⟩).2.1) (e + 1) (mkP c d ||| 2 ^ i) (by omega)
        have b0 := bsm_b (ctf fh fw fp vh vw vp) nf nv (e + 1) (mkP c d ||| 2 ^ i)
        have es : sbt (fun i => swt (ctf fh fw fp vh vw vp) (bsm (ctf fh fw fp vh vw vp) nf nv (e + 1)) (mkP c d) i d) (csP (ctf fh fw fp vh vw vp) c d) (glf (ctf fh fw fp vh vw vp) nf nv c d (e + 1) (mkP c d)) r i = if bsm (ctf fh fw fp vh vw vp) nf nv (e + 1) (mkP c d ||| 2 ^ i) < 1000000 ∧ (r.1 < 0 ∨ csP (ctf fh fw fp vh vw vp) c d + ctf fh fw fp vh vw vp i d + bsm (ctf fh fw fp vh vw vp) nf nv (e + 1) (mkP c d ||| 2 ^ i) < r.1) then (csP (ctf fh fw fp vh vw vp) c d + ctf fh fw fp vh vw vp i d + bsm (ctf fh fw fp vh vw vp) nf nv (e + 1) (mkP c d ||| 2 ^ i), glf (ctf fh fw fp vh vw vp) nf nv c d (e + 1) (mkP c d) i) else r := by
          unfold sbt
          have nn : ¬ ((mkP c d).testBit i = true ∨ ctf fh fw fp vh vw vp i d < 0) := fun z => z.elim (fun z => by rw [n2] at z; cases z) n1
          have esw : swt (ctf fh fw fp vh vw vp) (bsm (ctf fh fw fp vh vw vp) nf nv (e + 1)) (mkP c d) i d = if ctf fh fw fp vh vw vp i d + bsm (ctf fh fw fp vh vw vp) nf nv (e + 1) (mkP c d ||| 2 ^ i) < 1000000 then ctf fh fw fp vh vw vp i d + bsm (ctf fh fw fp vh vw vp) nf nv (e + 1) (mkP c d ||| 2 ^ i) else 1000000 := by
            unfold swt
            rw [if_neg nn]
          simp only [esw]
          generalize bsm (ctf fh fw fp vh vw vp) nf nv (e + 1) (mkP c d ||| 2 ^ i) = X at *
          by_cases m : X < 1000000
          · have := bs m
            rw [if_pos (show ctf fh fw fp vh vw vp i d + X < 1000000 by omega), Int.add_assoc]
            by_cases m2 : r.1 < 0 ∨ csP (ctf fh fw fp vh vw vp) c d + (ctf fh fw fp vh vw vp i d + X) < r.1
            · rw [if_pos ⟨by omega, m2⟩, if_pos ⟨m, m2⟩]
            · rw [if_neg (fun z => m2 z.2), if_neg (fun z => m2 z.2)]
          · rw [if_neg (show ¬ ctf fh fw fp vh vw vp i d + X < 1000000 by omega), if_neg (fun z => absurd z.1 (by decide)), if_neg (fun z => m z.1)]
        rw [← es] at p2 p5
        have h58 : ∀ k, k < d + 1 → aI h5 68 k = aI h3 68 k := fun k hk => (p6 k hk).trans (h4k k hk)
        obtain ⟨h', fu', q1, q2, q3, q4, q5, q6⟩ := ihn d (i + 1) c _ fu5 h5 hd (by omega) (fun k hk => ⟨(h58 k (by omega)).trans ((h8k k hk).trans (hc k hk).1), (hc k hk).2⟩) ((h58 d (by omega)).trans h8d) hP p5 (by omega) p3 p4
        simp only [fld]
        refine ⟨h', fu', by omega, ?_, q3, q4, q5, fun k hk => (q6 k hk).trans ((h58 k (by omega)).trans (h8k k hk))⟩
        rw [← q2]
        rw [show ((d + 1 : Nat) : Int) - 1 = d by omega] at p2
        rw [← p2]
        have a1 : ¬ iI ((nv : Int) - 1) ≤ iI (d : Int) := fun z => by have := (iI_le (by omega) (by omega) (by omega) (by omega)).mp z; omega
        simp only [Int.natCast_add, Int.natCast_one] at z4 ⊢
        simp only [fX12_paint_b98, lit, iI_sub, iI_add, iI_neg, Option.bind_some]
        refine ifn (a1) ?_
        refine bst (sR_1262_29 hS3) ?_
        refine bst (z4) ?_
        rfl
/-! ===== paint: both ===== -/
theorem wdt_b {e : Nat} (he : e < 6) : wdt e ≤ 294074 := by
  have : e = 0 ∨ e = 1 ∨ e = 2 ∨ e = 3 ∨ e = 4 ∨ e = 5 := by omega
  rcases this with rfl | rfl | rfl | rfl | rfl | rfl <;> decide
theorem v_stop {N fu : Nat} {h : Hs} {x1 : Int32} {b : Int} (b1 : -1 ≤ b ∧ b ≤ 1000000) : fX12_paint_b21 N 29 (fu + 1) h x1 (iI b) (iI (-1)) = some (iI (if b < 0 then -2 else b), h) := by
  show fX12_paint_b21_body N (fX12_paint_b21 N 29 fu) 29 h x1 (iI b) (iI (-1)) = _
  have a1 : iI (-1) < iI 0 := by decide
  have lb : iI 0 ≤ iI b ↔ 0 ≤ b := iI_le (by omega) (by omega) (by omega) (by omega)
  simp only [fX12_paint_b21_body, fX12_paint_b161, fX12_paint_b171, lit, iI_neg]
  by_cases w : b < 0
  · rw [if_pos w]
    refine ifp (a1) ?_
    refine ifn (fun z => by have := lb.mp z; omega) ?_
    rfl
  · rw [if_neg w]
    refine ifp (a1) ?_
    refine ifp (lb.mpr (by omega)) ?_
    rfl
theorem t_paint {N : Nat} (hN : 100000000 ≤ N) {h : Hs} (hS : Sk h) (hz : 70 ≤ sz h) (hK : IStk h) : ∃ a h1 h2, fX11_paint N h 0 = some (a, h1) ∧ fX12_paint N h1 29 = some (a, h2) ∧ IStk h2 ∧ Ke [605, 606, 1259, 1263] [12, 13, 68, 69] [] [] h h2 ∧ sz h2 = sz h := by
  obtain ⟨nf, nv, ng, fA, vA, fh, fw, fp, vh, vw, vp, gv, ⟨c1, c2, c3, c4, c5, c6⟩, b1, b2', b3, r1, r2, r3⟩ := hK
  have pF : PF h nf fA fh fw fp := fun i hi => ⟨(r1 i hi).1, (r1 i hi).2.2.2⟩
  have pV : PV h nv vA vh vw vp := fun i hi => ⟨(r2 i hi).1, (r2 i hi).2.2.2⟩
  have qF : QF h 64 65 nf fh fw fp := fun i hi => (r1 i hi).2
  have qV : QF h 66 67 nv vh vw vp := fun i hi => (r2 i hi).2
  obtain ⟨h1, e1, ke1, s1, x5, xN, xY⟩ := v_paintC (N := N) hN hS hz b1 b2' c1 c2 pF pV
  have hS1 := hS.e hz ke1 (by decide)
  have hz1 : 70 ≤ sz h1 := by omega
  have o59 : oI 12 59 h1 (some 29) = some (iI nv) := oIv (by rw [ss_29 hS1]) ((ke1.1 1259 29 (by decide) (by omega)).trans c5)
  obtain ⟨h2, eh2⟩ : ∃ h2, h2 = uI h1 1259 29 (iI 0) := ⟨_, rfl⟩
  have z2 : qI 12 59 h1 (some 29) (iI 0) = some h2 := by rw [eh2]; exact qIv (by rw [ss_29 hS1])
  have ke12 : Ke [1259] [] [] [] h1 h2 := by rw [eh2]; exact Ke_rf.u 1259 _ _ (by decide)
  have s2 : sz h2 = sz h := by rw [eh2]; exact s1
  have g29 : gI h2 1259 29 = iI 0 := by rw [eh2]; simp [HR]
  have hS2 := hS1.e hz1 ke12 (by decide)
  obtain ⟨h4, eh4⟩ : ∃ h4, h4 = uA h2 68 0 (iI (-1)) := ⟨_, rfl⟩
  have z4 : sA h2 (some 68) (iI 0) (iI (-1)) = some h4 := by rw [eh4]; exact sAv (i := 0) (ss_68 hS2) (by omega) (by omega)
  have ke24 : Ke [] [68] [] [] h2 h4 := by rw [eh4]; exact Ke_rf.b 68 _ _ (by decide)
  have s4 : sz h4 = sz h := by rw [eh4]; exact s2
  have h40 : aI h4 68 0 = iI (((0 : Nat) : Int) - 1) := by rw [eh4]; simp [HR]
  have ke4 : Ke [605, 606, 1259] [12, 13, 68] [] [] h h4 := ((ke1.w (by decide) (by decide) (by decide) (by decide)).tr (ke12.w (by decide) (by decide) (by decide) (by decide))).tr (ke24.w (by decide) (by decide) (by decide) (by decide))
  have ke14 : Ke [1259] [68] [] [] h1 h4 := (ke12.w (by decide) (by decide) (by decide) (by decide)).tr (ke24.w (by decide) (by decide) (by decide) (by decide))
  have hS4 := hS.e hz ke4 (by decide)
  have hz4 : 70 ≤ sz h4 := by omega
  have st : fX12_paint N h1 29 = fX12_paint_b21 N 29 N h4 (iI nv) (iI (-1)) (iI 0) := by
    simp only [fX12_paint, lit, iI_neg]
    refine bst (o59) ?_
    refine bst (z2) ?_
    refine bst (sR_1262_29 hS2) ?_
    refine bst (z4) ?_
    rfl
  -- what remains, given where the search ends
  have fin : ∀ (hx : Hs) (ng' : Nat) (gv' : Nat → Int), Ke [1263] [68, 69] [] [] h4 hx → sz hx = sz h → ng' ≤ 6 → gI h1 606 9 = iI ng' → gI hx 1263 29 = iI ng' → (∀ i, i < ng' → aI h1 12 i = iI (gv' i) ∧ aI hx 69 i = iI (gv' i)) → IStk hx ∧ Ke [605, 606, 1259, 1263] [12, 13, 68, 69] [] [] h hx ∧ sz hx = sz h := by
    intro hx ng' gv' kx sx n6 g6 g63 ga
    have kh : Ke [605, 606, 1259, 1263] [12, 13, 68, 69] [] [] h hx := (ke4.w (by decide) (by decide) (by decide) (by decide)).tr (kx.w (by decide) (by decide) (by decide) (by decide))
    refine ⟨⟨nf, 0, ng', fA, vA, fh, fw, fp, vh, vw, vp, gv', ⟨(kh.1 604 9 (by decide) (by omega)).trans c1, ?_, ?_, (kh.1 1256 29 (by decide) (by omega)).trans c4, ?_, g63⟩, b1, by omega, n6, r1.e hz kh (by omega) (by omega) (by omega) (by decide) (by decide) (by decide) (by decide) (by decide) (by decide), fun i hi => by omega, fun i hi => ⟨?_, (ga i hi).2⟩⟩, kh, sx⟩
    · rw [kx.1 605 9 (by decide) (by omega), ke14.1 605 9 (by decide) (by omega)]; exact x5
    · rw [kx.1 606 9 (by decide) (by omega), ke14.1 606 9 (by decide) (by omega)]; exact g6
    · rw [kx.1 1259 29 (by decide) (by omega), ke24.1 1259 29 (by decide) (by omega)]; exact g29
    · rw [kx.2.1 12 (by decide) (by omega), ke14.2.1 12 (by decide) (by omega)]; exact (ga i hi).1
  have g463 : gI h4 1263 29 = iI ng := (ke4.1 1263 29 (by decide) (by omega)).trans c6
  have a469 : ∀ i, aI h4 69 i = aI h 69 i := fun i => by rw [ke4.2.1 69 (by decide) (by omega)]
  by_cases w : nv = 0
  · subst w
    rw [if_pos (Or.inl rfl)] at e1
    obtain ⟨y1, y2⟩ := xN (Or.inl rfl)
    have rl : fX12_paint N h1 29 = some (iI (-2), h4) := by
      obtain ⟨fu, rfl⟩ : ∃ m, N = m + 1 := ⟨N - 1, by omega⟩
      rw [st]
      show fX12_paint_b21_body (fu + 1) (fX12_paint_b21 (fu + 1) 29 fu) 29 h4 (iI ((0 : Nat) : Int)) (iI (-1)) (iI 0) = _
      have a1 : ¬ iI 0 < iI 0 := by decide
      have a2 : iI ((0 : Nat) : Int) ≤ iI 0 := by decide
      have a3 : ¬ iI 0 ≤ iI (-1) := by decide
      simp only [fX12_paint_b21_body, fX12_paint_b161, fX12_paint_b171, lit, iI_neg]
      refine ifn (a1) ?_
      refine ifp (a2) ?_
      refine ifn (a3) ?_
      rfl
    obtain ⟨t1, t2, t3⟩ := fin h4 ng gv Ke_rf s4 b3 (y1.trans c3) g463 (fun i hi => ⟨(y2 i).trans (r3 i hi).1, (a469 i).trans (r3 i hi).2⟩)
    exact ⟨iI (-2), h1, h4, e1, rl, t1, t2, t3⟩
  · obtain ⟨e, rfl⟩ : ∃ e, nv = e + 1 := ⟨nv - 1, by omega⟩
    have wb := wdt_b (show e < 6 by omega)
    have w2 : nf * wdt e ≤ 12 * 294074 := Nat.mul_le_mul b1 wb
    obtain ⟨h5, fu', p1, p2, p3, p4, p5, -⟩ := L_dfs (N := N) hN hS4 hz4 b1 b2' ((ke4.1 1256 29 (by decide) (by omega)).trans c4) (qF.e hz ke4 (by omega) (by omega) (by decide) (by decide)) (qV.e hz ke4 (by omega) (by omega) (by decide) (by decide)) e nf 0 0 (fun _ => 0) (-1, fun _ => 0) N h4 (by omega) (by omega) (fun k hk => by omega) h40 ⟨by simp only [csP]; omega, by simp only [csP]; omega⟩ ⟨by simp only; omega, by simp only; omega, fun _ => ⟨rfl, fun _ => rfl⟩, fun z => by simp only at z; omega⟩ (by omega) Ke_rf rfl
    have all := fld_all (ct := (ctf fh fw fp vh vw vp)) (nf := nf) (nv := e + 1) (e := e) (T := 0) (P := 0) (by omega) (gl := glf (ctf fh fw fp vh vw vp) nf (e + 1) (fun _ => 0) 0 e 0) (-1, fun _ => 0)
    rw [Nat.sub_self] at all
    have gg : ∀ k, glf (ctf fh fw fp vh vw vp) nf (e + 1) (fun _ => 0) 0 e 0 (gf1 (ctf fh fw fp vh vw vp) nf (e + 1) e 0) k = gvs (ctf fh fw fp vh vw vp) nf (e + 1) (e + 1) 0 k := fun k => by
      unfold glf
      rw [if_neg (by omega)]
      cases k with
      | zero => rw [if_pos rfl]; rfl
      | succ k => rw [if_neg (by omega), Nat.zero_add, Nat.add_sub_cancel]; rfl
    have bb := bsm_b (ctf fh fw fp vh vw vp) nf (e + 1) (e + 1) 0
    simp only [mkP, csP] at p2 p5
    rw [all] at p2 p5
    generalize bsm (ctf fh fw fp vh vw vp) nf (e + 1) (e + 1) 0 = X at *
    obtain ⟨fu', rfl⟩ : ∃ m, fu' = m + 1 := ⟨fu' - 1, by omega⟩
    have em : (((0 : Nat) : Int) - 1) = -1 := by omega
    rw [em] at p2
    by_cases m : X < 1000000
    · have cnd : X < 1000000 ∧ (((-1 : Int), (fun _ => 0 : Nat → Nat)).1 < 0 ∨ 0 + X < ((-1 : Int), (fun _ => 0 : Nat → Nat)).1) := ⟨m, Or.inl (by decide)⟩
      rw [if_pos cnd] at p2 p5
      have nw' : ¬ (e + 1 = 0 ∨ 1000000 ≤ X) := by omega
      rw [if_neg nw'] at e1
      obtain ⟨y1, y2⟩ := xY nw'
      simp only [Int.zero_add] at p2 p5
      obtain ⟨-, -, -, p58⟩ := p5
      obtain ⟨k1, k2⟩ := p58 bb.1
      rw [v_stop (by omega), if_neg (by omega)] at p2
      obtain ⟨t1, t2, t3⟩ := fin h5 (e + 1) (fun k => (gvs (ctf fh fw fp vh vw vp) nf (e + 1) (e + 1) 0 k : Nat)) p3 (p4.trans s4) b2' y1 k1 (fun i hi => ⟨y2 i hi, by rw [k2 i hi]; simp only [gg]⟩)
      exact ⟨iI X, h1, h5, e1, st.trans p2, t1, t2, t3⟩
    · have cnd : ¬ (X < 1000000 ∧ (((-1 : Int), (fun _ => 0 : Nat → Nat)).1 < 0 ∨ 0 + X < ((-1 : Int), (fun _ => 0 : Nat → Nat)).1)) := fun z => m z.1
      rw [if_neg cnd] at p2 p5
      have yw : e + 1 = 0 ∨ 1000000 ≤ X := Or.inr (by omega)
      rw [if_pos yw] at e1
      obtain ⟨y1, y2⟩ := xN yw
      obtain ⟨-, -, p57, -⟩ := p5
      obtain ⟨k1, k2⟩ := p57 (by decide)
      rw [v_stop (by simp only; omega), if_pos (by decide)] at p2
      obtain ⟨t1, t2, t3⟩ := fin h5 ng gv p3 (p4.trans s4) b3 (y1.trans c3) (k1.trans g463) (fun i hi => ⟨(y2 i).trans (r3 i hi).1, (k2 i).trans ((a469 i).trans (r3 i hi).2)⟩)
      exact ⟨iI (-2), h1, h5, e1, st.trans p2, t1, t2, t3⟩
/-! ===== what a change told stays ===== -/
theorem RChg.e {F A FR AQ : List Nat} {h h2 : Hs} {nt na : Nat} {as no : Bool} {cr cd wk : Nat → Int} (hC : RChg h nt na as no cr cd wk) (hz : 70 ≤ sz h) (k : Ke F A FR AQ h h2) (hF : ∀ f ∈ [104, 105, 106, 107, 108, 1229, 1230, 1234], f ∉ F) (hA : ∀ a ∈ [26, 27, 49, 50, 51], a ∉ A) : RChg h2 nt na as no cr cd wk := by
  unfold RChg
  rw [k.1 104 25 (hF _ (by decide)) (by omega), k.1 105 25 (hF _ (by decide)) (by omega), k.1 106 25 (hF _ (by decide)) (by omega), k.1 107 25 (hF _ (by decide)) (by omega), k.1 108 25 (hF _ (by decide)) (by omega), k.1 1229 29 (hF _ (by decide)) (by omega), k.1 1230 29 (hF _ (by decide)) (by omega), k.1 1234 29 (hF _ (by decide)) (by omega), k.2.1 26 (hA _ (by decide)) (by omega), k.2.1 27 (hA _ (by decide)) (by omega), k.2.1 49 (hA _ (by decide)) (by omega), k.2.1 50 (hA _ (by decide)) (by omega), k.2.1 51 (hA _ (by decide)) (by omega)]
  exact hC
theorem RChg.up {h : Hs} {nt nt' na : Nat} {as no : Bool} {cr cd wk : Nat → Int} (hC : RChg h nt na as no cr cd wk) (hn : nt ≤ nt') : RChg h nt' na as no cr cd wk := by
  obtain ⟨c1, c2⟩ := hC
  refine ⟨c1, fun z => ?_⟩
  obtain ⟨⟨d1, d2, d3, d4⟩, d5⟩ := c2 z
  exact ⟨⟨d1, d2, d3, by omega⟩, d5⟩
