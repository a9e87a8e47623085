/-! ===== paint: the class's least sum ===== -/
theorem PF.e {F A FR AQ : List Nat} {h h2 : Hs} {nf : Nat} {fA : Nat → Nat} {fh fw fp : Nat → Int} (hP : PF h nf fA fh fw fp) (hz : 70 ≤ sz h) (k : Ke F A FR AQ h h2) (hF : ∀ f ∈ [300, 301, 302], f ∉ F) (hQ : 10 ∉ AQ) : PF h2 nf fA fh fw fp := fun i hi => by
  obtain ⟨⟨f1, f2, f3, f4, f5, f6, f7⟩, f8⟩ := hP i hi
  have k6 := k.2.2.2.2.2
  exact ⟨⟨by rw [k.2.2.2.1 _ hQ (by omega)]; exact f1, f2, by omega, (k.2.2.2.2.1 _ f3).trans f4, (k.1 _ _ (hF 300 (by decide)) f3).trans f5, (k.1 _ _ (hF 301 (by decide)) f3).trans f6, (k.1 _ _ (hF 302 (by decide)) f3).trans f7⟩, f8⟩
theorem PV.e {F A FR AQ : List Nat} {h h2 : Hs} {nv : Nat} {vA : Nat → Nat} {vh vw vp : Nat → Int} (hP : PV h nv vA vh vw vp) (hz : 70 ≤ sz h) (k : Ke F A FR AQ h h2) (hF : ∀ f ∈ [300, 301, 302], f ∉ F) (hQ : 11 ∉ AQ) : PV h2 nv vA vh vw vp := fun i hi => by
  obtain ⟨⟨f1, f2, f3, f4, f5, f6, f7⟩, f8⟩ := hP i hi
  have k6 := k.2.2.2.2.2
  exact ⟨⟨by rw [k.2.2.2.1 _ hQ (by omega)]; exact f1, f2, by omega, (k.2.2.2.2.1 _ f3).trans f4, (k.1 _ _ (hF 300 (by decide)) f3).trans f5, (k.1 _ _ (hF 301 (by decide)) f3).trans f6, (k.1 _ _ (hF 302 (by decide)) f3).trans f7⟩, f8⟩
theorem swt_b {ct : Nat → Nat → Int} {S : Nat → Int} {T i j : Nat} (hv : T.testBit i = false → 0 ≤ S (T ||| 2 ^ i)) : 0 ≤ swt ct S T i j ∧ swt ct S T i j ≤ 1000000 := by
  unfold swt
  by_cases w : T.testBit i = true ∨ ct i j < 0
  · rw [if_pos w]; omega
  · rw [if_neg w]
    have w1 : T.testBit i = false := by cases hb : T.testBit i with
      | true => exact absurd (Or.inl hb) w
      | false => rfl
    have w2 : ¬ ct i j < 0 := fun z => w (Or.inr z)
    have := hv w1
    by_cases q : ct i j + S (T ||| 2 ^ i) < 1000000
    · rw [if_pos q]; omega
    · rw [if_neg q]; omega
theorem lsb_b {ct : Nat → Nat → Int} {S : Nat → Int} {T j : Nat} : ∀ n : Nat, (∀ i, i < n → T.testBit i = false → 0 ≤ S (T ||| 2 ^ i)) → 0 ≤ lsb ct S T j n ∧ lsb ct S T j n ≤ 1000000 := by
  intro n
  induction n with
  | zero => intro _; simp only [lsb]; omega
  | succ n ih =>
    intro hv
    have a1 := ih (fun i hi => hv i (by omega))
    have a2 := swt_b (ct := ct) (j := j) (hv n (by omega))
    simp only [lsb]
    by_cases q : swt ct S T n j < lsb ct S T j n
    · rw [if_pos q]; omega
    · rw [if_neg q]; omega
def bsm (ct : Nat → Nat → Int) (nf nv : Nat) : Nat → Nat → Int
  | 0, _ => 0
  | e + 1, T => lsb ct (bsm ct nf nv e) T (nv - (e + 1)) nf
theorem bsm_b (ct : Nat → Nat → Int) (nf nv : Nat) : ∀ e T : Nat, 0 ≤ bsm ct nf nv e T ∧ bsm ct nf nv e T ≤ 1000000 := by
  intro e
  induction e with
  | zero => intro T; simp only [bsm]; omega
  | succ e ih => intro T; exact lsb_b nf (fun i _ _ => (ih _).1)
theorem L_lsb {N : Nat} {h : Hs} (hS : Sk h) {nf nv : Nat} {fA vA : Nat → Nat} {fh fw fp vh vw vp : Nat → Int} (hf : nf ≤ 12) (g4 : gI h 604 9 = iI nf) (pF : PF h nf fA fh fw fp) (pV : PV h nv vA vh vw vp) {T j : Nat} (hT : T < 2 ^ nf) (hj : j < nv) {S : Nat → Int} (hv : ∀ i, i < nf → T.testBit i = false → aI h 13 (T ||| 2 ^ i) = iI (S (T ||| 2 ^ i)) ∧ 0 ≤ S (T ||| 2 ^ i) ∧ S (T ||| 2 ^ i) ≤ 1000000) : ∀ (e i fu : Nat), i + e = nf → e < fu → fX6_leastSumBehind_b6 N 9 fu h (iI T) (some (vA j)) (iI (lsb (ctf fh fw fp vh vw vp) S T j i)) (iI i) = some (iI (lsb (ctf fh fw fp vh vw vp) S T j nf), h) := by
  have o4 : oI 6 4 h (some 9) = some (iI nf) := oIv (by rw [ss_9 hS]) g4
  intro e
  induction e with
  | zero =>
    intro i fu hi hfu
    obtain ⟨fu, rfl⟩ : ∃ m, fu = m + 1 := ⟨fu - 1, by omega⟩
    have ei : i = nf := by omega
    subst ei
    show fX6_leastSumBehind_b6_body N (fX6_leastSumBehind_b6 N 9 fu) 9 h (iI T) (some (vA j)) (iI (lsb (ctf fh fw fp vh vw vp) S T j i)) (iI i) = _
    have a1 : iI (i : Int) ≤ iI (i : Int) := (iI_le (by omega) (by omega) (by omega) (by omega)).mpr (by omega)
    simp only [fX6_leastSumBehind_b6_body]
    refine bst (o4) ?_
    refine ifp (a1) ?_
    rfl
  | succ e ih =>
    intro i fu hi hfu
    obtain ⟨fu, rfl⟩ : ∃ m, fu = m + 1 := ⟨fu - 1, by omega⟩
    have hil : i < nf := by omega
    have sw := v_swt (N := N) hS hf pF pV hT hil hj (hv i hil)
    have q := ih (i + 1) fu (by omega) (by omega)
    show fX6_leastSumBehind_b6_body N (fX6_leastSumBehind_b6 N 9 fu) 9 h (iI T) (some (vA j)) (iI (lsb (ctf fh fw fp vh vw vp) S T j i)) (iI i) = _
    have a1 : ¬ iI (nf : Int) ≤ iI (i : Int) := fun z => by have := (iI_le (by omega) (by omega) (by omega) (by omega)).mp z; omega
    have b1 := swt_b (ct := ctf fh fw fp vh vw vp) (j := j) (fun z => (hv i hil z).2.1)
    have b2 := lsb_b (ct := ctf fh fw fp vh vw vp) (S := S) (T := T) (j := j) i (fun k hk z => (hv k (by omega) z).2.1)
    have lm : iI (swt (ctf fh fw fp vh vw vp) S T i j) < iI (lsb (ctf fh fw fp vh vw vp) S T j i) ↔ swt (ctf fh fw fp vh vw vp) S T i j < lsb (ctf fh fw fp vh vw vp) S T j i := iI_lt (by omega) (by omega) (by omega) (by omega)
    rw [← q]
    simp only [fX6_leastSumBehind_b6_body, lit, iI_add, Option.bind_some, lsb, Int.natCast_add, Int.natCast_one]
    refine bst (o4) ?_
    refine ifn (a1) ?_
    refine bst (rcv (by rw [ss_9 hS])) ?_
    refine bst (sw) ?_
    skip
    by_cases m : swt (ctf fh fw fp vh vw vp) S T i j < lsb (ctf fh fw fp vh vw vp) S T j i
    · rw [if_pos m, if_pos (lm.mpr m)]
    · rw [if_neg m, if_neg (fun z => m (lm.mp z))]
theorem L_sum {N : Nat} (hN : 100000000 ≤ N) {h0 : Hs} (hS0 : Sk h0) (hz : 70 ≤ sz h0) {nf nv : Nat} {fA vA : Nat → Nat} {fh fw fp vh vw vp : Nat → Int} (hf : nf ≤ 12) (hnv : nv ≤ 6) (g4 : gI h0 604 9 = iI nf) (g5 : gI h0 605 9 = iI nv) (pF : PF h0 nf fA fh fw fp) (pV : PV h0 nv vA vh vw vp) : ∀ (k fu : Nat) (h : Hs), k ≤ 2 ^ nf → k < fu → Ke [] [13] [] [] h0 h → sz h = sz h0 → (∀ W, k ≤ W → W < 2 ^ nf → pcn 12 W ≤ nv → aI h 13 W = iI (bsm (ctf fh fw fp vh vw vp) nf nv (nv - pcn 12 W) W)) → ∃ h', fX6_leastSum_b9 N 9 fu h (iI ((k : Int) - 1)) = some (iI (bsm (ctf fh fw fp vh vw vp) nf nv nv 0), h') ∧ Ke [] [13] [] [] h0 h' ∧ sz h' = sz h0 ∧ (∀ W, W < 2 ^ nf → pcn 12 W ≤ nv → aI h' 13 W = iI (bsm (ctf fh fw fp vh vw vp) nf nv (nv - pcn 12 W) W)) := by
  have hp := p12 hf
  have hp0 : 0 < 2 ^ nf := Nat.pow_pos (by omega)
  intro k
  induction k with
  | zero =>
    intro fu h hk hfu ke s hv
    obtain ⟨fu, rfl⟩ : ∃ m, fu = m + 1 := ⟨fu - 1, by omega⟩
    have hS := hS0.e hz ke (by decide)
    have v0 := hv 0 (by omega) hp0 (by show 0 ≤ nv; omega)
    have lv := lAv (ss_13 hS) (show 0 < 4096 by omega) (by omega) v0
    refine ⟨h, ?_, ke, s, fun W h1 h2 => hv W (by omega) h1 h2⟩
    show fX6_leastSum_b9_body N (fX6_leastSum_b9 N 9 fu) 9 h (iI (((0 : Nat) : Int) - 1)) = _
    have a1 : iI (((0 : Nat) : Int) - 1) < iI 0 := by decide
    simp only [fX6_leastSum_b9_body, lit]
    refine ifp (a1) ?_
    refine bst (sR_603_9 hS) ?_
    refine bst (lv) ?_
    rfl
  | succ k ih =>
    intro fu h hk hfu ke s hv
    obtain ⟨fu, rfl⟩ : ∃ m, fu = m + 1 := ⟨fu - 1, by omega⟩
    have hS := hS0.e hz ke (by decide)
    have ek : (((k + 1 : Nat) : Int) - 1) = (k : Int) := by omega
    rw [ek]
    have hkl : k < 2 ^ nf := by omega
    have bc := v_bcn (N := N) (h := h) (T := k) (by omega)
    have o5 : oI 6 5 h (some 9) = some (iI nv) := oIv (by rw [ss_9 hS]) ((ke.1 605 9 (by decide) (by omega)).trans g5)
    have a1 : ¬ iI (k : Int) < iI 0 := fun z => by have := (iI_lt (by omega) (by omega) (by omega) (by omega)).mp z; omega
    have pb : pcn 12 k ≤ 12 := by simp only [pcn]; omega
    have pe : iI (pcn 12 k : Int) = iI (nv : Int) ↔ pcn 12 k = nv := (iI_eq (by omega) (by omega) (by omega) (by omega)).trans (by omega)
    have pl : iI (nv : Int) ≤ iI (pcn 12 k : Int) ↔ nv ≤ pcn 12 k := (iI_le (by omega) (by omega) (by omega) (by omega)).trans (by omega)
    have stp : ∀ v : Int, (pcn 12 k ≤ nv → v = bsm (ctf fh fw fp vh vw vp) nf nv (nv - pcn 12 k) k) → ∃ h', fX6_leastSum_b9 N 9 fu (uA h 13 k (iI v)) (iI ((k : Int) - 1)) = some (iI (bsm (ctf fh fw fp vh vw vp) nf nv nv 0), h') ∧ Ke [] [13] [] [] h0 h' ∧ sz h' = sz h0 ∧ (∀ W, W < 2 ^ nf → pcn 12 W ≤ nv → aI h' 13 W = iI (bsm (ctf fh fw fp vh vw vp) nf nv (nv - pcn 12 W) W)) := by
      intro v hvv
      refine ih fu (uA h 13 k (iI v)) (by omega) (by omega) (ke.b 13 k _ (by decide)) s (fun W h1 h2 h3 => ?_)
      by_cases w : W = k
      · subst w
        rw [← hvv h3]
        simp [HR]
      · have := hv W (by omega) h2 h3
        simp [HR, w, this]
    have un : fX6_leastSum_b9 N 9 (fu + 1) h (iI k) = fX6_leastSum_b9_body N (fX6_leastSum_b9 N 9 fu) 9 h (iI k) := rfl
    rw [un]
    have st13 : ∀ v, sA h (some 13) (iI (k : Int)) v = some (uA h 13 k v) := fun v => sAv (ss_13 hS) (show k < 4096 by omega) (by omega)
    have em : iI (k : Int) + iI (-1) = iI ((k : Int) - 1) := by rw [iI_add]; rfl
    simp only [fX6_leastSum_b9_body, fX6_leastSum_b61, lit, iI_neg, em, Option.bind_some]
    by_cases w1 : pcn 12 k = nv
    · obtain ⟨h', q1, q2⟩ := stp 0 (fun _ => by rw [w1, Nat.sub_self]; rfl)
      refine ⟨h', ?_, q2⟩
      refine ifn (a1) ?_
      refine bst (bc) ?_
      refine bst (o5) ?_
      refine ifp (pe.mpr w1) ?_
      refine bst (sR_603_9 hS) ?_
      refine bst (st13 _) ?_
      exact q1
    · by_cases w2 : nv ≤ pcn 12 k
      · obtain ⟨h', q1, q2⟩ := ih fu h (by omega) (by omega) ke s (fun W h1 h2 h3 => by
          by_cases w : W = k
          · subst w; omega
          · exact hv W (by omega) h2 h3)
        refine ⟨h', ?_, q2⟩
        refine ifn (a1) ?_
        refine bst (bc) ?_
        refine bst (o5) ?_
        refine ifn (fun z => w1 (pe.mp z)) ?_
        refine bst (o5) ?_
        refine ifp (pl.mpr w2) ?_
        exact q1
      · have pV1 := pV.e hz ke (by decide) (by decide)
        have pF1 := pF.e hz ke (by decide) (by decide)
        have hj : pcn 12 k < nv := by omega
        obtain ⟨e, he⟩ : ∃ e, nv - pcn 12 k = e + 1 := ⟨nv - pcn 12 k - 1, by omega⟩
        have ll := L_lsb (N := N) hS hf ((ke.1 604 9 (by decide) (by omega)).trans g4) pF1 pV1 hkl hj (S := bsm (ctf fh fw fp vh vw vp) nf nv e) (fun i hi hb => by
          obtain ⟨-, s2⟩ := set_f (i := i) (T := k) (by omega) (by omega)
          obtain ⟨s3, s4⟩ := s2 hb
          have bb := bsm_b (ctf fh fw fp vh vw vp) nf nv e (k ||| 2 ^ i)
          have := hv (k ||| 2 ^ i) (by omega) (or_lt hi hkl) (by omega)
          rw [s4, show nv - (pcn 12 k + 1) = e by omega] at this
          exact ⟨this, bb⟩) nf 0 N (by omega) (by omega)
        have jj : nv - (e + 1) = pcn 12 k := by omega
        obtain ⟨h', q1, q2⟩ := stp (lsb (ctf fh fw fp vh vw vp) (bsm (ctf fh fw fp vh vw vp) nf nv e) k (pcn 12 k) nf) (fun _ => by rw [he]; simp only [bsm]; rw [jj])
        refine ⟨h', ?_, q2⟩
        have lw := lQv (t := 26) (ss_11 hS) (show pcn 12 k < 6 by omega) (by omega) (pV1 (pcn 12 k) hj).1.1
        have l2 : fX6_leastSumBehind N h 9 (iI k) (some (vA (pcn 12 k))) = some (iI (lsb (ctf fh fw fp vh vw vp) (bsm (ctf fh fw fp vh vw vp) nf nv e) k (pcn 12 k) nf), h) := by
          simp only [fX6_leastSumBehind, lit]
          exact ll
        refine ifn (a1) ?_
        refine bst (bc) ?_
        refine bst (o5) ?_
        refine ifn (fun z => w1 (pe.mp z)) ?_
        refine bst (o5) ?_
        refine ifn (fun z => w2 (pl.mp z)) ?_
        refine bst (sR_603_9 hS) ?_
        refine bst (sR_601_9 hS) ?_
        refine bst (lw) ?_
        refine bst (rcv (by rw [ss_9 hS])) ?_
        refine bst (l2) ?_
        refine bst (st13 _) ?_
        exact q1
theorem v_lsum {N : Nat} (hN : 100000000 ≤ N) {h : Hs} (hS : Sk h) (hz : 70 ≤ sz h) {nf nv : Nat} {fA vA : Nat → Nat} {fh fw fp vh vw vp : Nat → Int} (hf : nf ≤ 12) (hnv : nv ≤ 6) (g4 : gI h 604 9 = iI nf) (g5 : gI h 605 9 = iI nv) (pF : PF h nf fA fh fw fp) (pV : PV h nv vA vh vw vp) : ∃ h', fX6_leastSum N h 9 = some (iI (bsm (ctf fh fw fp vh vw vp) nf nv nv 0), h') ∧ Ke [] [13] [] [] h h' ∧ sz h' = sz h ∧ (∀ W, W < 2 ^ nf → pcn 12 W ≤ nv → aI h' 13 W = iI (bsm (ctf fh fw fp vh vw vp) nf nv (nv - pcn 12 W) W)) := by
  have hp := p12 hf
  obtain ⟨h', q1, q2⟩ := L_sum (N := N) hN hS hz hf hnv g4 g5 pF pV (2 ^ nf) N h (by omega) (by omega) Ke_rf rfl (fun W h1 h2 => by omega)
  refine ⟨h', ?_, q2⟩
  have o4 : oI 6 4 h (some 9) = some (iI nf) := oIv (by rw [ss_9 hS]) g4
  have es : iI 1 <<< (iI (nf : Int) &&& iI 31) = iI ((2 ^ nf : Nat) : Int) := by
    by_cases w : nf < 12
    · exact sh_f w
    · have : nf = 12 := by omega
      subst this
      decide
  simp only [fX6_leastSum, lit, Option.bind_some]
  refine bst (o4) ?_
  skip
  rw [es, iI_sub]
  exact q1
