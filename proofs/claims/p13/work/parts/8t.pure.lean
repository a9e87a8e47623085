/-! ===== paint: the reference's prefix ===== -/
theorem tb_or (T i f : Nat) : (T ||| 2 ^ i).testBit f = (T.testBit f || decide (i = f)) := by
  rw [Nat.testBit_or, Nat.testBit_two_pow]
def mkP (c : Nat → Nat) : Nat → Nat
  | 0 => 0
  | d + 1 => mkP c d ||| 2 ^ c d
theorem mkP_t (c : Nat → Nat) (f : Nat) : ∀ d : Nat, (mkP c d).testBit f = true ↔ ∃ k, k < d ∧ c k = f := by
  intro d
  induction d with
  | zero =>
    simp only [mkP, Nat.zero_testBit]
    exact ⟨(fun z => absurd z (by decide)), (fun ⟨k, hk, _⟩ => by omega)⟩
  | succ d ih =>
    simp only [mkP, tb_or, Bool.or_eq_true, decide_eq_true_eq]
    rw [ih]
    constructor
    · rintro (⟨k, hk, e⟩ | e)
      · exact ⟨k, by omega, e⟩
      · exact ⟨d, by omega, e⟩
    · rintro ⟨k, hk, e⟩
      by_cases w : k = d
      · subst w; exact Or.inr e
      · exact Or.inl ⟨k, by omega, e⟩
theorem mkP_e {c c' : Nat → Nat} : ∀ d : Nat, (∀ k, k < d → c k = c' k) → mkP c d = mkP c' d := by
  intro d
  induction d with
  | zero => intro _; rfl
  | succ d ih => intro q; simp only [mkP]; rw [ih (fun k hk => q k (by omega)), q d (by omega)]
def csP (ct : Nat → Nat → Int) (c : Nat → Nat) : Nat → Int
  | 0 => 0
  | d + 1 => csP ct c d + ct (c d) d
theorem csP_e {ct : Nat → Nat → Int} {c c' : Nat → Nat} : ∀ d : Nat, (∀ k, k < d → c k = c' k) → csP ct c d = csP ct c' d := by
  intro d
  induction d with
  | zero => intro _; rfl
  | succ d ih => intro q; simp only [csP]; rw [ih (fun k hk => q k (by omega)), q d (by omega)]
theorem L_tk {N : Nat} {h : Hs} (hS : Sk h) {c : Nat → Nat} {d : Nat} (hd : d < 6) (hc : ∀ k, k ≤ d → aI h 68 k = iI (c k) ∧ c k < 13) : ∀ (e k fu : Nat), k + e = d → e < fu → (∀ g, g < k → c g ≠ c d) → fX12_isTaken_b2 N 29 fu h (iI d) (iI k) = some (iI (b2 ((mkP c d).testBit (c d))), h) := by
  have ld := lAv (ss_68 hS) (show d < 6 by omega) (by omega) (hc d (by omega)).1
  intro e
  induction e with
  | zero =>
    intro k fu hk hfu hne
    obtain ⟨fu, rfl⟩ : ∃ m, fu = m + 1 := ⟨fu - 1, by omega⟩
    show fX12_isTaken_b2_body N (fX12_isTaken_b2 N 29 fu) 29 h (iI d) (iI k) = _
    have a1 : iI (d : Int) ≤ iI (k : Int) := (iI_le (by omega) (by omega) (by omega) (by omega)).mpr (by omega)
    have nt : (mkP c d).testBit (c d) = false := by
      cases hb : (mkP c d).testBit (c d) with
      | false => rfl
      | true =>
        obtain ⟨g, hg, e⟩ := (mkP_t c (c d) d).mp hb
        exact absurd e (hne g (by omega))
    rw [nt]
    simp only [fX12_isTaken_b2_body, lit]
    refine ifp (a1) ?_
    rfl
  | succ e ih =>
    intro k fu hk hfu hne
    obtain ⟨fu, rfl⟩ : ∃ m, fu = m + 1 := ⟨fu - 1, by omega⟩
    show fX12_isTaken_b2_body N (fX12_isTaken_b2 N 29 fu) 29 h (iI d) (iI k) = _
    have a1 : ¬ iI (d : Int) ≤ iI (k : Int) := fun z => by have := (iI_le (by omega) (by omega) (by omega) (by omega)).mp z; omega
    have lk := lAv (ss_68 hS) (show k < 6 by omega) (by omega) (hc k (by omega)).1
    have ck := (hc k (by omega)).2
    have cd := (hc d (by omega)).2
    have le : iI (c k : Int) = iI (c d : Int) ↔ c k = c d := (iI_eq (by omega) (by omega) (by omega) (by omega)).trans (by omega)
    by_cases w : c k = c d
    · have yt : (mkP c d).testBit (c d) = true := (mkP_t c (c d) d).mpr ⟨k, by omega, w⟩
      rw [yt]
      simp only [fX12_isTaken_b2_body, lit]
      refine ifn (a1) ?_
      refine bst (sR_1262_29 hS) ?_
      refine bst (lk) ?_
      refine bst (sR_1262_29 hS) ?_
      refine bst (ld) ?_
      refine ifp (le.mpr w) ?_
      rfl
    · have q := ih (k + 1) fu (by omega) (by omega) (fun g hg => by
        by_cases z : g = k
        · rw [z]; exact w
        · exact hne g (by omega))
      simp only [Int.natCast_add, Int.natCast_one] at q
      simp only [fX12_isTaken_b2_body, lit, iI_add, Option.bind_some]
      refine ifn (a1) ?_
      refine bst (sR_1262_29 hS) ?_
      refine bst (lk) ?_
      refine bst (sR_1262_29 hS) ?_
      refine bst (ld) ?_
      refine ifn (fun z => w (le.mp z)) ?_
      exact q
theorem L_ct {N : Nat} {h : Hs} (hS : Sk h) {nf nv : Nat} {fh fw fp vh vw vp : Nat → Int} (hf : nf ≤ 12) (hnv : nv ≤ 6) (qF : QF h 64 65 nf fh fw fp) (qV : QF h 66 67 nv vh vw vp) {c : Nat → Nat} {d : Nat} (hd : d ≤ nv) (hc : ∀ k, k < d → aI h 68 k = iI (c k) ∧ c k < nf) : ∀ (e k fu : Nat), k + e = d → e < fu → fX12_costTo_b4 N 29 fu h (iI d) (iI (csP (ctf fh fw fp vh vw vp) c k)) (iI k) = some (iI (csP (ctf fh fw fp vh vw vp) c d), h) := by
  intro e
  induction e with
  | zero =>
    intro k fu hk hfu
    obtain ⟨fu, rfl⟩ : ∃ m, fu = m + 1 := ⟨fu - 1, by omega⟩
    have : k = d := by omega
    subst this
    show fX12_costTo_b4_body N (fX12_costTo_b4 N 29 fu) 29 h (iI k) (iI (csP (ctf fh fw fp vh vw vp) c k)) (iI k) = _
    have a1 : iI (k : Int) ≤ iI (k : Int) := (iI_le (by omega) (by omega) (by omega) (by omega)).mpr (by omega)
    simp only [fX12_costTo_b4_body]
    refine ifp (a1) ?_
    rfl
  | succ e ih =>
    intro k fu hk hfu
    obtain ⟨fu, rfl⟩ : ∃ m, fu = m + 1 := ⟨fu - 1, by omega⟩
    show fX12_costTo_b4_body N (fX12_costTo_b4 N 29 fu) 29 h (iI d) (iI (csP (ctf fh fw fp vh vw vp) c k)) (iI k) = _
    have a1 : ¬ iI (d : Int) ≤ iI (k : Int) := fun z => by have := (iI_le (by omega) (by omega) (by omega) (by omega)).mp z; omega
    obtain ⟨hc1, hc2⟩ := hc k (by omega)
    have lk := lAv (ss_68 hS) (show k < 6 by omega) (by omega) hc1
    have co := v_cost (N := N) hS hf hnv qF qV hc2 (show k < nv by omega)
    have q := ih (k + 1) fu (by omega) (by omega)
    simp only [Int.natCast_add, Int.natCast_one, csP] at q
    simp only [fX12_costTo_b4_body, lit, iI_add, Option.bind_some]
    refine ifn a1 (bst (sR_1262_29 hS) (bst lk (bst (rcv (by rw [ss_29 hS])) (bst co ?_))))
    rw [iI_add]
    exact q
theorem v_tk {N : Nat} (hN : 100000000 ≤ N) {h : Hs} (hS : Sk h) {c : Nat → Nat} {d : Nat} (hd : d < 6) (hc : ∀ k, k ≤ d → aI h 68 k = iI (c k) ∧ c k < 13) : fX12_isTaken N h 29 (iI d) = some (iI (b2 ((mkP c d).testBit (c d))), h) := by
  simp only [fX12_isTaken, lit]
  exact L_tk hS hd hc d 0 N (by omega) (by omega) (fun g hg => by omega)
theorem v_ct {N : Nat} (hN : 100000000 ≤ N) {h : Hs} (hS : Sk h) {nf nv : Nat} {fh fw fp vh vw vp : Nat → Int} (hf : nf ≤ 12) (hnv : nv ≤ 6) (qF : QF h 64 65 nf fh fw fp) (qV : QF h 66 67 nv vh vw vp) {c : Nat → Nat} {d : Nat} (hd : d ≤ nv) (hc : ∀ k, k < d → aI h 68 k = iI (c k) ∧ c k < nf) : fX12_costTo N h 29 (iI d) = some (iI (csP (ctf fh fw fp vh vw vp) c d), h) := by
  simp only [fX12_costTo, lit]
  exact L_ct hS hf hnv qF qV hd hc d 0 N (by omega) (by omega)
