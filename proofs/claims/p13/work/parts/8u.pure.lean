/-! ===== paint: the best so far, candidate after candidate ===== -/
def sbt (s : Nat → Int) (P : Int) (gl : Nat → Nat → Nat) (r : Int × (Nat → Nat)) (i : Nat) : Int × (Nat → Nat) := if s i < 1000000 ∧ (r.1 < 0 ∨ P + s i < r.1) then (P + s i, gl i) else r
def fld (s : Nat → Int) (P : Int) (gl : Nat → Nat → Nat) : Nat → Nat → Int × (Nat → Nat) → Int × (Nat → Nat)
  | 0, _, r => r
  | n + 1, i, r => fld s P gl n (i + 1) (sbt s P gl r i)
theorem fld_A {s : Nat → Int} {P : Int} {gl : Nat → Nat → Nat} : ∀ (n i : Nat) (r : Int × (Nat → Nat)), (∀ k, i ≤ k → k < i + n → ¬ (s k < 1000000 ∧ (r.1 < 0 ∨ P + s k < r.1))) → fld s P gl n i r = r := by
  intro n
  induction n with
  | zero => intro i r _; rfl
  | succ n ih =>
    intro i r q
    have e : sbt s P gl r i = r := by unfold sbt; rw [if_neg (q i (by omega) (by omega))]
    simp only [fld, e]
    exact ih (i + 1) r (fun k h1 h2 => q k (by omega) (by omega))
theorem fld_B {s : Nat → Int} {P : Int} {gl : Nat → Nat → Nat} (hP : 0 ≤ P) (hs : ∀ k, 0 ≤ s k) : ∀ (n i f : Nat) (r : Int × (Nat → Nat)), i ≤ f → f < i + n → s f < 1000000 → (r.1 < 0 ∨ P + s f < r.1) → (∀ k, i ≤ k → k < i + n → s f ≤ s k) → (∀ k, i ≤ k → k < f → s k ≠ s f) → fld s P gl n i r = (P + s f, gl f) := by
  intro n
  induction n with
  | zero => intro i f r h1 h2; omega
  | succ n ih =>
    intro i f r h1 h2 h3 h4 h5 h6
    simp only [fld]
    by_cases w : f = i
    · subst w
      have e : sbt s P gl r f = (P + s f, gl f) := by unfold sbt; rw [if_pos ⟨h3, h4⟩]
      rw [e]
      refine fld_A n (f + 1) _ (fun k k1 k2 z => ?_)
      have a1 := h5 k (by omega) (by omega)
      have a2 := hs f
      rcases z.2 with z2 | z2
      · simp only at z2; omega
      · simp only at z2; omega
    · have a1 := h5 i (by omega) (by omega)
      have a2 := h6 i (by omega) (by omega)
      refine ih (i + 1) f _ (by omega) (by omega) h3 ?_ (fun k k1 k2 => h5 k (by omega) (by omega)) (fun k k1 k2 => h6 k (by omega) k2)
      unfold sbt
      by_cases z : s i < 1000000 ∧ (r.1 < 0 ∨ P + s i < r.1)
      · rw [if_pos z]
        right
        show P + s f < P + s i
        omega
      · rw [if_neg z]
        exact h4
theorem lsb_le {ct : Nat → Nat → Int} {S : Nat → Int} {T j : Nat} : ∀ n i : Nat, i < n → lsb ct S T j n ≤ swt ct S T i j := by
  intro n
  induction n with
  | zero => intro i hi; omega
  | succ n ih =>
    intro i hi
    simp only [lsb]
    by_cases w : i = n
    · subst w
      by_cases m : swt ct S T i j < lsb ct S T j i
      · rw [if_pos m]; omega
      · rw [if_neg m]; omega
    · have := ih i (by omega)
      by_cases m : swt ct S T n j < lsb ct S T j n
      · rw [if_pos m]; omega
      · rw [if_neg m]; omega
theorem swt_0 {ct : Nat → Nat → Int} {nf nv e T j : Nat} (k : Nat) : 0 ≤ swt ct (bsm ct nf nv e) T k j := (swt_b (fun _ => (bsm_b ct nf nv e _).1)).1
/-- all candidates of a want -/
theorem fld_all {ct : Nat → Nat → Int} {nf nv e T : Nat} {P : Int} (hP : 0 ≤ P) {gl : Nat → Nat → Nat} (r : Int × (Nat → Nat)) : fld (fun i => swt ct (bsm ct nf nv e) T i (nv - (e + 1))) P gl nf 0 r = if bsm ct nf nv (e + 1) T < 1000000 ∧ (r.1 < 0 ∨ P + bsm ct nf nv (e + 1) T < r.1) then (P + bsm ct nf nv (e + 1) T, gl (gf1 ct nf nv e T)) else r := by
  have le : ∀ k, k < nf → bsm ct nf nv (e + 1) T ≤ swt ct (bsm ct nf nv e) T k (nv - (e + 1)) := fun k hk => lsb_le nf k hk
  by_cases w : bsm ct nf nv (e + 1) T < 1000000 ∧ (r.1 < 0 ∨ P + bsm ct nf nv (e + 1) T < r.1)
  · rw [if_pos w]
    obtain ⟨p1, p2, p3, p4, p5⟩ := gf1_p w.1
    have es : swt ct (bsm ct nf nv e) T (gf1 ct nf nv e T) (nv - (e + 1)) = bsm ct nf nv (e + 1) T := by
      unfold swt
      rw [if_neg (fun z => z.elim (fun z => by rw [p2] at z; cases z) (fun z => by omega)), if_pos (by rw [← p4]; exact w.1), ← p4]
    have := fld_B (s := fun i => swt ct (bsm ct nf nv e) T i (nv - (e + 1))) (gl := gl) hP (fun k => swt_0 k) nf 0 (gf1 ct nf nv e T) r (by omega) (by omega) (by show swt _ _ _ _ _ < _; rw [es]; exact w.1) (by show r.1 < 0 ∨ P + swt _ _ _ _ _ < _; rw [es]; exact w.2) (fun k _ hk => by show swt _ _ _ _ _ ≤ swt _ _ _ _ _; rw [es]; exact le k (by omega)) (fun k _ hk => by show swt _ _ _ _ _ ≠ swt _ _ _ _ _; rw [es]; exact p5 k hk)
    rw [this]
    show (P + swt ct (bsm ct nf nv e) T (gf1 ct nf nv e T) (nv - (e + 1)), _) = _
    rw [es]
  · rw [if_neg w]
    refine fld_A nf 0 r (fun k _ hk z => w ?_)
    have a1 := le k (by omega)
    obtain ⟨z1, z2⟩ := z
    refine ⟨by omega, ?_⟩
    rcases z2 with z2 | z2
    · exact Or.inl z2
    · exact Or.inr (by omega)
/-- what can be served costs little -/
theorem bsm_s {ct : Nat → Nat → Int} {nf nv : Nat} (hc : ∀ i j, i < nf → j < nv → ct i j ≤ 19602) : ∀ e T : Nat, e ≤ nv → bsm ct nf nv e T < 1000000 → bsm ct nf nv e T ≤ 19602 * e := by
  intro e
  induction e with
  | zero => intro T _ _; simp only [bsm]; omega
  | succ e ih =>
    intro T he q
    obtain ⟨p1, p2, p3, p4, p5⟩ := gf1_p q
    have a1 := hc (gf1 ct nf nv e T) (nv - (e + 1)) p1 (by omega)
    have a2 := ih (T ||| 2 ^ gf1 ct nf nv e T) (by omega) (by omega)
    omega
