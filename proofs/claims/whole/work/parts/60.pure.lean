theorem wA_id (h : Hs) (a : Nat) : wA h a (fun j => aI h a j) = h := by
  sorry
theorem L_fill {N : Nat} {a n : Nat} {v : Int} (hn : n < 5000) : ∀ (d i : Nat) (fu : Nat) (h : Hs), sh h a = (20, n) → i + d = n → d < fu → fJ7_fill_53178_b5 N fu h (some a) (iI v) (iI i) (iI n) = some (wA h a (fun j => if i ≤ j ∧ j < n then iI v else aI h a j)) := by
  intro d
  induction d with
  | zero =>
    intro i fu h hs hi hf
    obtain ⟨fu, rfl⟩ : ∃ k, fu = k + 1 := ⟨fu - 1, by omega⟩
    show fJ7_fill_53178_b5_body N (fJ7_fill_53178_b5 N fu) h (some a) (iI v) (iI i) (iI n) = _
    have a1 : iI (n : Int) ≤ iI (i : Int) := (iI_le (by omega) (by omega) (by omega) (by omega)).mpr (by omega)
    have ef : (fun j => if i ≤ j ∧ j < n then iI v else aI h a j) = fun j => aI h a j := by
      funext j
      rw [if_neg (by omega)]
    rw [ef, wA_id]
    simp only [fJ7_fill_53178_b5_body]
    refine ifp (a1) ?_
    rfl
  | succ d ih =>
    intro i fu h hs hi hf
    obtain ⟨fu, rfl⟩ : ∃ k, fu = k + 1 := ⟨fu - 1, by omega⟩
    show fJ7_fill_53178_b5_body N (fJ7_fill_53178_b5 N fu) h (some a) (iI v) (iI i) (iI n) = _
    have a1 : ¬ iI (n : Int) ≤ iI (i : Int) := fun q => by have := (iI_le (by omega) (by omega) (by omega) (by omega)).mp q; omega
    have e := ih (i + 1) fu (uA h a i (iI v)) hs (by omega) (by omega)
    simp only [Int.natCast_add, Int.natCast_one] at e
    simp only [fJ7_fill_53178_b5_body, lit, iI_add, Option.bind_some]
    refine ifn (a1) ?_
    refine bst (sAv hs (by omega) (by omega)) ?_
    rw [e]
    sorry
