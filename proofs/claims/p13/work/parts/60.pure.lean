theorem L_fill {N : Nat} {a n : Nat} {v : Int} (hn : n < 5000) : ∀ (d i : Nat) (fu : Nat) (h : Hs), sh h a = (20, n) → i + d = n → d < fu → fJ7_fill_53178_b5 N fu h (some a) (iI v) (iI i) (iI n) = some (wA h a (fun j => if i ≤ j ∧ j < n then iI v else aI h a j)) := by
  intro d
  induction d with
  | zero =>
    intro i fu h hs hi hf
    obtain ⟨fu, rfl⟩ : ∃ k, fu = k + 1 := ⟨fu - 1, by omega⟩
    show fJ7_fill_53178_b5_body N (fJ7_fill_53178_b5 N fu) h (some a) (iI v) (iI i) (iI n) = _
    have a1 : iI (n : Int) ≤ iI (i : Int) := (iI_le (by omega) (by omega) (by omega) (by omega)).mpr (by omega)
    have ef : (fun j => if i ≤ j ∧ j < n then iI v else aI h a j) = fun j => aI h a j := by
      funext j
      rw [if_neg (by omega)]
    rw [ef, show (fun j => aI h a j) = aI h a from rfl, wA_self]
    simp only [fJ7_fill_53178_b5_body]
    refine ifp (a1) ?_
    rfl
  | succ d ih =>
    intro i fu h hs hi hf
    obtain ⟨fu, rfl⟩ : ∃ k, fu = k + 1 := ⟨fu - 1, by omega⟩
    show fJ7_fill_53178_b5_body N (fJ7_fill_53178_b5 N fu) h (some a) (iI v) (iI i) (iI n) = _
    have a1 : ¬ iI (n : Int) ≤ iI (i : Int) := fun q => by have := (iI_le (by omega) (by omega) (by omega) (by omega)).mp q; omega
    have e := ih (i + 1) fu (uA h a i (iI v)) hs (by omega) (by omega)
    simp only [Int.natCast_add, Int.natCast_one] at e
    simp only [fJ7_fill_53178_b5_body, lit, iI_add, Option.bind_some]
    refine ifn (a1) ?_
    refine bst (sAv hs (by omega) (by omega)) ?_
    rw [e]
    rw [uA_wA, wA_wA]
    congr 2
    funext j
    simp only [aI_wA, if_true]
    by_cases e1 : j = i
    · rw [if_neg (by omega), if_pos e1, if_pos (by omega)]
    · by_cases e2 : i ≤ j ∧ j < n
      · rw [if_pos (by omega), if_pos e2]
      · rw [if_neg (by omega), if_neg e1, if_neg e2]
theorem v_fill {N : Nat} (hN : 100000000 ≤ N) {h : Hs} {a n : Nat} {v : Int} (hn : n < 5000) (hs : sh h a = (20, n)) : fJ7_fill_53178 N h (some a) (iI v) = some (wA h a (fun j => if j < n then iI v else aI h a j)) := by
  have e := L_fill (N := N) (v := v) hn n 0 N h hs (by omega) (by omega)
  simp only [Int.natCast_zero] at e
  have eo : oL h (some a) = some (iI n) := by
    simp only [oL, hs, if_true]
    rfl
  simp only [fJ7_fill_53178, lit]
  refine bst (eo) ?_
  rw [e]
  congr 2
  funext j
  simp
/-- the class's new thing -/
def thingO (h : Hs) (nt : Nat) (l x w lo hi g : Int) : Hs := wA (uI (uI (uI (uI (uI (uI (uI (uR (nw (nw h (9, 0)) (20, 10)) 906 (sz h) (some (sz h + 1))) 900 (sz h) (iI nt)) 901 (sz h) (iI l)) 907 (sz h) (iI x)) 902 (sz h) (iI w)) 904 (sz h) (iI lo)) 905 (sz h) (iI hi)) 903 (sz h) (iI g)) (sz h + 1) (fun j => if j < 10 then iI (-1) else iI 0)
theorem v_thingI {N : Nat} (hN : 100000000 ≤ N) {h : Hs} {nt : Nat} {l x w lo hi g : Int} : fX9_init N (nw h (9, 0)) (sz h) (iI nt) (iI l) (iI x) (iI w) (iI lo) (iI hi) (iI g) = some (thingO h nt l x w lo hi g) := by
  have z1 : sz (nw h (9, 0)) = sz h + 1 := rfl
  have e1 : sh (nw (nw h (9, 0)) (20, 10)) (sz h) = (9, 0) := by
    rw [sh_nw (by rw [z1]; omega), sh_nwS]
  have e2 : sh (nw (nw h (9, 0)) (20, 10)) (sz h + 1) = (20, 10) := by
    rw [← z1, sh_nwS]
  have e3 : ∀ j, aI (nw (nw h (9, 0)) (20, 10)) (sz h + 1) j = 0 := fun j => by
    rw [← z1, aI_nwS]
  simp only [fX9_init, lit, iI_neg, Option.bind_some, z1, qI, qR, HR, e1, if_true]
  obtain ⟨hq, ehq⟩ : ∃ hq, hq = uI (uI (uI (uI (uI (uI (uI (uR (nw (nw h (9, 0)) (20, 10)) 906 (sz h) (some (sz h + 1))) 900 (sz h) (iI nt)) 901 (sz h) (iI l)) 907 (sz h) (iI x)) 902 (sz h) (iI w)) 904 (sz h) (iI lo)) 905 (sz h) (iI hi)) 903 (sz h) (iI g) := ⟨_, rfl⟩
  have s1 : (sh hq (sz h)).1 = 9 := by rw [ehq]; simp only [HR, e1]
  have s2 : sh hq (sz h + 1) = (20, 10) := by rw [ehq]; simp only [HR, e2]
  have r6 : gR hq 906 (sz h) = some (sz h + 1) := by rw [ehq]; simp [HR]
  have a9 : ∀ j, aI hq (sz h + 1) j = 0 := fun j => by rw [ehq]; simp only [HR, e3]
  have fi := v_fill (N := N) hN (v := -1) (by omega) s2
  have o6 : oR 9 6 hq (some (sz h)) = some (some (sz h + 1)) := oRv s1 r6
  have tq : thingO h nt l x w lo hi g = wA hq (sz h + 1) (fun j => if j < 10 then iI (-1) else aI hq (sz h + 1) j) := by
    rw [ehq, thingO]
    congr 1
    funext j
    simp only [HR, e3, lit]
  rw [tq]
  simp only [← ehq]
  refine bst (o6) ?_
  refine bst (fi) ?_
  rfl
