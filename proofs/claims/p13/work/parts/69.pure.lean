/-! ===== where things stand after k steps: the class's trial places ===== -/
theorem v_quot {N : Nat} {h : Hs} {a b : Int} (a1 : -2147483648 ≤ a) (a2 : a < 2147483648) (b1 : 1 ≤ b) (b2 : b < 2147483648) : fX11_quotient N h (iI a) (iI b) = some (iI (a.tdiv b), h) := by
  have e : ¬ iI b = iI 0 := fun q => by have := (iI_eq (by omega) (by omega) (by omega) (by omega)).mp q; omega
  have d : dv (iI a) (iI b) = some (iI (a.tdiv b)) := by
    have e0 : ¬ iI b = 0 := e
    rw [dv, if_neg e0]
    by_cases w : b = 1
    · subst w
      rw [Int.tdiv_one]
      have : iI a / iI 1 = iI a := Int32.div_one
      rw [this]
    · rw [iI_dv a1 a2 (by omega) b2]
  simp only [fX11_quotient, fX11_quotient_b11, lit]
  refine ifn (e) ?_
  refine bst (d) ?_
  rfl
/-- the place of rope r's thing when its drum has gone k steps more -/
def rpl (wy gr sr dn : Nat → Int) (sd : Int) (r : Nat) (k : Int) : Int := sr r + wy r * (dn r + sd * k).tdiv (100 * gr r)
theorem v_placeFrom {N : Nat} {h : Hs} {nr nt : Nat} {rA tA rT : Nat → Nat} {wy gr hd : Nat → Int} {gn : Nat → Bool} (hR : RRo h nr nt rA tA rT wy gr hd gn) {r : Nat} (hr : r < nr) {p q : Int} (q1 : -2147483648 ≤ q) (q2 : q < 2147483648) : fX4_placeFrom N h (rA r) (iI p) (iI q) = some (iI (p + wy r * q.tdiv (100 * gr r)), h) := by
  obtain ⟨⟨-, -, -, d4⟩, ⟨f0, f1, f2, f3, f4, f8⟩, -, q0, q3⟩ := hR.2.1 r hr
  have vq := v_quot (N := N) (h := h) (a := q) (b := 100 * gr r) q1 q2 (by omega) (by omega)
  have e : iI 100 * iI (gr r) = iI (100 * gr r) := by rw [iI_mul]
  simp only [fX4_placeFrom, lit]
  refine bst (oIv (by rw [d4]) f2) ?_
  refine bst (oIv (by rw [d4]) f3) ?_
  rw [e]
  refine bst (vq) ?_
  rw [iI_mul, iI_add]
theorem v_doneAfter {N : Nat} {h : Hs} {nr nt nd : Nat} {rA tA dA rT : Nat → Nat} {wy gr hd ds : Nat → Int} {gn : Nat → Bool} {dr td : Nat → Option Nat} {sr dn : Nat → Int} (hR : RRo h nr nt rA tA rT wy gr hd gn) (hD : RDr h nd dA ds) (hC : RTc h nt nr tA dA rA dr td sr dn) {r d : Nat} (hr : r < nr) (hdr : dr r = some d) (hd' : d < nd) {k : Int} : fX4_doneAfter N h (rA r) (iI k) = some (iI (dn r + ds d * k), h) := by
  obtain ⟨⟨-, -, -, d4⟩, -⟩ := hR.2.1 r hr
  obtain ⟨⟨-, -, -, t4⟩, ⟨-, t1⟩, -⟩ := hD.2.1 d hd'
  obtain ⟨g1, g2⟩ := hC.1 r hr
  have g3 := (g2 (by rw [hdr]; exact fun q => by cases q)).2
  rw [hdr] at g1
  have o5 : oR 4 5 h (some (rA r)) = some (some (dA d)) := oRv (by rw [d4]) g1
  simp only [fX4_doneAfter, fX4_doneAfter_b28]
  refine bst (o5) ?_
  refine ifn (fun q => by cases q) ?_
  refine bst (oIv (by rw [d4]) g3) ?_
  refine bst (o5) ?_
  refine bst (oIv (by rw [t4]) t1) ?_
  rw [iI_mul, iI_add]
