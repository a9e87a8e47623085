theorem L_pullMw {N : Nat} (hN : 100000000 ≤ N) {h : Hs} (hS : Sk h) {nr nt nd : Nat} {rA tA dA rT : Nat → Nat} {wy gr hd ds : Nat → Int} {gn : Nat → Bool} {tl tw tg ls ms pa : Nat → Int} {dr td : Nat → Option Nat} {sr dn : Nat → Int} (hT : RTh h nt tA tl tw tg ls ms pa) (hD : RDr h nd dA ds) (hR : RRo h nr nt rA tA rT wy gr hd gn) (hM : RTm h nr rT dr sr dn) (hL : RTl nt nd nr rT dr td) {cw : Nat → Int} (hW : ∀ i, i < 20 → aI h 45 i = iI (cw i)) : ∀ (d i : Nat) (c : Int) (fu : Nat), i + d = 20 → d < fu → fX12_pull_b4 N 29 fu h (iI c) (iI i) = some (iI (c + sumF cw i d + sumF (fun r => tq wy gr sr tg ds rT dr r (pa (rT r))) 0 nr), h) := by
  have c3 := hR.1.2.2
  intro d
  induction d with
  | zero =>
    intro i c fu hi hf
    obtain ⟨fu, rfl⟩ : ∃ m, fu = m + 1 := ⟨fu - 1, by omega⟩
    show fX12_pull_b4_body N (fX12_pull_b4 N 29 fu) 29 h (iI c) (iI i) = _
    have a1 : iI 20 ≤ iI (i : Int) := (iI_le (by omega) (by omega) (by omega) (by omega)).mpr (by omega)
    have lr := L_pullMr (N := N) hS hT hD hR hM hL nr 0 c N (by omega) (by omega)
    simp only [fX12_pull_b4_body, lit]
    refine ifp (a1) ?_
    rw [sumF_z, Int.add_zero]
    exact lr
  | succ d ih =>
    intro i c fu hi hf
    obtain ⟨fu, rfl⟩ : ∃ m, fu = m + 1 := ⟨fu - 1, by omega⟩
    show fX12_pull_b4_body N (fX12_pull_b4 N 29 fu) 29 h (iI c) (iI i) = _
    have a1 : ¬ iI 20 ≤ iI (i : Int) := fun q => by have := (iI_le (by omega) (by omega) (by omega) (by omega)).mp q; omega
    have e := ih (i + 1) (c + cw i) fu (by omega) (by omega)
    simp only [Int.natCast_add, Int.natCast_one] at e
    have e1 : iI (i : Int) + iI 1 = iI ((i : Int) + 1) := by rw [iI_add]
    have e2 : iI c + iI (cw i) = iI (c + cw i) := by rw [iI_add]
    simp only [fX12_pull_b4_body, lit, Option.bind_some]
    refine ifn (a1) ?_
    refine bst (sR_1219_29 hS) ?_
    refine bst (lAv (ss_45 hS) (by omega) (by omega) (hW i (by omega))) ?_
    rw [e1, e2, e]
    have es : sumF cw i (d + 1) = cw i + sumF cw (i + 1) d := rfl
    rw [es, ← Int.add_assoc]
theorem t_pull {N : Nat} (hN : 100000000 ≤ N) {h : Hs} (hS : Sk h) (hz : 70 ≤ sz h) {nr nt nd : Nat} {rA tA dA rT : Nat → Nat} {wy gr hd ds : Nat → Int} {gn : Nat → Bool} {tl tw tg ls ms pa : Nat → Int} {dr td : Nat → Option Nat} {sr dn : Nat → Int} (hT : RTh h nt tA tl tw tg ls ms pa) (hD : RDr h nd dA ds) (hR : RRo h nr nt rA tA rT wy gr hd gn) (hI : RTi h nt nd nr tA dA rA rT dr td sr dn) (hW : ICnt h) (hdn : ∀ r, r < nr → dr r ≠ none → -1000000000 ≤ dn r ∧ dn r ≤ 1000000000) (hA : ∀ r, r < nr → dr r ≠ none → pa (rT r) = sr r + wy r * (dn r).tdiv (100 * gr r)) : ∃ a h1, fX11_pull N h 0 = some (a, h1) ∧ fX12_pull N h1 29 = some (a, h1) ∧ Ke [908] [] [] [] h h1 ∧ sz h1 = sz h := by
  obtain ⟨hC, hM, hL⟩ := RTi_iff.mp hI
  obtain ⟨cw, hcw⟩ := hW
  have c3 := hR.1.2.2
  have ct := hT.1.2.2
  have lp := L_place (N := N) hL (k := 0) (by omega) (by omega) hdn nt 0 N h hS hz hT hD hR hC (by omega) (by omega)
  have ke := Ke_plH tA (tpl pa wy gr sr dn ds dr td 0) nt 0 h
  have sp := sz_plH tA (tpl pa wy gr sr dn ds dr td 0) nt 0 h
  have at' : ∀ i, i < nt → gI (plH tA (tpl pa wy gr sr dn ds dr td 0) 0 nt h) 908 (tA i) = iI (tpl pa wy gr sr dn ds dr td 0 i) := fun i hi => plH_at tA _ hT.2.2 nt 0 h i (by omega) (by omega) hi
  generalize plH tA (tpl pa wy gr sr dn ds dr td 0) 0 nt h = h1 at lp ke sp at'
  have hS1 := hS.e hz ke (by decide)
  have hT1 := hT.e hz ke (by decide) (by decide) (by decide)
  have hD1 := hD.e hz ke (by decide) (by decide) (by decide)
  have hR1 := hR.e hz ke (by decide) (by decide) (by decide) (by decide)
  have hC1 := hC.e (fun i hi => (hT.2.1 i hi).1.2.2.1) (fun r hr => (hR.2.1 r hr).1.2.2.1) ke (by decide) (by decide)
  have hM1 := hM.e hz ke (by decide)
  have w18 : ∀ i, i < 20 → aI h1 18 i = iI (cw i) := fun i hi => by rw [ke.2.1 18 (by decide) (by omega)]; exact (hcw i hi).1
  have w45 : ∀ i, i < 20 → aI h1 45 i = iI (cw i) := fun i hi => by rw [ke.2.1 45 (by decide) (by omega)]; exact (hcw i hi).2.1
  have lt := L_trial hN hS1 hT1 hD1 hR1 hC1 hL w18 at' nr 0 0 N (by omega) (by omega)
  have lm := L_pullMw hN hS1 hT1 hD1 hR1 hM1 hL w45 20 0 0 N (by omega) (by omega)
  have es : sumF (fun r => tq wy gr sr tg ds rT dr r (tpl pa wy gr sr dn ds dr td 0 (rT r))) 0 nr = sumF (fun r => tq wy gr sr tg ds rT dr r (pa (rT r))) 0 nr := by
    refine sumF_congr nr 0 (fun r _ hr => ?_)
    cases hdr : dr r with
    | none => simp [tq, hdr]
    | some d =>
      have hne : dr r ≠ none := by rw [hdr]; exact fun q => by cases q
      have h1' := (hL.1 r d (by omega) hdr).2
      have h2 := hA r (by omega) hne
      have e : tpl pa wy gr sr dn ds dr td 0 (rT r) = pa (rT r) := by
        simp only [tpl, h1', hdr, rpl, Int.mul_zero, Int.add_zero]
        exact h2.symm
      rw [e]
  rw [es] at lt
  simp only [Int.natCast_zero, Int.zero_add] at lp lt lm
  refine ⟨iI (sumF (fun r => tq wy gr sr tg ds rT dr r (pa (rT r))) 0 nr + sumF cw 0 20), h1, ?_, ?_, ke, sp⟩
  · have rc5 : rc 5 h (some 14) = some 14 := rcv (by rw [ss_14 hS])
    have rc51 : rc 5 h1 (some 14) = some 14 := rcv (by rw [ss_14 hS1])
    simp only [fX11_pull, fX5_pullNow, fX5_place, fX5_trialPull, lit]
    have fin : ((rc 5 h (some 14)).bind fun a2 => (fX5_place_b2 N a2 N h (iI 0) (iI 0)).bind fun r1 => (rc 5 r1 (some 14)).bind fun a4 => (fX5_trialPull_b4 N a4 N r1 (iI 0) (iI 0)).bind fun r3 => some (r3.1, r3.2)) = some (iI (sumF (fun r => tq wy gr sr tg ds rT dr r (pa (rT r))) 0 nr + sumF cw 0 20), h1) := by
      refine bst (rc5) ?_
      refine bst (lp) ?_
      refine bst (rc51) ?_
      refine bst (lt) ?_
      rfl
    refine bst (sR_1100_0 hS) ?_
    refine bst (rc5) ?_
    refine bst (fin) ?_
    rfl
  · simp only [fX12_pull, lit]
    rw [lm, Int.add_comm]
