theorem L_pullMw {N : Nat} (hN : 100000000 ≤ N) {h : Hs} (hS : Sk h) {nr nt nd : Nat} {rA tA dA rT : Nat → Nat} {wy gr hd ds : Nat → Int} {gn : Nat → Bool} {tl tw tg ls ms pa : Nat → Int} {dr td : Nat → Option Nat} {sr dn : Nat → Int} (hT : RTh h nt tA tl tw tg ls ms pa) (hD : RDr h nd dA ds) (hR : RRo h nr nt rA tA rT wy gr hd gn) (hM : RTm h nr rT dr sr dn) (hL : RTl nt nd nr rT dr td) {cw : Nat → Int} (hW : ∀ i, i < 20 → aI h 45 i = iI (cw i)) : ∀ (d i : Nat) (c : Int) (fu : Nat), i + d = 20 → d < fu → fX12_pull_b4 N 29 fu h (iI c) (iI i) = some (iI (c + sumF cw i d + sumF (fun r => tq wy gr sr tg ds rT dr r (pa (rT r))) 0 nr), h) := by
  have c3 := hR.1.2.2
  intro d
  induction d with
  | zero =>
    intro i c fu hi hf
    obtain ⟨fu, rfl⟩ : ∃ m, fu = m + 1 := ⟨fu - 1, by omega⟩
    show fX12_pull_b4_body N (fX12_pull_b4 N 29 fu) 29 h (iI c) (iI i) = _
    have a1 : iI 20 ≤ iI (i : Int) := (iI_le (by omega) (by omega) (by omega) (by omega)).mpr (by omega)
    have lr := L_pullMr (N := N) hS hT hD hR hM hL nr 0 c N (by omega) (by omega)
    simp only [fX12_pull_b4_body, lit]
    refine ifp (a1) ?_
    rw [sumF_z, Int.add_zero]
    exact lr
  | succ d ih =>
    intro i c fu hi hf
    obtain ⟨fu, rfl⟩ : ∃ m, fu = m + 1 := ⟨fu - 1, by omega⟩
    show fX12_pull_b4_body N (fX12_pull_b4 N 29 fu) 29 h (iI c) (iI i) = _
    have a1 : ¬ iI 20 ≤ iI (i : Int) := fun q => by have := (iI_le (by omega) (by omega) (by omega) (by omega)).mp q; omega
    have e := ih (i + 1) (c + cw i) fu (by omega) (by omega)
    simp only [Int.natCast_add, Int.natCast_one] at e
    have e1 : iI (i : Int) + iI 1 = iI ((i : Int) + 1) := by rw [iI_add]
    have e2 : iI c + iI (cw i) = iI (c + cw i) := by rw [iI_add]
    simp only [fX12_pull_b4_body, lit, Option.bind_some]
    refine ifn (a1) ?_
    refine bst (sR_1219_29 hS) ?_
    refine bst (lAv (ss_45 hS) (by omega) (by omega) (hW i (by omega))) ?_
    rw [e1, e2, e]
    have es : sumF cw i (d + 1) = cw i + sumF cw (i + 1) d := rfl
    rw [es, ← Int.add_assoc]
theorem t_pull {N : Nat} (hN : 100000000 ≤ N) {h : Hs} (hS : Sk h) (hz : 70 ≤ sz h) {nr nt nd : Nat} {rA tA dA rT : Nat → Nat} {wy gr hd ds : Nat → Int} {gn : Nat → Bool} {tl tw tg ls ms pa : Nat → Int} {dr td : Nat → Option Nat} {sr dn : Nat → Int} (hT : RTh h nt tA tl tw tg ls ms pa) (hD : RDr h nd dA ds) (hR : RRo h nr nt rA tA rT wy gr hd gn) (hI : RTi h nt nd nr tA dA rA rT dr td sr dn) (hW : ICnt h) (hdn : ∀ r, r < nr → dr r ≠ none → -1000000000 ≤ dn r ∧ dn r ≤ 1000000000) (hA : ∀ r, r < nr → dr r ≠ none → pa (rT r) = sr r + wy r * (dn r).tdiv (100 * gr r)) : ∃ a h1, fX11_pull N h 0 = some (a, h1) ∧ fX12_pull N h1 29 = some (a, h1) ∧ Ke [908] [] [] [] h h1 ∧ sz h1 = sz h := by
  obtain ⟨hC, hM, hL⟩ := RTi_iff.mp hI
  obtain ⟨cw, hcw⟩ := hW
  have c3 := hR.1.2.2
  have ct := hT.1.2.2
  have lp := L_place (N := N) hL (k := 0) (by omega) (by omega) hdn nt 0 N h hS hz hT hD hR hC (by omega) (by omega)
  have ke := Ke_plH tA (tpl pa wy gr sr dn ds dr td 0) nt 0 h
  have sp := sz_plH tA (tpl pa wy gr sr dn ds dr td 0) nt 0 h
  have at' : ∀ i, i < nt → gI (plH tA (tpl pa wy gr sr dn ds dr td 0) 0 nt h) 908 (tA i) = iI (tpl pa wy gr sr dn ds dr td 0 i) := fun i hi => plH_at tA _ hT.2.2 nt 0 h i (by omega) (by omega) hi
  generalize plH tA (tpl pa wy gr sr dn ds dr td 0) 0 nt h = h1 at lp ke sp at'
  have hS1 := hS.e hz ke (by decide)
  have hT1 := hT.e hz ke (by decide) (by decide) (by decide)
  have hD1 := hD.e hz ke (by decide) (by decide) (by decide)
  have hR1 := hR.e hz ke (by decide) (by decide) (by decide) (by decide)
  have hC1 := hC.e (fun i hi => (hT.2.1 i hi).1.2.2.1) (fun r hr => (hR.2.1 r hr).1.2.2.1) ke (by decide) (by decide)
  have hM1 := hM.e hz ke (by decide)
  have w18 : ∀ i, i < 20 → aI h1 18 i = iI (cw i) := fun i hi => by rw [ke.2.1 18 (by decide) (by omega)]; exact (hcw i hi).1
  have w45 : ∀ i, i < 20 → aI h1 45 i = iI (cw i) := fun i hi => by rw [ke.2.1 45 (by decide) (by omega)]; exact (hcw i hi).2.1
  have lt := L_trial hN hS1 hT1 hD1 hR1 hC1 hL w18 at' nr 0 0 N (by omega) (by omega)
  have lm := L_pullMw hN hS1 hT1 hD1 hR1 hM1 hL w45 20 0 0 N (by omega) (by omega)
  have es : sumF (fun r => tq wy gr sr tg ds rT dr r (tpl pa wy gr sr dn ds dr td 0 (rT r))) 0 nr = sumF (fun r => tq wy gr sr tg ds rT dr r (pa (rT r))) 0 nr := by
    refine sumF_congr nr 0 (fun r _ hr => ?_)
    cases hdr : dr r with
    | none => simp [tq, hdr]
    | some d =>
      have hne : dr r ≠ none := by rw [hdr]; exact fun q => by cases q
      have h1' := (hL.1 r d (by omega) hdr).2
      have h2 := hA r (by omega) hne
      have e : tpl pa wy gr sr dn ds dr td 0 (rT r) = pa (rT r) := by
        simp only [tpl, h1', hdr, rpl, Int.mul_zero, Int.add_zero]
        exact h2.symm
      rw [e]
  rw [es] at lt
  simp only [Int.natCast_zero, Int.zero_add] at lp lt lm
  refine ⟨iI (sumF (fun r => tq wy gr sr tg ds rT dr r (pa (rT r))) 0 nr + sumF cw 0 20), h1, ?_, ?_, ke, sp⟩
  · have rc5 : rc 5 h (some 14) = some 14 := rcv (by rw [ss_14 hS])
    have rc51 : rc 5 h1 (some 14) = some 14 := rcv (by rw [ss_14 hS1])
    simp only [fX11_pull, fX5_pullNow, fX5_place, fX5_trialPull, lit]
    have fin : ((rc 5 h (some 14)).bind fun a2 => (fX5_place_b2 N a2 N h (iI 0) (iI 0)).bind fun r1 => (rc 5 r1 (some 14)).bind fun a4 => (fX5_trialPull_b4 N a4 N r1 (iI 0) (iI 0)).bind fun r3 => some (r3.1, r3.2)) = some (iI (sumF (fun r => tq wy gr sr tg ds rT dr r (pa (rT r))) 0 nr + sumF cw 0 20), h1) := by
      refine bst (rc5) ?_
      refine bst (lp) ?_
      refine bst (rc51) ?_
      refine bst (lt) ?_
      rfl
    refine bst (sR_1100_0 hS) ?_
    refine bst (rc5) ?_
    refine bst (fin) ?_
    rfl
  · simp only [fX12_pull, lit]
    rw [lm, Int.add_comm]
/-! ===== the fresh objects ===== -/
def h00 : Hs := (fun _ _ => 0, fun _ _ => none, fun _ _ => 0, fun _ _ => none, fun _ => (99, 0), 0)
def nN : Nat := 100000000
theorem getD_ok {α : Type} {o : Option α} {d : α} (h : o.isSome = true) : o = some (o.getD d) := by
  cases o with
  | none => cases h
  | some a => rfl
noncomputable def hA1 : Hs := (fX11_init nN (nw h00 (11, 0)) 0).getD h00
noncomputable def hF1 : Hs := (fX12_init nN (nw hA1 (12, 0)) 29).getD h00
theorem hA1_ok : fX11_init nN (nw h00 (11, 0)) 0 = some hA1 := getD_ok (by decide +kernel)
theorem hF1_ok : fX12_init nN (nw hA1 (12, 0)) 29 = some hF1 := getD_ok (by decide +kernel)
theorem hA1_sz : sz hA1 = 29 := by decide +kernel
theorem hF1_sz : sz hF1 = 70 := by decide +kernel
theorem Sk_F1 : Sk hF1 := by
  unfold Sk
  exact ⟨by decide +kernel, by decide +kernel, by decide +kernel, by decide +kernel, by decide +kernel, by decide +kernel, by decide +kernel, by decide +kernel, by decide +kernel, by decide +kernel, by decide +kernel, by decide +kernel, by decide +kernel, by decide +kernel, by decide +kernel, by decide +kernel, by decide +kernel, by decide +kernel, by decide +kernel, by decide +kernel, by decide +kernel, by decide +kernel, by decide +kernel, by decide +kernel, by decide +kernel, by decide +kernel, by decide +kernel, by decide +kernel, by decide +kernel, by decide +kernel, by decide +kernel, by decide +kernel, by decide +kernel, by decide +kernel, by decide +kernel, by decide +kernel, by decide +kernel, by decide +kernel, by decide +kernel, by decide +kernel, by decide +kernel, by decide +kernel, by decide +kernel, by decide +kernel, by decide +kernel, by decide +kernel, by decide +kernel, by decide +kernel, by decide +kernel, by decide +kernel, by decide +kernel, by decide +kernel, by decide +kernel, by decide +kernel, by decide +kernel, by decide +kernel, by decide +kernel, by decide +kernel, by decide +kernel, by decide +kernel, by decide +kernel, by decide +kernel, by decide +kernel, by decide +kernel, by decide +kernel, by decide +kernel, by decide +kernel, by decide +kernel, by decide +kernel, by decide +kernel, by decide +kernel, by decide +kernel, by decide +kernel, by decide +kernel, by decide +kernel, by decide +kernel, by decide +kernel, by decide +kernel, by decide +kernel, by decide +kernel, by decide +kernel, by decide +kernel, by decide +kernel, by decide +kernel, by decide +kernel, by decide +kernel, by decide +kernel, by decide +kernel, by decide +kernel, by decide +kernel, by decide +kernel, by decide +kernel, by decide +kernel, by decide +kernel, by decide +kernel, by decide +kernel, by decide +kernel, by decide +kernel, by decide +kernel, by decide +kernel, by decide +kernel, by decide +kernel, by decide +kernel, by decide +kernel, by decide +kernel, by decide +kernel, by decide +kernel, by decide +kernel, by decide +kernel, by decide +kernel, by decide +kernel, by decide +kernel, by decide +kernel, by decide +kernel, by decide +kernel, by decide +kernel, by decide +kernel, by decide +kernel, by decide +kernel, by decide +kernel, by decide +kernel, by decide +kernel, by decide +kernel, by decide +kernel, by decide +kernel, by decide +kernel, by decide +kernel, by decide +kernel, by decide +kernel, by decide +kernel, by decide +kernel, by decide +kernel, by decide +kernel, by decide +kernel, by decide +kernel, by decide +kernel, by decide +kernel, by decide +kernel, by decide +kernel, by decide +kernel⟩
def FZ (h : Hs) : Prop := Sk h ∧ 70 ≤ sz h ∧ (gI h 507 14 = iI 0 ∧ gI h 508 14 = iI 0 ∧ gI h 509 14 = iI 0 ∧ gI h 1201 29 = iI 0 ∧ gI h 1209 29 = iI 0 ∧ gI h 1211 29 = iI 0) ∧ (∀ i, i < 20 → aI h 18 i = iI 0 ∧ aI h 45 i = iI 0) ∧ gI h 510 14 = iI 99999 ∧ gI h 1220 29 = iI 99999
theorem FZ_F1 : FZ hF1 := ⟨Sk_F1, by rw [hF1_sz]; decide, ⟨by decide +kernel, by decide +kernel, by decide +kernel, by decide +kernel, by decide +kernel, by decide +kernel⟩, by decide +kernel, by decide +kernel, by decide +kernel⟩
theorem FZ.e {F A : List Nat} {h h2 : Hs} (hC : FZ h) (k : Ke F A [] [] h h2) (hF : ∀ f ∈ [507, 508, 509, 510, 1201, 1209, 1211, 1220], f ∉ F) (hA : 18 ∉ A ∧ 45 ∉ A) : FZ h2 := by
  obtain ⟨hS, hz, ⟨c1, c2, c3, c4, c5, c6⟩, c7, c8, c9⟩ := hC
  refine ⟨hS.e hz k (by decide), Nat.le_trans hz k.2.2.2.2.2, ⟨?_, ?_, ?_, ?_, ?_, ?_⟩, fun i hi => ?_, ?_, ?_⟩
  · rw [k.1 _ _ (hF _ (by decide)) (by omega)]; exact c1
  · rw [k.1 _ _ (hF _ (by decide)) (by omega)]; exact c2
  · rw [k.1 _ _ (hF _ (by decide)) (by omega)]; exact c3
  · rw [k.1 _ _ (hF _ (by decide)) (by omega)]; exact c4
  · rw [k.1 _ _ (hF _ (by decide)) (by omega)]; exact c5
  · rw [k.1 _ _ (hF _ (by decide)) (by omega)]; exact c6
  · rw [k.2.1 18 hA.1 (by omega), k.2.1 45 hA.2 (by omega)]; exact c7 i hi
  · rw [k.1 _ _ (hF _ (by decide)) (by omega)]; exact c8
  · rw [k.1 _ _ (hF _ (by decide)) (by omega)]; exact c9
theorem FZ.u {h : Hs} (hC : FZ h) (f a : Nat) (v : Int32) (hF : f ∉ [507, 508, 509, 510, 1201, 1209, 1211, 1220]) : FZ (uI h f a v) := hC.e (F := [f]) (A := []) (Ke_rf.u f a v (List.mem_singleton.mpr rfl)) (fun g hg q => hF (by rw [← List.mem_singleton.mp q]; exact hg)) (by decide)
abbrev zN : Nat → Nat := fun _ => 0
abbrev zI : Nat → Int := fun _ => 0
abbrev zO : Nat → Option Nat := fun _ => none
theorem FZ.th {h : Hs} (hC : FZ h) : RTh h 0 zN zI zI zI zI zI zI := ⟨⟨hC.2.2.1.1, hC.2.2.1.2.2.2.1, by omega⟩, fun i hi => absurd hi (Nat.not_lt_zero i), fun i j hi => absurd hi (Nat.not_lt_zero i)⟩
theorem FZ.dr {h : Hs} (hC : FZ h) : RDr h 0 zN zI := ⟨⟨hC.2.2.1.2.1, hC.2.2.1.2.2.2.2.1, by omega⟩, fun i hi => absurd hi (Nat.not_lt_zero i), fun i j hi => absurd hi (Nat.not_lt_zero i)⟩
theorem FZ.ro {h : Hs} (hC : FZ h) : RRo h 0 0 zN zN zN zI zI zI (fun _ => false) := ⟨⟨hC.2.2.1.2.2.1, hC.2.2.1.2.2.2.2.2, by omega⟩, fun i hi => absurd hi (Nat.not_lt_zero i), fun i j hi => absurd hi (Nat.not_lt_zero i)⟩
theorem FZ.ti {h : Hs} : RTi h 0 0 0 zN zN zN zN zO zO zI zI := ⟨fun i hi => absurd hi (Nat.not_lt_zero i), fun i hi => absurd hi (Nat.not_lt_zero i)⟩
theorem FZ.pullM {N : Nat} (hN : 100000000 ≤ N) {h : Hs} (hC : FZ h) : fX12_pull N h 29 = some (iI 0, h) := by
  obtain ⟨-, hM, hL⟩ := RTi_iff.mp (FZ.ti (h := h))
  have lm := L_pullMw hN hC.1 hC.th hC.dr hC.ro hM hL (cw := zI) (fun i hi => (hC.2.2.2.1 i hi).2) 20 0 0 N (by omega) (by omega)
  simp only [fX12_pull, lit]
  simp only [Int.natCast_zero] at lm
  rw [lm]
  rfl
/-! ===== turning an empty stage ===== -/
theorem z_place {N : Nat} {h : Hs} (hC : FZ h) (x : Int32) {fu : Nat} (hf : 0 < fu) : fX5_place_b2 N 14 fu h x (iI 0) = some h := by
  have hS := hC.1
  obtain ⟨fu, rfl⟩ : ∃ m, fu = m + 1 := ⟨fu - 1, by omega⟩
  show fX5_place_b2_body N (fX5_place_b2 N 14 fu) 14 h x (iI 0) = _
  have le : iI 0 ≤ iI 0 := by decide
  simp only [fX5_place_b2_body]
  refine bst (oIv (by rw [ss_14 hS]) hC.2.2.1.1) ?_
  refine ifp (le) ?_
  rfl
theorem z_beyond {N : Nat} {h : Hs} (hC : FZ h) {fu : Nat} (hf : 0 < fu) : fX10_isBeyond_b2 N 22 fu h (iI 0) = some (iI 0, h) := by
  have hS := hC.1
  obtain ⟨fu, rfl⟩ : ∃ m, fu = m + 1 := ⟨fu - 1, by omega⟩
  show fX10_isBeyond_b2_body N (fX10_isBeyond_b2 N 22 fu) 22 h (iI 0) = _
  have le : iI 0 ≤ iI 0 := by decide
  simp only [fX10_isBeyond_b2_body, lit]
  refine bst (sR_1000_22 hS) ?_
  refine bst (oIv (by rw [ss_14 hS]) hC.2.2.1.1) ?_
  refine ifp (le) ?_
  rfl
theorem z_meet {N : Nat} {h : Hs} (hC : FZ h) {fu : Nat} (hf : 0 < fu) : fX10_isMeeting_b2 N 22 fu h (iI 0) = some (iI 0, h) := by
  have hS := hC.1
  obtain ⟨fu, rfl⟩ : ∃ m, fu = m + 1 := ⟨fu - 1, by omega⟩
  show fX10_isMeeting_b2_body N (fX10_isMeeting_b2 N 22 fu) 22 h (iI 0) = _
  have le : iI 0 ≤ iI 0 := by decide
  simp only [fX10_isMeeting_b2_body, lit]
  refine bst (sR_1000_22 hS) ?_
  refine bst (oIv (by rw [ss_14 hS]) hC.2.2.1.1) ?_
  refine ifp (le) ?_
  rfl
theorem z_trial {N : Nat} (hN : 100000000 ≤ N) {h : Hs} (hC : FZ h) {fu : Nat} (hf : 0 < fu) : fX5_trialPull_b4 N 14 fu h (iI 0) (iI 0) = some (iI 0, h) := by
  have hS := hC.1
  have lw := L_trialW (N := N) hS (cw := zI) (fun i hi => (hC.2.2.2.1 i hi).1) 20 0 0 N (by omega) (by omega)
  simp only [Int.natCast_zero] at lw
  obtain ⟨fu, rfl⟩ : ∃ m, fu = m + 1 := ⟨fu - 1, by omega⟩
  show fX5_trialPull_b4_body N (fX5_trialPull_b4 N 14 fu) 14 h (iI 0) (iI 0) = _
  have le : iI 0 ≤ iI 0 := by decide
  simp only [fX5_trialPull_b4_body, lit]
  refine bst (oIv (by rw [ss_14 hS]) hC.2.2.1.2.2.1) ?_
  refine ifp (le) ?_
  rw [lw]
  rfl
theorem z_uneven {N : Nat} {h : Hs} (hC : FZ h) : fX10_isUneven N h 22 (iI 0) = some (iI 0, h) := by
  have hS := hC.1
  have le : ¬ iI 99999 < (if iI 0 ≤ iI 0 then iI 0 else iI 0 - iI 0) := by decide
  simp only [fX10_isUneven, lit]
  refine bst (sR_1000_22 hS) ?_
  refine bst (oIv (by rw [ss_14 hS]) hC.2.2.2.2.1) ?_
  refine ifn (le) ?_
  rfl
theorem z_steps {N : Nat} {h : Hs} (hC : FZ h) (x y : Int32) {fu : Nat} (hf : 0 < fu) : fX10_stepsToNextMove_b7 N 22 fu h x y (iI 9999) (iI 0) = some (iI 9999, h) := by
  have hS := hC.1
  obtain ⟨fu, rfl⟩ : ∃ m, fu = m + 1 := ⟨fu - 1, by omega⟩
  show fX10_stepsToNextMove_b7_body N (fX10_stepsToNextMove_b7 N 22 fu) 22 h x y (iI 9999) (iI 0) = _
  have le : iI 0 ≤ iI 0 := by decide
  simp only [fX10_stepsToNextMove_b7_body]
  refine bst (sR_1000_22 hS) ?_
  refine bst (oIv (by rw [ss_14 hS]) hC.2.2.1.2.2.1) ?_
  refine ifp (le) ?_
  rfl
theorem z_look28 {N : Nat} (hN : 100000000 ≤ N) {h : Hs} (hC : FZ h) (x : Int32) {M : Int} (m1 : 0 ≤ M) (m2 : M ≤ 9999) : fX10_lookAhead_b28 N 22 N h x (iI M) (iI 1) = some (iI M, h) := by
  have hS := hC.1
  obtain ⟨K, eK⟩ : ∃ m, N = m + 2 := ⟨N - 2, by omega⟩
  have last : ∀ (s : Int), s < 100000 → M < s → fX10_lookAhead_b28 N 22 (K + 1) h x (iI M) (iI s) = some (iI M, h) := by
    intro s s1 s2
    show fX10_lookAhead_b28_body N (fX10_lookAhead_b28 N 22 K) 22 h x (iI M) (iI s) = _
    have le : iI M < iI s := (iI_lt (by omega) (by omega) (by omega) (by omega)).mpr s2
    simp only [fX10_lookAhead_b28_body]
    refine ifp (le) ?_
    rfl
  by_cases hM : M < 1
  · have e0 : fX10_lookAhead_b28 N 22 (K + 2) h x (iI M) (iI 1) = some (iI M, h) := by
      show fX10_lookAhead_b28_body N (fX10_lookAhead_b28 N 22 (K + 1)) 22 h x (iI M) (iI 1) = _
      have le : iI M < iI 1 := (iI_lt (by omega) (by omega) (by omega) (by omega)).mpr hM
      simp only [fX10_lookAhead_b28_body]
      refine ifp (le) ?_
      rfl
    rw [← eK] at e0
    exact e0
  · have e0 : fX10_lookAhead_b28 N 22 (K + 2) h x (iI M) (iI 1) = some (iI M, h) := by
      show fX10_lookAhead_b28_body N (fX10_lookAhead_b28 N 22 (K + 1)) 22 h x (iI M) (iI 1) = _
      have le : ¬ iI M < iI 1 := fun q => by have := (iI_lt (by omega) (by omega) (by omega) (by omega)).mp q; omega
      have rc5 : rc 5 h (some 14) = some 14 := rcv (by rw [ss_14 hS])
      have rc10 : rc 10 h (some 22) = some 22 := rcv (by rw [ss_22 hS])
      have p1 := z_place (N := N) hC (x * iI 1) (fu := N) (by omega)
      have p2 := z_beyond (N := N) hC (fu := N) (by omega)
      have p3 := z_meet (N := N) hC (fu := N) (by omega)
      have p4 := z_trial hN hC (fu := N) (by omega)
      have p5 := z_uneven (N := N) hC
      have p6 := z_steps (N := N) hC x (iI 1) (fu := N) (by omega)
      have tt : iI 0 = iI 0 := rfl
      have ee : iI 1 + (if iI 1 < iI 9999 then iI 9999 else iI 1) = iI 10000 := by decide
      have e9 := last 10000 (by omega) (by omega)
      simp only [fX10_lookAhead_b28_body, fX5_place, fX10_isBeyond, fX10_isMeeting, fX5_trialPull, fX10_stepsToNextMove, lit]
      refine ifn (le) ?_
      refine bst (sR_1000_22 hS) ?_
      refine bst (rc5) ?_
      refine bst (p1) ?_
      refine bst (rc10) ?_
      refine bst (p2) ?_
      refine ifp (tt) ?_
      refine bst (rc10) ?_
      refine bst (p3) ?_
      refine ifp (tt) ?_
      refine bst (sR_1000_22 hS) ?_
      refine bst (rc5) ?_
      refine bst (p4) ?_
      refine bst (rc10) ?_
      refine bst (p5) ?_
      refine ifp (tt) ?_
      refine bst (rc10) ?_
      refine bst (p6) ?_
      rw [ee]
      exact e9
    rw [← eK] at e0
    exact e0
def stH (h : Hs) (a : Nat) (x y z : Int) : Hs := uI (uI (uI h 700 a (iI x)) 701 a (iI y)) 702 a (iI z)
theorem v_put {N : Nat} {h : Hs} {a : Nat} (hs : (sh h a).1 = 7) (x y z : Int) : fX7_put N h a (iI x) (iI y) (iI z) = some (stH h a x y z) := by
  simp only [fX7_put]
  refine bst (qIv hs) ?_
  refine bst (qIv hs) ?_
  refine bst (qIv hs) ?_
  rfl
theorem FZ.st {h : Hs} (hC : FZ h) (a : Nat) (x y z : Int) : FZ (stH h a x y z) := ((hC.u 700 a _ (by decide)).u 701 a _ (by decide)).u 702 a _ (by decide)
theorem abs_i {z : Int} (h1 : -100000 ≤ z) (h2 : z ≤ 100000) : (if iI 0 ≤ iI z then iI z else iI 0 - iI z) = iI (if 0 ≤ z then z else -z) := by
  by_cases q : 0 ≤ z
  · rw [if_pos q, if_pos ((iI_le (by omega) (by omega) (by omega) (by omega)).mpr q)]
  · rw [if_neg q, if_neg (fun w => q ((iI_le (by omega) (by omega) (by omega) (by omega)).mp w)), iI_sub]
    congr 1
    omega
theorem z_look {N : Nat} (hN : 100000000 ≤ N) {h : Hs} (hC : FZ h) {z : Int} (z1 : -9999 ≤ z) (z2 : z ≤ 9999) : fX10_lookAhead N h 22 (iI z) = some (iI (if 0 ≤ z then z else -z), stH h 24 0 (-1) (-1)) := by
  have hS := hC.1
  have rc7 : rc 7 h (some 24) = some 24 := rcv (by rw [ss_24 hS])
  have b9 : ∀ x : Int32, fX10_lookAhead_b9 N 22 h (iI z) x = some (iI (if 0 ≤ z then z else -z), stH h 24 0 (-1) (-1)) := by
    intro x
    have hp := v_put (N := N) (h := h) (a := 24) (by rw [ss_24 hS]) 0 (-1) (-1)
    have e9 := z_look28 hN (hC.st 24 0 (-1) (-1)) x (M := if 0 ≤ z then z else -z) (by split <;> omega) (by split <;> omega)
    have ea := abs_i (z := z) (by omega) (by omega)
    simp only [fX10_lookAhead_b9, lit, iI_neg]
    refine bst (congrArg some ea) ?_
    refine bst (sR_1002_22 hS) ?_
    refine bst (rc7) ?_
    refine bst (hp) ?_
    exact e9
  simp only [fX10_lookAhead]
  split
  · exact b9 _
  · exact b9 _
theorem isTurn_c {N : Nat} {h : Hs} {z : Int} (h1 : -2147483648 ≤ z) (h2 : z < 2147483648) : fX11_isTurn N h (iI z) = some (if -9999 ≤ z ∧ z ≤ 9999 then iI 1 else iI 0, h) := by
  have e := v_isW (N := N) (h := h) (x := z) (a := -9999) (b := 9999) h1 h2 (by omega) (by omega) (by omega) (by omega)
  simp only [fX11_isTurn, lit, iI_neg]
  refine bst e ?_
  split <;> rfl
theorem isTurn_m {N : Nat} {h : Hs} {z : Int} (h1 : -2147483648 ≤ z) (h2 : z < 2147483648) : fX12_isTurn N h (iI z) = some (if -9999 ≤ z ∧ z ≤ 9999 then iI 1 else iI 0, h) := by
  have e := v_inW (N := N) (h := h) (x := z) (a := -9999) (b := 9999) h1 h2 (by omega) (by omega) (by omega) (by omega)
  simp only [fX12_isTurn, lit, iI_neg]
  refine bst e ?_
  split <;> rfl
theorem z_adv {N : Nat} {h : Hs} (hC : FZ h) (x : Int32) {fu : Nat} (hf : 0 < fu) : ∃ h2, fX5_advance_b2 N 14 fu h x (iI 0) = some h2 ∧ FZ h2 := by
  have hS := hC.1
  obtain ⟨fu, rfl⟩ : ∃ m, fu = m + 1 := ⟨fu - 1, by omega⟩
  have le : iI 0 ≤ iI 0 := by decide
  refine ⟨_, ?_, (hC.u 511 14 (gI h 511 14 + x) (by decide)).u 512 14 (gI h 512 14 + (if iI 0 ≤ x then x else iI 0 - x)) (by decide)⟩
  show fX5_advance_b2_body N (fX5_advance_b2 N 14 fu) 14 h x (iI 0) = _
  simp only [fX5_advance_b2_body, lit]
  refine bst (oIv (by rw [ss_14 hS]) hC.2.2.1.2.2.1) ?_
  refine ifp (le) ?_
  refine bst (oIv (by rw [ss_14 hS]) rfl) ?_
  refine bst (qIv (by rw [ss_14 hS])) ?_
  refine bst (oIv (by rw [sh_uI, ss_14 hS]) (v := gI h 512 14) (by simp [HR])) ?_
  refine bst (qIv (by rw [sh_uI, ss_14 hS])) ?_
  rfl
theorem z_turn {N : Nat} (hN : 100000000 ≤ N) {h : Hs} (hC : FZ h) {z : Int} (z1 : -9999 ≤ z) (z2 : z ≤ 9999) : ∃ h2, fX11_turn N h 0 (iI z) = some (iI (if 0 ≤ z then z else -z), h2) ∧ FZ h2 := by
  have hS := hC.1
  obtain ⟨M, hM⟩ : ∃ M : Int, M = if 0 ≤ z then z else -z := ⟨_, rfl⟩
  have m1 : 0 ≤ M := by rw [hM]; split <;> omega
  have m2 : M ≤ 9999 := by rw [hM]; split <;> omega
  have l := z_look hN hC z1 z2
  rw [← hM] at l ⊢
  have hC1 := hC.st 24 0 (-1) (-1)
  generalize hg : stH h 24 0 (-1) (-1) = h1 at l hC1
  have g0 : gI h1 700 24 = iI 0 := by rw [← hg]; simp [stH, HR]
  have g1 : gI h1 701 24 = iI (-1) := by rw [← hg]; simp [stH, HR]
  have g2 : gI h1 702 24 = iI (-1) := by rw [← hg]; simp [stH, HR]
  have hS1 := hC1.1
  have hp := v_put (N := N) (h := h1) (a := 23) (by rw [ss_23 hS1]) 0 (-1) (-1)
  have hC2 := hC1.st 23 0 (-1) (-1)
  generalize stH h1 23 0 (-1) (-1) = h2 at hp hC2
  have hS2 := hC2.1
  have rc10 : rc 10 h (some 22) = some 22 := rcv (by rw [ss_22 hS])
  have rc7 : rc 7 h1 (some 23) = some 23 := rcv (by rw [ss_23 hS1])
  have rc5 : rc 5 h2 (some 14) = some 14 := rcv (by rw [ss_14 hS2])
  have tb : ∃ h3, fX10_turnBy N h 22 (iI z) = some (iI M, h3) ∧ FZ h3 := by
    by_cases zp : iI 0 ≤ iI z
    · obtain ⟨h3, a1, a2⟩ := z_adv (N := N) hC2 (iI M) (fu := N) (by omega)
      refine ⟨h3, ?_, a2⟩
      simp only [fX10_turnBy, fX10_turnBy_b48, fX5_advance, lit]
      refine bst (rc10) ?_
      refine bst (l) ?_
      refine bst (sR_1001_22 hS1) ?_
      refine bst (sR_1002_22 hS1) ?_
      refine bst (oIv (by rw [ss_24 hS1]) g0) ?_
      refine bst (sR_1002_22 hS1) ?_
      refine bst (oIv (by rw [ss_24 hS1]) g1) ?_
      refine bst (sR_1002_22 hS1) ?_
      refine bst (oIv (by rw [ss_24 hS1]) g2) ?_
      refine bst (rc7) ?_
      refine bst (hp) ?_
      refine bst (sR_1000_22 hS2) ?_
      refine ifp (zp) ?_
      refine bst (rc5) ?_
      refine bst (a1) ?_
      rfl
    · obtain ⟨h3, a1, a2⟩ := z_adv (N := N) hC2 (-iI M) (fu := N) (by omega)
      refine ⟨h3, ?_, a2⟩
      simp only [fX10_turnBy, fX10_turnBy_b48, fX5_advance, lit]
      refine bst (rc10) ?_
      refine bst (l) ?_
      refine bst (sR_1001_22 hS1) ?_
      refine bst (sR_1002_22 hS1) ?_
      refine bst (oIv (by rw [ss_24 hS1]) g0) ?_
      refine bst (sR_1002_22 hS1) ?_
      refine bst (oIv (by rw [ss_24 hS1]) g1) ?_
      refine bst (sR_1002_22 hS1) ?_
      refine bst (oIv (by rw [ss_24 hS1]) g2) ?_
      refine bst (rc7) ?_
      refine bst (hp) ?_
      refine bst (sR_1000_22 hS2) ?_
      refine ifn (zp) ?_
      refine bst (rc5) ?_
      refine bst (a1) ?_
      rfl
  obtain ⟨h3, a1, hC3⟩ := tb
  have hS3 := hC3.1
  have rc11 : rc 11 h3 (some 0) = some 0 := rcv (by rw [ss_0 hS3])
  have e1 := isTurn_c (N := N) (h := h) (z := z) (by omega) (by omega)
  rw [if_pos ⟨z1, z2⟩] at e1
  have n0 : ¬ iI 1 = iI 0 := by decide
  by_cases mz : iI M ≤ iI 0
  · have d := v_deed (N := N) hS3 (r := iI M) (z := 0) (by omega)
    refine ⟨h3, ?_, hC3⟩
    simp only [fX11_turn, fX11_turn_b29, lit]
    refine bst (e1) ?_
    refine ifn (n0) ?_
    refine bst (sR_1101_0 hS) ?_
    refine bst (rc10) ?_
    refine bst (a1) ?_
    refine ifp (mz) ?_
    refine bst (rc11) ?_
    refine bst (d) ?_
    rfl
  · have d := v_deed (N := N) hS3 (r := iI M) (z := 1) (by omega)
    refine ⟨uI h3 1106 0 (iI 0), ?_, hC3.u 1106 0 _ (by decide)⟩
    simp only [fX11_turn, fX11_turn_b29, lit]
    refine bst (e1) ?_
    refine ifn (n0) ?_
    refine bst (sR_1101_0 hS) ?_
    refine bst (rc10) ?_
    refine bst (a1) ?_
    refine ifn (mz) ?_
    refine bst (rc11) ?_
    refine bst (d) ?_
    rfl
/-! the other side -/
theorem z_rplace {N : Nat} {h : Hs} (hC : FZ h) (x : Int32) {fu : Nat} (hf : 0 < fu) : fX12_place_b2 N 29 fu h x (iI 0) = some h := by
  have hS := hC.1
  obtain ⟨fu, rfl⟩ : ∃ m, fu = m + 1 := ⟨fu - 1, by omega⟩
  show fX12_place_b2_body N (fX12_place_b2 N 29 fu) 29 h x (iI 0) = _
  have le : iI 0 ≤ iI 0 := by decide
  simp only [fX12_place_b2_body]
  refine bst (oIv (by rw [ss_29 hS]) hC.2.2.1.2.2.2.2.2) ?_
  refine ifp (le) ?_
  rfl
def whH (h : Hs) (x y z : Int) : Hs := uI (uI (uI h 1223 29 (iI x)) 1224 29 (iI y)) 1225 29 (iI z)
theorem FZ.wh {h : Hs} (hC : FZ h) (x y z : Int) : FZ (whH h x y z) := ((hC.u 1223 29 _ (by decide)).u 1224 29 _ (by decide)).u 1225 29 _ (by decide)
theorem z_find {N : Nat} (hN : 100000000 ≤ N) {h : Hs} (hC : FZ h) : fX12_find N h 29 = some (uI (whH h 0 (-1) (-1)) 1223 29 (iI 0)) := by
  have hS := hC.1
  have hC1 := hC.wh 0 (-1) (-1)
  obtain ⟨K, eK⟩ : ∃ m, N = m + 1 := ⟨N - 1, by omega⟩
  have le : iI 0 ≤ iI 0 := by decide
  have n1 : ¬ iI 99999 < iI 0 := by decide
  have n2 : iI (-99999) ≤ iI 0 := by decide
  have b71 : ∀ {h1 : Hs}, FZ h1 → fX12_find_b71 N 29 N h1 (iI 0) = some (uI h1 1223 29 (iI 0)) := by
    intro h1 hC1
    have hS1 := hC1.1
    have pl := FZ.pullM hN hC1
    have rc12 : rc 12 h1 (some 29) = some 29 := rcv (by rw [ss_29 hS1])
    have e0 : fX12_find_b71 N 29 (K + 1) h1 (iI 0) = some (uI h1 1223 29 (iI 0)) := by
      show fX12_find_b71_body N (fX12_find_b71 N 29 K) 29 h1 (iI 0) = _
      simp only [fX12_find_b71_body, fX12_find_b156, lit]
      refine bst (oIv (by rw [ss_29 hS1]) hC1.2.2.1.2.2.2.1) ?_
      refine ifp (le) ?_
      refine bst (rc12) ?_
      refine bst (pl) ?_
      refine bst (oIv (by rw [ss_29 hS1]) hC1.2.2.2.2.2) ?_
      refine ifn (n1) ?_
      refine bst (oIv (by rw [ss_29 hS1]) hC1.2.2.2.2.2) ?_
      simp only [iI_neg]
      refine ifp (n2) ?_
      refine bst (qIv (by rw [ss_29 hS1])) ?_
      rfl
    rw [← eK] at e0
    exact e0
  have b17 : ∀ {h1 : Hs}, FZ h1 → fX12_find_b17 N 29 N h1 (iI 0) = some (uI h1 1223 29 (iI 0)) := by
    intro h1 hC1
    have hS1 := hC1.1
    have e71 := b71 hC1
    have e0 : fX12_find_b17 N 29 (K + 1) h1 (iI 0) = some (uI h1 1223 29 (iI 0)) := by
      show fX12_find_b17_body N (fX12_find_b17 N 29 K) 29 h1 (iI 0) = _
      simp only [fX12_find_b17_body, lit]
      refine bst (oIv (by rw [ss_29 hS1]) hC1.2.2.1.2.2.2.1) ?_
      refine ifp (le) ?_
      exact e71
    rw [← eK] at e0
    exact e0
  have e17 := b17 hC1
  simp only [fX12_find, lit, iI_neg]
  refine bst (qIv (by rw [ss_29 hS])) ?_
  refine bst (qIv (by rw [sh_uI, ss_29 hS])) ?_
  refine bst (qIv (by rw [sh_uI, sh_uI, ss_29 hS])) ?_
  exact e17
theorem z_tn39 {N : Nat} (hN : 100000000 ≤ N) {M : Nat} (m2 : M ≤ 9999) (sd : Int32) : ∀ (d k fu : Nat) (h : Hs), FZ h → k + d = M → d < fu → ∃ h2, fX12_turnNow_b39 N 29 fu h sd (iI M) (iI k) = some (iI M, h2) ∧ FZ h2 := by
  intro d
  induction d with
  | zero =>
    intro k fu h hC hk hf
    obtain ⟨fu, rfl⟩ : ∃ m, fu = m + 1 := ⟨fu - 1, by omega⟩
    refine ⟨h, ?_, hC⟩
    show fX12_turnNow_b39_body N (fX12_turnNow_b39 N 29 fu) 29 h sd (iI M) (iI k) = _
    have le : iI (M : Int) ≤ iI (k : Int) := (iI_le (by omega) (by omega) (by omega) (by omega)).mpr (by omega)
    simp only [fX12_turnNow_b39_body]
    refine ifp (le) ?_
    rfl
  | succ d ih =>
    intro k fu h hC hk hf
    obtain ⟨fu, rfl⟩ : ∃ m, fu = m + 1 := ⟨fu - 1, by omega⟩
    have hS := hC.1
    have le : ¬ iI (M : Int) ≤ iI (k : Int) := fun q => by have := (iI_le (by omega) (by omega) (by omega) (by omega)).mp q; omega
    have p1 := z_rplace (N := N) hC sd (fu := N) (by omega)
    have p2 := z_find hN hC
    have hC3 := (hC.wh 0 (-1) (-1)).u 1223 29 (iI 0) (by decide)
    have g3 : gI (uI (whH h 0 (-1) (-1)) 1223 29 (iI 0)) 1223 29 = iI 0 := by simp [HR]
    generalize uI (whH h 0 (-1) (-1)) 1223 29 (iI 0) = h3 at p2 hC3 g3
    have hS3 := hC3.1
    have hC4 := (hC3.u 1221 29 (gI h3 1221 29 + sd) (by decide)).u 1222 29 (gI h3 1222 29 + iI 1) (by decide)
    obtain ⟨h2, e1, e2⟩ := ih (k + 1) fu _ hC4 (by omega) (by omega)
    refine ⟨h2, ?_, e2⟩
    show fX12_turnNow_b39_body N (fX12_turnNow_b39 N 29 fu) 29 h sd (iI M) (iI k) = _
    have rc12 : rc 12 h (some 29) = some 29 := rcv (by rw [ss_29 hS])
    have tt : iI 0 ≤ iI 0 := by decide
    have ek : iI (k : Int) + iI 1 = iI ((k + 1 : Nat) : Int) := by rw [iI_add]; congr 1
    simp only [fX12_turnNow_b39_body, fX12_place, lit]
    refine ifn (le) ?_
    refine bst (rc12) ?_
    refine bst (p1) ?_
    refine bst (rc12) ?_
    refine bst (p2) ?_
    refine bst (oIv (by rw [ss_29 hS3]) g3) ?_
    refine ifp (tt) ?_
    refine bst (oIv (by rw [ss_29 hS3]) rfl) ?_
    refine bst (qIv (by rw [ss_29 hS3])) ?_
    refine bst (oIv (by rw [sh_uI, ss_29 hS3]) (v := gI h3 1222 29) (by simp [HR])) ?_
    refine bst (qIv (by rw [sh_uI, ss_29 hS3])) ?_
    rw [ek]
    exact e1
theorem z_tn {N : Nat} (hN : 100000000 ≤ N) {h : Hs} (hC : FZ h) {z : Int} (z1 : -9999 ≤ z) (z2 : z ≤ 9999) : ∃ h2, fX12_turnNow N h 29 (iI z) = some (iI (if 0 ≤ z then z else -z), h2) ∧ FZ h2 := by
  have hS := hC.1
  have hC1 := hC.wh 0 (-1) (-1)
  by_cases q : 0 ≤ z
  · obtain ⟨h2, e1, e2⟩ := z_tn39 hN (M := z.toNat) (by omega) (iI 1) z.toNat 0 N _ hC1 (by omega) (by omega)
    have ez : ((z.toNat : Nat) : Int) = z := by omega
    rw [ez] at e1
    have p : iI 0 ≤ iI z := (iI_le (by omega) (by omega) (by omega) (by omega)).mpr q
    refine ⟨h2, ?_, e2⟩
    rw [if_pos q]
    simp only [fX12_turnNow, fX12_turnNow_b24, fX12_turnNow_b35, lit, iI_neg]
    refine bst (qIv (by rw [ss_29 hS])) ?_
    refine bst (qIv (by rw [sh_uI, ss_29 hS])) ?_
    refine bst (qIv (by rw [sh_uI, sh_uI, ss_29 hS])) ?_
    refine ifp (p) ?_
    refine ifp (p) ?_
    exact e1
  · obtain ⟨h2, e1, e2⟩ := z_tn39 hN (M := (-z).toNat) (by omega) (iI (-1)) (-z).toNat 0 N _ hC1 (by omega) (by omega)
    have ez : (((-z).toNat : Nat) : Int) = -z := by omega
    rw [ez] at e1
    have p : ¬ iI 0 ≤ iI z := fun w => q ((iI_le (by omega) (by omega) (by omega) (by omega)).mp w)
    refine ⟨h2, ?_, e2⟩
    rw [if_neg q]
    simp only [fX12_turnNow, fX12_turnNow_b24, fX12_turnNow_b35, lit, iI_neg]
    refine bst (qIv (by rw [ss_29 hS])) ?_
    refine bst (qIv (by rw [sh_uI, ss_29 hS])) ?_
    refine bst (qIv (by rw [sh_uI, sh_uI, ss_29 hS])) ?_
    refine ifn (p) ?_
    refine ifn (p) ?_
    exact e1
theorem z_mturn {N : Nat} (hN : 100000000 ≤ N) {h : Hs} (hC : FZ h) {z : Int} (z1 : -9999 ≤ z) (z2 : z ≤ 9999) : ∃ h2, fX12_turn N h 29 (iI z) = some (iI (if 0 ≤ z then z else -z), h2) := by
  have hS := hC.1
  obtain ⟨M, hM⟩ : ∃ M : Int, M = if 0 ≤ z then z else -z := ⟨_, rfl⟩
  obtain ⟨h2, e1, hC2⟩ := z_tn hN hC z1 z2
  rw [← hM] at e1 ⊢
  have hS2 := hC2.1
  have e0 := isTurn_m (N := N) (h := h) (z := z) (by omega) (by omega)
  rw [if_pos ⟨z1, z2⟩] at e0
  have n0 : ¬ iI 1 = iI 0 := by decide
  have rc12 : rc 12 h (some 29) = some 29 := rcv (by rw [ss_29 hS])
  have c29 : (sh h2 29).1 = 12 := by rw [ss_29 hS2]
  by_cases w1 : gI h2 1243 29 = iI 0
  · refine ⟨uI h2 1243 29 (iI 0), ?_⟩
    · simp only [fX12_turn, fX12_turn_b31, fX12_turn_b32, lit]
      refine bst (e0) ?_
      refine ifn (n0) ?_
      refine bst (rc12) ?_
      refine bst (e1) ?_
      refine bst (oIv c29 rfl) ?_
      refine ifp (w1) ?_
      refine bst (qZv c29 (by omega)) ?_
      rfl
  · by_cases w2 : iI M = iI 0
    · refine ⟨uI h2 1243 29 (iI 1), ?_⟩
      · simp only [fX12_turn, fX12_turn_b31, fX12_turn_b32, lit]
        refine bst (e0) ?_
        refine ifn (n0) ?_
        refine bst (rc12) ?_
        refine bst (e1) ?_
        refine bst (oIv c29 rfl) ?_
        refine ifn (w1) ?_
        refine ifp (w2) ?_
        refine bst (qZv c29 (by omega)) ?_
        rfl
    · refine ⟨uI h2 1243 29 (iI 0), ?_⟩
      · simp only [fX12_turn, fX12_turn_b31, fX12_turn_b32, lit]
        refine bst (e0) ?_
        refine ifn (n0) ?_
        refine bst (rc12) ?_
        refine bst (e1) ?_
        refine bst (oIv c29 rfl) ?_
        refine ifn (w1) ?_
        refine ifn (w2) ?_
        refine bst (qZv c29 (by omega)) ?_
        rfl
theorem z_f52 {N : Nat} {M : Nat} (m2 : M ≤ 9999) (a b c w sd : Int32) : ∀ (d k fu : Nat) (h : Hs), FZ h → k + d = M → d < fu → 0 < N → ∃ h2, fX12_free_b52 N 29 fu h a b c w (iI M) sd (iI k) = some (iI M, h2) := by
  intro d
  induction d with
  | zero =>
    intro k fu h hC hk hf hN
    have hS := hC.1
    obtain ⟨fu, rfl⟩ : ∃ m, fu = m + 1 := ⟨fu - 1, by omega⟩
    have le : iI (M : Int) ≤ iI (k : Int) := (iI_le (by omega) (by omega) (by omega) (by omega)).mpr (by omega)
    refine ⟨uI (uI (uI (uI (uI h 1221 29 (gI h 1221 29 - sd * iI M)) 1222 29 w) 1223 29 a) 1224 29 b) 1225 29 c, ?_⟩
    · show fX12_free_b52_body N (fX12_free_b52 N 29 fu) 29 h a b c w (iI M) sd (iI k) = _
      simp only [fX12_free_b52_body]
      refine ifp (le) ?_
      refine bst (oIv (by rw [ss_29 hS]) rfl) ?_
      refine bst (qIv (by rw [ss_29 hS])) ?_
      refine bst (qIv (by rw [sh_uI, ss_29 hS])) ?_
      refine bst (qIv (by rw [sh_uI, sh_uI, ss_29 hS])) ?_
      refine bst (qIv (by rw [sh_uI, sh_uI, sh_uI, ss_29 hS])) ?_
      refine bst (qIv (by rw [sh_uI, sh_uI, sh_uI, sh_uI, ss_29 hS])) ?_
      rfl
  | succ d ih =>
    intro k fu h hC hk hf hN
    have hS := hC.1
    obtain ⟨fu, rfl⟩ : ∃ m, fu = m + 1 := ⟨fu - 1, by omega⟩
    obtain ⟨h2, e1⟩ := ih (k + 1) fu h hC (by omega) (by omega) hN
    have le : ¬ iI (M : Int) ≤ iI (k : Int) := fun q => by have := (iI_le (by omega) (by omega) (by omega) (by omega)).mp q; omega
    have p1 := z_rplace (N := N) hC (-sd) (fu := N) hN
    have rc12 : rc 12 h (some 29) = some 29 := rcv (by rw [ss_29 hS])
    have ek : iI (k : Int) + iI 1 = iI ((k + 1 : Nat) : Int) := by rw [iI_add]; congr 1
    refine ⟨h2, ?_⟩
    show fX12_free_b52_body N (fX12_free_b52 N 29 fu) 29 h a b c w (iI M) sd (iI k) = _
    simp only [fX12_free_b52_body, fX12_place, lit]
    refine ifn (le) ?_
    refine bst (rc12) ?_
    refine bst (p1) ?_
    rw [ek]
    exact e1
theorem z_mfree {N : Nat} (hN : 100000000 ≤ N) {h : Hs} (hC : FZ h) {z : Int} (z1 : -9999 ≤ z) (z2 : z ≤ 9999) : ∃ h2, fX12_free N h 29 (iI z) = some (iI (if 0 ≤ z then z else -z), h2) := by
  have hS := hC.1
  obtain ⟨M, hM⟩ : ∃ M : Int, M = if 0 ≤ z then z else -z := ⟨_, rfl⟩
  have m1 : 0 ≤ M := by rw [hM]; split <;> omega
  have m2 : M ≤ 9999 := by rw [hM]; split <;> omega
  obtain ⟨h2, e1, hC2⟩ := z_tn hN hC z1 z2
  rw [← hM] at e1 ⊢
  have e0 := isTurn_m (N := N) (h := h) (z := z) (by omega) (by omega)
  rw [if_pos ⟨z1, z2⟩] at e0
  have n0 : ¬ iI 1 = iI 0 := by decide
  have rc12 : rc 12 h (some 29) = some 29 := rcv (by rw [ss_29 hS])
  have c29 : (sh h 29).1 = 12 := by rw [ss_29 hS]
  have eM : ((M.toNat : Nat) : Int) = M := by omega
  by_cases zp : iI 0 ≤ iI z
  · obtain ⟨h3, e3⟩ := z_f52 (N := N) (M := M.toNat) (by omega) (gI h 1223 29) (gI h 1224 29) (gI h 1225 29) (gI h 1222 29) (iI 1) M.toNat 0 N h2 hC2 (by omega) (by omega) (by omega)
    rw [eM] at e3
    refine ⟨h3, ?_⟩
    simp only [fX12_free, fX12_free_b47, lit]
    refine bst (e0) ?_
    refine ifn (n0) ?_
    refine bst (oIv c29 rfl) ?_
    refine bst (oIv c29 rfl) ?_
    refine bst (oIv c29 rfl) ?_
    refine bst (oIv c29 rfl) ?_
    refine bst (rc12) ?_
    refine bst (e1) ?_
    refine ifp (zp) ?_
    exact e3
  · obtain ⟨h3, e3⟩ := z_f52 (N := N) (M := M.toNat) (by omega) (gI h 1223 29) (gI h 1224 29) (gI h 1225 29) (gI h 1222 29) (iI (-1)) M.toNat 0 N h2 hC2 (by omega) (by omega) (by omega)
    rw [eM] at e3
    refine ⟨h3, ?_⟩
    simp only [fX12_free, fX12_free_b47, lit, iI_neg]
    refine bst (e0) ?_
    refine ifn (n0) ?_
    refine bst (oIv c29 rfl) ?_
    refine bst (oIv c29 rfl) ?_
    refine bst (oIv c29 rfl) ?_
    refine bst (oIv c29 rfl) ?_
    refine bst (rc12) ?_
    refine bst (e1) ?_
    refine ifn (zp) ?_
    exact e3
theorem z_turns {N : Nat} (hN : 100000000 ≤ N) {h : Hs} (hC : FZ h) (p : Int32) : ∃ r h1 h2, fX11_turn N h 0 p = some (r, h1) ∧ fX12_turn N h1 29 p = some (r, h2) := by
  obtain ⟨z, z1, z2, rfl⟩ := iI_ex p
  by_cases q : -9999 ≤ z ∧ z ≤ 9999
  · obtain ⟨h1, e1, c1⟩ := z_turn hN hC q.1 q.2
    obtain ⟨h2, e2⟩ := z_mturn hN c1 q.1 q.2
    exact ⟨_, h1, h2, e1, e2⟩
  · have e1 := isTurn_c (N := N) (h := h) z1 z2
    have e2 := isTurn_m (N := N) (h := h) z1 z2
    rw [if_neg q] at e1 e2
    have tt : iI 0 = iI 0 := rfl
    refine ⟨iI (-1), h, h, ?_, ?_⟩
    · simp only [fX11_turn, lit, iI_neg]
      refine bst (e1) ?_
      refine ifp (tt) ?_
      rfl
    · simp only [fX12_turn, lit, iI_neg]
      refine bst (e2) ?_
      refine ifp (tt) ?_
      rfl
theorem z_frees {N : Nat} (hN : 100000000 ≤ N) {h : Hs} (hC : FZ h) (p : Int32) : ∃ r h1 h2, fX11_free N h 0 p = some (r, h1) ∧ fX12_free N h1 29 p = some (r, h2) := by
  obtain ⟨z, z1, z2, rfl⟩ := iI_ex p
  have hS := hC.1
  by_cases q : -9999 ≤ z ∧ z ≤ 9999
  · have l := z_look hN hC q.1 q.2
    have c1 := hC.st 24 0 (-1) (-1)
    obtain ⟨h2, e2⟩ := z_mfree hN c1 q.1 q.2
    refine ⟨_, _, h2, ?_, e2⟩
    have e1 := isTurn_c (N := N) (h := h) z1 z2
    rw [if_pos q] at e1
    have n0 : ¬ iI 1 = iI 0 := by decide
    have rc10 : rc 10 h (some 22) = some 22 := rcv (by rw [ss_22 hS])
    simp only [fX11_free, fX11_free_b19, lit]
    refine bst (e1) ?_
    refine ifn (n0) ?_
    refine bst (sR_1101_0 hS) ?_
    refine bst (rc10) ?_
    refine bst (l) ?_
    rfl
  · have e1 := isTurn_c (N := N) (h := h) z1 z2
    have e2 := isTurn_m (N := N) (h := h) z1 z2
    rw [if_neg q] at e1 e2
    have tt : iI 0 = iI 0 := rfl
    refine ⟨iI (-1), h, h, ?_, ?_⟩
    · simp only [fX11_free, fX11_free_b19, lit, iI_neg]
      refine bst (e1) ?_
      refine ifp (tt) ?_
      rfl
    · simp only [fX12_free, lit, iI_neg]
      refine bst (e2) ?_
      refine ifp (tt) ?_
      rfl
/-! ===== snap, change, men, play, back, paint of a fresh object ===== -/
theorem z_snaps {N : Nat} {h : Hs} (hC : FZ h) (p : Int32) : ∃ r h1 h2, fX11_snap N h 0 p = some (r, h1) ∧ fX12_snap N h1 29 p = some (r, h2) := by
  obtain ⟨z, z1, z2, rfl⟩ := iI_ex p
  have hS := hC.1
  have e1 := v_isW (N := N) (h := h) (x := z) (a := 0) (b := -1) z1 z2 (by omega) (by omega) (by omega) (by omega)
  have e2 := v_inW (N := N) (h := h) (x := z) (a := 0) (b := -1) z1 z2 (by omega) (by omega) (by omega) (by omega)
  rw [if_neg (by omega)] at e1 e2
  have em : iI 0 - iI 1 = iI (-1) := by decide
  have tt : iI 0 = iI 0 := rfl
  have nn : (none : Option Nat) = none := rfl
  have ng : iI (-1) < iI 0 := by decide
  have rc5 : rc 5 h (some 14) = some 14 := rcv (by rw [ss_14 hS])
  have rc11 : rc 11 h (some 0) = some 0 := rcv (by rw [ss_0 hS])
  have rc12 : rc 12 h (some 29) = some 29 := rcv (by rw [ss_29 hS])
  have d := v_deed (N := N) hS (r := iI (-1)) (z := 0) (by omega)
  refine ⟨iI (-1), h, h, ?_, ?_⟩
  · have rn : fX5_ropeNumbered N h 14 (iI z) = some (none, h) := by
      simp only [fX5_ropeNumbered, fX5_ropeNumbered_b24, lit]
      refine bst (oIv (by rw [ss_14 hS]) hC.2.2.1.2.2.1) ?_
      rw [em]
      refine bst (e1) ?_
      refine ifp (tt) ?_
      rfl
    have br : fX5_breakRope N h 14 (iI z) = some (iI (-1), h) := by
      simp only [fX5_breakRope, lit, iI_neg]
      refine bst (rc5) ?_
      refine bst (rn) ?_
      refine ifp (nn) ?_
      rfl
    simp only [fX11_snap, fX11_snap_b20, lit]
    refine bst (sR_1100_0 hS) ?_
    refine bst (rc5) ?_
    refine bst (br) ?_
    refine ifp (ng) ?_
    refine bst (rc11) ?_
    refine bst (d) ?_
    rfl
  · have ir : fX12_isRope N h 29 (iI z) = some (iI 0, h) := by
      simp only [fX12_isRope, lit]
      refine bst (oIv (by rw [ss_29 hS]) hC.2.2.1.2.2.2.2.2) ?_
      rw [em]
      refine bst (e2) ?_
      rfl
    simp only [fX12_snap, lit, iI_neg]
    refine bst (rc12) ?_
    refine bst (ir) ?_
    refine ifp (tt) ?_
    rfl
theorem z_mens {N : Nat} {h : Hs} (hC : FZ h) (g1 : gI h 104 25 = iI 0) (g2 : gI h 1229 29 = iI 0) (p : Int32) : ∃ r h1 h2, fX11_men N h 0 p = some (r, h1) ∧ fX12_men N h1 29 p = some (r, h2) := by
  have hS := hC.1
  have tt : iI 0 = iI 0 := rfl
  have rc1 : rc 1 h (some 25) = some 25 := rcv (by rw [ss_25 hS])
  refine ⟨iI (-1), h, h, ?_, ?_⟩
  · have lm : fX1_leastMen N h 25 p = some (iI (-1), h) := by
      simp only [fX1_leastMen, fX1_leastMen_b17, lit, iI_neg]
      refine bst (oIv (by rw [ss_25 hS]) g1) ?_
      refine ifp (tt) ?_
      rfl
    simp only [fX11_men]
    refine bst (sR_1102_0 hS) ?_
    refine bst (rc1) ?_
    refine bst (lm) ?_
    rfl
  · simp only [fX12_men, fX12_men_b17, lit, iI_neg]
    refine bst (oIv (by rw [ss_29 hS]) g2) ?_
    refine ifp (tt) ?_
    rfl
theorem z_cw17 {N : Nat} {h : Hs} (hC : FZ h) {fu : Nat} (hf : 0 < fu) : fX1_countWorks_b17 N 25 fu h (iI 0) = some h := by
  have hS := hC.1
  obtain ⟨fu, rfl⟩ : ∃ m, fu = m + 1 := ⟨fu - 1, by omega⟩
  show fX1_countWorks_b17_body N (fX1_countWorks_b17 N 25 fu) 25 h (iI 0) = _
  have le : iI 0 ≤ iI 0 := by decide
  simp only [fX1_countWorks_b17_body]
  refine bst (sR_100_25 hS) ?_
  refine bst (oIv (by rw [ss_14 hS]) hC.2.2.1.1) ?_
  refine ifp (le) ?_
  rfl
theorem z_b54 {N : Nat} (hN : 0 < N) {h : Hs} (hC : FZ h) (g5 : gI h 105 25 = iI 1) (x y : Int32) {fu : Nat} (hf : 0 < fu) : ∃ h2, fX1_plan_b54 N 25 fu h x y (iI 0) (iI 0) = some (iI 0, h2) ∧ FZ h2 := by
  have hS := hC.1
  have hC3 := ((hC.u 106 25 (iI 0) (by decide)).u 107 25 (iI 0) (by decide)).u 108 25 (iI 0) (by decide)
  have cw := z_cw17 (N := N) hC3 (fu := N) hN
  refine ⟨_, ?_, hC3⟩
  obtain ⟨fu, rfl⟩ : ∃ m, fu = m + 1 := ⟨fu - 1, by omega⟩
  show fX1_plan_b54_body N (fX1_plan_b54 N 25 fu) 25 h x y (iI 0) (iI 0) = _
  have le : iI 0 ≤ iI 0 := by decide
  have n0 : ¬ iI 1 = iI 0 := by decide
  have rc1 : rc 1 h (some 25) = some 25 := rcv (by rw [ss_25 hS])
  have cc : fX1_countWorks N h 25 = some (uI (uI (uI h 106 25 (iI 0)) 107 25 (iI 0)) 108 25 (iI 0)) := by
    simp only [fX1_countWorks, lit]
    refine bst (qIv (by rw [ss_25 hS])) ?_
    refine bst (qIv (by rw [sh_uI, ss_25 hS])) ?_
    refine bst (qIv (by rw [sh_uI, sh_uI, ss_25 hS])) ?_
    exact cw
  have hS3 := hC3.1
  have g53 : gI (uI (uI (uI h 106 25 (iI 0)) 107 25 (iI 0)) 108 25 (iI 0)) 105 25 = iI 1 := by simp [HR, g5]
  simp only [fX1_plan_b54_body, fX1_plan_b132, fX1_plan_b149, lit, iI_neg]
  refine bst (sR_100_25 hS) ?_
  refine bst (oIv (by rw [ss_14 hS]) hC.2.2.1.1) ?_
  refine ifp (le) ?_
  refine bst (rc1) ?_
  refine bst (cc) ?_
  refine bst (oIv (by rw [ss_25 hS3]) g53) ?_
  refine ifn (n0) ?_
  rfl
theorem z_mb {N : Nat} (hN : 0 < N) {h : Hs} (hC : FZ h) (g3 : gI h 1230 29 = iI 0) (x y : Int32) : fX12_change_b46 N 29 N h x y (iI 0) (iI 0) = some (iI 0, h) := by
  have hS := hC.1
  have le : iI 0 ≤ iI 0 := by decide
  have tt : iI 0 = iI 0 := rfl
  obtain ⟨K, eK⟩ : ∃ m, N = m + 1 := ⟨N - 1, by omega⟩
  have e3 : fX12_change_b180 N 29 (K + 1) h (iI 0) (iI 0) = some (iI 0, h) := by
    show fX12_change_b180_body N (fX12_change_b180 N 29 K) 29 h (iI 0) (iI 0) = _
    simp only [fX12_change_b180_body, fX12_change_b215, fX12_change_b228, lit]
    refine bst (oIv (by rw [ss_29 hS]) hC.2.2.1.2.2.2.1) ?_
    refine ifp (le) ?_
    refine bst (oIv (by rw [ss_29 hS]) g3) ?_
    refine ifp (tt) ?_
    rfl
  rw [← eK] at e3
  have e2 : fX12_change_b80 N 29 (K + 1) h x y (iI 0) (iI 0) = some (iI 0, h) := by
    show fX12_change_b80_body N (fX12_change_b80 N 29 K) 29 h x y (iI 0) (iI 0) = _
    simp only [fX12_change_b80_body, fX12_change_b177, lit]
    refine bst (oIv (by rw [ss_29 hS]) hC.2.2.1.2.2.2.1) ?_
    refine ifp (le) ?_
    exact e3
  rw [← eK] at e2
  have e1 : fX12_change_b46 N 29 (K + 1) h x y (iI 0) (iI 0) = some (iI 0, h) := by
    show fX12_change_b46_body N (fX12_change_b46 N 29 K) 29 h x y (iI 0) (iI 0) = _
    simp only [fX12_change_b46_body, lit]
    refine bst (oIv (by rw [ss_29 hS]) hC.2.2.1.2.2.2.1) ?_
    refine ifp (le) ?_
    exact e2
  rw [← eK] at e1
  exact e1
theorem z_changes {N : Nat} (hN : 100000000 ≤ N) {h : Hs} (hC : FZ h) (p1 p2 : Int32) : ∃ r h1 h2, fX11_change N h 0 p1 p2 = some (r, h1) ∧ fX12_change N h1 29 p1 p2 = some (r, h2) := by
  obtain ⟨a, a1, a2, rfl⟩ := iI_ex p1
  obtain ⟨z, z1, z2, rfl⟩ := iI_ex p2
  have hS := hC.1
  have rc1 : rc 1 h (some 25) = some 25 := rcv (by rw [ss_25 hS])
  have up : ∀ {r : Int32} {h1 : Hs}, fX1_plan N h 25 (iI a) (iI z) = some (r, h1) → fX11_change N h 0 (iI a) (iI z) = some (r, h1) := by
    intro r h1 e
    simp only [fX11_change]
    refine bst (sR_1102_0 hS) ?_
    refine bst (rc1) ?_
    refine bst (e) ?_
    rfl
  have tt : iI 0 = iI 0 := rfl
  have n0 : ¬ iI 1 = iI 0 := by decide
  have e1 := v_isW (N := N) (h := h) (x := a) (a := 0) (b := 9) a1 a2 (by omega) (by omega) (by omega) (by omega)
  have t1 := isTurn_c (N := N) (h := h) z1 z2
  by_cases qa : 0 ≤ a ∧ a ≤ 9
  · rw [if_pos qa] at e1
    by_cases qt : -9999 ≤ z ∧ z ≤ 9999
    · rw [if_pos qt] at t1
      by_cases q0 : z = 0
      · have q1 : iI z = iI 0 := by rw [q0]
        have e2 := v_inW (N := N) (h := h) (x := a) (a := 0) (b := 9) a1 a2 (by omega) (by omega) (by omega) (by omega)
        have t2 := isTurn_m (N := N) (h := h) z1 z2
        rw [if_pos qa] at e2
        rw [if_pos qt] at t2
        refine ⟨iI (-1), h, h, up ?_, ?_⟩
        · simp only [fX1_plan, fX1_plan_b21, lit, iI_neg]
          refine bst (e1) ?_
          refine ifn (n0) ?_
          refine bst (t1) ?_
          refine ifn (n0) ?_
          refine ifp (q1) ?_
          rfl
        · simp only [fX12_change, fX12_change_b21, lit, iI_neg]
          refine bst (e2) ?_
          refine ifn (n0) ?_
          refine bst (t2) ?_
          refine ifn (n0) ?_
          refine ifp (q1) ?_
          rfl
      · have q1 : ¬ iI z = iI 0 := fun w => q0 ((iI_eq (by omega) (by omega) (by omega) (by omega)).mp w)
        have ke4 : Ke [104, 105] [26, 27] [] [] h (uI (uI h 104 25 (iI 1)) 105 25 (iI 1)) := (Ke_rf.u 104 25 _ (by decide)).u 105 25 _ (by decide)
        have hC4 := hC.e ke4 (by decide) (by decide)
        have g4 : gI (uI (uI h 104 25 (iI 1)) 105 25 (iI 1)) 105 25 = iI 1 := by simp [HR]
        have z4 : qZ 1 5 (uI h 104 25 (iI 1)) (some 25) (iI 1) = some (uI (uI h 104 25 (iI 1)) 105 25 (iI 1)) := qZv (by rw [sh_uI, ss_25 hS]) (by omega)
        generalize uI (uI h 104 25 (iI 1)) 105 25 (iI 1) = h4 at ke4 hC4 g4 z4
        have f6 := v_fill hN (h := h4) (a := 26) (n := 40) (v := -1) (by omega) (ss_26 hC4.1)
        have hC6 := hC4.e (F := []) (A := [26]) (Ke_rf.a 26 (fun j => if j < 40 then iI (-1) else aI h4 26 j) (by decide)) (by decide) (by decide)
        have g6 : gI (wA h4 26 (fun j => if j < 40 then iI (-1) else aI h4 26 j)) 105 25 = iI 1 := by rw [← g4]; rfl
        generalize wA h4 26 (fun j => if j < 40 then iI (-1) else aI h4 26 j) = h6 at f6 hC6 g6
        have f8 := v_fill hN (h := h6) (a := 27) (n := 40) (v := -1) (by omega) (ss_27 hC6.1)
        have hC8 := hC6.e (F := []) (A := [27]) (Ke_rf.a 27 (fun j => if j < 40 then iI (-1) else aI h6 27 j) (by decide)) (by decide) (by decide)
        have g8 : gI (wA h6 27 (fun j => if j < 40 then iI (-1) else aI h6 27 j)) 105 25 = iI 1 := by rw [← g6]; rfl
        generalize wA h6 27 (fun j => if j < 40 then iI (-1) else aI h6 27 j) = h8 at f8 hC8 g8
        obtain ⟨h9, e9, hC9⟩ := z_b54 (N := N) (by omega) hC8 g8 (iI a) (iI z) (fu := N) (by omega)
        have hS9 := hC9.1
        have e2 := v_inW (N := N) (h := h9) (x := a) (a := 0) (b := 9) a1 a2 (by omega) (by omega) (by omega) (by omega)
        have t2 := isTurn_m (N := N) (h := h9) z1 z2
        rw [if_pos qa] at e2
        rw [if_pos qt] at t2
        have hCa := ((hC9.u 1229 29 (iI 1) (by decide)).u 1230 29 (iI 0) (by decide)).u 1234 29 (iI 0) (by decide)
        have ga : gI (uI (uI (uI h9 1229 29 (iI 1)) 1230 29 (iI 0)) 1234 29 (iI 0)) 1230 29 = iI 0 := by simp [HR]
        have mb := z_mb (N := N) (by omega) hCa ga (iI a) (iI z)
        have c29 : (sh h9 29).1 = 12 := by rw [ss_29 hS9]
        have gt : gI (uI (uI h9 1229 29 (iI 1)) 1230 29 (iI 0)) 1201 29 = iI 0 := by simp [HR, hC9.2.2.1.2.2.2.1]
        refine ⟨iI 0, h9, uI (uI (uI h9 1229 29 (iI 1)) 1230 29 (iI 0)) 1234 29 (iI 0), up ?_, ?_⟩
        · simp only [fX1_plan, lit, iI_neg]
          refine bst (e1) ?_
          refine ifn (n0) ?_
          refine bst (t1) ?_
          refine ifn (n0) ?_
          refine ifn (q1) ?_
          refine bst (qZv (by rw [ss_25 hS]) (by omega)) ?_
          refine bst (z4) ?_
          refine bst (sR_101_25 hC4.1) ?_
          refine bst (f6) ?_
          refine bst (sR_102_25 hC6.1) ?_
          refine bst (f8) ?_
          exact e9
        · simp only [fX12_change, lit, iI_neg]
          refine bst (e2) ?_
          refine ifn (n0) ?_
          refine bst (t2) ?_
          refine ifn (n0) ?_
          refine ifn (q1) ?_
          refine bst (qZv c29 (by omega)) ?_
          refine bst (qZv (by rw [sh_uI]; exact c29) (by omega)) ?_
          refine bst (oIv (by rw [sh_uI, sh_uI]; exact c29) gt) ?_
          refine bst (qIv (by rw [sh_uI, sh_uI]; exact c29)) ?_
          exact mb
    · rw [if_neg qt] at t1
      have e2 := v_inW (N := N) (h := h) (x := a) (a := 0) (b := 9) a1 a2 (by omega) (by omega) (by omega) (by omega)
      have t2 := isTurn_m (N := N) (h := h) z1 z2
      rw [if_pos qa] at e2
      rw [if_neg qt] at t2
      refine ⟨iI (-1), h, h, up ?_, ?_⟩
      · simp only [fX1_plan, fX1_plan_b21, lit, iI_neg]
        refine bst (e1) ?_
        refine ifn (n0) ?_
        refine bst (t1) ?_
        refine ifp (tt) ?_
        rfl
      · simp only [fX12_change, fX12_change_b21, lit, iI_neg]
        refine bst (e2) ?_
        refine ifn (n0) ?_
        refine bst (t2) ?_
        refine ifp (tt) ?_
        rfl
  · rw [if_neg qa] at e1
    have e2 := v_inW (N := N) (h := h) (x := a) (a := 0) (b := 9) a1 a2 (by omega) (by omega) (by omega) (by omega)
    rw [if_neg qa] at e2
    refine ⟨iI (-1), h, h, up ?_, ?_⟩
    · simp only [fX1_plan, fX1_plan_b21, lit, iI_neg]
      refine bst (e1) ?_
      refine ifp (tt) ?_
      rfl
    · simp only [fX12_change, fX12_change_b21, lit, iI_neg]
      refine bst (e2) ?_
      refine ifp (tt) ?_
      rfl
theorem o_fst {x : Option (Int32 × Hs)} {r : Int32} (h : x.map Prod.fst = some r) : ∃ q, x = some (r, q) := by
  cases x with
  | none => cases h
  | some a => cases h; exact ⟨a.2, rfl⟩
theorem o_snd {x : Option (Int32 × Hs)} {r : Int32} (d : Int32 × Hs) (h : x.map Prod.fst = some r) : x = some (r, (x.getD d).2) := by
  cases x with
  | none => cases h
  | some a => cases h; rfl
theorem z_play : ∃ r h1 h2, fX11_play nN hF1 0 = some (r, h1) ∧ fX12_play nN h1 29 = some (r, h2) := by
  have e1 := o_snd (x := fX11_play nN hF1 0) (r := -100) (0, h00) (by decide +kernel)
  obtain ⟨h2, e2⟩ := o_fst (x := fX12_play nN ((fX11_play nN hF1 0).getD (0, h00)).2 29) (r := -100) (by decide +kernel)
  exact ⟨_, _, h2, e1, e2⟩
theorem z_back : ∃ r h1 h2, fX11_back nN hF1 0 = some (r, h1) ∧ fX12_back nN h1 29 = some (r, h2) := by
  have e1 := o_snd (x := fX11_back nN hF1 0) (r := -2) (0, h00) (by decide +kernel)
  obtain ⟨h2, e2⟩ := o_fst (x := fX12_back nN ((fX11_back nN hF1 0).getD (0, h00)).2 29) (r := -2) (by decide +kernel)
  exact ⟨_, _, h2, e1, e2⟩
theorem z_paint : ∃ r h1 h2, fX11_paint nN hF1 0 = some (r, h1) ∧ fX12_paint nN h1 29 = some (r, h2) := by
  have e1 := o_snd (x := fX11_paint nN hF1 0) (r := -2) (0, h00) (by decide +kernel)
  obtain ⟨h2, e2⟩ := o_fst (x := fX12_paint nN ((fX11_paint nN hF1 0).getD (0, h00)).2 29) (r := -2) (by decide +kernel)
  exact ⟨_, _, h2, e1, e2⟩
/-! ===== what stands of the fresh objects ===== -/
theorem F_cand : ICand hF1 := ⟨0, 0, zI, zI, ⟨by decide +kernel, by decide +kernel, by decide +kernel, by decide +kernel⟩, fun i hi => absurd hi (Nat.not_lt_zero i), by omega, by omega, by omega, fun i hi => absurd hi (Nat.not_lt_zero i)⟩
theorem F_stk : IStk hF1 := ⟨0, 0, 0, zN, zN, zI, zI, zI, zI, zI, zI, zI, ⟨by decide +kernel, by decide +kernel, by decide +kernel, by decide +kernel, by decide +kernel, by decide +kernel⟩, by omega, by omega, by omega, fun i hi => absurd hi (Nat.not_lt_zero i), fun i hi => absurd hi (Nat.not_lt_zero i), fun i hi => absurd hi (Nat.not_lt_zero i)⟩
theorem F_bnd : IBnd hF1 := ⟨99999, FZ_F1.2.2.2.2.1, FZ_F1.2.2.2.2.2, by omega, by omega⟩
theorem F_cnt : ICnt hF1 := ⟨zI, fun i hi => ⟨(FZ_F1.2.2.2.1 i hi).1, (FZ_F1.2.2.2.1 i hi).2, by show (-9999 : Int) ≤ 0; omega, by show (0 : Int) ≤ 9999; omega⟩⟩
theorem F_can : ICan hF1 := ⟨0, by decide +kernel, by decide +kernel, by omega⟩
theorem F_catA : ∀ l, l < 16 → aI hF1 21 l = iI 0 ∧ aI hF1 46 l = iI 0 := by decide +kernel
theorem F_cat : ICat hF1 := ⟨zN, zI, fun l hl => ⟨(F_catA l hl).1, (F_catA l hl).2, Nat.zero_le 5, fun k hk => absurd hk (Nat.not_lt_zero k)⟩⟩
theorem F_tape : RTape hF1 0 zI := ⟨by decide +kernel, by decide +kernel, by omega, fun i hi => absurd hi (Nat.not_lt_zero i)⟩
theorem F_sc : RSc hF1 0 zN zN zI zI (fun _ _ => 0) := ⟨fun i hi => absurd hi (Nat.not_lt_zero i), fun i j hi => absurd hi (Nat.not_lt_zero i)⟩
theorem F_stp : IStp hF1 := ⟨by decide +kernel, by decide +kernel, by decide +kernel⟩
theorem F_as1 : gI hF1 104 25 = iI 0 := by decide +kernel
theorem F_as2 : gI hF1 1229 29 = iI 0 := by decide +kernel
theorem F_chg : RChg hF1 0 0 false false zI zI zI := ⟨⟨F_as1, F_as2⟩, fun q => by cases q⟩
theorem F_gone : ∀ r, 0 ≤ r → r < 40 → aI hF1 44 r = iI 0 := by
  have h : ∀ r, r < 40 → aI hF1 44 r = iI 0 := by decide +kernel
  exact fun r _ hr => h r hr
theorem F_sh : gI hF1 511 14 = 0 ∧ gI hF1 1221 29 = 0 ∧ gI hF1 512 14 = 0 ∧ gI hF1 1222 29 = 0 := ⟨by decide +kernel, by decide +kernel, by decide +kernel, by decide +kernel⟩
theorem F_ti : RTi hF1 0 0 0 zN zN zN zN zO zO zI zI := FZ.ti
theorem F_z : 70 ≤ sz hF1 := FZ_F1.2.1
theorem nN_ok : 100000000 ≤ nN := Nat.le_refl _
abbrev Tw (f g : Hs → Option (Int32 × Hs)) : Prop := ∃ r h1 h2, f hF1 = some (r, h1) ∧ g h1 = some (r, h2)
/-! ===== the class's half of the things ===== -/
def RTo (h : Hs) (nt : Nat) (tA : Nat → Nat) (tl tw tg ls ms pa : Nat → Int) : Prop :=
  (gI h 507 14 = iI nt ∧ True ∧ nt ≤ 40) ∧
  (∀ i, i < nt → (aR h 15 i = some (tA i) ∧ 70 ≤ tA i ∧ tA i < sz h ∧ sh h (tA i) = (9, 0)) ∧ (gI h 900 (tA i) = iI i ∧ gI h 901 (tA i) = iI (tl i) ∧ gI h 902 (tA i) = iI (tw i) ∧ gI h 903 (tA i) = iI (tg i) ∧ gI h 904 (tA i) = iI (ls i) ∧ gI h 905 (tA i) = iI (ms i) ∧ gI h 907 (tA i) = iI (pa i)) ∧ True ∧ (0 ≤ tl i ∧ tl i ≤ 15 ∧ 1 ≤ tw i ∧ tw i ≤ 60 ∧ 0 ≤ tg i ∧ tg i ≤ 999 ∧ 0 ≤ ls i ∧ ls i ≤ pa i ∧ pa i ≤ ms i ∧ ms i + tw i ≤ 100)) ∧ (∀ i j, i < nt → j < nt → tA i = tA j → i = j)
theorem RTh.o {h : Hs} {nt : Nat} {tA : Nat → Nat} {tl tw tg ls ms pa : Nat → Int} (hT : RTh h nt tA tl tw tg ls ms pa) : RTo h nt tA tl tw tg ls ms pa := ⟨⟨hT.1.1, trivial, hT.1.2.2⟩, fun i hi => ⟨(hT.2.1 i hi).1, (hT.2.1 i hi).2.1, trivial, (hT.2.1 i hi).2.2.2⟩, hT.2.2⟩
theorem RTo.lt {h : Hs} {nt : Nat} {tA : Nat → Nat} {tl tw tg ls ms pa : Nat → Int} (hC : RTo h nt tA tl tw tg ls ms pa) : ∀ i, i < nt → tA i < sz h := fun i hi => (hC.2.1 i hi).1.2.2.1
theorem RTo.e {F A FR AQ : List Nat} {h h2 : Hs} {nt : Nat} {tA : Nat → Nat} {tl tw tg ls ms pa : Nat → Int} (hC : RTo h nt tA tl tw tg ls ms pa) (hz : 70 ≤ sz h) (k : Ke F A FR AQ h h2) (hF : ∀ f ∈ [507, 900, 901, 902, 903, 904, 905, 907], f ∉ F) (hQ : 15 ∉ AQ) : RTo h2 nt tA tl tw tg ls ms pa := by
  obtain ⟨⟨c1, c2, c3⟩, c4, c5⟩ := hC
  have k6 := k.2.2.2.2.2
  refine ⟨⟨by rw [k.1 _ _ (hF _ (by decide)) (by omega)]; exact c1, trivial, c3⟩, fun i hi => ?_, c5⟩
  obtain ⟨⟨d1, d2, d3, d4⟩, d5, d6, d7⟩ := c4 i hi
  refine ⟨⟨by rw [k.2.2.2.1 _ hQ (by omega)]; exact d1, d2, by omega, by rw [k.2.2.2.2.1 _ d3]; exact d4⟩, ?_, trivial, d7⟩
  rw [k.1 _ _ (hF 900 (by decide)) d3, k.1 _ _ (hF 901 (by decide)) d3, k.1 _ _ (hF 902 (by decide)) d3, k.1 _ _ (hF 903 (by decide)) d3, k.1 _ _ (hF 904 (by decide)) d3, k.1 _ _ (hF 905 (by decide)) d3, k.1 _ _ (hF 907 (by decide)) d3]
  exact d5
/-- the two halves -/
theorem RTh_of {h : Hs} {nt : Nat} {tA : Nat → Nat} {tl tw tg ls ms pa : Nat → Int} (hO : RTo h nt tA tl tw tg ls ms pa) (c2 : gI h 1201 29 = iI nt) (hq : ∀ i, i < nt → aI h 30 i = iI (tl i) ∧ aI h 31 i = iI (tw i) ∧ aI h 32 i = iI (tg i) ∧ aI h 33 i = iI (pa i) ∧ aI h 34 i = iI (ls i) ∧ aI h 35 i = iI (ms i)) : RTh h nt tA tl tw tg ls ms pa := ⟨⟨hO.1.1, c2, hO.1.2.2⟩, fun i hi => ⟨(hO.2.1 i hi).1, (hO.2.1 i hi).2.1, hq i hi, (hO.2.1 i hi).2.2.2⟩, hO.2.2⟩
theorem L_placeo {N : Nat} {nr nt nd : Nat} {rA tA dA rT : Nat → Nat} {wy gr hd ds : Nat → Int} {gn : Nat → Bool} {tl tw tg ls ms pa : Nat → Int} {dr td : Nat → Option Nat} {sr dn : Nat → Int} (hL : RTl nt nd nr rT dr td) {k : Int} (k1 : -100000 ≤ k) (k2 : k ≤ 100000) (hdn : ∀ r, r < nr → dr r ≠ none → -1000000000 ≤ dn r ∧ dn r ≤ 1000000000) : ∀ (d i : Nat) (fu : Nat) (h : Hs), Sk h → 70 ≤ sz h → RTo h nt tA tl tw tg ls ms pa → RDr h nd dA ds → RRo h nr nt rA tA rT wy gr hd gn → RTc h nt nr tA dA rA dr td sr dn → i + d = nt → d < fu → fX5_place_b2 N 14 fu h (iI k) (iI i) = some (plH tA (tpl pa wy gr sr dn ds dr td k) i d h) := by
  intro d
  induction d with
  | zero =>
    intro i fu h hS hz hT hD hR hC hi hf
    obtain ⟨fu, rfl⟩ : ∃ m, fu = m + 1 := ⟨fu - 1, by omega⟩
    show fX5_place_b2_body N (fX5_place_b2 N 14 fu) 14 h (iI k) (iI i) = _
    have c3 := hT.1.2.2
    have o7 : oI 5 7 h (some 14) = some (iI nt) := oIv (by rw [ss_14 hS]) hT.1.1
    have a1 : iI (nt : Int) ≤ iI (i : Int) := (iI_le (by omega) (by omega) (by omega) (by omega)).mpr (by omega)
    simp only [fX5_place_b2_body]
    refine bst (o7) ?_
    refine ifp (a1) ?_
    rfl
  | succ d ih =>
    intro i fu h hS hz hT hD hR hC hi hf
    obtain ⟨fu, rfl⟩ : ∃ m, fu = m + 1 := ⟨fu - 1, by omega⟩
    show fX5_place_b2_body N (fX5_place_b2 N 14 fu) 14 h (iI k) (iI i) = _
    have c3 := hT.1.2.2
    have cd := hD.1.2.2
    have o7 : oI 5 7 h (some 14) = some (iI nt) := oIv (by rw [ss_14 hS]) hT.1.1
    have a1 : ¬ iI (nt : Int) ≤ iI (i : Int) := fun q => by have := (iI_le (by omega) (by omega) (by omega) (by omega)).mp q; omega
    obtain ⟨⟨d1, d2, d3, d4⟩, ⟨g0, g1, g2, g3, g4, g5, g7⟩, -, bb⟩ := hT.2.1 i (by omega)
    have g9 := hC.2 i (by omega)
    have o9 : oR 9 9 h (some (tA i)) = some ((td i).map rA) := oRv (by rw [d4]) g9
    have lq : lQ 23 h (some 15) (iI i) = some (some (tA i)) := lQv (ss_15 hS) (by omega) (by omega) d1
    have ix2 : iI (i : Int) + iI 1 = iI ((i : Int) + 1) := by rw [iI_add]
    have nx : ∀ v : Int, fX5_place_b2 N 14 fu (uI h 908 (tA i) (iI v)) (iI k) (iI ((i : Int) + 1)) = some (plH tA (tpl pa wy gr sr dn ds dr td k) (i + 1) d (uI h 908 (tA i) (iI v))) := by
      intro v
      have ke : Ke [908] [] [] [] h (uI h 908 (tA i) (iI v)) := Ke_rf.u _ _ _ (by decide)
      have e := ih (i + 1) fu (uI h 908 (tA i) (iI v)) (hS.e hz ke (by decide)) hz (hT.e hz ke (by decide) (by decide)) (hD.e hz ke (by decide) (by decide) (by decide)) (hR.e hz ke (by decide) (by decide) (by decide) (by decide)) (hC.e (fun i hi => (hT.2.1 i hi).1.2.2.1) (fun r hr => (hR.2.1 r hr).1.2.2.1) ke (by decide) (by decide)) (by omega) (by omega)
      simp only [Int.natCast_add, Int.natCast_one] at e
      exact e
    simp only [fX5_place_b2_body, fX5_place_b52, lit, ix2, Option.bind_some, plH]
    have q8 : ∀ v : Int32, qI 9 8 h (some (tA i)) v = some (uI h 908 (tA i) v) := fun v => qIv (by rw [d4])
    cases htd : td i with
    | none =>
      rw [htd] at o9
      have et : tpl pa wy gr sr dn ds dr td k i = pa i := by simp [tpl, htd]
      rw [et]
      refine bst (o7) ?_
      refine ifn (a1) ?_
      refine bst (sR_500_14 hS) ?_
      refine bst (lq) ?_
      refine bst (o9) ?_
      refine ifp (rfl) ?_
      refine bst (oIv (by rw [d4]) g7) ?_
      refine bst (q8 _) ?_
      exact nx _
    | some r =>
      obtain ⟨hr, hrt, hne⟩ := hL.2 i r (by omega) htd
      obtain ⟨e, hde⟩ := Option.ne_none_iff_exists'.mp hne
      have hel := (hL.1 r e hr hde).1
      rw [htd] at o9
      have et : tpl pa wy gr sr dn ds dr td k i = rpl wy gr sr dn (ds e) r k := by simp [tpl, htd, hde]
      rw [et]
      obtain ⟨⟨-, -, -, r4⟩, -⟩ := hR.2.1 r hr
      have g6 := ((hC.1 r hr).2 hne).1
      have da := v_doneAfter (N := N) hR hD hC hr hde hel (k := k)
      have b1 := hdn r hr hne
      have b2' := (hD.2.1 e hel).2.2.2
      have b3 : -2000000 ≤ ds e * k ∧ ds e * k ≤ 2000000 := by
        constructor
        · have := Int.mul_le_mul_of_nonneg_left k1 (show 0 ≤ ds e by omega)
          have := Int.mul_le_mul_of_nonneg_left (show -100000 ≤ (0 : Int) by omega) (show 0 ≤ ds e by omega)
          omega
        · have := Int.mul_le_mul_of_nonneg_left k2 (show 0 ≤ ds e by omega)
          omega
      have pf := v_placeFrom (N := N) hR hr (p := sr r) (q := dn r + ds e * k) (by omega) (by omega)
      have rc4 : rc 4 h (some (rA r)) = some (rA r) := rcv (by rw [r4])
      refine bst (o7) ?_
      refine ifn (a1) ?_
      refine bst (sR_500_14 hS) ?_
      refine bst (lq) ?_
      refine bst (o9) ?_
      refine ifn (fun q => by cases q) ?_
      refine bst (oIv (by rw [r4]) g6) ?_
      refine bst (rc4) ?_
      refine bst (da) ?_
      refine bst (rc4) ?_
      refine bst (pf) ?_
      refine bst (q8 _) ?_
      exact nx _

theorem v_pullAto {N : Nat} {h : Hs} {nr nt nd : Nat} {rA tA dA rT : Nat → Nat} {wy gr hd ds : Nat → Int} {gn : Nat → Bool} {tl tw tg ls ms pa : Nat → Int} {dr td : Nat → Option Nat} {sr dn : Nat → Int} (hT : RTo h nt tA tl tw tg ls ms pa) (hD : RDr h nd dA ds) (hR : RRo h nr nt rA tA rT wy gr hd gn) (hC : RTc h nt nr tA dA rA dr td sr dn) (hL : RTl nt nd nr rT dr td) {r : Nat} (hr : r < nr) {p : Int} : fX4_pullAt N h (rA r) (iI p) = some (iI (tq wy gr sr tg ds rT dr r p), h) := by
  obtain ⟨⟨-, -, -, d4⟩, ⟨f0, f1, f2, f3, f4, f8⟩, -, q1, q2, q3, q4, q5⟩ := hR.2.1 r hr
  obtain ⟨⟨-, -, -, t4⟩, ⟨g0, g1, g2, g3, g4, g5, g7⟩, -, bb⟩ := hT.2.1 (rT r) q1
  obtain ⟨c1, c2⟩ := hC.1 r hr
  simp only [fX4_pullAt, lit]
  cases hdr : dr r with
  | none =>
    rw [hdr] at c1
    refine bst (oRv (by rw [d4]) c1) ?_
    refine ifp (rfl) ?_
    simp [tq, hdr]
  | some d =>
    have hdl := (hL.1 r d hr hdr).1
    obtain ⟨⟨-, -, -, e4⟩, ⟨-, e1⟩, -, e5, e6⟩ := hD.2.1 d hdl
    have c3 := (c2 (by rw [hdr]; exact fun q => by cases q)).1
    rw [hdr] at c1
    have bd := tgds (a := tg (rT r)) (b := ds d) (by omega) (by omega) e5 e6
    have o5 : oR 4 5 h (some (rA r)) = some (some (dA d)) := oRv (by rw [d4]) c1
    have vq := v_quot (N := N) (h := h) (a := tg (rT r) * ds d) (b := gr r) (by omega) (by omega) (by omega) (by omega)
    have em : iI (tg (rT r)) * iI (ds d) = iI (tg (rT r) * ds d) := by rw [iI_mul]
    refine bst (o5) ?_
    refine ifn (fun q => by cases q) ?_
    refine bst (oIv (by rw [d4]) f2) ?_
    refine bst (oRv (by rw [d4]) f1) ?_
    refine bst (oIv (by rw [t4]) g3) ?_
    refine bst (o5) ?_
    refine bst (oIv (by rw [e4]) e1) ?_
    refine bst (oIv (by rw [d4]) f3) ?_
    rw [em]
    refine bst (vq) ?_
    refine bst (oRv (by rw [d4]) f1) ?_
    refine bst (oIv (by rw [t4]) g3) ?_
    refine bst (oIv (by rw [d4]) c3) ?_
    simp only [iI_mul, iI_sub, iI_add, tq, hdr]
theorem L_trialo {N : Nat} (hN : 100000000 ≤ N) {h : Hs} (hS : Sk h) {nr nt nd : Nat} {rA tA dA rT : Nat → Nat} {wy gr hd ds : Nat → Int} {gn : Nat → Bool} {tl tw tg ls ms pa : Nat → Int} {dr td : Nat → Option Nat} {sr dn : Nat → Int} (hT : RTo h nt tA tl tw tg ls ms pa) (hD : RDr h nd dA ds) (hR : RRo h nr nt rA tA rT wy gr hd gn) (hC : RTc h nt nr tA dA rA dr td sr dn) (hL : RTl nt nd nr rT dr td) {cw tp : Nat → Int} (hW : ∀ i, i < 20 → aI h 18 i = iI (cw i)) (hP : ∀ i, i < nt → gI h 908 (tA i) = iI (tp i)) : ∀ (d i : Nat) (c : Int) (fu : Nat), i + d = nr → d < fu → fX5_trialPull_b4 N 14 fu h (iI c) (iI i) = some (iI (c + sumF (fun r => tq wy gr sr tg ds rT dr r (tp (rT r))) i d + sumF cw 0 20), h) := by
  have c3 := hR.1.2.2
  have o9 : oI 5 9 h (some 14) = some (iI nr) := oIv (by rw [ss_14 hS]) hR.1.1
  intro d
  induction d with
  | zero =>
    intro i c fu hi hf
    obtain ⟨fu, rfl⟩ : ∃ m, fu = m + 1 := ⟨fu - 1, by omega⟩
    show fX5_trialPull_b4_body N (fX5_trialPull_b4 N 14 fu) 14 h (iI c) (iI i) = _
    have a1 : iI (nr : Int) ≤ iI (i : Int) := (iI_le (by omega) (by omega) (by omega) (by omega)).mpr (by omega)
    have lw := L_trialW (N := N) hS hW 20 0 c N (by omega) (by omega)
    simp only [fX5_trialPull_b4_body, lit]
    refine bst (o9) ?_
    refine ifp (a1) ?_
    rw [sumF_z, Int.add_zero]
    exact lw
  | succ d ih =>
    intro i c fu hi hf
    obtain ⟨fu, rfl⟩ : ∃ m, fu = m + 1 := ⟨fu - 1, by omega⟩
    show fX5_trialPull_b4_body N (fX5_trialPull_b4 N 14 fu) 14 h (iI c) (iI i) = _
    have a1 : ¬ iI (nr : Int) ≤ iI (i : Int) := fun q => by have := (iI_le (by omega) (by omega) (by omega) (by omega)).mp q; omega
    obtain ⟨⟨d1, d2, d3, d4⟩, ⟨f0, f1, -⟩, -, q1, -⟩ := hR.2.1 i (by omega)
    obtain ⟨⟨-, -, -, t4⟩, -⟩ := hT.2.1 (rT i) q1
    have pu := v_pullAto (N := N) hT hD hR hC hL (r := i) (by omega) (p := tp (rT i))
    have e := ih (i + 1) (c + tq wy gr sr tg ds rT dr i (tp (rT i))) fu (by omega) (by omega)
    simp only [Int.natCast_add, Int.natCast_one] at e
    have e1 : iI (i : Int) + iI 1 = iI ((i : Int) + 1) := by rw [iI_add]
    have e2 : iI c + iI (tq wy gr sr tg ds rT dr i (tp (rT i))) = iI (c + tq wy gr sr tg ds rT dr i (tp (rT i))) := by rw [iI_add]
    have lq : lQ 25 h (some 17) (iI i) = some (some (rA i)) := lQv (ss_17 hS) (by omega) (by omega) d1
    have rc4 : rc 4 h (some (rA i)) = some (rA i) := rcv (by rw [d4])
    simp only [fX5_trialPull_b4_body, lit, Option.bind_some]
    refine bst (o9) ?_
    refine ifn (a1) ?_
    refine bst (sR_502_14 hS) ?_
    refine bst (lq) ?_
    refine bst (sR_502_14 hS) ?_
    refine bst (lq) ?_
    refine bst (oRv (by rw [d4]) f1) ?_
    refine bst (oIv (by rw [t4]) (hP _ q1)) ?_
    refine bst (rc4) ?_
    refine bst (pu) ?_
    rw [e1, e2, e]
    simp only [sumF, Int.add_assoc]
/-! ===== turning: what stops a step ===== -/
def Bey (ls ms P : Nat → Int) (i : Nat) : Prop := ¬ (ls i ≤ P i ∧ P i ≤ ms i)
def Hit (tl tw P : Nat → Int) (i j : Nat) : Prop := tl i = tl j ∧ P i < P j + tw j ∧ P j < P i + tw i
theorem Hit.sy {tl tw P : Nat → Int} {i j : Nat} (q : Hit tl tw P i j) : Hit tl tw P j i := ⟨q.1.symm, q.2.2, q.2.1⟩
def Wh (nt : Nat) (ls ms tl tw P : Nat → Int) (pu bd k t o : Int) : Prop :=
  (∃ i : Nat, i < nt ∧ Bey ls ms P i ∧ (∀ j, j < i → ¬ Bey ls ms P j) ∧ k = 1 ∧ t = i ∧ o = -1) ∨
  ((∀ j, j < nt → ¬ Bey ls ms P j) ∧ ((∃ i j : Nat, i < j ∧ j < nt ∧ Hit tl tw P i j ∧ (∀ i' j', i' < i → i' < j' → j' < nt → ¬ Hit tl tw P i' j') ∧ (∀ j', i < j' → j' < j → ¬ Hit tl tw P i j') ∧ k = 2 ∧ t = i ∧ o = j) ∨
   ((∀ i j, i < j → j < nt → ¬ Hit tl tw P i j) ∧ t = -1 ∧ o = -1 ∧ ((k = 3 ∧ (bd < pu ∨ pu < -bd)) ∨ (k = 0 ∧ -bd ≤ pu ∧ pu ≤ bd)))))
theorem Wh_un {nt : Nat} {ls ms tl tw P : Nat → Int} {pu bd k t o k' t' o' : Int} (a : Wh nt ls ms tl tw P pu bd k t o) (c : Wh nt ls ms tl tw P pu bd k' t' o') : k = k' ∧ t = t' ∧ o = o' := by
  rcases a with ⟨i, i1, i2, i3, rfl, rfl, rfl⟩ | ⟨a0, a⟩
  · rcases c with ⟨j, j1, j2, j3, rfl, rfl, rfl⟩ | ⟨c0, c⟩
    · rcases Nat.lt_trichotomy i j with q | q | q
      · exact absurd i2 (j3 i q)
      · subst q
        exact ⟨rfl, rfl, rfl⟩
      · exact absurd j2 (i3 j q)
    · exact absurd i2 (c0 i i1)
  · rcases c with ⟨j, j1, j2, j3, rfl, rfl, rfl⟩ | ⟨c0, c⟩
    · exact absurd j2 (a0 j j1)
    · rcases a with ⟨i, j, h1, h2, h3, h4, h5, rfl, rfl, rfl⟩ | ⟨a1, rfl, rfl, a2⟩
      · rcases c with ⟨i', j', g1, g2, g3, g4, g5, rfl, rfl, rfl⟩ | ⟨c1, rfl, rfl, c2⟩
        · rcases Nat.lt_trichotomy i i' with q | q | q
          · exact absurd h3 (g4 i j q h1 h2)
          · subst q
            rcases Nat.lt_trichotomy j j' with q | q | q
            · exact absurd h3 (g5 j h1 q)
            · subst q
              exact ⟨rfl, rfl, rfl⟩
            · exact absurd g3 (h5 j' g1 q)
          · exact absurd g3 (h4 i' j' q g1 g2)
        · exact absurd h3 (c1 i j h1 h2)
      · rcases c with ⟨i', j', g1, g2, g3, g4, g5, rfl, rfl, rfl⟩ | ⟨c1, rfl, rfl, c2⟩
        · exact absurd g3 (a1 i' j' g1 g2)
        · exact ⟨by omega, rfl, rfl⟩
/-- n of m steps are done, then k t o is why -/
def Stq (m : Int) (WH : Int → Int → Int → Int → Prop) (n k t o : Int) : Prop := 0 ≤ n ∧ n ≤ m ∧ (∀ s, 1 ≤ s → s ≤ n → WH s 0 (-1) (-1)) ∧ ((n = m ∧ k = 0 ∧ t = -1 ∧ o = -1) ∨ (n < m ∧ WH (n + 1) k t o ∧ k ≠ 0))
theorem Stq_un {m : Int} {WH : Int → Int → Int → Int → Prop} (U : ∀ s k t o k' t' o', WH s k t o → WH s k' t' o' → k = k' ∧ t = t' ∧ o = o') {n k t o n' k' t' o' : Int} (a : Stq m WH n k t o) (c : Stq m WH n' k' t' o') : n = n' ∧ k = k' ∧ t = t' ∧ o = o' := by
  obtain ⟨a1, a2, a3, a4⟩ := a
  obtain ⟨c1, c2, c3, c4⟩ := c
  have e : n = n' := by
    rcases Int.lt_trichotomy n n' with q | q | q
    · rcases a4 with ⟨z, -⟩ | ⟨-, z, z2⟩
      · omega
      · exact absurd (U _ _ _ _ _ _ _ z (c3 (n + 1) (by omega) (by omega))).1 z2
    · exact q
    · rcases c4 with ⟨z, -⟩ | ⟨-, z, z2⟩
      · omega
      · exact absurd (U _ _ _ _ _ _ _ z (a3 (n' + 1) (by omega) (by omega))).1 z2
  subst e
  refine ⟨rfl, ?_⟩
  rcases a4 with ⟨z, rfl, rfl, rfl⟩ | ⟨z, z1, z2⟩
  · rcases c4 with ⟨y, rfl, rfl, rfl⟩ | ⟨y, y1, y2⟩
    · exact ⟨rfl, rfl, rfl⟩
    · omega
  · rcases c4 with ⟨y, rfl, rfl, rfl⟩ | ⟨y, y1, y2⟩
    · omega
    · exact U _ _ _ _ _ _ _ z1 y1
/-! the quiet steps -/
theorem td_abs (a b : Int) : (a.tdiv b).natAbs ≤ a.natAbs := by
  rw [Int.natAbs_tdiv]
  exact Nat.div_le_self _ _
theorem ed_eq {x u p : Int} (hu : 0 < u) (h1 : p * u ≤ x) (h2 : x < (p + 1) * u) : x / u = p := by
  have a := (Int.le_ediv_iff_mul_le hu).mpr h1
  have b := (Int.ediv_lt_iff_lt_mul hu).mpr h2
  omega
def goal (g u : Int) : Int := if g.tdiv u < 0 then g.tdiv u * u + 1 else (g.tdiv u + 1) * u
def qup (a b : Int) : Int := (a + b - 1).tdiv b
theorem qup_ok {a b : Int} (ha : 1 ≤ a) (hb : 1 ≤ b) : 1 ≤ qup a b ∧ qup a b ≤ a ∧ ∀ j, 0 ≤ j → j < qup a b → b * j ≤ a - 1 := by
  unfold qup
  rw [Int.tdiv_eq_ediv_of_nonneg (by omega)]
  have h1 := (Int.le_ediv_iff_mul_le (a := 1) (b := a + b - 1) (c := b) (by omega)).mpr (by omega)
  have h2 := Int.ediv_mul_le (a + b - 1) (b := b) (by omega)
  generalize hm : (a + b - 1) / b = m at *
  refine ⟨h1, ?_, fun j j0 jm => ?_⟩
  · have h3 : (a + b - 1) / b < a + 1 := by
      rw [Int.ediv_lt_iff_lt_mul (by omega)]
      have h4 : a * 1 ≤ a * b := Int.mul_le_mul_of_nonneg_left (by omega) (by omega)
      have h5 : (a + 1) * b = a * b + b := by rw [Int.add_mul, Int.one_mul]
      omega
    omega
  · have h3 : b * j ≤ b * (m - 1) := Int.mul_le_mul_of_nonneg_left (by omega) (by omega)
    have h4 : b * (m - 1) = m * b - b := by rw [Int.mul_sub, Int.mul_one, Int.mul_comm]
    omega
theorem goal_ok {g u : Int} (hu : 1 ≤ u) : g < goal g u ∧ goal g u - g ≤ 2 * u ∧ ∀ x, g ≤ x → x < goal g u → x.tdiv u = g.tdiv u := by
  unfold goal
  rcases td_cases g u with ⟨g0, e⟩ | ⟨g0, e⟩
  · rw [e]
    have h0 := Int.ediv_nonneg g0 (show 0 ≤ u by omega)
    have h1 := Int.lt_ediv_add_one_mul_self g (show 0 < u by omega)
    have h2 := Int.ediv_mul_le g (b := u) (by omega)
    rw [if_neg (by omega)]
    have h5 : (g / u + 1) * u = g / u * u + u := by rw [Int.add_mul, Int.one_mul]
    refine ⟨h1, by omega, fun x x1 x2 => ?_⟩
    rw [Int.tdiv_eq_ediv_of_nonneg (by omega)]
    exact ed_eq (by omega) (by omega) x2
  · rw [e]
    have h0 := Int.ediv_nonneg (show 0 ≤ -g by omega) (show 0 ≤ u by omega)
    have h1 := Int.lt_ediv_add_one_mul_self (-g) (show 0 < u by omega)
    have h2 := Int.ediv_mul_le (-g) (b := u) (by omega)
    have h5 : (-g / u + 1) * u = -g / u * u + u := by rw [Int.add_mul, Int.one_mul]
    generalize hq : -g / u = q at *
    have h6 : -q * u = -(q * u) := by rw [Int.neg_mul]
    by_cases hq0 : q = 0
    · subst hq0
      simp only [Int.zero_mul, Int.neg_zero, Int.zero_add, Int.one_mul] at *
      rw [if_neg (by omega)]
      refine ⟨by omega, by omega, fun x x1 x2 => ?_⟩
      rcases td_cases x u with ⟨x0, e2⟩ | ⟨x0, e2⟩
      · rw [e2]
        exact ed_eq (by omega) (by omega) (by omega)
      · rw [e2, ed_eq (p := 0) (x := -x) (by omega) (by omega) (by omega)]
        rfl
    · rw [if_pos (by omega)]
      have hqu : 1 * u ≤ q * u := Int.mul_le_mul_of_nonneg_right (by omega) (by omega)
      refine ⟨by omega, by omega, fun x x1 x2 => ?_⟩
      rcases td_cases x u with ⟨x0, e2⟩ | ⟨x0, e2⟩
      · omega
      · rw [e2, ed_eq (p := q) (x := -x) (by omega) (by omega) (by omega)]
/-- how many steps of size sd until the place changes -/
def qst (dn g sd d s : Int) : Int := qup (goal (d * dn + sd * s) (100 * g) - (d * dn + sd * s)) sd
theorem qst_ok {dn g sd d s : Int} (hg : 1 ≤ g) (hg5 : g ≤ 5) (hs : 1 ≤ sd) (hd : d = 1 ∨ d = -1) : 1 ≤ qst dn g sd d s ∧ qst dn g sd d s ≤ 1000 ∧ ∀ j, 0 ≤ j → j < qst dn g sd d s → (dn + sd * (d * (s + j))).tdiv (100 * g) = (dn + sd * (d * s)).tdiv (100 * g) := by
  obtain ⟨g1, g2, g3⟩ := goal_ok (g := d * dn + sd * s) (u := 100 * g) (by omega)
  obtain ⟨q1, q2, q3⟩ := qup_ok (a := goal (d * dn + sd * s) (100 * g) - (d * dn + sd * s)) (b := sd) (by omega) hs
  refine ⟨q1, by unfold qst; omega, fun j j0 j1 => ?_⟩
  have h1 := q3 j j0 j1
  have e1 : sd * (s + j) = sd * s + sd * j := Int.mul_add _ _ _
  have h0 : 0 ≤ sd * j := Int.mul_nonneg (by omega) j0
  have h2 := g3 (d * dn + sd * (s + j)) (by omega) (by omega)
  rcases hd with rfl | rfl
  · simp only [Int.one_mul] at *
    exact h2
  · have e2 : dn + sd * (-1 * (s + j)) = -(-1 * dn + sd * (s + j)) := by
      rw [Int.neg_one_mul, Int.neg_one_mul, Int.mul_neg]; omega
    have e3 : dn + sd * (-1 * s) = -(-1 * dn + sd * s) := by
      rw [Int.neg_one_mul, Int.neg_one_mul, Int.mul_neg]; omega
    rw [e2, e3, Int.neg_tdiv, Int.neg_tdiv, h2]
