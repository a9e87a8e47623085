/-! ===== the fresh objects ===== -/
def h00 : Hs := (fun _ _ => 0, fun _ _ => none, fun _ _ => 0, fun _ _ => none, fun _ => (99, 0), 0)
def nN : Nat := 100000000
theorem getD_ok {α : Type} {o : Option α} {d : α} (h : o.isSome = true) : o = some (o.getD d) := by
  cases o with
  | none => cases h
  | some a => rfl
noncomputable def hA1 : Hs := (fX11_init nN (nw h00 (11, 0)) 0).getD h00
noncomputable def hF1 : Hs := (fX12_init nN (nw hA1 (12, 0)) 29).getD h00
theorem hA1_ok : fX11_init nN (nw h00 (11, 0)) 0 = some hA1 := getD_ok (by decide +kernel)
theorem hF1_ok : fX12_init nN (nw hA1 (12, 0)) 29 = some hF1 := getD_ok (by decide +kernel)
theorem hA1_sz : sz hA1 = 29 := by decide +kernel
theorem hF1_sz : sz hF1 = 70 := by decide +kernel
theorem Sk_F1 : Sk hF1 := by
  unfold Sk
  exact ⟨by decide +kernel, by decide +kernel, by decide +kernel, by decide +kernel, by decide +kernel, by decide +kernel, by decide +kernel, by decide +kernel, by decide +kernel, by decide +kernel, by decide +kernel, by decide +kernel, by decide +kernel, by decide +kernel, by decide +kernel, by decide +kernel, by decide +kernel, by decide +kernel, by decide +kernel, by decide +kernel, by decide +kernel, by decide +kernel, by decide +kernel, by decide +kernel, by decide +kernel, by decide +kernel, by decide +kernel, by decide +kernel, by decide +kernel, by decide +kernel, by decide +kernel, by decide +kernel, by decide +kernel, by decide +kernel, by decide +kernel, by decide +kernel, by decide +kernel, by decide +kernel, by decide +kernel, by decide +kernel, by decide +kernel, by decide +kernel, by decide +kernel, by decide +kernel, by decide +kernel, by decide +kernel, by decide +kernel, by decide +kernel, by decide +kernel, by decide +kernel, by decide +kernel, by decide +kernel, by decide +kernel, by decide +kernel, by decide +kernel, by decide +kernel, by decide +kernel, by decide +kernel, by decide +kernel, by decide +kernel, by decide +kernel, by decide +kernel, by decide +kernel, by decide +kernel, by decide +kernel, by decide +kernel, by decide +kernel, by decide +kernel, by decide +kernel, by decide +kernel, by decide +kernel, by decide +kernel, by decide +kernel, by decide +kernel, by decide +kernel, by decide +kernel, by decide +kernel, by decide +kernel, by decide +kernel, by decide +kernel, by decide +kernel, by decide +kernel, by decide +kernel, by decide +kernel, by decide +kernel, by decide +kernel, by decide +kernel, by decide +kernel, by decide +kernel, by decide +kernel, by decide +kernel, by decide +kernel, by decide +kernel, by decide +kernel, by decide +kernel, by decide +kernel, by decide +kernel, by decide +kernel, by decide +kernel, by decide +kernel, by decide +kernel, by decide +kernel, by decide +kernel, by decide +kernel, by decide +kernel, by decide +kernel, by decide +kernel, by decide +kernel, by decide +kernel, by decide +kernel, by decide +kernel, by decide +kernel, by decide +kernel, by decide +kernel, by decide +kernel, by decide +kernel, by decide +kernel, by decide +kernel, by decide +kernel, by decide +kernel, by decide +kernel, by decide +kernel, by decide +kernel, by decide +kernel, by decide +kernel, by decide +kernel, by decide +kernel, by decide +kernel, by decide +kernel, by decide +kernel, by decide +kernel, by decide +kernel, by decide +kernel, by decide +kernel, by decide +kernel, by decide +kernel, by decide +kernel, by decide +kernel, by decide +kernel, by decide +kernel⟩
def FZ (h : Hs) : Prop := Sk h ∧ 70 ≤ sz h ∧ (gI h 507 14 = iI 0 ∧ gI h 508 14 = iI 0 ∧ gI h 509 14 = iI 0 ∧ gI h 1201 29 = iI 0 ∧ gI h 1209 29 = iI 0 ∧ gI h 1211 29 = iI 0) ∧ (∀ i, i < 20 → aI h 18 i = iI 0 ∧ aI h 45 i = iI 0) ∧ gI h 510 14 = iI 99999 ∧ gI h 1220 29 = iI 99999
theorem FZ_F1 : FZ hF1 := ⟨Sk_F1, by rw [hF1_sz]; decide, ⟨by decide +kernel, by decide +kernel, by decide +kernel, by decide +kernel, by decide +kernel, by decide +kernel⟩, by decide +kernel, by decide +kernel, by decide +kernel⟩
theorem FZ.e {F A : List Nat} {h h2 : Hs} (hC : FZ h) (k : Ke F A [] [] h h2) (hF : ∀ f ∈ [507, 508, 509, 510, 1201, 1209, 1211, 1220], f ∉ F) (hA : 18 ∉ A ∧ 45 ∉ A) : FZ h2 := by
  obtain ⟨hS, hz, ⟨c1, c2, c3, c4, c5, c6⟩, c7, c8, c9⟩ := hC
  refine ⟨hS.e hz k (by decide), Nat.le_trans hz k.2.2.2.2.2, ⟨?_, ?_, ?_, ?_, ?_, ?_⟩, fun i hi => ?_, ?_, ?_⟩
  · rw [k.1 _ _ (hF _ (by decide)) (by omega)]; exact c1
  · rw [k.1 _ _ (hF _ (by decide)) (by omega)]; exact c2
  · rw [k.1 _ _ (hF _ (by decide)) (by omega)]; exact c3
  · rw [k.1 _ _ (hF _ (by decide)) (by omega)]; exact c4
  · rw [k.1 _ _ (hF _ (by decide)) (by omega)]; exact c5
  · rw [k.1 _ _ (hF _ (by decide)) (by omega)]; exact c6
  · rw [k.2.1 18 hA.1 (by omega), k.2.1 45 hA.2 (by omega)]; exact c7 i hi
  · rw [k.1 _ _ (hF _ (by decide)) (by omega)]; exact c8
  · rw [k.1 _ _ (hF _ (by decide)) (by omega)]; exact c9
theorem FZ.u {h : Hs} (hC : FZ h) (f a : Nat) (v : Int32) (hF : f ∉ [507, 508, 509, 510, 1201, 1209, 1211, 1220]) : FZ (uI h f a v) := hC.e (F := [f]) (A := []) (Ke_rf.u f a v (List.mem_singleton.mpr rfl)) (fun g hg q => hF (by rw [← List.mem_singleton.mp q]; exact hg)) (by decide)
abbrev zN : Nat → Nat := fun _ => 0
abbrev zI : Nat → Int := fun _ => 0
abbrev zO : Nat → Option Nat := fun _ => none
theorem FZ.th {h : Hs} (hC : FZ h) : RTh h 0 zN zI zI zI zI zI zI := ⟨⟨hC.2.2.1.1, hC.2.2.1.2.2.2.1, by omega⟩, fun i hi => absurd hi (Nat.not_lt_zero i), fun i j hi => absurd hi (Nat.not_lt_zero i)⟩
theorem FZ.dr {h : Hs} (hC : FZ h) : RDr h 0 zN zI := ⟨⟨hC.2.2.1.2.1, hC.2.2.1.2.2.2.2.1, by omega⟩, fun i hi => absurd hi (Nat.not_lt_zero i), fun i j hi => absurd hi (Nat.not_lt_zero i)⟩
theorem FZ.ro {h : Hs} (hC : FZ h) : RRo h 0 0 zN zN zN zI zI zI (fun _ => false) := ⟨⟨hC.2.2.1.2.2.1, hC.2.2.1.2.2.2.2.2, by omega⟩, fun i hi => absurd hi (Nat.not_lt_zero i), fun i j hi => absurd hi (Nat.not_lt_zero i)⟩
theorem FZ.ti {h : Hs} : RTi h 0 0 0 zN zN zN zN zO zO zI zI := ⟨fun i hi => absurd hi (Nat.not_lt_zero i), fun i hi => absurd hi (Nat.not_lt_zero i)⟩
theorem FZ.pullM {N : Nat} (hN : 100000000 ≤ N) {h : Hs} (hC : FZ h) : fX12_pull N h 29 = some (iI 0, h) := by
  obtain ⟨-, hM, hL⟩ := RTi_iff.mp (FZ.ti (h := h))
  have lm := L_pullMw hN hC.1 hC.th hC.dr hC.ro hM hL (cw := zI) (fun i hi => (hC.2.2.2.1 i hi).2) 20 0 0 N (by omega) (by omega)
  simp only [fX12_pull, lit]
  simp only [Int.natCast_zero] at lm
  rw [lm]
  rfl
