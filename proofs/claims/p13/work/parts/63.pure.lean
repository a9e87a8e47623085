theorem v_thingC {N : Nat} {h h1 : Hs} (hS : Sk h) (hS1 : Sk h1) {p1 p2 p3 p4 : Int32} {v : Int} (b1 : -2147483648 ≤ v) (b2 : v < 2147483648) (e : fX5_addThing N h 14 p1 p2 p3 p4 = some (iI v, h1)) : fX11_thing N h 0 p1 p2 p3 p4 = some (iI v, if v < 0 then h1 else uI h1 1106 0 (iI 0)) := by
  have d0 := v_deed (N := N) hS1 (r := iI v) (z := 0) (Or.inl rfl)
  have d1 := v_deed (N := N) hS1 (r := iI v) (z := 1) (Or.inr rfl)
  rw [if_neg (by decide)] at d0
  rw [if_pos rfl] at d1
  have lt : iI v < iI 0 ↔ v < 0 := iI_lt (by omega) (by omega) (by omega) (by omega)
  have rc1 : rc 11 h1 (some 0) = some 0 := rcv (by rw [ss_0 hS1])
  have rc5 : rc 5 h (some 14) = some 14 := rcv (by rw [ss_14 hS])
  simp only [fX11_thing, fX11_thing_b27, lit]
  by_cases w : v < 0
  · rw [if_pos w]
    refine bst (sR_1100_0 hS) ?_
    refine bst (rc5) ?_
    refine bst (e) ?_
    refine ifp (lt.mpr w) ?_
    refine bst (rc1) ?_
    refine bst (d0) ?_
    rfl
  · rw [if_neg w]
    refine bst (sR_1100_0 hS) ?_
    refine bst (rc5) ?_
    refine bst (e) ?_
    refine ifn (fun q => w (lt.mp q)) ?_
    refine bst (rc1) ?_
    refine bst (d1) ?_
    rfl
theorem thingO_old {h : Hs} {nt : Nat} {l x w lo hi g : Int} {a : Nat} (ha : a < sz h) : (∀ f, gI (thingO h nt l x w lo hi g) f a = gI h f a) ∧ (∀ f, gR (thingO h nt l x w lo hi g) f a = gR h f a) ∧ aI (thingO h nt l x w lo hi g) a = aI h a ∧ aR (thingO h nt l x w lo hi g) a = aR h a ∧ sh (thingO h nt l x w lo hi g) a = sh h a := by
  have n1 : ¬ a = sz h := by omega
  have n2 : ¬ a = sz h + 1 := by omega
  have lt2 : a < sz (nw h (9, 0)) := by show a < sz h + 1; omega
  refine ⟨fun f => ?_, fun f => ?_, ?_, ?_, ?_⟩
  · simp [thingO, HR, n1]
    rw [gI_nw lt2, gI_nw ha]
  · simp [thingO, HR, n1]
    rw [gR_nw lt2, gR_nw ha]
  · funext j
    simp [thingO, HR, n2]
    rw [aI_nw lt2, aI_nw ha]
  · simp [thingO, HR]
    rw [aR_nw lt2, aR_nw ha]
  · simp [thingO, HR]
    rw [sh_nw lt2, sh_nw ha]
theorem thingO_new {h : Hs} {nt : Nat} {l x w lo hi g : Int} : (gI (thingO h nt l x w lo hi g) 900 (sz h) = iI nt ∧ gI (thingO h nt l x w lo hi g) 901 (sz h) = iI l ∧ gI (thingO h nt l x w lo hi g) 902 (sz h) = iI w ∧ gI (thingO h nt l x w lo hi g) 903 (sz h) = iI g ∧ gI (thingO h nt l x w lo hi g) 904 (sz h) = iI lo ∧ gI (thingO h nt l x w lo hi g) 905 (sz h) = iI hi ∧ gI (thingO h nt l x w lo hi g) 907 (sz h) = iI x) ∧ (gR (thingO h nt l x w lo hi g) 906 (sz h) = some (sz h + 1) ∧ gR (thingO h nt l x w lo hi g) 909 (sz h) = none) ∧ (∀ s, s < 10 → aI (thingO h nt l x w lo hi g) (sz h + 1) s = iI (-1)) ∧ sh (thingO h nt l x w lo hi g) (sz h) = (9, 0) ∧ sh (thingO h nt l x w lo hi g) (sz h + 1) = (20, 10) ∧ sz (thingO h nt l x w lo hi g) = sz h + 2 := by
  have lt2 : sz h < sz (nw h (9, 0)) := by show sz h < sz h + 1; omega
  refine ⟨⟨?_, ?_, ?_, ?_, ?_, ?_, ?_⟩, ⟨?_, ?_⟩, fun s hs => ?_, ?_, ?_, rfl⟩
  · simp [thingO, HR]
  · simp [thingO, HR]
  · simp [thingO, HR]
  · simp [thingO, HR]
  · simp [thingO, HR]
  · simp [thingO, HR]
  · simp [thingO, HR]
  · simp [thingO, HR]
  · simp [thingO, HR]
    rw [gR_nw lt2, gR_nwS]
  · simp [thingO, HR, hs]
  · simp [thingO, HR]
    rw [sh_nw lt2, sh_nwS]
  · simp [thingO, HR]
    exact sh_nwS (nw h (9, 0)) (20, 10)
/-- both have made thing nt -/
def thingB (h : Hs) (nt : Nat) (l x w lo hi g : Int) : Hs := thingM (uI (thingH h nt l x w lo hi g) 1106 0 (iI 0)) nt l x w lo hi g
theorem Ke_thingB {h : Hs} {nt : Nat} {l x w lo hi g : Int} : Ke [507, 900, 901, 902, 903, 904, 905, 907, 1106, 1201, 1243] [30, 31, 32, 33, 34, 35, 48] [906] [15] h (thingB h nt l x w lo hi g) := by
  have k0 := Ke_thingH (h := h) (nt := nt) (l := l) (x := x) (w := w) (lo := lo) (hi := hi) (g := g)
  have k1 : Ke [507, 900, 901, 902, 903, 904, 905, 907, 1106, 1201, 1243] [30, 31, 32, 33, 34, 35, 48] [906] [15] h (thingH h nt l x w lo hi g) := ⟨fun f a q z => k0.1 f a (fun r => q (by simp at r ⊢; omega)) z, fun a q z => k0.2.1 a List.not_mem_nil z, k0.2.2.1, k0.2.2.2⟩
  exact (k1.u _ _ _ (by decide)).tr ((Kq_thingM.w (by decide) (fun _ q => q)).e)
