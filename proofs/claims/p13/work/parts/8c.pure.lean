/-! ===== men: it ends, on both sides, and leaves all but its own sheets as it was ===== -/
def OKh (A : List Nat) (h0 : Hs) (x : Option (Int32 × Hs)) : Prop := ∃ r h', x = some (r, h') ∧ Ke [] A [] [] h0 h' ∧ sz h' = sz h0
theorem m125 : ∀ x, x < 13 → ∀ y, y < 13 → ∀ z, z < 13 → x + y + z ≤ 12 → (x + 1) * (y + 1) * (z + 1) ≤ 125 := by decide +kernel
theorem slot_b {a b c tw th fi : Nat} (ha : a ≤ tw) (hb : b ≤ th) (hc : c ≤ fi) (hs : tw + th + fi ≤ 12) : (a * (th + 1) + b) * (fi + 1) + c < 125 := by
  have h0 := m125 tw (by omega) th (by omega) fi (by omega) hs
  have h1 : a * (th + 1) ≤ tw * (th + 1) := Nat.mul_le_mul_right _ ha
  have h2 : (a * (th + 1) + b) * (fi + 1) ≤ (tw * (th + 1) + th) * (fi + 1) := Nat.mul_le_mul_right _ (by omega)
  have h3 : (tw + 1) * (th + 1) = tw * (th + 1) + th + 1 := by rw [Nat.add_mul, Nat.one_mul]; omega
  rw [h3, Nat.add_mul, Nat.one_mul] at h0
  omega
theorem v_slot {N : Nat} {h : Hs} (hS : Sk h) {a b c th fi : Nat} (g7 : gI h 107 25 = iI th) (g8 : gI h 108 25 = iI fi) : fX1_slot N h 25 (iI a) (iI b) (iI c) = some (iI (((a * (th + 1) + b) * (fi + 1) + c : Nat) : Int), h) := by
  have c25 : (sh h 25).1 = 1 := by rw [ss_25 hS]
  have e : (((a * (th + 1) + b) * (fi + 1) + c : Nat) : Int) = ((a : Int) * ((th : Int) + 1) + b) * ((fi : Int) + 1) + c := by
    simp only [Int.natCast_add, Int.natCast_mul, Int.natCast_one]
  rw [e]
  simp only [fX1_slot, lit]
  refine bst (oIv c25 g7) ?_
  refine bst (oIv c25 g8) ?_
  simp only [iI_add, iI_mul]
theorem v_wW {N : Nat} {h : Hs} (p1 p2 p3 : Int32) : ∃ v, fX1_withWork N h 25 p1 p2 p3 = some (v, h) := by
  simp only [fX1_withWork, fX1_withWork_b15, fX1_withWork_b39]
  by_cases w : p3 < ((p1 - p1 / 100 * 100) + p2)
  · rw [if_pos w]
    exact ⟨_, if_pos trivial⟩
  · rw [if_neg w]
    exact ⟨_, if_neg (by decide)⟩
theorem v_lS {N : Nat} {h : Hs} (hS : Sk h) {a b c tw th fi : Nat} (ha : a ≤ tw) (hb : b ≤ th) (hc : c ≤ fi) (hs : tw + th + fi ≤ 12) (g7 : gI h 107 25 = iI th) (g8 : gI h 108 25 = iI fi) (p : Int32) : ∃ v, fX1_leastShare N h 25 (iI a) (iI b) (iI c) p = some (v, h) := by
  have rc1 : rc 1 h (some 25) = some 25 := rcv (by rw [ss_25 hS])
  have l82 : ∀ u : Int32, ∃ v, fX1_leastShare_b82 N 25 h (iI a) (iI b) (iI c) p u = some (v, h) := by
    intro u
    simp only [fX1_leastShare_b82, fX1_leastShare_b114, lit, Option.bind_some]
    by_cases w : c = 0
    · exact ⟨u, by rw [if_pos (by rw [w]; exact Int32.le_refl _)]⟩
    · have w0 : ¬ iI (c : Int) ≤ iI 0 := fun q => by have := (iI_le (by omega) (by omega) (by omega) (by omega)).mp q; omega
      have sl := v_slot (N := N) hS (a := a) (b := b) (c := c - 1) g7 g8
      have sb := slot_b (c := c - 1) ha hb (by omega) hs
      have ec : iI (c : Int) - iI 1 = iI ((c - 1 : Nat) : Int) := by rw [iI_sub]; congr 1; omega
      obtain ⟨v, hv⟩ := v_wW (N := N) (h := h) (aI h 28 ((a * (th + 1) + b) * (fi + 1) + (c - 1))) (iI 5) p
      refine ⟨if v < u then v else u, ?_⟩
      · skip
        refine ifn (w0) ?_
        refine bst (sR_103_25 hS) ?_
        refine bst (rc1) ?_
        rw [ec]
        refine bst (sl) ?_
        refine bst (lAv (ss_28 hS) sb (by omega) rfl) ?_
        refine bst (rc1) ?_
        refine bst (hv) ?_
        rfl
  have l50 : ∀ u : Int32, ∃ v, fX1_leastShare_b50 N 25 h (iI a) (iI b) (iI c) p u = some (v, h) := by
    intro u
    simp only [fX1_leastShare_b50, lit, Option.bind_some]
    by_cases w : b = 0
    · obtain ⟨v, hv⟩ := l82 u
      exact ⟨v, by rw [if_pos (by rw [w]; exact Int32.le_refl _)]; exact hv⟩
    · have w0 : ¬ iI (b : Int) ≤ iI 0 := fun q => by have := (iI_le (by omega) (by omega) (by omega) (by omega)).mp q; omega
      have sl := v_slot (N := N) hS (a := a) (b := b - 1) (c := c) g7 g8
      have sb := slot_b (b := b - 1) ha (by omega) hc hs
      have ec : iI (b : Int) - iI 1 = iI ((b - 1 : Nat) : Int) := by rw [iI_sub]; congr 1; omega
      obtain ⟨v, hv⟩ := v_wW (N := N) (h := h) (aI h 28 ((a * (th + 1) + (b - 1)) * (fi + 1) + c)) (iI 3) p
      obtain ⟨x, hx⟩ := l82 (if v < u then v else u)
      refine ⟨x, ?_⟩
      · skip
        refine ifn (w0) ?_
        refine bst (sR_103_25 hS) ?_
        refine bst (rc1) ?_
        rw [ec]
        refine bst (sl) ?_
        refine bst (lAv (ss_28 hS) sb (by omega) rfl) ?_
        refine bst (rc1) ?_
        refine bst (hv) ?_
        exact hx
  have l16 : ∀ u : Int32, ∃ v, fX1_leastShare_b16 N 25 h (iI a) (iI b) (iI c) p u = some (v, h) := by
    intro u
    simp only [fX1_leastShare_b16, lit, Option.bind_some]
    by_cases w : a = 0
    · obtain ⟨v, hv⟩ := l50 u
      exact ⟨v, by rw [if_pos (by rw [w]; exact Int32.le_refl _)]; exact hv⟩
    · have w0 : ¬ iI (a : Int) ≤ iI 0 := fun q => by have := (iI_le (by omega) (by omega) (by omega) (by omega)).mp q; omega
      have sl := v_slot (N := N) hS (a := a - 1) (b := b) (c := c) g7 g8
      have sb := slot_b (a := a - 1) (by omega) hb hc hs
      have ec : iI (a : Int) - iI 1 = iI ((a - 1 : Nat) : Int) := by rw [iI_sub]; congr 1; omega
      obtain ⟨v, hv⟩ := v_wW (N := N) (h := h) (aI h 28 (((a - 1) * (th + 1) + b) * (fi + 1) + c)) (iI 2) p
      obtain ⟨x, hx⟩ := l50 (if v < u then v else u)
      refine ⟨x, ?_⟩
      · skip
        refine ifn (w0) ?_
        refine bst (sR_103_25 hS) ?_
        refine bst (rc1) ?_
        rw [ec]
        refine bst (sl) ?_
        refine bst (lAv (ss_28 hS) sb (by omega) rfl) ?_
        refine bst (rc1) ?_
        refine bst (hv) ?_
        exact hx
  unfold fX1_leastShare
  by_cases w : ((iI (a : Int) + iI b) + iI c) = 0
  · rw [if_pos w]; exact l16 _
  · rw [if_neg w]; exact l16 _
theorem v_shO {N : Nat} (hN : 100000000 ≤ N) {h0 : Hs} (hS0 : Sk h0) (hz : 70 ≤ sz h0) {tw th fi : Nat} (hs : tw + th + fi ≤ 12) (g6 : gI h0 106 25 = iI tw) (g7 : gI h0 107 25 = iI th) (g8 : gI h0 108 25 = iI fi) (p : Int32) : OKh [28] h0 (fX1_shareOut N h0 25 p) := by
  have L27 : ∀ (a b : Nat), a ≤ tw → b ≤ th → ∀ (g4 : Hs → Int32 → Int32 → Int32 → Option (Int32 × Hs)) (g15 : Hs → Int32 → Int32 → Int32 → Int32 → Option (Int32 × Hs)), (∀ h x2, Ke [] [28] [] [] h0 h → sz h = sz h0 → OKh [28] h0 (g15 h p x2 (iI a) (iI ((b : Int) + 1)))) → ∀ (e c fu : Nat) (h : Hs) (x2 : Int32), Ke [] [28] [] [] h0 h → sz h = sz h0 → c + e = fi + 1 → e < fu → OKh [28] h0 (fX1_shareOut_b27 N g4 g15 25 fu h p x2 (iI a) (iI b) (iI c)) := by
    intro a b ha hb g4 g15 G e
    induction e with
    | zero =>
      intro c fu h x2 ke s0 hc hf
      obtain ⟨fu, rfl⟩ : ∃ m, fu = m + 1 := ⟨fu - 1, by omega⟩
      have hS := hS0.e hz ke (by decide)
      have c25 : (sh h 25).1 = 1 := by rw [ss_25 hS]
      have a1 : iI (fi : Int) < iI (c : Int) := (iI_lt (by omega) (by omega) (by omega) (by omega)).mpr (by omega)
      have st : fX1_shareOut_b27 N g4 g15 25 (fu + 1) h p x2 (iI a) (iI b) (iI c) = g15 h p x2 (iI a) (iI ((b : Int) + 1)) := by
        show fX1_shareOut_b27_body N g4 g15 (fX1_shareOut_b27 N g4 g15 25 fu) 25 h p x2 (iI a) (iI b) (iI c) = _
        simp only [fX1_shareOut_b27_body, lit, iI_add, Option.bind_some]
        refine bst (oIv c25 ((ke.1 108 25 (by decide) (by omega)).trans g8)) ?_
        refine ifp (a1) ?_
        rfl
      rw [st]
      exact G h x2 ke s0
    | succ e ih =>
      intro c fu h x2 ke s0 hc hf
      obtain ⟨fu, rfl⟩ : ∃ m, fu = m + 1 := ⟨fu - 1, by omega⟩
      have hS := hS0.e hz ke (by decide)
      have c25 : (sh h 25).1 = 1 := by rw [ss_25 hS]
      have a1 : ¬ iI (fi : Int) < iI (c : Int) := fun q => by have := (iI_lt (by omega) (by omega) (by omega) (by omega)).mp q; omega
      have k7 : gI h 107 25 = iI th := by rw [ke.1 107 25 (by decide) (by omega)]; exact g7
      have k8 : gI h 108 25 = iI fi := by rw [ke.1 108 25 (by decide) (by omega)]; exact g8
      obtain ⟨v, hv⟩ := v_lS (N := N) hS ha hb (show c ≤ fi by omega) hs k7 k8 p
      have sl := v_slot (N := N) hS (a := a) (b := b) (c := c) k7 k8
      have sb := slot_b ha hb (show c ≤ fi by omega) hs
      have rc1 : rc 1 h (some 25) = some 25 := rcv (by rw [ss_25 hS])
      have ke2 : Ke [] [28] [] [] h0 (uA h 28 ((a * (th + 1) + b) * (fi + 1) + c) v) := ke.b 28 _ _ (by decide)
      have st : fX1_shareOut_b27 N g4 g15 25 (fu + 1) h p x2 (iI a) (iI b) (iI c) = fX1_shareOut_b27 N g4 g15 25 fu (uA h 28 ((a * (th + 1) + b) * (fi + 1) + c) v) p v (iI a) (iI b) (iI ((c : Int) + 1)) := by
        show fX1_shareOut_b27_body N g4 g15 (fX1_shareOut_b27 N g4 g15 25 fu) 25 h p x2 (iI a) (iI b) (iI c) = _
        simp only [fX1_shareOut_b27_body, lit, iI_add, Option.bind_some]
        refine bst (oIv c25 k8) ?_
        refine ifn (a1) ?_
        refine bst (rc1) ?_
        refine bst (hv) ?_
        refine bst (sR_103_25 hS) ?_
        refine bst (rc1) ?_
        refine bst (sl) ?_
        refine bst (sAv (ss_28 hS) sb (by omega)) ?_
        rfl
      rw [st]
      have := ih (c + 1) fu _ v ke2 s0 (by omega) (by omega)
      simp only [Int.natCast_add, Int.natCast_one] at this
      exact this
  have L15 : ∀ (a : Nat), a ≤ tw → ∀ (g4 : Hs → Int32 → Int32 → Int32 → Option (Int32 × Hs)), (∀ h x2, Ke [] [28] [] [] h0 h → sz h = sz h0 → OKh [28] h0 (g4 h p x2 (iI ((a : Int) + 1)))) → ∀ (e b fu : Nat) (h : Hs) (x2 : Int32), Ke [] [28] [] [] h0 h → sz h = sz h0 → b + e = th + 1 → e < fu → OKh [28] h0 (fX1_shareOut_b15 N g4 25 fu h p x2 (iI a) (iI b)) := by
    intro a ha g4 G e
    induction e with
    | zero =>
      intro b fu h x2 ke s0 hc hf
      obtain ⟨fu, rfl⟩ : ∃ m, fu = m + 1 := ⟨fu - 1, by omega⟩
      have hS := hS0.e hz ke (by decide)
      have c25 : (sh h 25).1 = 1 := by rw [ss_25 hS]
      have a1 : iI (th : Int) < iI (b : Int) := (iI_lt (by omega) (by omega) (by omega) (by omega)).mpr (by omega)
      have st : fX1_shareOut_b15 N g4 25 (fu + 1) h p x2 (iI a) (iI b) = g4 h p x2 (iI ((a : Int) + 1)) := by
        show fX1_shareOut_b15_body N g4 (fX1_shareOut_b15 N g4 25 fu) 25 h p x2 (iI a) (iI b) = _
        simp only [fX1_shareOut_b15_body, lit, iI_add, Option.bind_some]
        refine bst (oIv c25 ((ke.1 107 25 (by decide) (by omega)).trans g7)) ?_
        refine ifp (a1) ?_
        rfl
      rw [st]
      exact G h x2 ke s0
    | succ e ih =>
      intro b fu h x2 ke s0 hc hf
      obtain ⟨fu, rfl⟩ : ∃ m, fu = m + 1 := ⟨fu - 1, by omega⟩
      have hS := hS0.e hz ke (by decide)
      have c25 : (sh h 25).1 = 1 := by rw [ss_25 hS]
      have a1 : ¬ iI (th : Int) < iI (b : Int) := fun q => by have := (iI_lt (by omega) (by omega) (by omega) (by omega)).mp q; omega
      have st : fX1_shareOut_b15 N g4 25 (fu + 1) h p x2 (iI a) (iI b) = fX1_shareOut_b27 N g4 (fX1_shareOut_b15 N g4 25 fu) 25 N h p x2 (iI a) (iI b) (iI 0) := by
        show fX1_shareOut_b15_body N g4 (fX1_shareOut_b15 N g4 25 fu) 25 h p x2 (iI a) (iI b) = _
        simp only [fX1_shareOut_b15_body, lit]
        refine bst (oIv c25 ((ke.1 107 25 (by decide) (by omega)).trans g7)) ?_
        refine ifn (a1) ?_
        rfl
      rw [st]
      exact L27 a b ha (by omega) g4 _ (fun h' x' k' s' => by
        have := ih (b + 1) fu h' x' k' s' (by omega) (by omega)
        simp only [Int.natCast_add, Int.natCast_one] at this
        exact this) (fi + 1) 0 N h x2 ke s0 (by omega) (by omega)
  have L4 : ∀ (e a fu : Nat) (h : Hs) (x2 : Int32), Ke [] [28] [] [] h0 h → sz h = sz h0 → a + e = tw + 1 → e < fu → OKh [28] h0 (fX1_shareOut_b4 N 25 fu h p x2 (iI a)) := by
    intro e
    induction e with
    | zero =>
      intro a fu h x2 ke s0 hc hf
      obtain ⟨fu, rfl⟩ : ∃ m, fu = m + 1 := ⟨fu - 1, by omega⟩
      have hS := hS0.e hz ke (by decide)
      have c25 : (sh h 25).1 = 1 := by rw [ss_25 hS]
      have a1 : iI (tw : Int) < iI (a : Int) := (iI_lt (by omega) (by omega) (by omega) (by omega)).mpr (by omega)
      refine ⟨x2, h, ?_, ke, s0⟩
      show fX1_shareOut_b4_body N (fX1_shareOut_b4 N 25 fu) 25 h p x2 (iI a) = _
      simp only [fX1_shareOut_b4_body]
      refine bst (oIv c25 ((ke.1 106 25 (by decide) (by omega)).trans g6)) ?_
      refine ifp (a1) ?_
      rfl
    | succ e ih =>
      intro a fu h x2 ke s0 hc hf
      obtain ⟨fu, rfl⟩ : ∃ m, fu = m + 1 := ⟨fu - 1, by omega⟩
      have hS := hS0.e hz ke (by decide)
      have c25 : (sh h 25).1 = 1 := by rw [ss_25 hS]
      have a1 : ¬ iI (tw : Int) < iI (a : Int) := fun q => by have := (iI_lt (by omega) (by omega) (by omega) (by omega)).mp q; omega
      have st : fX1_shareOut_b4 N 25 (fu + 1) h p x2 (iI a) = fX1_shareOut_b15 N (fX1_shareOut_b4 N 25 fu) 25 N h p x2 (iI a) (iI 0) := by
        show fX1_shareOut_b4_body N (fX1_shareOut_b4 N 25 fu) 25 h p x2 (iI a) = _
        simp only [fX1_shareOut_b4_body, lit]
        refine bst (oIv c25 ((ke.1 106 25 (by decide) (by omega)).trans g6)) ?_
        refine ifn (a1) ?_
        rfl
      rw [st]
      exact L15 a (by omega) _ (fun h' x' k' s' => by
        have := ih (a + 1) fu h' x' k' s' (by omega) (by omega)
        simp only [Int.natCast_add, Int.natCast_one] at this
        exact this) (th + 1) 0 N h x2 ke s0 (by omega) (by omega)
  exact L4 (tw + 1) 0 N h0 p Ke_rf rfl (by omega) (by omega)
/-! the reference's sheet -/
theorem v_mF {N : Nat} (hN : 100000000 ≤ N) {h0 : Hs} (hS0 : Sk h0) (hz : 70 ≤ sz h0) {f5 f3 f2 : Nat} (h5 : f5 ≤ 12) (h3 : f3 ≤ 12) (h2 : f2 ≤ 12) (p : Int32) : OKh [52] h0 (fX12_menFor N h0 29 (iI f5) (iI f3) (iI f2) p) := by
  have ld : ∀ (h : Hs) (n : Nat), Ke [] [52] [] [] h0 h → n < 2197 → lA 20 h (some 52) (iI n) = some (aI h 52 n) := fun h n ke hn => lAv (ss_52 (hS0.e hz ke (by decide))) hn (by omega) rfl
  have L70 : ∀ (a b c x y : Nat), a ≤ 12 → b ≤ 12 → c ≤ 12 → x ≤ a → y ≤ b → ∀ (g3 : Hs → Int32 → Int32 → Int32 → Int32 → Int32 → Option (Int32 × Hs)) (g12 : Hs → Int32 → Int32 → Int32 → Int32 → Int32 → Int32 → Option (Int32 × Hs)) (g21 : Hs → Int32 → Int32 → Int32 → Int32 → Int32 → Int32 → Int32 → Option (Int32 × Hs)) (g50 : Hs → Int32 → Int32 → Int32 → Int32 → Int32 → Int32 → Int32 → Int32 → Int32 → Option (Int32 × Hs)) (g60 : Hs → Int32 → Int32 → Int32 → Int32 → Int32 → Int32 → Int32 → Int32 → Int32 → Int32 → Option (Int32 × Hs)), (∀ h x8, Ke [] [52] [] [] h0 h → sz h = sz h0 → OKh [52] h0 (g60 h (iI f5) (iI f3) (iI f2) p (iI a) (iI b) (iI c) x8 (iI x) (iI ((y : Int) + 1)))) → ∀ (e z fu : Nat) (h : Hs) (x8 : Int32), Ke [] [52] [] [] h0 h → sz h = sz h0 → z + e = c + 1 → e < fu → OKh [52] h0 (fX12_menFor_b70 N g3 g12 g21 g50 g60 29 fu h (iI f5) (iI f3) (iI f2) p (iI a) (iI b) (iI c) x8 (iI x) (iI y) (iI z)) := by
    intro a b c x y ha hb hc hx hy g3 g12 g21 g50 g60 G e
    induction e with
    | zero =>
      intro z fu h x8 ke s0 hz' hf
      obtain ⟨fu, rfl⟩ : ∃ m, fu = m + 1 := ⟨fu - 1, by omega⟩
      have a1 : iI (c : Int) < iI (z : Int) := (iI_lt (by omega) (by omega) (by omega) (by omega)).mpr (by omega)
      have st : fX12_menFor_b70 N g3 g12 g21 g50 g60 29 (fu + 1) h (iI f5) (iI f3) (iI f2) p (iI a) (iI b) (iI c) x8 (iI x) (iI y) (iI z) = g60 h (iI f5) (iI f3) (iI f2) p (iI a) (iI b) (iI c) x8 (iI x) (iI ((y : Int) + 1)) := by
        show fX12_menFor_b70_body N g3 g12 g21 g50 g60 (fX12_menFor_b70 N g3 g12 g21 g50 g60 29 fu) 29 h (iI f5) (iI f3) (iI f2) p (iI a) (iI b) (iI c) x8 (iI x) (iI y) (iI z) = _
        simp only [fX12_menFor_b70_body, lit, iI_add, Option.bind_some]
        refine ifp (a1) ?_
        rfl
      rw [st]
      exact G h x8 ke s0
    | succ e ih =>
      intro z fu h x8 ke s0 hz' hf
      obtain ⟨fu, rfl⟩ : ∃ m, fu = m + 1 := ⟨fu - 1, by omega⟩
      have hS := hS0.e hz ke (by decide)
      have a1 : ¬ iI (c : Int) < iI (z : Int) := fun q => by have := (iI_lt (by omega) (by omega) (by omega) (by omega)).mp q; omega
      have nx : ∀ x8 : Int32, OKh [52] h0 (fX12_menFor_b70 N g3 g12 g21 g50 g60 29 fu h (iI f5) (iI f3) (iI f2) p (iI a) (iI b) (iI c) x8 (iI x) (iI y) (iI ((z : Int) + 1))) := fun x8 => by
        have := ih (z + 1) fu h x8 ke s0 (by omega) (by omega)
        simp only [Int.natCast_add, Int.natCast_one] at this
        exact this
      have st : ∃ u : Int32, fX12_menFor_b70 N g3 g12 g21 g50 g60 29 (fu + 1) h (iI f5) (iI f3) (iI f2) p (iI a) (iI b) (iI c) x8 (iI x) (iI y) (iI z) = fX12_menFor_b70 N g3 g12 g21 g50 g60 29 fu h (iI f5) (iI f3) (iI f2) p (iI a) (iI b) (iI c) u (iI x) (iI y) (iI ((z : Int) + 1)) := by
        have un : fX12_menFor_b70 N g3 g12 g21 g50 g60 29 (fu + 1) h (iI f5) (iI f3) (iI f2) p (iI a) (iI b) (iI c) x8 (iI x) (iI y) (iI z) = fX12_menFor_b70_body N g3 g12 g21 g50 g60 (fX12_menFor_b70 N g3 g12 g21 g50 g60 29 fu) 29 h (iI f5) (iI f3) (iI f2) p (iI a) (iI b) (iI c) x8 (iI x) (iI y) (iI z) := rfl
        rw [un]
        simp only [fX12_menFor_b70_body, fX12_menFor_b157, fX12_menFor_b159, Option.bind_some]
        have e1 : iI (z : Int) + 1 = iI ((z : Int) + 1) := by rw [show (1 : Int32) = iI 1 from rfl, iI_add]
        rw [if_neg a1, e1]
        by_cases w1 : ((iI (x : Int) + iI y) + iI z) = 0
        · exact ⟨x8, by rw [if_pos w1]⟩
        · rw [if_neg w1]
          by_cases w2 : (((5 * iI (x : Int)) + (3 * iI (y : Int))) + (2 * iI (z : Int))) ≤ p
          · rw [if_pos w2]
            have ei : ((((169 * (iI (a : Int) - iI x)) + (13 * (iI (b : Int) - iI y))) + iI (c : Int)) - iI z) = iI ((169 * (a - x) + 13 * (b - y) + c - z : Nat) : Int) := by
              simp only [lit, iI_sub, iI_mul, iI_add]
              congr 1
              omega
            have l := ld h (169 * (a - x) + 13 * (b - y) + c - z) ke (by omega)
            rw [ei]
            by_cases w3 : x8 ≤ 1 + aI h 52 (169 * (a - x) + 13 * (b - y) + c - z)
            · refine ⟨x8, ?_⟩
              refine bst (sR_1235_29 hS) ?_
              refine bst (l) ?_
              refine ifp (w3) ?_
              rfl
            · refine ⟨1 + aI h 52 (169 * (a - x) + 13 * (b - y) + c - z), ?_⟩
              refine bst (sR_1235_29 hS) ?_
              refine bst (l) ?_
              refine ifn (w3) ?_
              rfl
          · exact ⟨x8, by rw [if_neg w2]⟩
      obtain ⟨u, hu⟩ := st
      rw [hu]
      exact nx u
  have L60 : ∀ (a b c x : Nat), a ≤ 12 → b ≤ 12 → c ≤ 12 → x ≤ a → ∀ (g3 : Hs → Int32 → Int32 → Int32 → Int32 → Int32 → Option (Int32 × Hs)) (g12 : Hs → Int32 → Int32 → Int32 → Int32 → Int32 → Int32 → Option (Int32 × Hs)) (g21 : Hs → Int32 → Int32 → Int32 → Int32 → Int32 → Int32 → Int32 → Option (Int32 × Hs)) (g50 : Hs → Int32 → Int32 → Int32 → Int32 → Int32 → Int32 → Int32 → Int32 → Int32 → Option (Int32 × Hs)), (∀ h x8, Ke [] [52] [] [] h0 h → sz h = sz h0 → OKh [52] h0 (g50 h (iI f5) (iI f3) (iI f2) p (iI a) (iI b) (iI c) x8 (iI ((x : Int) + 1)))) → ∀ (e y fu : Nat) (h : Hs) (x8 : Int32), Ke [] [52] [] [] h0 h → sz h = sz h0 → y + e = b + 1 → e < fu → OKh [52] h0 (fX12_menFor_b60 N g3 g12 g21 g50 29 fu h (iI f5) (iI f3) (iI f2) p (iI a) (iI b) (iI c) x8 (iI x) (iI y)) := by
    intro a b c x ha hb hc hx g3 g12 g21 g50 G e
    induction e with
    | zero =>
      intro y fu h x8 ke s0 hz' hf
      obtain ⟨fu, rfl⟩ : ∃ m, fu = m + 1 := ⟨fu - 1, by omega⟩
      have a1 : iI (b : Int) < iI (y : Int) := (iI_lt (by omega) (by omega) (by omega) (by omega)).mpr (by omega)
      have st : fX12_menFor_b60 N g3 g12 g21 g50 29 (fu + 1) h (iI f5) (iI f3) (iI f2) p (iI a) (iI b) (iI c) x8 (iI x) (iI y) = g50 h (iI f5) (iI f3) (iI f2) p (iI a) (iI b) (iI c) x8 (iI ((x : Int) + 1)) := by
        show fX12_menFor_b60_body N g3 g12 g21 g50 (fX12_menFor_b60 N g3 g12 g21 g50 29 fu) 29 h (iI f5) (iI f3) (iI f2) p (iI a) (iI b) (iI c) x8 (iI x) (iI y) = _
        simp only [fX12_menFor_b60_body, lit, iI_add, Option.bind_some]
        refine ifp (a1) ?_
        rfl
      rw [st]
      exact G h x8 ke s0
    | succ e ih =>
      intro y fu h x8 ke s0 hz' hf
      obtain ⟨fu, rfl⟩ : ∃ m, fu = m + 1 := ⟨fu - 1, by omega⟩
      have a1 : ¬ iI (b : Int) < iI (y : Int) := fun q => by have := (iI_lt (by omega) (by omega) (by omega) (by omega)).mp q; omega
      have st : fX12_menFor_b60 N g3 g12 g21 g50 29 (fu + 1) h (iI f5) (iI f3) (iI f2) p (iI a) (iI b) (iI c) x8 (iI x) (iI y) = fX12_menFor_b70 N g3 g12 g21 g50 (fX12_menFor_b60 N g3 g12 g21 g50 29 fu) 29 N h (iI f5) (iI f3) (iI f2) p (iI a) (iI b) (iI c) x8 (iI x) (iI y) (iI 0) := by
        show fX12_menFor_b60_body N g3 g12 g21 g50 (fX12_menFor_b60 N g3 g12 g21 g50 29 fu) 29 h (iI f5) (iI f3) (iI f2) p (iI a) (iI b) (iI c) x8 (iI x) (iI y) = _
        simp only [fX12_menFor_b60_body, lit]
        refine ifn (a1) ?_
        rfl
      rw [st]
      exact L70 a b c x y ha hb hc hx (by omega) g3 g12 g21 g50 _ (fun h' x' k' s' => by
        have := ih (y + 1) fu h' x' k' s' (by omega) (by omega)
        simp only [Int.natCast_add, Int.natCast_one] at this
        exact this) (c + 1) 0 N h x8 ke s0 (by omega) (by omega)
  have L50 : ∀ (a b c : Nat), a ≤ 12 → b ≤ 12 → c ≤ 12 → ∀ (g3 : Hs → Int32 → Int32 → Int32 → Int32 → Int32 → Option (Int32 × Hs)) (g12 : Hs → Int32 → Int32 → Int32 → Int32 → Int32 → Int32 → Option (Int32 × Hs)) (g21 : Hs → Int32 → Int32 → Int32 → Int32 → Int32 → Int32 → Int32 → Option (Int32 × Hs)), (∀ h, Ke [] [52] [] [] h0 h → sz h = sz h0 → OKh [52] h0 (g21 h (iI f5) (iI f3) (iI f2) p (iI a) (iI b) (iI ((c : Int) + 1)))) → ∀ (e x fu : Nat) (h : Hs) (x8 : Int32), Ke [] [52] [] [] h0 h → sz h = sz h0 → x + e = a + 1 → e < fu → OKh [52] h0 (fX12_menFor_b50 N g3 g12 g21 29 fu h (iI f5) (iI f3) (iI f2) p (iI a) (iI b) (iI c) x8 (iI x)) := by
    intro a b c ha hb hc g3 g12 g21 G e
    induction e with
    | zero =>
      intro x fu h x8 ke s0 hz' hf
      obtain ⟨fu, rfl⟩ : ∃ m, fu = m + 1 := ⟨fu - 1, by omega⟩
      have hS := hS0.e hz ke (by decide)
      have a1 : iI (a : Int) < iI (x : Int) := (iI_lt (by omega) (by omega) (by omega) (by omega)).mpr (by omega)
      have ei : iI 169 * iI (a : Int) + iI 13 * iI (b : Int) + iI (c : Int) = iI ((169 * a + 13 * b + c : Nat) : Int) := by
        simp only [iI_mul, iI_add]
        congr 1
      have st : fX12_menFor_b50 N g3 g12 g21 29 (fu + 1) h (iI f5) (iI f3) (iI f2) p (iI a) (iI b) (iI c) x8 (iI x) = g21 (uA h 52 (169 * a + 13 * b + c) x8) (iI f5) (iI f3) (iI f2) p (iI a) (iI b) (iI ((c : Int) + 1)) := by
        show fX12_menFor_b50_body N g3 g12 g21 (fX12_menFor_b50 N g3 g12 g21 29 fu) 29 h (iI f5) (iI f3) (iI f2) p (iI a) (iI b) (iI c) x8 (iI x) = _
        simp only [fX12_menFor_b50_body, lit, Option.bind_some]
        refine ifp (a1) ?_
        refine bst (sR_1235_29 hS) ?_
        rw [ei]
        refine bst (sAv (ss_52 hS) (by omega) (by omega)) ?_
        rw [iI_add]
      rw [st]
      exact G _ (ke.b 52 _ _ (by decide)) s0
    | succ e ih =>
      intro x fu h x8 ke s0 hz' hf
      obtain ⟨fu, rfl⟩ : ∃ m, fu = m + 1 := ⟨fu - 1, by omega⟩
      have a1 : ¬ iI (a : Int) < iI (x : Int) := fun q => by have := (iI_lt (by omega) (by omega) (by omega) (by omega)).mp q; omega
      have st : fX12_menFor_b50 N g3 g12 g21 29 (fu + 1) h (iI f5) (iI f3) (iI f2) p (iI a) (iI b) (iI c) x8 (iI x) = fX12_menFor_b60 N g3 g12 g21 (fX12_menFor_b50 N g3 g12 g21 29 fu) 29 N h (iI f5) (iI f3) (iI f2) p (iI a) (iI b) (iI c) x8 (iI x) (iI 0) := by
        show fX12_menFor_b50_body N g3 g12 g21 (fX12_menFor_b50 N g3 g12 g21 29 fu) 29 h (iI f5) (iI f3) (iI f2) p (iI a) (iI b) (iI c) x8 (iI x) = _
        simp only [fX12_menFor_b50_body, lit]
        refine ifn (a1) ?_
        rfl
      rw [st]
      exact L60 a b c x ha hb hc (by omega) g3 g12 g21 _ (fun h' x' k' s' => by
        have := ih (x + 1) fu h' x' k' s' (by omega) (by omega)
        simp only [Int.natCast_add, Int.natCast_one] at this
        exact this) (b + 1) 0 N h x8 ke s0 (by omega) (by omega)
  have L21 : ∀ (a b : Nat), a ≤ 12 → b ≤ 12 → ∀ (g3 : Hs → Int32 → Int32 → Int32 → Int32 → Int32 → Option (Int32 × Hs)) (g12 : Hs → Int32 → Int32 → Int32 → Int32 → Int32 → Int32 → Option (Int32 × Hs)), (∀ h, Ke [] [52] [] [] h0 h → sz h = sz h0 → OKh [52] h0 (g12 h (iI f5) (iI f3) (iI f2) p (iI a) (iI ((b : Int) + 1)))) → ∀ (e c fu : Nat) (h : Hs), Ke [] [52] [] [] h0 h → sz h = sz h0 → c + e = f2 + 1 → e < fu → OKh [52] h0 (fX12_menFor_b21 N g3 g12 29 fu h (iI f5) (iI f3) (iI f2) p (iI a) (iI b) (iI c)) := by
    intro a b ha hb g3 g12 G e
    induction e with
    | zero =>
      intro c fu h ke s0 hz' hf
      obtain ⟨fu, rfl⟩ : ∃ m, fu = m + 1 := ⟨fu - 1, by omega⟩
      have a1 : iI (f2 : Int) < iI (c : Int) := (iI_lt (by omega) (by omega) (by omega) (by omega)).mpr (by omega)
      have st : fX12_menFor_b21 N g3 g12 29 (fu + 1) h (iI f5) (iI f3) (iI f2) p (iI a) (iI b) (iI c) = g12 h (iI f5) (iI f3) (iI f2) p (iI a) (iI ((b : Int) + 1)) := by
        show fX12_menFor_b21_body N g3 g12 (fX12_menFor_b21 N g3 g12 29 fu) 29 h (iI f5) (iI f3) (iI f2) p (iI a) (iI b) (iI c) = _
        simp only [fX12_menFor_b21_body, lit, iI_add, Option.bind_some]
        refine ifp (a1) ?_
        rfl
      rw [st]
      exact G h ke s0
    | succ e ih =>
      intro c fu h ke s0 hz' hf
      obtain ⟨fu, rfl⟩ : ∃ m, fu = m + 1 := ⟨fu - 1, by omega⟩
      have a1 : ¬ iI (f2 : Int) < iI (c : Int) := fun q => by have := (iI_lt (by omega) (by omega) (by omega) (by omega)).mp q; omega
      have st : ∃ u : Int32, fX12_menFor_b21 N g3 g12 29 (fu + 1) h (iI f5) (iI f3) (iI f2) p (iI a) (iI b) (iI c) = fX12_menFor_b50 N g3 g12 (fX12_menFor_b21 N g3 g12 29 fu) 29 N h (iI f5) (iI f3) (iI f2) p (iI a) (iI b) (iI c) u (iI 0) := by
        have un : fX12_menFor_b21 N g3 g12 29 (fu + 1) h (iI f5) (iI f3) (iI f2) p (iI a) (iI b) (iI c) = fX12_menFor_b21_body N g3 g12 (fX12_menFor_b21 N g3 g12 29 fu) 29 h (iI f5) (iI f3) (iI f2) p (iI a) (iI b) (iI c) := rfl
        rw [un]
        simp only [fX12_menFor_b21_body, fX12_menFor_b45, lit]
        rw [if_neg a1]
        by_cases w : ((iI (a : Int) + iI b) + iI c) = iI 0
        · exact ⟨_, by rw [if_pos w]⟩
        · exact ⟨_, by rw [if_neg w]⟩
      obtain ⟨u, hu⟩ := st
      rw [hu]
      exact L50 a b c ha hb (by omega) g3 g12 _ (fun h' k' s' => by
        have := ih (c + 1) fu h' k' s' (by omega) (by omega)
        simp only [Int.natCast_add, Int.natCast_one] at this
        exact this) (a + 1) 0 N h u ke s0 (by omega) (by omega)
  have L12 : ∀ (a : Nat), a ≤ 12 → ∀ (g3 : Hs → Int32 → Int32 → Int32 → Int32 → Int32 → Option (Int32 × Hs)), (∀ h, Ke [] [52] [] [] h0 h → sz h = sz h0 → OKh [52] h0 (g3 h (iI f5) (iI f3) (iI f2) p (iI ((a : Int) + 1)))) → ∀ (e b fu : Nat) (h : Hs), Ke [] [52] [] [] h0 h → sz h = sz h0 → b + e = f3 + 1 → e < fu → OKh [52] h0 (fX12_menFor_b12 N g3 29 fu h (iI f5) (iI f3) (iI f2) p (iI a) (iI b)) := by
    intro a ha g3 G e
    induction e with
    | zero =>
      intro b fu h ke s0 hz' hf
      obtain ⟨fu, rfl⟩ : ∃ m, fu = m + 1 := ⟨fu - 1, by omega⟩
      have a1 : iI (f3 : Int) < iI (b : Int) := (iI_lt (by omega) (by omega) (by omega) (by omega)).mpr (by omega)
      have st : fX12_menFor_b12 N g3 29 (fu + 1) h (iI f5) (iI f3) (iI f2) p (iI a) (iI b) = g3 h (iI f5) (iI f3) (iI f2) p (iI ((a : Int) + 1)) := by
        show fX12_menFor_b12_body N g3 (fX12_menFor_b12 N g3 29 fu) 29 h (iI f5) (iI f3) (iI f2) p (iI a) (iI b) = _
        simp only [fX12_menFor_b12_body, lit, iI_add, Option.bind_some]
        refine ifp (a1) ?_
        rfl
      rw [st]
      exact G h ke s0
    | succ e ih =>
      intro b fu h ke s0 hz' hf
      obtain ⟨fu, rfl⟩ : ∃ m, fu = m + 1 := ⟨fu - 1, by omega⟩
      have a1 : ¬ iI (f3 : Int) < iI (b : Int) := fun q => by have := (iI_lt (by omega) (by omega) (by omega) (by omega)).mp q; omega
      have st : fX12_menFor_b12 N g3 29 (fu + 1) h (iI f5) (iI f3) (iI f2) p (iI a) (iI b) = fX12_menFor_b21 N g3 (fX12_menFor_b12 N g3 29 fu) 29 N h (iI f5) (iI f3) (iI f2) p (iI a) (iI b) (iI 0) := by
        show fX12_menFor_b12_body N g3 (fX12_menFor_b12 N g3 29 fu) 29 h (iI f5) (iI f3) (iI f2) p (iI a) (iI b) = _
        simp only [fX12_menFor_b12_body, lit]
        refine ifn (a1) ?_
        rfl
      rw [st]
      exact L21 a b ha (by omega) g3 _ (fun h' k' s' => by
        have := ih (b + 1) fu h' k' s' (by omega) (by omega)
        simp only [Int.natCast_add, Int.natCast_one] at this
        exact this) (f2 + 1) 0 N h ke s0 (by omega) (by omega)
  have L3 : ∀ (e a fu : Nat) (h : Hs), Ke [] [52] [] [] h0 h → sz h = sz h0 → a + e = f5 + 1 → e < fu → OKh [52] h0 (fX12_menFor_b3 N 29 fu h (iI f5) (iI f3) (iI f2) p (iI a)) := by
    intro e
    induction e with
    | zero =>
      intro a fu h ke s0 hz' hf
      obtain ⟨fu, rfl⟩ : ∃ m, fu = m + 1 := ⟨fu - 1, by omega⟩
      have hS := hS0.e hz ke (by decide)
      have a1 : iI (f5 : Int) < iI (a : Int) := (iI_lt (by omega) (by omega) (by omega) (by omega)).mpr (by omega)
      have ei : iI 169 * iI (f5 : Int) + iI 13 * iI (f3 : Int) + iI (f2 : Int) = iI ((169 * f5 + 13 * f3 + f2 : Nat) : Int) := by
        simp only [iI_mul, iI_add]
        congr 1
      refine ⟨aI h 52 (169 * f5 + 13 * f3 + f2), h, ?_, ke, s0⟩
      show fX12_menFor_b3_body N (fX12_menFor_b3 N 29 fu) 29 h (iI f5) (iI f3) (iI f2) p (iI a) = _
      simp only [fX12_menFor_b3_body, lit]
      refine ifp (a1) ?_
      refine bst (sR_1235_29 hS) ?_
      rw [ei]
      refine bst (ld h _ ke (by omega)) ?_
      rfl
    | succ e ih =>
      intro a fu h ke s0 hz' hf
      obtain ⟨fu, rfl⟩ : ∃ m, fu = m + 1 := ⟨fu - 1, by omega⟩
      have a1 : ¬ iI (f5 : Int) < iI (a : Int) := fun q => by have := (iI_lt (by omega) (by omega) (by omega) (by omega)).mp q; omega
      have st : fX12_menFor_b3 N 29 (fu + 1) h (iI f5) (iI f3) (iI f2) p (iI a) = fX12_menFor_b12 N (fX12_menFor_b3 N 29 fu) 29 N h (iI f5) (iI f3) (iI f2) p (iI a) (iI 0) := by
        show fX12_menFor_b3_body N (fX12_menFor_b3 N 29 fu) 29 h (iI f5) (iI f3) (iI f2) p (iI a) = _
        simp only [fX12_menFor_b3_body, lit]
        refine ifn (a1) ?_
        rfl
      rw [st]
      exact L12 a (by omega) _ (fun h' k' s' => by
        have := ih (a + 1) fu h' k' s' (by omega) (by omega)
        simp only [Int.natCast_add, Int.natCast_one] at this
        exact this) (f3 + 1) 0 N h ke s0 (by omega) (by omega)
  exact L3 (f5 + 1) 0 N h0 Ke_rf rfl (by omega) (by omega)
