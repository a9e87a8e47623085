/-! ===== stopped, told ===== -/
def IStp (h : Hs) : Prop := gI h 700 23 = gI h 1223 29 ∧ gI h 701 23 = gI h 1224 29 ∧ gI h 702 23 = gI h 1225 29
theorem IStp.e {F A FR AQ : List Nat} {h h2 : Hs} (hC : IStp h) (hz : 70 ≤ sz h) (k : Ke F A FR AQ h h2) (hF : ∀ f ∈ [700, 701, 702, 1223, 1224, 1225], f ∉ F) : IStp h2 := by
  obtain ⟨c1, c2, c3⟩ := hC
  refine ⟨?_, ?_, ?_⟩
  · rw [k.1 _ _ (hF 700 (by decide)) (by omega), k.1 _ _ (hF 1223 (by decide)) (by omega)]; exact c1
  · rw [k.1 _ _ (hF 701 (by decide)) (by omega), k.1 _ _ (hF 1224 (by decide)) (by omega)]; exact c2
  · rw [k.1 _ _ (hF 702 (by decide)) (by omega), k.1 _ _ (hF 1225 (by decide)) (by omega)]; exact c3
theorem t_stopped {N : Nat} {h : Hs} (hS : Sk h) (hC : IStp h) (p : Int32) : ∃ a, fX11_stopped N h 0 p = some (a, h) ∧ fX12_stopped N h 29 p = some (a, h) := by
  obtain ⟨c1, c2, c3⟩ := hC
  have rc7 : rc 7 h (some 23) = some 23 := rcv (by rw [ss_23 hS])
  have tl : ∀ a, fX7_tell N h 23 p = some (a, h) → fX11_stopped N h 0 p = some (a, h) := by
    intro a e
    simp only [fX11_stopped]
    refine bst (sR_1101_0 hS) ?_
    refine bst (sR_1001_22 hS) ?_
    refine bst (rc7) ?_
    refine bst (e) ?_
    rfl
  by_cases w0 : p = iI 0
  · refine ⟨gI h 1223 29, tl _ ?_, ?_⟩
    · simp only [fX7_tell, lit]
      refine ifp (w0) ?_
      refine bst (oIv (by rw [ss_23 hS]) c1) ?_
      rfl
    · simp only [fX12_stopped, lit]
      refine ifp (w0) ?_
      refine bst (oIv (by rw [ss_29 hS]) rfl) ?_
      rfl
  by_cases w1 : p = iI 1
  · refine ⟨gI h 1224 29, tl _ ?_, ?_⟩
    · simp only [fX7_tell, lit]
      refine ifn (w0) ?_
      refine ifp (w1) ?_
      refine bst (oIv (by rw [ss_23 hS]) c2) ?_
      rfl
    · simp only [fX12_stopped, lit]
      refine ifn (w0) ?_
      refine ifp (w1) ?_
      refine bst (oIv (by rw [ss_29 hS]) rfl) ?_
      rfl
  by_cases w2 : p = iI 2
  · refine ⟨gI h 1225 29, tl _ ?_, ?_⟩
    · simp only [fX7_tell, lit]
      refine ifn (w0) ?_
      refine ifn (w1) ?_
      refine ifp (w2) ?_
      refine bst (oIv (by rw [ss_23 hS]) c3) ?_
      rfl
    · simp only [fX12_stopped, lit]
      refine ifn (w0) ?_
      refine ifn (w1) ?_
      refine ifp (w2) ?_
      refine bst (oIv (by rw [ss_29 hS]) rfl) ?_
      rfl
  refine ⟨iI (-1), tl _ ?_, ?_⟩
  · simp only [fX7_tell, lit, iI_neg]
    refine ifn (w0) ?_
    refine ifn (w1) ?_
    refine ifn (w2) ?_
    rfl
  · simp only [fX12_stopped, lit, iI_neg]
    refine ifn (w0) ?_
    refine ifn (w1) ?_
    refine ifn (w2) ?_
    rfl
