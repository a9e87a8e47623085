/-! ===== count and scene ===== -/
theorem L_tiedC {N : Nat} {h : Hs} (hS : Sk h) {nr nt : Nat} {rA tA dA rT : Nat → Nat} {wy gr hd : Nat → Int} {gn : Nat → Bool} {dr td : Nat → Option Nat} {sr dn : Nat → Int} (hR : RRo h nr nt rA tA rT wy gr hd gn) (hC : RTc h nt nr tA dA rA dr td sr dn) : ∀ (d j : Nat) (c : Int) (fu : Nat), j + d = nr → d < fu → fX5_tiedCount_b4 N 14 fu h (iI c) (iI j) = some (iI (c + cntB (fun r => (dr r).isSome) j d), h) := by
  obtain ⟨⟨c1, c2, c3⟩, c4, -⟩ := hR
  have o9 : oI 5 9 h (some 14) = some (iI nr) := oIv (by rw [ss_14 hS]) c1
  intro d
  induction d with
  | zero =>
    intro j c fu hj hf
    obtain ⟨fu, rfl⟩ : ∃ k, fu = k + 1 := ⟨fu - 1, by omega⟩
    show fX5_tiedCount_b4_body N (fX5_tiedCount_b4 N 14 fu) 14 h (iI c) (iI j) = _
    have w : iI (nr : Int) ≤ iI (j : Int) := (iI_le (by omega) (by omega) (by omega) (by omega)).mpr (by omega)
    simp only [fX5_tiedCount_b4_body]
    refine bst (o9) ?_
    refine ifp (w) ?_
    simp [cntB]
  | succ d ih =>
    intro j c fu hj hf
    obtain ⟨fu, rfl⟩ : ∃ k, fu = k + 1 := ⟨fu - 1, by omega⟩
    show fX5_tiedCount_b4_body N (fX5_tiedCount_b4 N 14 fu) 14 h (iI c) (iI j) = _
    have w : ¬ iI (nr : Int) ≤ iI (j : Int) := fun q => by have := (iI_le (by omega) (by omega) (by omega) (by omega)).mp q; omega
    obtain ⟨⟨d1, d2, d3, d4⟩, -⟩ := c4 j (by omega)
    have g1 := (hC.1 j (by omega)).1
    have o5 : oR 4 5 h (some (rA j)) = some ((dr j).map dA) := oRv (by rw [d4]) g1
    have q := ih (j + 1)
    simp only [Int.natCast_add, Int.natCast_one] at q
    simp only [fX5_tiedCount_b4_body, fX5_tiedCount_b27, lit, iI_add, Option.bind_some]
    cases hd : dr j with
    | none =>
      rw [hd] at o5
      have e := q c fu (by omega) (by omega)
      refine bst (o9) ?_
      refine ifn (w) ?_
      refine bst (sR_502_14 hS) ?_
      refine bst (lQv (ss_17 hS) (by omega) (by omega) d1) ?_
      refine bst (o5) ?_
      refine ifp (rfl) ?_
      rw [e]
      simp [cntB, hd]
    | some t =>
      rw [hd] at o5
      have e := q (c + 1) fu (by omega) (by omega)
      refine bst (o9) ?_
      refine ifn (w) ?_
      refine bst (sR_502_14 hS) ?_
      refine bst (lQv (ss_17 hS) (by omega) (by omega) d1) ?_
      refine bst (o5) ?_
      refine ifn (fun q => by cases q) ?_
      rw [e]
      simp [cntB, hd]
      congr 1
      omega
theorem L_tiedN {N : Nat} {h : Hs} (hS : Sk h) {nr nt nd : Nat} {rA tA rT : Nat → Nat} {wy gr hd : Nat → Int} {gn : Nat → Bool} {dr td : Nat → Option Nat} {sr dn : Nat → Int} (hR : RRo h nr nt rA tA rT wy gr hd gn) (hM : RTm h nr rT dr sr dn) (hL : RTl nt nd nr rT dr td) (hnd : nd ≤ 20) : ∀ (d j : Nat) (c : Int) (fu : Nat), j + d = nr → d < fu → fX12_count_b73 N 29 fu h (iI c) (iI j) = some (iI (c + cntB (fun r => (dr r).isSome) j d), h) := by
  obtain ⟨⟨c1, c2, c3⟩, c4, -⟩ := hR
  have o9 : oI 12 11 h (some 29) = some (iI nr) := oIv (by rw [ss_29 hS]) c2
  intro d
  induction d with
  | zero =>
    intro j c fu hj hf
    obtain ⟨fu, rfl⟩ : ∃ k, fu = k + 1 := ⟨fu - 1, by omega⟩
    show fX12_count_b73_body N (fX12_count_b73 N 29 fu) 29 h (iI c) (iI j) = _
    have w : iI (nr : Int) ≤ iI (j : Int) := (iI_le (by omega) (by omega) (by omega) (by omega)).mpr (by omega)
    simp only [fX12_count_b73_body]
    refine bst (o9) ?_
    refine ifp (w) ?_
    simp [cntB]
  | succ d ih =>
    intro j c fu hj hf
    obtain ⟨fu, rfl⟩ : ∃ k, fu = k + 1 := ⟨fu - 1, by omega⟩
    show fX12_count_b73_body N (fX12_count_b73 N 29 fu) 29 h (iI c) (iI j) = _
    have w : ¬ iI (nr : Int) ≤ iI (j : Int) := fun q => by have := (iI_le (by omega) (by omega) (by omega) (by omega)).mp q; omega
    have g1 := (hM j (by omega)).1
    have q := ih (j + 1)
    simp only [Int.natCast_add, Int.natCast_one] at q
    simp only [fX12_count_b73_body, fX12_count_b96, lit, iI_add, Option.bind_some]
    cases hd : dr j with
    | none =>
      rw [hd] at g1
      simp only [od] at g1
      have e := q (c + 0) fu (by omega) (by omega)
      have w2 : iI (-1) < iI 0 := by decide
      refine bst (o9) ?_
      refine ifn (w) ?_
      refine bst (sR_1216_29 hS) ?_
      refine bst (lAv (ss_42 hS) (by omega) (by omega) g1) ?_
      refine ifp (w2) ?_
      rw [e]
      simp [cntB, hd]
    | some t =>
      have tl := (hL.1 j t (by omega) hd).1
      rw [hd] at g1
      simp only [od] at g1
      have e := q (c + 1) fu (by omega) (by omega)
      have w2 : ¬ iI (t : Int) < iI 0 := fun q => by have := (iI_lt (by omega) (by omega) (by omega) (by omega)).mp q; omega
      refine bst (o9) ?_
      refine ifn (w) ?_
      refine bst (sR_1216_29 hS) ?_
      refine bst (lAv (ss_42 hS) (by omega) (by omega) g1) ?_
      refine ifn (w2) ?_
      rw [e]
      simp [cntB, hd]
      congr 1
      omega
theorem t_count {N : Nat} (hN : 100000000 ≤ N) {h : Hs} (hS : Sk h) {nr nt nd : Nat} {rA tA dA rT : Nat → Nat} {wy gr hd : Nat → Int} {gn : Nat → Bool} {tl tw tg ls ms pa ds : Nat → Int} {dr td : Nat → Option Nat} {sr dn : Nat → Int} (hT : RTh h nt tA tl tw tg ls ms pa) (hD : RDr h nd dA ds) (hR : RRo h nr nt rA tA rT wy gr hd gn) (hI : RTi h nt nd nr tA dA rA rT dr td sr dn) (hC : ICand h) (hK : IStk h) {L : Nat} {bt : Nat → Int} (hP : RTape h L bt) {sf we : Int32} (s1 : gI h 511 14 = sf) (s2 : gI h 1221 29 = sf) (s3 : gI h 512 14 = we) (s4 : gI h 1222 29 = we) (p : Int32) : ∃ a, fX11_count N h 0 p = some (a, h) ∧ fX12_count N h 29 p = some (a, h) := by
  obtain ⟨hCc, hM, hL⟩ := RTi_iff.mp hI
  obtain ⟨n, T, ln, lt, ⟨k1, k2, k3, k4⟩, -⟩ := hC
  obtain ⟨nf, nv, ng, fA, vA, fh, fw, fp, vh, vw, vp, gv, ⟨j1, j2, j3, j4, j5, j6⟩, -⟩ := hK
  obtain ⟨t1, t2, -⟩ := hP
  have c3 := hR.1.2.2
  have la := L_tiedC (N := N) hS hR hCc nr 0 0 N (by omega) (by omega)
  have lb := L_tiedN (N := N) hS hR hM hL hD.1.2.2 nr 0 0 N (by omega) (by omega)
  simp only [Int.natCast_zero] at la lb
  have oC : ∀ {c j a : Nat} {v : Int32}, (sh h a).1 = c → gI h (100 * c + j) a = v → oI c j h (some a) = some v := oIv
  have rc5 : rc 5 h (some 14) = some 14 := rcv (by rw [ss_14 hS])
  simp only [fX11_count, fX12_count, fX5_tiedCount, lit, iI_neg]
  by_cases w0 : p = iI 0
  · refine ⟨iI nt, ?_, ?_⟩
    · skip
      refine ifp (w0) ?_
      refine bst (sR_1100_0 hS) ?_
      refine bst (oIv (by rw [ss_14 hS]) hT.1.1) ?_
      rfl
    · skip
      refine ifp (w0) ?_
      refine bst (oIv (by rw [ss_29 hS]) hT.1.2.1) ?_
      rfl
  by_cases w1 : p = iI 1
  · refine ⟨iI nd, ?_, ?_⟩
    · skip
      refine ifn (w0) ?_
      refine ifp (w1) ?_
      refine bst (sR_1100_0 hS) ?_
      refine bst (oIv (by rw [ss_14 hS]) hD.1.1) ?_
      rfl
    · skip
      refine ifn (w0) ?_
      refine ifp (w1) ?_
      refine bst (oIv (by rw [ss_29 hS]) hD.1.2.1) ?_
      rfl
  by_cases w2 : p = iI 2
  · refine ⟨iI nr, ?_, ?_⟩
    · skip
      refine ifn (w0) ?_
      refine ifn (w1) ?_
      refine ifp (w2) ?_
      refine bst (sR_1100_0 hS) ?_
      refine bst (oIv (by rw [ss_14 hS]) hR.1.1) ?_
      rfl
    · skip
      refine ifn (w0) ?_
      refine ifn (w1) ?_
      refine ifp (w2) ?_
      refine bst (oIv (by rw [ss_29 hS]) hR.1.2.1) ?_
      rfl
  by_cases w3 : p = iI 3
  · refine ⟨iI (0 + cntB (fun r => (dr r).isSome) 0 nr), ?_, ?_⟩
    rotate_left
    · skip
      refine ifn (w0) ?_
      refine ifn (w1) ?_
      refine ifn (w2) ?_
      refine ifp (w3) ?_
      exact lb
    · skip
      refine ifn (w0) ?_
      refine ifn (w1) ?_
      refine ifn (w2) ?_
      refine ifp (w3) ?_
      refine bst (sR_1100_0 hS) ?_
      refine bst (rc5) ?_
      refine bst (la) ?_
      rfl
  by_cases w4 : p = iI 4
  · refine ⟨sf, ?_, ?_⟩
    · skip
      refine ifn (w0) ?_
      refine ifn (w1) ?_
      refine ifn (w2) ?_
      refine ifn (w3) ?_
      refine ifp (w4) ?_
      refine bst (sR_1100_0 hS) ?_
      refine bst (oIv (by rw [ss_14 hS]) s1) ?_
      rfl
    · skip
      refine ifn (w0) ?_
      refine ifn (w1) ?_
      refine ifn (w2) ?_
      refine ifn (w3) ?_
      refine ifp (w4) ?_
      refine bst (oIv (by rw [ss_29 hS]) s2) ?_
      rfl
  by_cases w5 : p = iI 5
  · refine ⟨iI T, ?_, ?_⟩
    · skip
      refine ifn (w0) ?_
      refine ifn (w1) ?_
      refine ifn (w2) ?_
      refine ifn (w3) ?_
      refine ifn (w4) ?_
      refine ifp (w5) ?_
      refine bst (sR_1104_0 hS) ?_
      refine bst (oIv (by rw [ss_6 hS]) k2) ?_
      rfl
    · skip
      refine ifn (w0) ?_
      refine ifn (w1) ?_
      refine ifn (w2) ?_
      refine ifn (w3) ?_
      refine ifn (w4) ?_
      refine ifp (w5) ?_
      refine bst (oIv (by rw [ss_29 hS]) k4) ?_
      rfl
  by_cases w6 : p = iI 6
  · refine ⟨iI n, ?_, ?_⟩
    · skip
      refine ifn (w0) ?_
      refine ifn (w1) ?_
      refine ifn (w2) ?_
      refine ifn (w3) ?_
      refine ifn (w4) ?_
      refine ifn (w5) ?_
      refine ifp (w6) ?_
      refine bst (sR_1104_0 hS) ?_
      refine bst (oIv (by rw [ss_6 hS]) k1) ?_
      rfl
    · skip
      refine ifn (w0) ?_
      refine ifn (w1) ?_
      refine ifn (w2) ?_
      refine ifn (w3) ?_
      refine ifn (w4) ?_
      refine ifn (w5) ?_
      refine ifp (w6) ?_
      refine bst (oIv (by rw [ss_29 hS]) k3) ?_
      rfl
  by_cases w7 : p = iI 7
  · refine ⟨iI nf, ?_, ?_⟩
    · skip
      refine ifn (w0) ?_
      refine ifn (w1) ?_
      refine ifn (w2) ?_
      refine ifn (w3) ?_
      refine ifn (w4) ?_
      refine ifn (w5) ?_
      refine ifn (w6) ?_
      refine ifp (w7) ?_
      refine bst (sR_1105_0 hS) ?_
      refine bst (oIv (by rw [ss_9 hS]) j1) ?_
      rfl
    · skip
      refine ifn (w0) ?_
      refine ifn (w1) ?_
      refine ifn (w2) ?_
      refine ifn (w3) ?_
      refine ifn (w4) ?_
      refine ifn (w5) ?_
      refine ifn (w6) ?_
      refine ifp (w7) ?_
      refine bst (oIv (by rw [ss_29 hS]) j4) ?_
      rfl
  by_cases w8 : p = iI 8
  · refine ⟨iI L, ?_, ?_⟩
    · skip
      refine ifn (w0) ?_
      refine ifn (w1) ?_
      refine ifn (w2) ?_
      refine ifn (w3) ?_
      refine ifn (w4) ?_
      refine ifn (w5) ?_
      refine ifn (w6) ?_
      refine ifn (w7) ?_
      refine ifp (w8) ?_
      refine bst (sR_1103_0 hS) ?_
      refine bst (oIv (by rw [ss_1 hS]) t1) ?_
      rfl
    · skip
      refine ifn (w0) ?_
      refine ifn (w1) ?_
      refine ifn (w2) ?_
      refine ifn (w3) ?_
      refine ifn (w4) ?_
      refine ifn (w5) ?_
      refine ifn (w6) ?_
      refine ifn (w7) ?_
      refine ifp (w8) ?_
      refine bst (oIv (by rw [ss_29 hS]) t2) ?_
      rfl
  by_cases w9 : p = iI 9
  · refine ⟨we, ?_, ?_⟩
    · skip
      refine ifn (w0) ?_
      refine ifn (w1) ?_
      refine ifn (w2) ?_
      refine ifn (w3) ?_
      refine ifn (w4) ?_
      refine ifn (w5) ?_
      refine ifn (w6) ?_
      refine ifn (w7) ?_
      refine ifn (w8) ?_
      refine ifp (w9) ?_
      refine bst (sR_1100_0 hS) ?_
      refine bst (oIv (by rw [ss_14 hS]) s3) ?_
      rfl
    · skip
      refine ifn (w0) ?_
      refine ifn (w1) ?_
      refine ifn (w2) ?_
      refine ifn (w3) ?_
      refine ifn (w4) ?_
      refine ifn (w5) ?_
      refine ifn (w6) ?_
      refine ifn (w7) ?_
      refine ifn (w8) ?_
      refine ifp (w9) ?_
      refine bst (oIv (by rw [ss_29 hS]) s4) ?_
      rfl
  refine ⟨iI (-2000000000), ?_, ?_⟩
  · skip
    refine ifn (w0) ?_
    refine ifn (w1) ?_
    refine ifn (w2) ?_
    refine ifn (w3) ?_
    refine ifn (w4) ?_
    refine ifn (w5) ?_
    refine ifn (w6) ?_
    refine ifn (w7) ?_
    refine ifn (w8) ?_
    refine ifn (w9) ?_
    rfl
  · skip
    refine ifn (w0) ?_
    refine ifn (w1) ?_
    refine ifn (w2) ?_
    refine ifn (w3) ?_
    refine ifn (w4) ?_
    refine ifn (w5) ?_
    refine ifn (w6) ?_
    refine ifn (w7) ?_
    refine ifn (w8) ?_
    refine ifn (w9) ?_
    rfl
