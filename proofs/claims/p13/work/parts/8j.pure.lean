/-! ===== the reference reads a line, and all ===== -/
theorem v_end {N : Nat} {L : Nat} {bt : Nat → Int} {h : Hs} (hS : Sk h) (hC : TM h L bt) {p ln : Nat} (hp : p ≤ 900) (g8 : gI h 1238 29 = iI p) (g9 : gI h 1239 29 = iI ln) : fX12_line_b139 N 29 h = some (iI (b2 (decide (pkf bt L p = 59))), if pkf bt L p = 59 then uI (uI h 1238 29 (iI ((p + 1 : Nat) : Int))) 1239 29 (iI ((ln + 1 : Nat) : Int)) else h) := by
  have rc12 : rc 12 h (some 29) = some 29 := rcv (by rw [ss_29 hS])
  have cc : (sh h 29).1 = 12 := by rw [ss_29 hS]
  have vp := v_look2 (N := N) hS hC (by omega) g8
  obtain ⟨b, b1, -, -⟩ := lk_ok hC p
  have q : iI (lkf bt L p) = iI 59 ↔ lkf bt L p = 59 := iI_eq (by omega) (by omega) (by omega) (by omega)
  have e5 : iI (p : Int) + iI 1 = iI ((p + 1 : Nat) : Int) := by rw [iI_add]; congr 1
  have e6 : iI (ln : Int) + iI 1 = iI ((ln + 1 : Nat) : Int) := by rw [iI_add]; congr 1
  have g9u : gI (uI h 1238 29 (iI ((p + 1 : Nat) : Int))) 1239 29 = iI ln := by simp [HR, g9]
  simp only [fX12_line_b139, lit]
  by_cases w : pkf bt L p = 59
  · rw [if_pos w, decide_eq_true w]
    refine bst (rc12) ?_
    refine bst (vp) ?_
    refine ifp (q.mpr ((b1 59 (by omega) (by omega)).mpr w)) ?_
    refine bst (oIv cc g8) ?_
    rw [e5]
    refine bst (qIv cc) ?_
    refine bst (oIv (by rw [sh_uI]; exact cc) g9u) ?_
    rw [e6]
    refine bst (qIv (by rw [sh_uI]; exact cc)) ?_
    rfl
  · rw [if_neg w, decide_eq_false w]
    refine bst (rc12) ?_
    refine bst (vp) ?_
    refine ifn (fun z => w ((b1 59 (by omega) (by omega)).mp (q.mp z))) ?_
    rfl
theorem v_lineM {N : Nat} (hN : 100000000 ≤ N) {L : Nat} {bt : Nat → Int} {h : Hs} (hS : Sk h) (hz : 70 ≤ sz h) (hC : TM h L bt) {p ln : Nat} (hp : p ≤ 700) (hl : ln < 30) (g8 : gI h 1238 29 = iI p) (g9 : gI h 1239 29 = iI ln) : ∃ h', fX12_line N h 29 = some (iI (b2 (rdL (pkf bt L) p).1), h') ∧ Ke [1238, 1239, 1251] [54, 55, 56] [] [] h h' ∧ sz h' = sz h ∧ gI h' 1238 29 = iI (((rdL (pkf bt L) p).2.1 : Nat) : Int) ∧ gI h' 1239 29 = iI ((ln + (if (rdL (pkf bt L) p).1 then 1 else 0) : Nat) : Int) ∧ LnA h h' 54 55 56 ln ∧ ((rdL (pkf bt L) p).1 = true → aI h' 54 ln = iI (rdL (pkf bt L) p).2.2.1 ∧ aI h' 55 ln = iI (rdL (pkf bt L) p).2.2.2.1 ∧ aI h' 56 ln = iI (rdL (pkf bt L) p).2.2.2.2) := by
  have rc12 : rc 12 h (some 29) = some 29 := rcv (by rw [ss_29 hS])
  have cc : (sh h 29).1 = 12 := by rw [ss_29 hS]
  have vp := v_look2 (N := N) hS hC (by omega) g8
  obtain ⟨b, b1, -, -⟩ := lk_ok hC p
  have lq : ∀ c : Int, 0 ≤ c → c ≤ 127 → (iI (lkf bt L p) = iI c ↔ pkf bt L p = c) := fun c c0 c1 => (iI_eq (by omega) (by omega) (by omega) (by omega)).trans (b1 c c0 c1)
  have q1 := lq 115 (by omega) (by omega)
  have q2 := lq 116 (by omega) (by omega)
  have q3 := lq 117 (by omega) (by omega)
  have q4 := lq 119 (by omega) (by omega)
  by_cases wl : pkf bt L p = 115 ∨ pkf bt L p = 116 ∨ pkf bt L p = 117 ∨ pkf bt L p = 119
  · have el : lkf bt L p = pkf bt L p := by
      rcases wl with w | w | w | w <;> rw [w] <;> exact (b1 _ (by omega) (by omega)).mpr w
    rw [el] at vp q1 q2 q3 q4
    have e5 : iI (p : Int) + iI 1 = iI ((p + 1 : Nat) : Int) := by rw [iI_add]; congr 1
    obtain ⟨h2, eh2⟩ : ∃ h2, h2 = uI h 1238 29 (iI ((p + 1 : Nat) : Int)) := ⟨_, rfl⟩
    have ke2 : Ke [1238, 1239, 1251] [54, 55, 56] [] [] h h2 := by rw [eh2]; exact Ke_rf.u 1238 _ _ (by decide)
    have hS2 := hS.e hz ke2 (by decide)
    have cc2 : (sh h2 29).1 = 12 := by rw [ss_29 hS2]
    have g92 : gI h2 1239 29 = iI ln := by rw [eh2]; simp [HR, g9]
    obtain ⟨h5, eh5⟩ : ∃ h5, h5 = uA h2 54 ln (iI (pkf bt L p)) := ⟨_, rfl⟩
    have ke5 : Ke [1238, 1239, 1251] [54, 55, 56] [] [] h h5 := by rw [eh5]; exact ke2.b 54 _ _ (by decide)
    have hS5 := hS.e hz ke5 (by decide)
    have cc5 : (sh h5 29).1 = 12 := by rw [ss_29 hS5]
    have g95 : gI h5 1239 29 = iI ln := by rw [eh5]; exact g92
    have a5 : sA h2 (some 54) (iI ln) (iI (pkf bt L p)) = some h5 := by rw [eh5]; exact sAv (ss_54 hS2) (by omega) (by omega)
    obtain ⟨h8, eh8⟩ : ∃ h8, h8 = uA h5 56 ln (iI 0) := ⟨_, rfl⟩
    have ke8 : Ke [1238, 1239, 1251] [54, 55, 56] [] [] h h8 := by rw [eh8]; exact ke5.b 56 _ _ (by decide)
    have a8 : sA h5 (some 56) (iI ln) (iI 0) = some h8 := by rw [eh8]; exact sAv (ss_56 hS5) (by omega) (by omega)
    have sz8 : sz h8 = sz h := by rw [eh8, eh5, eh2]; rfl
    have hS8 := hS.e hz ke8 (by decide)
    have hC8 := hC.e hz ke8 (by decide) (by decide)
    have g88 : gI h8 1238 29 = iI ((p + 1 : Nat) : Int) := by rw [eh8, eh5, eh2]; simp [HR]
    have g98 : gI h8 1239 29 = iI ln := by rw [eh8, eh5]; exact g92
    have ln8 : LnA h h8 54 55 56 ln := fun k hk => by rw [eh8, eh5, eh2]; simp [HR, hk]
    have l54 : aI h8 54 ln = iI (pkf bt L p) := by rw [eh8, eh5]; simp [HR]
    have l56 : aI h8 56 ln = iI 0 := by rw [eh8]; simp [HR]
    have up : ∀ {res : Option (Int32 × Hs)}, (if iI (pkf bt L p) = iI 115 then fX12_line_b73 N 29 h8 (iI (pkf bt L p)) (some 29) (iI 1) else fX12_line_b73 N 29 h8 (iI (pkf bt L p)) (some 29) (iI 0)) = res → fX12_line N h 29 = res := by
      intro res e
      have b31 : fX12_line_b31 N 29 h (iI (pkf bt L p)) = res := by
        rw [← e]
        simp only [fX12_line_b31, lit]
        refine bst (oIv cc g8) ?_
        rw [e5]
        refine bst (qIv cc) ?_
        rw [← eh2]
        refine bst (sR_1240_29 hS2) ?_
        refine bst (oIv cc2 g92) ?_
        refine bst (a5) ?_
        refine bst (sR_1242_29 hS5) ?_
        refine bst (oIv cc5 g95) ?_
        refine bst (a8) ?_
        rfl
      simp only [fX12_line, lit]
      rcases wl with w | w | w | w
      · skip
        refine bst (rc12) ?_
        refine bst (vp) ?_
        refine ifn (fun z => by have := q2.mp z; omega) ?_
        refine ifn (fun z => by have := q3.mp z; omega) ?_
        refine ifp (q1.mpr w) ?_
        exact b31
      · skip
        refine bst (rc12) ?_
        refine bst (vp) ?_
        refine ifp (q2.mpr w) ?_
        exact b31
      · skip
        refine bst (rc12) ?_
        refine bst (vp) ?_
        refine ifn (fun z => by have := q2.mp z; omega) ?_
        refine ifp (q3.mpr w) ?_
        exact b31
      · skip
        refine bst (rc12) ?_
        refine bst (vp) ?_
        refine ifn (fun z => by have := q2.mp z; omega) ?_
        refine ifn (fun z => by have := q3.mp z; omega) ?_
        refine ifn (fun z => by have := q1.mp z; omega) ?_
        refine ifp (q4.mpr w) ?_
        exact b31
    by_cases w1 : pkf bt L p = 115 ∨ pkf bt L p = 117
    · obtain ⟨sg, hsg⟩ : ∃ sg, sg = decide (pkf bt L p = 115) := ⟨_, rfl⟩
      obtain ⟨ha, r1, r2, r3, r4, r5⟩ := v_tkN (N := N) hN hS8 (by omega) hC8 (p := p + 1) (by omega) g88 sg
      have rb := rdN_b (pkf bt L) sg (p + 1)
      have er : rdL (pkf bt L) p = if (rdN (pkf bt L) sg (p + 1)).1 then rdE (pkf bt L) (rdN (pkf bt L) sg (p + 1)).2.1 (pkf bt L p, (rdN (pkf bt L) sg (p + 1)).2.2, 0) else (false, (rdN (pkf bt L) sg (p + 1)).2.1, (0, 0, 0)) := by
        unfold rdL
        rw [if_pos w1, hsg]
      rw [er]
      have ub : ∀ {res : Option (Int32 × Hs)}, fX12_line_b73 N 29 h8 (iI (pkf bt L p)) (some 29) (iI (b2 sg)) = res → fX12_line N h 29 = res := by
        intro res e
        refine up ?_
        by_cases v : pkf bt L p = 115
        · rw [hsg, decide_eq_true v] at e
          rw [if_pos (q1.mpr v)]
          exact e
        · rw [hsg, decide_eq_false v] at e
          rw [if_neg (fun z => v (q1.mp z))]
          exact e
      generalize rdN (pkf bt L) sg (p + 1) = R at *
      obtain ⟨ok, q, v⟩ := R
      simp only at *
      have kea : Ke [1238, 1239, 1251] [54, 55, 56] [] [] h ha := ke8.tr (r2.w (by decide) (by decide) (by decide) (by decide))
      have hSa := hS.e hz kea (by decide)
      have cca : (sh ha 29).1 = 12 := by rw [ss_29 hSa]
      have g9a : gI ha 1239 29 = iI ln := by rw [r2.1 1239 29 (by decide) (by omega)]; exact g98
      have rc128 : rc 12 h8 (some 29) = some 29 := rcv (by rw [ss_29 hS8])
      have y4 : aI ha 54 = aI h8 54 := r2.2.1 54 (by decide) (by omega)
      have y5 : aI ha 55 = aI h8 55 := r2.2.1 55 (by decide) (by omega)
      have y6 : aI ha 56 = aI h8 56 := r2.2.1 56 (by decide) (by omega)
      cases ok with
      | false =>
        refine ⟨ha, ub ?_, kea, by omega, r4, by simpa using g9a, fun k hk => by rw [y4, y5, y6]; exact ln8 k hk, fun z => by cases z⟩
        simp only [fX12_line_b73, lit]
        refine bst (rc128) ?_
        refine bst (r1) ?_
        refine ifp (rfl) ?_
        rfl
      | true =>
        have r5' := r5 rfl
        obtain ⟨hb, ehb⟩ : ∃ hb, hb = uA ha 55 ln (iI v) := ⟨_, rfl⟩
        have keb : Ke [1238, 1239, 1251] [54, 55, 56] [] [] h hb := by rw [ehb]; exact kea.b 55 _ _ (by decide)
        have szb : sz hb = sz h := by rw [ehb]; show sz ha = sz h; omega
        have ab : sA ha (some 55) (iI ln) (iI v) = some hb := by rw [ehb]; exact sAv (ss_55 hSa) (by omega) (by omega)
        have hSb := hS.e hz keb (by decide)
        have ve := v_end (N := N) hSb (hC.e hz keb (by decide) (by decide)) (p := q) (ln := ln) (by omega) (by rw [ehb]; exact r4) (by rw [ehb]; exact g9a)
        have lnb : LnA h hb 54 55 56 ln := fun k hk => by
          have z := ln8 k hk
          rw [ehb]
          simp [HR, hk, y4, y5, y6, z]
        have x4 : aI hb 54 ln = iI (pkf bt L p) ∧ aI hb 55 ln = iI v ∧ aI hb 56 ln = iI 0 := by
          rw [ehb]
          simp [HR, y4, y6, l54, l56]
        have st : fX12_line N h 29 = fX12_line_b139 N 29 hb := by
          refine ub ?_
          simp only [fX12_line_b73, lit]
          refine bst (rc128) ?_
          refine bst (r1) ?_
          refine ifn (n10) ?_
          refine bst (sR_1241_29 hSa) ?_
          refine bst (oIv cca g9a) ?_
          refine bst (oIv cca r5') ?_
          refine bst (ab) ?_
          refine ifn (fun z => by have := q2.mp z; omega) ?_
          refine ifn (fun z => by have := q4.mp z; omega) ?_
          rfl
        by_cases w : pkf bt L q = 59
        · have ee : rdE (pkf bt L) q (pkf bt L p, v, 0) = (true, q + 1, (pkf bt L p, v, 0)) := by unfold rdE; rw [if_pos w]
          rw [if_pos w, decide_eq_true w] at ve
          rw [if_pos rfl, ee]
          exact ⟨_, st.trans ve, (keb.u 1238 _ _ (by decide)).u 1239 _ _ (by decide), szb, by simp [HR], by simp [HR], lnb, fun _ => x4⟩
        · have ee : rdE (pkf bt L) q (pkf bt L p, v, 0) = (false, q, (pkf bt L p, v, 0)) := by unfold rdE; rw [if_neg w]
          rw [if_neg w, decide_eq_false w] at ve
          rw [if_pos rfl, ee]
          refine ⟨hb, st.trans ve, keb, szb, by rw [ehb]; exact r4, by rw [ehb]; simpa [HR] using g9a, lnb, fun z => by cases z⟩
    · have w2 : pkf bt L p = 116 ∨ pkf bt L p = 119 := by omega
      obtain ⟨sg, hsg⟩ : ∃ sg, sg = decide (pkf bt L p = 119) := ⟨_, rfl⟩
      obtain ⟨ha, r1, r2, r3, r4, r5⟩ := v_tkN (N := N) hN hS8 (by omega) hC8 (p := p + 1) (by omega) g88 false
      have rb := rdN_b (pkf bt L) false (p + 1)
      have er : rdL (pkf bt L) p = if (rdN (pkf bt L) false (p + 1)).1 then (if (rdN (pkf bt L) sg (rdN (pkf bt L) false (p + 1)).2.1).1 then rdE (pkf bt L) (rdN (pkf bt L) sg (rdN (pkf bt L) false (p + 1)).2.1).2.1 (pkf bt L p, (rdN (pkf bt L) false (p + 1)).2.2, (rdN (pkf bt L) sg (rdN (pkf bt L) false (p + 1)).2.1).2.2) else (false, (rdN (pkf bt L) sg (rdN (pkf bt L) false (p + 1)).2.1).2.1, (0, 0, 0))) else (false, (rdN (pkf bt L) false (p + 1)).2.1, (0, 0, 0)) := by
        unfold rdL
        rw [if_neg w1, if_pos w2, hsg]
      rw [er]
      have ub : ∀ {res : Option (Int32 × Hs)}, fX12_line_b73 N 29 h8 (iI (pkf bt L p)) (some 29) (iI 0) = res → fX12_line N h 29 = res := by
        intro res e
        refine up ?_
        rw [if_neg (fun z => by have := q1.mp z; omega)]
        exact e
      generalize rdN (pkf bt L) false (p + 1) = R at *
      obtain ⟨ok, q, v⟩ := R
      simp only at *
      have kea : Ke [1238, 1239, 1251] [54, 55, 56] [] [] h ha := ke8.tr (r2.w (by decide) (by decide) (by decide) (by decide))
      have hSa := hS.e hz kea (by decide)
      have cca : (sh ha 29).1 = 12 := by rw [ss_29 hSa]
      have g9a : gI ha 1239 29 = iI ln := by rw [r2.1 1239 29 (by decide) (by omega)]; exact g98
      have rc128 : rc 12 h8 (some 29) = some 29 := rcv (by rw [ss_29 hS8])
      have y4 : aI ha 54 = aI h8 54 := r2.2.1 54 (by decide) (by omega)
      have y5 : aI ha 55 = aI h8 55 := r2.2.1 55 (by decide) (by omega)
      have y6 : aI ha 56 = aI h8 56 := r2.2.1 56 (by decide) (by omega)
      have r1' : fX12_takes N h8 29 (iI 0) = some (iI (b2 ok), ha) := r1
      cases ok with
      | false =>
        refine ⟨ha, ub ?_, kea, by omega, r4, by simpa using g9a, fun k hk => by rw [y4, y5, y6]; exact ln8 k hk, fun z => by cases z⟩
        simp only [fX12_line_b73, lit]
        refine bst (rc128) ?_
        refine bst (r1') ?_
        refine ifp (rfl) ?_
        rfl
      | true =>
        have r5' := r5 rfl
        rw [if_pos rfl]
        obtain ⟨hb, ehb⟩ : ∃ hb, hb = uA ha 55 ln (iI v) := ⟨_, rfl⟩
        have keb : Ke [1238, 1239, 1251] [54, 55, 56] [] [] h hb := by rw [ehb]; exact kea.b 55 _ _ (by decide)
        have szb : sz hb = sz h := by rw [ehb]; show sz ha = sz h; omega
        have ab : sA ha (some 55) (iI ln) (iI v) = some hb := by rw [ehb]; exact sAv (ss_55 hSa) (by omega) (by omega)
        have hSb := hS.e hz keb (by decide)
        have rc12b : rc 12 hb (some 29) = some 29 := rcv (by rw [ss_29 hSb])
        have g8b : gI hb 1238 29 = iI (q : Int) := by rw [ehb]; exact r4
        have g9b : gI hb 1239 29 = iI ln := by rw [ehb]; exact g9a
        have lnb : LnA h hb 54 55 56 ln := fun k hk => by
          have z := ln8 k hk
          rw [ehb]
          simp [HR, hk, y4, y5, y6, z]
        have x4 : aI hb 54 ln = iI (pkf bt L p) ∧ aI hb 55 ln = iI v ∧ aI hb 56 ln = iI 0 := by
          rw [ehb]
          simp [HR, y4, y6, l54, l56]
        obtain ⟨hc, t1, t2, t3, t4, t5⟩ := v_tkN (N := N) hN hSb (by omega) (hC.e hz keb (by decide) (by decide)) (p := q) (by omega) g8b sg
        have rb2 := rdN_b (pkf bt L) sg q
        have st : fX12_line N h 29 = fX12_line_b118 N 29 hb (some 29) (iI (b2 sg)) := by
          have b106 : fX12_line_b106 N 29 hb (iI (pkf bt L p)) = fX12_line_b118 N 29 hb (some 29) (iI (b2 sg)) := by
            simp only [fX12_line_b106, lit]
            by_cases v : pkf bt L p = 119
            · rw [if_pos (q4.mpr v), hsg, decide_eq_true v]
              rfl
            · rw [if_neg (fun z => v (q4.mp z)), hsg, decide_eq_false v]
              rfl
          refine ub ?_
          rw [← b106]
          simp only [fX12_line_b73, lit]
          rcases w2 with w | w
          · skip
            refine bst (rc128) ?_
            refine bst (r1') ?_
            refine ifn (n10) ?_
            refine bst (sR_1241_29 hSa) ?_
            refine bst (oIv cca g9a) ?_
            refine bst (oIv cca r5') ?_
            refine bst (ab) ?_
            refine ifp (q2.mpr w) ?_
            rfl
          · skip
            refine bst (rc128) ?_
            refine bst (r1') ?_
            refine ifn (n10) ?_
            refine bst (sR_1241_29 hSa) ?_
            refine bst (oIv cca g9a) ?_
            refine bst (oIv cca r5') ?_
            refine bst (ab) ?_
            refine ifn (fun z => by have := q2.mp z; omega) ?_
            refine ifp (q4.mpr w) ?_
            rfl
        generalize rdN (pkf bt L) sg q = R2 at *
        obtain ⟨ok2, q2', v2⟩ := R2
        simp only at *
        have kec : Ke [1238, 1239, 1251] [54, 55, 56] [] [] h hc := keb.tr (t2.w (by decide) (by decide) (by decide) (by decide))
        have hSc := hS.e hz kec (by decide)
        have ccc : (sh hc 29).1 = 12 := by rw [ss_29 hSc]
        have g9c : gI hc 1239 29 = iI ln := by rw [t2.1 1239 29 (by decide) (by omega)]; exact g9b
        have u4 : aI hc 54 = aI hb 54 := t2.2.1 54 (by decide) (by omega)
        have u5 : aI hc 55 = aI hb 55 := t2.2.1 55 (by decide) (by omega)
        have u6 : aI hc 56 = aI hb 56 := t2.2.1 56 (by decide) (by omega)
        cases ok2 with
        | false =>
          refine ⟨hc, st.trans ?_, kec, by omega, t4, by simpa using g9c, fun k hk => by rw [u4, u5, u6]; exact lnb k hk, fun z => by cases z⟩
          simp only [fX12_line_b118, lit]
          refine bst (rc12b) ?_
          refine bst (t1) ?_
          refine ifp (rfl) ?_
          rfl
        | true =>
          have t5' := t5 rfl
          rw [if_pos rfl]
          obtain ⟨hd', ehd⟩ : ∃ hd', hd' = uA hc 56 ln (iI v2) := ⟨_, rfl⟩
          have ked : Ke [1238, 1239, 1251] [54, 55, 56] [] [] h hd' := by rw [ehd]; exact kec.b 56 _ _ (by decide)
          have szd : sz hd' = sz h := by rw [ehd]; show sz hc = sz h; omega
          have ad : sA hc (some 56) (iI ln) (iI v2) = some hd' := by rw [ehd]; exact sAv (ss_56 hSc) (by omega) (by omega)
          have hSd := hS.e hz ked (by decide)
          have ve := v_end (N := N) hSd (hC.e hz ked (by decide) (by decide)) (p := q2') (ln := ln) (by omega) (by rw [ehd]; exact t4) (by rw [ehd]; exact g9c)
          have lnd : LnA h hd' 54 55 56 ln := fun k hk => by
            have z := lnb k hk
            rw [ehd]
            simp [HR, hk, u4, u5, u6, z]
          have x5 : aI hd' 54 ln = iI (pkf bt L p) ∧ aI hd' 55 ln = iI v ∧ aI hd' 56 ln = iI v2 := by
            rw [ehd]
            simp [HR, u4, u5, x4]
          have st2 : fX12_line N h 29 = fX12_line_b139 N 29 hd' := by
            refine st.trans ?_
            simp only [fX12_line_b118, lit]
            refine bst (rc12b) ?_
            refine bst (t1) ?_
            refine ifn (n10) ?_
            refine bst (sR_1242_29 hSc) ?_
            refine bst (oIv ccc g9c) ?_
            refine bst (oIv ccc t5') ?_
            refine bst (ad) ?_
            rfl
          by_cases w : pkf bt L q2' = 59
          · have ee : rdE (pkf bt L) q2' (pkf bt L p, v, v2) = (true, q2' + 1, (pkf bt L p, v, v2)) := by unfold rdE; rw [if_pos w]
            rw [if_pos w, decide_eq_true w] at ve
            rw [ee]
            exact ⟨_, st2.trans ve, (ked.u 1238 _ _ (by decide)).u 1239 _ _ (by decide), szd, by simp [HR], by simp [HR], lnd, fun _ => x5⟩
          · have ee : rdE (pkf bt L) q2' (pkf bt L p, v, v2) = (false, q2', (pkf bt L p, v, v2)) := by unfold rdE; rw [if_neg w]
            rw [if_neg w, decide_eq_false w] at ve
            rw [ee]
            refine ⟨hd', st2.trans ve, ked, szd, by rw [ehd]; exact t4, by rw [ehd]; simpa [HR] using g9c, lnd, fun z => by cases z⟩
  · have er : rdL (pkf bt L) p = (false, p, (0, 0, 0)) := by
      unfold rdL
      rw [if_neg (by omega), if_neg (by omega)]
    rw [er]
    refine ⟨h, ?_, Ke_rf, rfl, g8, by simpa using g9, fun k _ => ⟨rfl, rfl, rfl⟩, fun z => by cases z⟩
    simp only [fX12_line, lit]
    refine bst (rc12) ?_
    refine bst (vp) ?_
    refine ifn (fun z => wl (Or.inr (Or.inl (q2.mp z)))) ?_
    refine ifn (fun z => wl (Or.inr (Or.inr (Or.inl (q3.mp z))))) ?_
    refine ifn (fun z => wl (Or.inl (q1.mp z))) ?_
    refine ifn (fun z => wl (Or.inr (Or.inr (Or.inr (q4.mp z))))) ?_
    rfl
/-- the lines of the tape, as the reference reads them: from a line's beginning on -/
theorem L_rdM {N : Nat} (hN : 100000000 ≤ N) {L : Nat} {bt : Nat → Int} : ∀ (f p ln : Nat) (lc : Nat → Int × Int × Int) (fu : Nat) (h : Hs), Sk h → 70 ≤ sz h → TM h L bt → gI h 1238 29 = iI p → gI h 1239 29 = iI ln → 4 * ln ≤ p → (p < L ∨ ln = 0) → p ≤ 120 → 200 < p + f → f ≤ fu → (∀ k, k < ln → aI h 54 k = iI (lc k).1 ∧ aI h 55 k = iI (lc k).2.1 ∧ aI h 56 k = iI (lc k).2.2) → ∃ (x : Bool) (h' : Hs), ((fX12_line N h 29).bind fun r => fX12_play_b15 N 29 fu r.2 r.1) = fX12_play_b38 N 29 h' (iI (b2 x)) ∧ Ke [1238, 1239, 1251] [54, 55, 56] [] [] h h' ∧ sz h' = sz h ∧ ((x = true ∧ (prs (pkf bt L) L f p ln lc).1 = -1) ∨ (x = false ∧ 0 ≤ (prs (pkf bt L) L f p ln lc).1 ∧ gI h' 1238 29 = iI (prs (pkf bt L) L f p ln lc).1)) ∧ gI h' 1239 29 = iI (((prs (pkf bt L) L f p ln lc).2.1 : Nat) : Int) ∧ (∀ k, k < (prs (pkf bt L) L f p ln lc).2.1 → aI h' 54 k = iI ((prs (pkf bt L) L f p ln lc).2.2 k).1 ∧ aI h' 55 k = iI ((prs (pkf bt L) L f p ln lc).2.2 k).2.1 ∧ aI h' 56 k = iI ((prs (pkf bt L) L f p ln lc).2.2 k).2.2) := by
  intro f
  induction f with
  | zero =>
    intro p ln lc fu h hS hz hC g8 g9 h4 hpl hp hf hfu ga
    omega
  | succ f ih =>
    intro p ln lc fu h hS hz hC g8 g9 h4 hpl hp hf hfu ga
    obtain ⟨fu, rfl⟩ : ∃ m, fu = m + 1 := ⟨fu - 1, by omega⟩
    have hL := hC.2.1
    obtain ⟨h1, r1, r2, r3, r4, r5, r6, r7⟩ := v_lineM (N := N) hN hS hz hC (p := p) (ln := ln) (by omega) (by omega) g8 g9
    have rb := rdL_b bt L p
    have ep : prs (pkf bt L) L (f + 1) p ln lc = if (rdL (pkf bt L) p).1 then (if (rdL (pkf bt L) p).2.1 < L then prs (pkf bt L) L f (rdL (pkf bt L) p).2.1 (ln + 1) (updO lc ln (rdL (pkf bt L) p).2.2) else (-1, ln + 1, updO lc ln (rdL (pkf bt L) p).2.2)) else (((rdL (pkf bt L) p).2.1 : Int), ln, lc) := rfl
    rw [ep]
    generalize rdL (pkf bt L) p = R at *
    obtain ⟨ok, q, c⟩ := R
    simp only at *
    have hS1 := hS.e hz r2 (by decide)
    have cc1 : (sh h1 29).1 = 12 := by rw [ss_29 hS1]
    have un : ∀ x : Int32, fX12_play_b15 N 29 (fu + 1) h1 x = fX12_play_b15_body N (fX12_play_b15 N 29 fu) 29 h1 x := fun _ => rfl
    rw [r1]
    simp only [Option.bind_some]
    rw [un]
    have hC1 := hC.e hz r2 (by decide) (by decide)
    cases ok with
    | false =>
      refine ⟨false, h1, ?_, r2, r3, Or.inr ⟨rfl, by simp only [if_neg (show ¬ (false = true) by decide)]; omega, r4⟩, by simpa using r5, fun k hk => ?_⟩
      · simp only [fX12_play_b15_body, lit]
        refine ifp (rfl) ?_
        rfl
      · have hk' : k < ln := hk
        obtain ⟨z1, z2, z3⟩ := r6 k (by omega)
        rw [z1, z2, z3]
        exact ga k hk'
    | true =>
      obtain ⟨rb1, rb2, rb3⟩ := rb
      obtain ⟨x1, x2, -⟩ := rb3 rfl
      have ga2 : ∀ k, k < ln + 1 → aI h1 54 k = iI (updO lc ln c k).1 ∧ aI h1 55 k = iI (updO lc ln c k).2.1 ∧ aI h1 56 k = iI (updO lc ln c k).2.2 := fun k hk => by
        by_cases w : k = ln
        · subst w
          rw [updO_s]
          exact r7 rfl
        · rw [updO_n _ _ w]
          obtain ⟨z1, z2, z3⟩ := r6 k w
          rw [z1, z2, z3]
          exact ga k (by omega)
      have r5' : gI h1 1239 29 = iI ((ln + 1 : Nat) : Int) := r5
      have le : iI (L : Int) ≤ iI (q : Int) ↔ (L : Int) ≤ q := iI_le (by omega) (by omega) (by omega) (by omega)
      by_cases w : q < L
      · rw [if_pos rfl, if_pos w]
        obtain ⟨x, h', t1, t2, t3, t4, t5, t6⟩ := ih q (ln + 1) (updO lc ln c) fu h1 hS1 (by omega) hC1 r4 r5' (by omega) (Or.inl w) (by omega) (by omega) (by omega) ga2
        refine ⟨x, h', ?_, r2.tr t2, by omega, t4, t5, t6⟩
        rw [← t1]
        simp only [fX12_play_b15_body, lit]
        refine ifn (n10) ?_
        refine bst (oIv cc1 r4) ?_
        refine bst (oIv cc1 hC1.1) ?_
        refine ifn (fun z => by have := le.mp z; omega) ?_
        refine bst (rcv (by rw [ss_29 hS1])) ?_
        rfl
      · rw [if_pos rfl, if_neg w]
        refine ⟨true, h1, ?_, r2, r3, Or.inl ⟨rfl, rfl⟩, r5', ga2⟩
        simp only [fX12_play_b15_body, lit]
        refine ifn (n10) ?_
        refine bst (oIv cc1 r4) ?_
        refine bst (oIv cc1 hC1.1) ?_
        refine ifp (le.mpr (by omega)) ?_
        rfl
