/-! ===== change: class beside reference ===== -/
theorem crf_b {mv : Nat → Bool} {ft fv : Nat → Int} {i : Nat} (h : -1 ≤ fv i ∧ fv i ≤ 100) : -2 ≤ crf mv ft fv i ∧ crf mv ft fv i ≤ 100 := by
  unfold crf
  by_cases w1 : hasB (bdf mv ft) 0 i = true
  · rw [if_pos w1]; omega
  · rw [if_neg w1]
    by_cases w2 : mv i = true
    · rw [if_pos w2]
      by_cases w3 : ft i < 0
      · rw [if_pos w3]; omega
      · rw [if_neg w3]; omega
    · rw [if_neg w2]; omega
theorem t_change {N : Nat} (hN : 100000000 ≤ N) {h : Hs} (hS : Sk h) (hz : 70 ≤ sz h) {nr nt nd : Nat} {rA tA dA rT : Nat → Nat} {wy gr hd ds : Nat → Int} {gn : Nat → Bool} {tl tw tg ls ms pa : Nat → Int} {dr td : Nat → Option Nat} {sr dn : Nat → Int} {sA : Nat → Nat} {sc : Nat → Nat → Int} (hT : RTh h nt tA tl tw tg ls ms pa) (hD : RDr h nd dA ds) (hR : RRo h nr nt rA tA rT wy gr hd gn) (hI : RTi h nt nd nr tA dA rA rT dr td sr dn) (hSc : RSc h nt tA sA ls ms sc) (hdn : ∀ r, r < nr → dr r ≠ none → -1000000000 ≤ dn r ∧ dn r ≤ 1000000000) {na : Nat} {as no : Bool} {cr cd wk : Nat → Int} (hG : RChg h nt na as no cr cd wk) (p1 p2 : Int32) : ∃ (a : Int32) (h1 h2 : Hs) (na' : Nat) (as' no' : Bool) (cr' cd' wk' : Nat → Int), fX11_change N h 0 p1 p2 = some (a, h1) ∧ fX12_change N h1 29 p1 p2 = some (a, h2) ∧ RChg h2 nt na' as' no' cr' cd' wk' ∧ Ke [104, 105, 106, 107, 108, 1229, 1230, 1234] [26, 27, 49, 50, 51] [] [] h h2 ∧ sz h2 = sz h := by
  obtain ⟨a, a1, a2, rfl⟩ := iI_ex p1
  obtain ⟨n, z1, z2, rfl⟩ := iI_ex p2
  obtain ⟨hC, hM, hL⟩ := RTi_iff.mp hI
  have rc1 : rc 1 h (some 25) = some 25 := rcv (by rw [ss_25 hS])
  have up : ∀ {r : Int32} {h1 : Hs}, fX1_plan N h 25 (iI a) (iI n) = some (r, h1) → fX11_change N h 0 (iI a) (iI n) = some (r, h1) := by
    intro r h1 e
    simp only [fX11_change]
    refine bst (sR_1102_0 hS) ?_
    refine bst (rc1) ?_
    refine bst (e) ?_
    rfl
  have e1 := v_isW (N := N) (h := h) (x := a) (a := 0) (b := 9) a1 a2 (by omega) (by omega) (by omega) (by omega)
  have e2 := v_inW (N := N) (h := h) (x := a) (a := 0) (b := 9) a1 a2 (by omega) (by omega) (by omega) (by omega)
  have t1 := isTurn_c (N := N) (h := h) z1 z2
  have t2 := isTurn_m (N := N) (h := h) z1 z2
  by_cases qa : 0 ≤ a ∧ a ≤ 9
  · rw [if_pos qa] at e1 e2
    by_cases qt : -9999 ≤ n ∧ n ≤ 9999
    · rw [if_pos qt] at t1 t2
      by_cases q0 : n = 0
      · have q1 : iI n = iI 0 := by rw [q0]
        refine ⟨iI (-1), h, h, na, as, no, cr, cd, wk, up ?_, ?_, hG, Ke_rf, rfl⟩
        · simp only [fX1_plan, fX1_plan_b21, lit, iI_neg]
          refine bst (e1) ?_
          refine ifn (n10) ?_
          refine bst (t1) ?_
          refine ifn (n10) ?_
          refine ifp (q1) ?_
          rfl
        · simp only [fX12_change, fX12_change_b21, lit, iI_neg]
          refine bst (e2) ?_
          refine ifn (n10) ?_
          refine bst (t2) ?_
          refine ifn (n10) ?_
          refine ifp (q1) ?_
          rfl
      · have q1 : ¬ iI n = iI 0 := fun w => q0 ((iI_eq (by omega) (by omega) (by omega) (by omega)).mp w)
        obtain ⟨s, rfl⟩ : ∃ s : Nat, a = s := ⟨a.toNat, by omega⟩
        have hs : s < 10 := by omega
        have ct := hT.1.2.2
        have cr3 := hR.1.2.2
        have cd3 := hD.1.2.2
        have sb : ∀ i, i < nt → -1 ≤ sc i s ∧ sc i s ≤ 100 := fun i hi => by
          have w1 := ((hSc.1 i hi).2 s hs).2.2
          have w2 := (hT.2.1 i hi).2.2.2
          omega
        obtain ⟨mv, hmv⟩ : ∃ mv : Nat → Bool, ∀ i, mv i = decide (sc i s ≠ -1 ∧ sc i s ≠ pa i) := ⟨fun i => decide (sc i s ≠ -1 ∧ sc i s ≠ pa i), fun _ => rfl⟩
        obtain ⟨ft, hft⟩ : ∃ ft : Nat → Int, ∀ i, ft i = fsm (srv pa wy gr ds hd tg rT gn nd (sc i s) n i) 0 nr := ⟨fun i => fsm (srv pa wy gr ds hd tg rT gn nd (sc i s) n i) 0 nr, fun _ => rfl⟩
        obtain ⟨fd, hfd⟩ : ∃ fd : Nat → Int, ∀ i, fd i = fdr pa wy gr ds rT nd (sc i s) n (ft i).toNat := ⟨fun i => fdr pa wy gr ds rT nd (sc i s) n (ft i).toNat, fun _ => rfl⟩
        have ftb : ∀ i, -1 ≤ ft i ∧ ft i ≤ 100 := fun i => by
          have := fsm_b (srv pa wy gr ds hd tg rT gn nd (sc i s) n i) nr 0
          rw [hft]
          omega
        have fdb : ∀ i, -1 ≤ fd i ∧ fd i ≤ 100 := fun i => by
          rw [hfd]
          unfold fdr
          have := fsm_b (fun d => decide (pa (rT (ft i).toNat) + wy (ft i).toNat * (ds d * n).tdiv (100 * gr (ft i).toNat) = sc i s)) nd 0
          omega
        obtain ⟨NO, hNO⟩ : ∃ NO, NO = hasB (bdf mv ft) 0 nt := ⟨_, rfl⟩
        -- the class, until the loop
        obtain ⟨h4, eh4⟩ : ∃ h4, h4 = uI (uI h 104 25 (iI 1)) 105 25 (iI 1) := ⟨_, rfl⟩
        have ke4 : Ke [104, 105, 106, 107, 108] [26, 27] [] [] h h4 := by rw [eh4]; exact (Ke_rf.u 104 _ _ (by decide)).u 105 _ _ (by decide)
        have hS4 := hS.e hz ke4 (by decide)
        have z4 : qZ 1 5 (uI h 104 25 (iI 1)) (some 25) (iI 1) = some h4 := by rw [eh4]; exact qZv (by rw [sh_uI, ss_25 hS]) (by omega)
        have f6 := v_fill hN (h := h4) (a := 26) (n := 40) (v := -1) (by omega) (ss_26 hS4)
        obtain ⟨h6, eh6⟩ : ∃ h6, h6 = wA h4 26 (fun j => if j < 40 then iI (-1) else aI h4 26 j) := ⟨_, rfl⟩
        rw [← eh6] at f6
        have ke6 : Ke [104, 105, 106, 107, 108] [26, 27] [] [] h h6 := by rw [eh6]; exact ke4.a 26 _ (by decide)
        have hS6 := hS.e hz ke6 (by decide)
        have f8 := v_fill hN (h := h6) (a := 27) (n := 40) (v := -1) (by omega) (ss_27 hS6)
        obtain ⟨h8, eh8⟩ : ∃ h8, h8 = wA h6 27 (fun j => if j < 40 then iI (-1) else aI h6 27 j) := ⟨_, rfl⟩
        rw [← eh8] at f8
        have ke8 : Ke [104, 105, 106, 107, 108] [26, 27] [] [] h h8 := by rw [eh8]; exact ke6.a 27 _ (by decide)
        have sz8 : sz h8 = sz h := by rw [eh8, eh6, eh4]; rfl
        have hz8 : 70 ≤ sz h8 := by omega
        have hS8 := hS.e hz ke8 (by decide)
        have hT8 := hT.e hz ke8 (by decide) (by decide) (by decide)
        have hD8 := hD.e hz ke8 (by decide) (by decide) (by decide)
        have hR8 := hR.e hz ke8 (by decide) (by decide) (by decide) (by decide)
        have hSc8 := hSc.e hz hT.lt ke8 (by decide) (by decide) (fun k hk => by
          have := (hSc.1 k hk).1.2.1
          simp only [List.mem_cons, List.not_mem_nil, or_false]
          omega)
        obtain ⟨c', h9, r1, r2, ke9, sz9, g95, ga9⟩ := L_planC (N := N) hS8 hz8 hT8 hSc8 hs (n := n) hmv (ft := ft) (fd := fd) (fun i h' hi k => by
          have l := L_ftC hN (hS8.e hz8 k (by decide)) (by have := k.2.2.2.2.2; omega) (hT8.e hz8 k (by decide) (by decide) (by decide)) (hD8.e hz8 k (by decide) (by decide) (by decide)) (hR8.e hz8 k (by decide) (by decide) (by decide) (by decide)) (sb i hi).1 (sb i hi).2 qt.1 qt.2 hi nr 0 N (by omega) (by omega)
          rw [hfd, hft]
          exact l) nt 0 0 N h8 Ke_rf rfl (by omega) (by omega) (by rw [eh8, eh6, eh4]; simp [HR, hasB, b2]) (fun k hk => by
          rw [eh8, eh6]
          simp [HR, hk]) (fun _ => by simp [cntB])
        have ke09 : Ke [104, 105, 106, 107, 108] [26, 27] [] [] h h9 := ke8.tr (ke9.w (by decide) (by decide) (by decide) (by decide))
        have hz9 : 70 ≤ sz h9 := by omega
        have hS9 := hS.e hz ke09 (by decide)
        obtain ⟨ha, eha⟩ : ∃ ha, ha = uI (uI (uI h9 106 25 (iI 0)) 107 25 (iI 0)) 108 25 (iI 0) := ⟨_, rfl⟩
        have ke9a : Ke [106, 107, 108] [] [] [] h9 ha := by rw [eha]; exact ((Ke_rf.u 106 _ _ (by decide)).u 107 _ _ (by decide)).u 108 _ _ (by decide)
        have ke0a : Ke [104, 105, 106, 107, 108] [26, 27] [] [] h ha := ke09.tr (ke9a.w (by decide) (by decide) (by decide) (by decide))
        have sza : sz ha = sz h := by rw [eha]; exact sz9.trans sz8
        have hza : 70 ≤ sz ha := by omega
        have cb : ∀ i, i < nt → (-2 ≤ crf mv ft ft i ∧ crf mv ft ft i ≤ 100) ∧ -2 ≤ crf mv ft fd i ∧ crf mv ft fd i ≤ 100 := fun i _ => ⟨crf_b (ftb i), crf_b (fdb i)⟩
        obtain ⟨hb, b1, keb, szb, gb2, gb3, gb5⟩ := L_cwC (N := N) (h0 := ha) (hS.e hz ke0a (by decide)) hza (hT.e hz ke0a (by decide) (by decide) (by decide)) (hD.e hz ke0a (by decide) (by decide) (by decide)) (hR.e hz ke0a (by decide) (by decide) (by decide) (by decide)) (hC.e hT.lt hR.lt ke0a (by decide) (by decide)) hL hdn (cr := crf mv ft ft) (cd := crf mv ft fd) cb (fun i hi => by
          have := ga9 i (by omega)
          rw [if_pos hi, if_pos hi] at this
          rw [ke9a.2.1 26 (by decide) (by omega), ke9a.2.1 27 (by decide) (by omega)]
          exact this) nt 0 0 0 0 N ha Ke_rf rfl (by omega) (by omega) (by rw [eha]; simp [HR]) (by rw [eha]; simp [HR]) (by rw [eha]; simp [HR])
        simp only [Int.zero_add] at gb2 gb3 gb5
        have ke0b : Ke [104, 105, 106, 107, 108] [26, 27] [] [] h hb := ke0a.tr (keb.w (by decide) (by decide) (by decide) (by decide))
        have szb' : sz hb = sz h := by omega
        have hzb : 70 ≤ sz hb := by omega
        have hSb := hS.e hz ke0b (by decide)
        have cw : fX1_countWorks N h9 25 = some hb := by
          have c25 : (sh h9 25).1 = 1 := by rw [ss_25 hS9]
          simp only [fX1_countWorks, lit]
          refine bst (qIv c25) ?_
          refine bst (qIv (by rw [sh_uI]; exact c25)) ?_
          refine bst (qIv (by rw [sh_uI, sh_uI]; exact c25)) ?_
          rw [← eha]
          exact b1
        have kb9 : Ke [106, 107, 108] [] [] [] h9 hb := ke9a.tr keb
        have gb05 : gI hb 105 25 = iI (b2 (!NO)) := by rw [kb9.1 105 25 (by decide) (by omega), g95, hNO]
        have gb26 : ∀ k, k < 40 → aI hb 26 k = iI (if k < nt then crf mv ft ft k else -1) ∧ aI hb 27 k = iI (if k < nt then crf mv ft fd k else -1) := fun k hk => by
          rw [kb9.2.1 26 (by decide) (by omega), kb9.2.1 27 (by decide) (by omega)]
          exact ga9 k hk
        have gb04 : gI hb 104 25 = iI 1 := by
          rw [kb9.1 104 25 (by decide) (by omega), ke9.1 104 25 (by decide) (by omega), eh8, eh6, eh4]
          simp [HR]
        have cl : fX1_plan N h 25 (iI s) (iI n) = some (iI (if NO then -2 else c'), hb) := by
          have o5 : oI 1 5 hb (some 25) = some (iI (b2 (!NO))) := oIv (by rw [ss_25 hSb]) gb05
          have b132 : fX1_plan_b132 N 25 h9 (iI c') = some (iI (if NO then -2 else c'), hb) := by
            simp only [fX1_plan_b132, fX1_plan_b149, lit, iI_neg]
            cases NO with
            | true =>
              have o5' : oI 1 5 hb (some 25) = some (iI 0) := o5
              refine bst (rcv (by rw [ss_25 hS9])) ?_
              refine bst (cw) ?_
              refine bst (o5') ?_
              refine ifp (rfl) ?_
              rfl
            | false =>
              have o5' : oI 1 5 hb (some 25) = some (iI 1) := o5
              refine bst (rcv (by rw [ss_25 hS9])) ?_
              refine bst (cw) ?_
              refine bst (o5') ?_
              refine ifn (n10) ?_
              rfl
          simp only [fX1_plan, lit, iI_neg]
          refine bst (e1) ?_
          refine ifn (n10) ?_
          refine bst (t1) ?_
          refine ifn (n10) ?_
          refine ifn (q1) ?_
          refine bst (qZv (by rw [ss_25 hS]) (by omega)) ?_
          refine bst (z4) ?_
          refine bst (sR_101_25 hS4) ?_
          refine bst (f6) ?_
          refine bst (sR_102_25 hS6) ?_
          refine bst (f8) ?_
          exact r1.trans b132
        -- the reference
        obtain ⟨hq, ehq⟩ : ∃ hq, hq = uI (uI (uI hb 1229 29 (iI 1)) 1230 29 (iI 0)) 1234 29 (iI nt) := ⟨_, rfl⟩
        have keq : Ke [1229, 1230, 1234] [] [] [] hb hq := by rw [ehq]; exact ((Ke_rf.u 1229 _ _ (by decide)).u 1230 _ _ (by decide)).u 1234 _ _ (by decide)
        have ke0q : Ke [104, 105, 106, 107, 108, 1229, 1230, 1234] [26, 27] [] [] h hq := (ke0b.w (by decide) (by decide) (by decide) (by decide)).tr (keq.w (by decide) (by decide) (by decide) (by decide))
        have szq : sz hq = sz h := by rw [ehq]; exact szb'
        have hzq : 70 ≤ sz hq := by omega
        have hSq := hS.e hz ke0q (by decide)
        have hTq := hT.e hz ke0q (by decide) (by decide) (by decide)
        have hDq := hD.e hz ke0q (by decide) (by decide) (by decide)
        have hRq := hR.e hz ke0q (by decide) (by decide) (by decide) (by decide)
        have hScq := hSc.e hz hT.lt ke0q (by decide) (by decide) (fun k hk => by
          have := (hSc.1 k hk).1.2.1
          simp only [List.mem_cons, List.not_mem_nil, or_false]
          omega)
        have gq30 : gI hq 1230 29 = iI 0 := by rw [ehq]; simp [HR]
        obtain ⟨hr, x1, ker, szr, gr30, gra⟩ := L_chI (N := N) hSq hzq ct hTq.1.2.1 (s := iI s) (n := iI n) (c := iI 0) nt 0 N hq Ke_rf rfl rfl (by omega) (by omega) (fun k hk => by omega)
        obtain ⟨c2, ht, y1, y2, ket, szt, gt30, gta⟩ := L_chM (N := N) hSq hzq hTq hScq hs (n := n) hmv (ft := ft) (fd := fd) (fun i h' hi k => by
          have l := L_brR hN (hSq.e hzq k (by decide)) (by have := k.2.2.2.2.2; omega) (hTq.e hzq k (by decide) (by decide) (by decide)) (hDq.e hzq k (by decide) (by decide) (by decide)) (hRq.e hzq k (by decide) (by decide) (by decide) (by decide)) (sb i hi).1 (sb i hi).2 qt.1 qt.2 hi nr 0 N (by omega) (by omega)
          rw [hfd, hft]
          exact l) nt 0 0 N hr ker szr (by omega) (by omega) (by rw [gr30, gq30]; rfl) (fun k hk => by
          have := gra k hk
          rw [if_neg (Nat.not_lt_zero k), if_neg (Nat.not_lt_zero k)]
          exact this) (fun _ => by simp [cntB])
        rw [← hNO] at gt30 y2 r2
        have ke0t : Ke [104, 105, 106, 107, 108, 1229, 1230, 1234] [26, 27, 49, 50, 51] [] [] h ht := (ke0q.w (by decide) (by decide) (by decide) (by decide)).tr (ket.w (by decide) (by decide) (by decide) (by decide))
        have hzt : 70 ≤ sz ht := by omega
        have hSt := hS.e hz ke0t (by decide)
        have hTt := hT.e hz ke0t (by decide) (by decide) (by decide)
        have hDt := hD.e hz ke0t (by decide) (by decide) (by decide)
        have hRt := hR.e hz ke0t (by decide) (by decide) (by decide) (by decide)
        have hMt := hM.e hz ke0t (by decide)
        have o30 : oI 12 30 ht (some 29) = some (iI (b2 NO)) := oIv (by rw [ss_29 hSt]) gt30
        obtain ⟨hw, w1, kew, szw, gw⟩ : ∃ hw, fX12_change_b177 N 29 ht (iI c2) = some (iI (if NO then -2 else c2), hw) ∧ Ke [] [51] [] [] ht hw ∧ sz hw = sz ht ∧ (NO = false → ∀ k, k < nt → aI hw 51 k = iI (wkf td dr dn (crf mv ft ft) (crf mv ft fd) k)) := by
          cases hNOv : NO with
          | true =>
            rw [hNOv] at o30
            have o30' : oI 12 30 ht (some 29) = some (iI 1) := o30
            refine ⟨ht, ?_, Ke_rf, rfl, fun q => by cases q⟩
            obtain ⟨N', eN⟩ : ∃ N', N = N' + 1 := ⟨N - 1, by omega⟩
            have ntp : 0 < nt := by
              rcases Nat.eq_zero_or_pos nt with q | q
              · rw [q] at hNO
                rw [hNO] at hNOv
                cases hNOv
              · exact q
            have a0 : ¬ iI (nt : Int) ≤ iI 0 := fun q => by have := (iI_le (by omega) (by omega) (by omega) (by omega)).mp q; omega
            have st : fX12_change_b180 N 29 (N' + 1) ht (iI c2) (iI 0) = some (iI (-2), ht) := by
              show fX12_change_b180_body N (fX12_change_b180 N 29 N') 29 ht (iI c2) (iI 0) = _
              simp only [fX12_change_b180_body, fX12_change_b215, fX12_change_b228, lit, iI_neg]
              refine bst (oIv (by rw [ss_29 hSt]) hTt.1.2.1) ?_
              refine ifn (a0) ?_
              refine bst (o30') ?_
              refine ifn (n10) ?_
              refine bst (o30') ?_
              refine ifn (n10) ?_
              rfl
            rw [← eN] at st
            exact st
          | false =>
            rw [hNOv] at gt30
            obtain ⟨hw, v1, v2, v3, v4⟩ := L_chW (N := N) hSt hzt ct hTt.1.2.1 gt30 (wk := wkf td dr dn (crf mv ft ft) (crf mv ft fd)) (c := iI c2) (fun i h' hi k => by
              have hg := gta i hi
              exact v_workOf hN (hSt.e hzt k (by decide)) (hTt.e hzt k (by decide) (by decide) (by decide)) (hDt.e hzt k (by decide) (by decide) (by decide)) (hRt.e hzt k (by decide) (by decide) (by decide) (by decide)) (hMt.e hzt k (by decide)) hL hdn hi (by rw [k.2.1 49 (by decide) (by omega)]; exact hg.1) (by rw [k.2.1 50 (by decide) (by omega)]; exact hg.2) (cb i hi).1 (cb i hi).2) nt 0 N ht Ke_rf rfl (by omega) (by omega) (fun k hk => by omega)
            exact ⟨hw, v1, v2, v3, fun _ => v4⟩
        have rf : fX12_change N hb 29 (iI s) (iI n) = some (iI (if NO then -2 else c2), hw) := by
          have e2b := v_inW (N := N) (h := hb) (x := s) (a := 0) (b := 9) a1 a2 (by omega) (by omega) (by omega) (by omega)
          have t2b := isTurn_m (N := N) (h := hb) z1 z2
          rw [if_pos qa] at e2b
          rw [if_pos qt] at t2b
          have c29 : (sh hb 29).1 = 12 := by rw [ss_29 hSb]
          have gnt : gI (uI (uI hb 1229 29 (iI 1)) 1230 29 (iI 0)) 1201 29 = iI nt := by
            have : gI hb 1201 29 = iI nt := by rw [ke0b.1 1201 29 (by decide) (by omega)]; exact hT.1.2.1
            simp [HR, this]
          simp only [fX12_change, lit]
          refine bst (e2b) ?_
          refine ifn (n10) ?_
          refine bst (t2b) ?_
          refine ifn (n10) ?_
          refine ifn (q1) ?_
          refine bst (qZv c29 (by omega)) ?_
          refine bst (qZv (by rw [sh_uI]; exact c29) (by omega)) ?_
          refine bst (oIv (by rw [sh_uI, sh_uI]; exact c29) gnt) ?_
          refine bst (qIv (by rw [sh_uI, sh_uI]; exact c29)) ?_
          rw [← ehq]
          exact x1.trans (y1.trans w1)
        have ecc : (if NO then -2 else c') = (if NO then -2 else c2) := by
          cases hNOv : NO with
          | true => rfl
          | false => rw [r2 hNOv, y2 hNOv]
        have ke0w : Ke [104, 105, 106, 107, 108, 1229, 1230, 1234] [26, 27, 49, 50, 51] [] [] h hw := ke0t.tr (kew.w (by decide) (by decide) (by decide) (by decide))
        have kbw : Ke [1229, 1230, 1234] [49, 50, 51] [] [] hb hw := (keq.w (by decide) (by decide) (by decide) (by decide)).tr ((ket.w (by decide) (by decide) (by decide) (by decide)).tr (kew.w (by decide) (by decide) (by decide) (by decide)))
        rw [ecc] at cl
        refine ⟨_, hb, hw, nt, true, NO, crf mv ft ft, crf mv ft fd, wkf td dr dn (crf mv ft ft) (crf mv ft fd), up cl, rf, ⟨⟨?_, ?_⟩, fun _ => ⟨⟨?_, ?_, ?_, Nat.le_refl nt⟩, fun i hi => ?_, fun i hi1 hi2 => ?_, fun hno => ⟨fun i hi => ⟨?_, wkf_4 _ _ _ _ _ _⟩, ?_, ?_, ?_⟩⟩⟩, ke0w, by omega⟩
        · rw [kbw.1 104 25 (by decide) (by omega)]; exact gb04
        · rw [kew.1 1229 29 (by decide) (by omega), ket.1 1229 29 (by decide) (by omega), ehq]
          simp [HR, b2]
        · rw [kbw.1 105 25 (by decide) (by omega)]; exact gb05
        · rw [kew.1 1230 29 (by decide) (by omega)]; exact gt30
        · rw [kew.1 1234 29 (by decide) (by omega), ket.1 1234 29 (by decide) (by omega), ehq]
          simp [HR]
        · have y3 := gb26 i (by omega)
          rw [if_pos hi, if_pos hi] at y3
          have y4 := gta i hi
          rw [kbw.2.1 26 (by decide) (by omega), kbw.2.1 27 (by decide) (by omega), kew.2.1 49 (by decide) (by omega), kew.2.1 50 (by decide) (by omega)]
          exact ⟨y3.1, y4.1, y3.2, y4.2⟩
        · have y3 := gb26 i hi2
          rw [if_neg (by omega), if_neg (by omega)] at y3
          rw [kbw.2.1 26 (by decide) (by omega), kbw.2.1 27 (by decide) (by omega)]
          exact y3
        · exact gw hno i hi
        · rw [kbw.1 106 25 (by decide) (by omega)]; exact gb2
        · rw [kbw.1 107 25 (by decide) (by omega)]; exact gb3
        · rw [kbw.1 108 25 (by decide) (by omega)]; exact gb5
    · rw [if_neg qt] at t1 t2
      refine ⟨iI (-1), h, h, na, as, no, cr, cd, wk, up ?_, ?_, hG, Ke_rf, rfl⟩
      · simp only [fX1_plan, fX1_plan_b21, lit, iI_neg]
        refine bst (e1) ?_
        refine ifn (n10) ?_
        refine bst (t1) ?_
        refine ifp (rfl) ?_
        rfl
      · simp only [fX12_change, fX12_change_b21, lit, iI_neg]
        refine bst (e2) ?_
        refine ifn (n10) ?_
        refine bst (t2) ?_
        refine ifp (rfl) ?_
        rfl
  · rw [if_neg qa] at e1 e2
    refine ⟨iI (-1), h, h, na, as, no, cr, cd, wk, up ?_, ?_, hG, Ke_rf, rfl⟩
    · simp only [fX1_plan, fX1_plan_b21, lit, iI_neg]
      refine bst (e1) ?_
      refine ifp (rfl) ?_
      rfl
    · simp only [fX12_change, fX12_change_b21, lit, iI_neg]
      refine bst (e2) ?_
      refine ifp (rfl) ?_
      rfl
