/-! ===== change: class beside reference ===== -/
theorem crf_b {mv : Nat → Bool} {ft fv : Nat → Int} {i : Nat} (h : -1 ≤ fv i ∧ fv i ≤ 100) : -2 ≤ crf mv ft fv i ∧ crf mv ft fv i ≤ 100 := by
  unfold crf
  by_cases w1 : hasB (bdf mv ft) 0 i = true
  · rw [if_pos w1]; omega
  · rw [if_neg w1]
    by_cases w2 : mv i = true
    · rw [if_pos w2]
      by_cases w3 : ft i < 0
      · rw [if_pos w3]; omega
      · rw [if_neg w3]; omega
    · rw [if_neg w2]; omega
theorem t_change {N : Nat} (hN : 100000000 ≤ N) {h : Hs} (hS : Sk h) (hz : 70 ≤ sz h) {nr nt nd : Nat} {rA tA dA rT : Nat → Nat} {wy gr hd ds : Nat → Int} {gn : Nat → Bool} {tl tw tg ls ms pa : Nat → Int} {dr td : Nat → Option Nat} {sr dn : Nat → Int} {sA : Nat → Nat} {sc : Nat → Nat → Int} (hT : RTh h nt tA tl tw tg ls ms pa) (hD : RDr h nd dA ds) (hR : RRo h nr nt rA tA rT wy gr hd gn) (hI : RTi h nt nd nr tA dA rA rT dr td sr dn) (hSc : RSc h nt tA sA ls ms sc) (hdn : ∀ r, r < nr → dr r ≠ none → -1000000000 ≤ dn r ∧ dn r ≤ 1000000000) {na : Nat} {as no : Bool} {cr cd wk : Nat → Int} (hG : RChg h nt na as no cr cd wk) (p1 p2 : Int32) : ∃ (a : Int32) (h1 h2 : Hs) (na' : Nat) (as' no' : Bool) (cr' cd' wk' : Nat → Int), fX11_change N h 0 p1 p2 = some (a, h1) ∧ fX12_change N h1 29 p1 p2 = some (a, h2) ∧ RChg h2 nt na' as' no' cr' cd' wk' ∧ Ke [104, 105, 106, 107, 108, 1229, 1230, 1234] [26, 27, 49, 50, 51] [] [] h h2 ∧ sz h2 = sz h := by
  obtain ⟨a, a1, a2, rfl⟩ := iI_ex p1
  obtain ⟨n, z1, z2, rfl⟩ := iI_ex p2
  obtain ⟨hC, hM, hL⟩ := RTi_iff.mp hI
  have rc1 : rc 1 h (some 25) = some 25 := rcv (by rw [ss_25 hS])
  have up : ∀ {r : Int32} {h1 : Hs}, fX1_plan N h 25 (iI a) (iI n) = some (r, h1) → fX11_change N h 0 (iI a) (iI n) = some (r, h1) := by
    intro r h1 e
    simp only [fX11_change]
    refine bst (sR_1102_0 hS) ?_
    refine bst (rc1) ?_
    refine bst (e) ?_
    rfl
  have e1 := v_isW (N := N) (h := h) (x := a) (a := 0) (b := 9) a1 a2 (by omega) (by omega) (by omega) (by omega)
  have e2 := v_inW (N := N) (h := h) (x := a) (a := 0) (b := 9) a1 a2 (by omega) (by omega) (by omega) (by omega)
  have t1 := isTurn_c (N := N) (h := h) z1 z2
  have t2 := isTurn_m (N := N) (h := h) z1 z2
  by_cases qa : 0 ≤ a ∧ a ≤ 9
  · rw [if_pos qa] at e1 e2
    by_cases qt : -9999 ≤ n ∧ n ≤ 9999
    · rw [if_pos qt] at t1 t2
      by_cases q0 : n = 0
      · have q1 : iI n = iI 0 := by rw [q0]
        refine ⟨iI (-1), h, h, na, as, no, cr, cd, wk, up ?_, ?_, hG, Ke_rf, rfl⟩
        · simp only [fX1_plan, fX1_plan_b21, lit, iI_neg]
          refine bst (e1) ?_
          refine ifn (n10) ?_
          refine bst (t1) ?_
          refine ifn (n10) ?_
          refine ifp (q1) ?_
          rfl
        · simp only [fX12_change, fX12_change_b21, lit, iI_neg]
          refine bst (e2) ?_
          refine ifn (n10) ?_
          refine bst (t2) ?_
          refine ifn (n10) ?_
          refine ifp (q1) ?_
          rfl
      · have q1 : ¬ iI n = iI 0 := fun w => q0 ((iI_eq (by omega) (by omega) (by omega) (by omega)).mp w)
        obtain ⟨s, rfl⟩ : ∃ s : Nat, a = s := ⟨a.toNat, by omega⟩
        have hs : s < 10 := by omega
        have ct := hT.1.2.2
        have cr3 := hR.1.2.2
        have cd3 := hD.1.2.2
        have sb : ∀ i, i < nt → -1 ≤ sc i s ∧ sc i s ≤ 100 := fun i hi => by
          have w1 := ((hSc.1 i hi).2 s hs).2.2
          have w2 := (hT.2.1 i hi).2.2.2
          omega
        obtain ⟨mv, hmv⟩ : ∃ mv : Nat → Bool, ∀ i, mv i = decide (sc i s ≠ -1 ∧ sc i s ≠ pa i) := ⟨fun i => decide (sc i s ≠ -1 ∧ sc i s ≠ pa i), fun _ => rfl⟩
        obtain ⟨ft, hft⟩ : ∃ ft : Nat → Int, ∀ i, ft i = fsm (srv pa wy gr ds hd tg rT gn nd (sc i s) n i) 0 nr := ⟨fun i => fsm (srv pa wy gr ds hd tg rT gn nd (sc i s) n i) 0 nr, fun _ => rfl⟩
        obtain ⟨fd, hfd⟩ : ∃ fd : Nat → Int, ∀ i, fd i = fdr pa wy gr ds rT nd (sc i s) n (ft i).toNat := ⟨fun i => fdr pa wy gr ds rT nd (sc i s) n (ft i).toNat, fun _ => rfl⟩
        have ftb : ∀ i, -1 ≤ ft i ∧ ft i ≤ 100 := fun i => by
          have := fsm_b (srv pa wy gr ds hd tg rT gn nd (sc i s) n i) nr 0
          rw [hft]
          omega
        have fdb : ∀ i, -1 ≤ fd i ∧ fd i ≤ 100 := fun i => by
          rw [hfd]
          unfold fdr
          have := fsm_b (fun d => decide (pa (rT (ft i).toNat) + wy (ft i).toNat * (ds d * n).tdiv (100 * gr (ft i).toNat) = sc i s)) nd 0
          omega
        obtain ⟨NO, hNO⟩ : ∃ NO, NO = hasB (bdf mv ft) 0 nt := ⟨_, rfl⟩
        -- the class, until the loop
        obtain ⟨h4, eh4⟩ : ∃ h4, h4 = uI (uI h 104 25 (iI 1)) 105 25 (iI 1) := ⟨_, rfl⟩
        have ke4 : Ke [104, 105, 106, 107, 108] [26, 27] [] [] h h4 := by rw [eh4]; exact (Ke_rf.u 104 _ _ (by decide)).u 105 _ _ (by decide)
        have hS4 := hS.e hz ke4 (by decide)
        have z4 : qZ 1 5 (uI h 104 25 (iI 1)) (some 25) (iI 1) = some h4 := by rw [eh4]; exact qZv (by rw [sh_uI, ss_25 hS]) (by omega)
        have f6 := v_fill hN (h := h4) (a := 26) (n := 40) (v := -1) (by omega) (ss_26 hS4)
        obtain ⟨h6, eh6⟩ : ∃ h6, h6 = wA h4 26 (fun j => if j < 40 then iI (-1) else aI h4 26 j) := ⟨_, rfl⟩
        rw [← eh6] at f6
        have ke6 : Ke [104, 105, 106, 107, 108] [26, 27] [] [] h h6 := by rw [eh6]; exact ke4.a 26 _ (by decide)
        have hS6 := hS.e hz ke6 (by decide)
        have f8 := v_fill hN (h := h6) (a := 27) (n := 40) (v := -1) (by omega) (ss_27 hS6)
        obtain ⟨h8, eh8⟩ : ∃ h8, h8 = wA h6 27 (fun j => if j < 40 then iI (-1) else aI h6 27 j) := ⟨_, rfl⟩
        rw [← eh8] at f8
        have ke8 : Ke [104, 105, 106, 107, 108] [26, 27] [] [] h h8 := by rw [eh8]; exact ke6.a 27 _ (by decide)
        have sz8 : sz h8 = sz h := by rw [eh8, eh6, eh4]; rfl
        have hz8 : 70 ≤ sz h8 := by omega
        have hS8 := hS.e hz ke8 (by decide)
        have hT8 := hT.e hz ke8 (by decide) (by decide) (by decide)
        have hD8 := hD.e hz ke8 (by decide) (by decide) (by decide)
        have hR8 := hR.e hz ke8 (by decide) (by decide) (by decide) (by decide)
        have hSc8 := hSc.e hz hT.lt ke8 (by decide) (by decide) (fun k hk => by
          have := (hSc.1 k hk).1.2.1
          simp only [List.mem_cons, List.not_mem_nil, or_false]
          omega)
        obtain ⟨c', h9, r1, r2, ke9, sz9, g95, ga9⟩ := L_planC (N := N) hS8 hz8 hT8 hSc8 hs (n := n) hmv (ft := ft) (fd := fd) (fun i h' hi k => by
          have l := L_ftC hN (hS8.e hz8 k (by decide)) (by have := k.2.2.2.2.2; omega) (hT8.e hz8 k (by decide) (by decide) (by decide)) (hD8.e hz8 k (by decide) (by decide) (by decide)) (hR8.e hz8 k (by decide) (by decide) (by decide) (by decide)) (sb i hi).1 (sb i hi).2 qt.1 qt.2 hi nr 0 N (by omega) (by omega)
          rw [hfd, hft]
          exact l) nt 0 0 N h8 Ke_rf rfl (by omega) (by omega) (by rw [eh8, eh6, eh4]; simp [HR, hasB, b2]) (fun k hk => by
          rw [eh8, eh6]
          simp [HR, hk]) (fun _ => by simp [cntB])
        have ke09 : Ke [104, 105, 106, 107, 108] [26, 27] [] [] h h9 := ke8.tr (ke9.w (by decide) (by decide) (by decide) (by decide))
        have hz9 : 70 ≤ sz h9 := by omega
        have hS9 := hS.e hz ke09 (by decide)
        obtain ⟨ha, eha⟩ : ∃ ha, ha = uI (uI (uI h9 106 25 (iI 0)) 107 25 (iI 0)) 108 25 (iI 0) := ⟨_, rfl⟩
        have ke9a : Ke [106, 107, 108] [] [] [] h9 ha := by rw [eha]; exact ((Ke_rf.u 106 _ _ (by decide)).u 107 _ _ (by decide)).u 108 _ _ (by decide)
        have ke0a : Ke [104, 105, 106, 107, 108] [26, 27] [] [] h ha := ke09.tr (ke9a.w (by decide) (by decide) (by decide) (by decide))
        have sza : sz ha = sz h := by rw [eha]; exact sz9.trans sz8
        have hza : 70 ≤ sz ha := by omega
        have cb : ∀ i, i < nt → (-2 ≤ crf mv ft ft i ∧ crf mv ft ft i ≤ 100) ∧ -2 ≤ crf mv ft fd i ∧ crf mv ft fd i ≤ 100 := fun i _ => ⟨crf_b (ftb i), crf_b (fdb i)⟩
        obtain ⟨hb, b1, keb, szb, gb2, gb3, gb5⟩ := L_cwC (N := N) (h0 := ha) (hS.e hz ke0a (by decide)) hza (hT.e hz ke0a (by decide) (by decide) (by decide)) (hD.e hz ke0a (by decide) (by decide) (by decide)) (hR.e hz ke0a (by decide) (by decide) (by decide) (by decide)) (hC.e hT.lt hR.lt ke0a (by decide) (by decide)) hL hdn (cr := crf mv ft ft) (cd := crf mv ft fd) cb (fun i hi => by
          have := ga9 i (by omega)
          rw [if_pos hi, if_pos hi] at this
          rw [ke9a.2.1 26 (by decide) (by omega), ke9a.2.1 27 (by decide) (by omega)]
          exact this) nt 0 0 0 0 N ha Ke_rf rfl (by omega) (by omega) (by rw [eha]; simp [HR]) (by rw [eha]; simp [HR]) (by rw [eha]; simp [HR])
        simp only [Int.zero_add] at gb2 gb3 gb5
        have ke0b : Ke [104, 105, 106, 107, 108] [26, 27] [] [] h hb := ke0a.tr (keb.w (by decide) (by decide) (by decide) (by decide))
        have szb' : sz hb = sz h := by omega
        have hzb : 70 ≤ sz hb := by omega
        have hSb := hS.e hz ke0b (by decide)
        have cw : fX1_countWorks N h9 25 = some hb := by
          have c25 : (sh h9 25).1 = 1 := by rw [ss_25 hS9]
          simp only [fX1_countWorks, lit]
          refine bst (qIv c25) ?_
          refine bst (qIv (by rw [sh_uI]; exact c25)) ?_
          refine bst (qIv (by rw [sh_uI, sh_uI]; exact c25)) ?_
          rw [← eha]
          exact b1
        have kb9 : Ke [106, 107, 108] [] [] [] h9 hb := ke9a.tr keb
        have gb05 : gI hb 105 25 = iI (b2 (!NO)) := by rw [kb9.1 105 25 (by decide) (by omega), g95, hNO]
        have gb26 : ∀ k, k < 40 → aI hb 26 k = iI (if k < nt then crf mv ft ft k else -1) ∧ aI hb 27 k = iI (if k < nt then crf mv ft fd k else -1) := fun k hk => by
          rw [kb9.2.1 26 (by decide) (by omega), kb9.2.1 27 (by decide) (by omega)]
          exact ga9 k hk
        have gb04 : gI hb 104 25 = iI 1 := by
          rw [kb9.1 104 25 (by decide) (by omega), ke9.1 104 25 (by decide) (by omega), eh8, eh6, eh4]
          simp [HR]
        have cl : fX1_plan N h 25 (iI s) (iI n) = some (iI (if NO then -2 else c'), hb) := by
          have o5 : oI 1 5 hb (some 25) = some (iI (b2 (!NO))) := oIv (by rw [ss_25 hSb]) gb05
          have b132 : fX1_plan_b132 N 25 h9 (iI c') = some (iI (if NO then -2 else c'), hb) := by
            simp only [fX1_plan_b132, fX1_plan_b149, lit, iI_neg]
            cases NO with
            | true =>
              have o5' : oI 1 5 hb (some 25) = some (iI 0) := o5
              refine bst (rcv (by rw [ss_25 hS9])) ?_
              refine bst (cw) ?_
              refine bst (o5') ?_
              refine ifp (rfl) ?_
              rfl
            | false =>
              have o5' : oI 1 5 hb (some 25) = some (iI 1) := o5
              refine bst (rcv (by rw [ss_25 hS9])) ?_
              refine bst (cw) ?_
              refine bst (o5') ?_
              refine ifn (n10) ?_
              rfl
          simp only [fX1_plan, lit, iI_neg]
          refine bst (e1) ?_
          refine ifn (n10) ?_
          refine bst (t1) ?_
          refine ifn (n10) ?_
          refine ifn (q1) ?_
          refine bst (qZv (by rw [ss_25 hS]) (by omega)) ?_
          refine bst (z4) ?_
          refine bst (sR_101_25 hS4) ?_
          refine bst (f6) ?_
          refine bst (sR_102_25 hS6) ?_
          refine bst (f8) ?_
          exact r1.trans b132
        -- the reference
        obtain ⟨hq, ehq⟩ : ∃ hq, hq = uI (uI (uI hb 1229 29 (iI 1)) 1230 29 (iI 0)) 1234 29 (iI nt) := ⟨_, rfl⟩
        have keq : Ke [1229, 1230, 1234] [] [] [] hb hq := by rw [ehq]; exact ((Ke_rf.u 1229 _ _ (by decide)).u 1230 _ _ (by decide)).u 1234 _ _ (by decide)
        have ke0q : Ke [104, 105, 106, 107, 108, 1229, 1230, 1234] [26, 27] [] [] h hq := (ke0b.w (by decide) (by decide) (by decide) (by decide)).tr (keq.w (by decide) (by decide) (by decide) (by decide))
        have szq : sz hq = sz h := by rw [ehq]; exact szb'
        have hzq : 70 ≤ sz hq := by omega
        have hSq := hS.e hz ke0q (by decide)
        have hTq := hT.e hz ke0q (by decide) (by decide) (by decide)
        have hDq := hD.e hz ke0q (by decide) (by decide) (by decide)
        have hRq := hR.e hz ke0q (by decide) (by decide) (by decide) (by decide)
        have hScq := hSc.e hz hT.lt ke0q (by decide) (by decide) (fun k hk => by
          have := (hSc.1 k hk).1.2.1
          simp only [List.mem_cons, List.not_mem_nil, or_false]
          omega)
        have gq30 : gI hq 1230 29 = iI 0 := by rw [ehq]; simp [HR]
        obtain ⟨hr, x1, ker, szr, gr30, gra⟩ := L_chI (N := N) hSq hzq ct hTq.1.2.1 (s := iI s) (n := iI n) (c := iI 0) nt 0 N hq Ke_rf rfl rfl (by omega) (by omega) (fun k hk => by omega)
        obtain ⟨c2, ht, y1, y2, ket, szt, gt30, gta⟩ := L_chM (N := N) hSq hzq hTq hScq hs (n := n) hmv (ft := ft) (fd := fd) (fun i h' hi k => by
          have l := L_brR hN (hSq.e hzq k (by decide)) (by have := k.2.2.2.2.2; omega) (hTq.e hzq k (by decide) (by decide) (by decide)) (hDq.e hzq k (by decide) (by decide) (by decide)) (hRq.e hzq k (by decide) (by decide) (by decide) (by decide)) (sb i hi).1 (sb i hi).2 qt.1 qt.2 hi nr 0 N (by omega) (by omega)
          rw [hfd, hft]
          exact l) nt 0 0 N hr ker szr (by omega) (by omega) (by rw [gr30, gq30]; rfl) (fun k hk => by
          have := gra k hk
          rw [if_neg (Nat.not_lt_zero k), if_neg (Nat.not_lt_zero k)]
          exact this) (fun _ => by simp [cntB])
        rw [← hNO] at gt30 y2 r2
        have ke0t : Ke [104, 105, 106, 107, 108, 1229, 1230, 1234] [26, 27, 49, 50, 51] [] [] h ht := (ke0q.w (by decide) (by decide) (by decide) (by decide)).tr (ket.w (by decide) (by decide) (by decide) (by decide))
        have hzt : 70 ≤ sz ht := by omega
        have hSt := hS.e hz ke0t (by decide)
        have hTt := hT.e hz ke0t (by decide) (by decide) (by decide)
        have hDt := hD.e hz ke0t (by decide) (by decide) (by decide)
        have hRt := hR.e hz ke0t (by decide) (by decide) (by decide) (by decide)
        have hMt := hM.e hz ke0t (by decide)
        have o30 : oI 12 30 ht (some 29) = some (iI (b2 NO)) := oIv (by rw [ss_29 hSt]) gt30
        obtain ⟨hw, w1, kew, szw, gw⟩ : ∃ hw, fX12_change_b177 N 29 ht (iI c2) = some (iI (if NO then -2 else c2), hw) ∧ Ke [] [51] [] [] ht hw ∧ sz hw = sz ht ∧ (NO = false → ∀ k, k < nt → aI hw 51 k = iI (wkf td dr dn (crf mv ft ft) (crf mv ft fd) k)) := by
          cases hNOv : NO with
          | true =>
            rw [hNOv] at o30
            have o30' : oI 12 30 ht (some 29) = some (iI 1) := o30
            refine ⟨ht, ?_, Ke_rf, rfl, fun q => by cases q⟩
            obtain ⟨N', eN⟩ : ∃ N', N = N' + 1 := ⟨N - 1, by omega⟩
            have ntp : 0 < nt := by
              rcases Nat.eq_zero_or_pos nt with q | q
              · rw [q] at hNO
                rw [hNO] at hNOv
                cases hNOv
              · exact q
            have a0 : ¬ iI (nt : Int) ≤ iI 0 := fun q => by have := (iI_le (by omega) (by omega) (by omega) (by omega)).mp q; omega
            have st : fX12_change_b180 N 29 (N' + 1) ht (iI c2) (iI 0) = some (iI (-2), ht) := by
              show fX12_change_b180_body N (fX12_change_b180 N 29 N') 29 ht (iI c2) (iI 0) = _
              simp only [fX12_change_b180_body, fX12_change_b215, fX12_change_b228, lit, iI_neg]
              refine bst (oIv (by rw [ss_29 hSt]) hTt.1.2.1) ?_
              refine ifn (a0) ?_
              refine bst (o30') ?_
              refine ifn (n10) ?_
              refine bst (o30') ?_
              refine ifn (n10) ?_
              rfl
            rw [← eN] at st
            exact st
          | false =>
            rw [hNOv] at gt30
            obtain ⟨hw, v1, v2, v3, v4⟩ := L_chW (N := N) hSt hzt ct hTt.1.2.1 gt30 (wk := wkf td dr dn (crf mv ft ft) (crf mv ft fd)) (c := iI c2) (fun i h' hi k => by
              have hg := gta i hi
              exact v_workOf hN (hSt.e hzt k (by decide)) (hTt.e hzt k (by decide) (by decide) (by decide)) (hDt.e hzt k (by decide) (by decide) (by decide)) (hRt.e hzt k (by decide) (by decide) (by decide) (by decide)) (hMt.e hzt k (by decide)) hL hdn hi (by rw [k.2.1 49 (by decide) (by omega)]; exact hg.1) (by rw [k.2.1 50 (by decide) (by omega)]; exact hg.2) (cb i hi).1 (cb i hi).2) nt 0 N ht Ke_rf rfl (by omega) (by omega) (fun k hk => by omega)
            exact ⟨hw, v1, v2, v3, fun _ => v4⟩
        have rf : fX12_change N hb 29 (iI s) (iI n) = some (iI (if NO then -2 else c2), hw) := by
          have e2b := v_inW (N := N) (h := hb) (x := s) (a := 0) (b := 9) a1 a2 (by omega) (by omega) (by omega) (by omega)
          have t2b := isTurn_m (N := N) (h := hb) z1 z2
          rw [if_pos qa] at e2b
          rw [if_pos qt] at t2b
          have c29 : (sh hb 29).1 = 12 := by rw [ss_29 hSb]
          have gnt : gI (uI (uI hb 1229 29 (iI 1)) 1230 29 (iI 0)) 1201 29 = iI nt := by
            have : gI hb 1201 29 = iI nt := by rw [ke0b.1 1201 29 (by decide) (by omega)]; exact hT.1.2.1
            simp [HR, this]
          simp only [fX12_change, lit]
          refine bst (e2b) ?_
          refine ifn (n10) ?_
          refine bst (t2b) ?_
          refine ifn (n10) ?_
          refine ifn (q1) ?_
          refine bst (qZv c29 (by omega)) ?_
          refine bst (qZv (by rw [sh_uI]; exact c29) (by omega)) ?_
          refine bst (oIv (by rw [sh_uI, sh_uI]; exact c29) gnt) ?_
          refine bst (qIv (by rw [sh_uI, sh_uI]; exact c29)) ?_
          rw [← ehq]
          exact x1.trans (y1.trans w1)
        have ecc : (if NO then -2 else c') = (if NO then -2 else c2) := by
          cases hNOv : NO with
          | true => rfl
          | false => rw [r2 hNOv, y2 hNOv]
        have ke0w : Ke [104, 105, 106, 107, 108, 1229, 1230, 1234] [26, 27, 49, 50, 51] [] [] h hw := ke0t.tr (kew.w (by decide) (by decide) (by decide) (by decide))
        have kbw : Ke [1229, 1230, 1234] [49, 50, 51] [] [] hb hw := (keq.w (by decide) (by decide) (by decide) (by decide)).tr ((ket.w (by decide) (by decide) (by decide) (by decide)).tr (kew.w (by decide) (by decide) (by decide) (by decide)))
        rw [ecc] at cl
        refine ⟨_, hb, hw, nt, true, NO, crf mv ft ft, crf mv ft fd, wkf td dr dn (crf mv ft ft) (crf mv ft fd), up cl, rf, ⟨⟨?_, ?_⟩, fun _ => ⟨⟨?_, ?_, ?_, Nat.le_refl nt⟩, fun i hi => ?_, fun i hi1 hi2 => ?_, fun hno => ⟨fun i hi => ⟨?_, wkf_4 _ _ _ _ _ _⟩, ?_, ?_, ?_⟩⟩⟩, ke0w, by omega⟩
        · rw [kbw.1 104 25 (by decide) (by omega)]; exact gb04
        · rw [kew.1 1229 29 (by decide) (by omega), ket.1 1229 29 (by decide) (by omega), ehq]
          simp [HR, b2]
        · rw [kbw.1 105 25 (by decide) (by omega)]; exact gb05
        · rw [kew.1 1230 29 (by decide) (by omega)]; exact gt30
        · rw [kew.1 1234 29 (by decide) (by omega), ket.1 1234 29 (by decide) (by omega), ehq]
          simp [HR]
        · have y3 := gb26 i (by omega)
          rw [if_pos hi, if_pos hi] at y3
          have y4 := gta i hi
          rw [kbw.2.1 26 (by decide) (by omega), kbw.2.1 27 (by decide) (by omega), kew.2.1 49 (by decide) (by omega), kew.2.1 50 (by decide) (by omega)]
          exact ⟨y3.1, y4.1, y3.2, y4.2⟩
        · have y3 := gb26 i hi2
          rw [if_neg (by omega), if_neg (by omega)] at y3
          rw [kbw.2.1 26 (by decide) (by omega), kbw.2.1 27 (by decide) (by omega)]
          exact y3
        · exact gw hno i hi
        · rw [kbw.1 106 25 (by decide) (by omega)]; exact gb2
        · rw [kbw.1 107 25 (by decide) (by omega)]; exact gb3
        · rw [kbw.1 108 25 (by decide) (by omega)]; exact gb5
    · rw [if_neg qt] at t1 t2
      refine ⟨iI (-1), h, h, na, as, no, cr, cd, wk, up ?_, ?_, hG, Ke_rf, rfl⟩
      · simp only [fX1_plan, fX1_plan_b21, lit, iI_neg]
        refine bst (e1) ?_
        refine ifn (n10) ?_
        refine bst (t1) ?_
        refine ifp (rfl) ?_
        rfl
      · simp only [fX12_change, fX12_change_b21, lit, iI_neg]
        refine bst (e2) ?_
        refine ifn (n10) ?_
        refine bst (t2) ?_
        refine ifp (rfl) ?_
        rfl
  · rw [if_neg qa] at e1 e2
    refine ⟨iI (-1), h, h, na, as, no, cr, cd, wk, up ?_, ?_, hG, Ke_rf, rfl⟩
    · simp only [fX1_plan, fX1_plan_b21, lit, iI_neg]
      refine bst (e1) ?_
      refine ifp (rfl) ?_
      rfl
    · simp only [fX12_change, fX12_change_b21, lit, iI_neg]
      refine bst (e2) ?_
      refine ifp (rfl) ?_
      rfl
/-! ===== men: it ends, on both sides, and leaves all but its own sheets as it was ===== -/
def OKh (A : List Nat) (h0 : Hs) (x : Option (Int32 × Hs)) : Prop := ∃ r h', x = some (r, h') ∧ Ke [] A [] [] h0 h' ∧ sz h' = sz h0
theorem m125 : ∀ x, x < 13 → ∀ y, y < 13 → ∀ z, z < 13 → x + y + z ≤ 12 → (x + 1) * (y + 1) * (z + 1) ≤ 125 := by decide +kernel
theorem slot_b {a b c tw th fi : Nat} (ha : a ≤ tw) (hb : b ≤ th) (hc : c ≤ fi) (hs : tw + th + fi ≤ 12) : (a * (th + 1) + b) * (fi + 1) + c < 125 := by
  have h0 := m125 tw (by omega) th (by omega) fi (by omega) hs
  have h1 : a * (th + 1) ≤ tw * (th + 1) := Nat.mul_le_mul_right _ ha
  have h2 : (a * (th + 1) + b) * (fi + 1) ≤ (tw * (th + 1) + th) * (fi + 1) := Nat.mul_le_mul_right _ (by omega)
  have h3 : (tw + 1) * (th + 1) = tw * (th + 1) + th + 1 := by rw [Nat.add_mul, Nat.one_mul]; omega
  rw [h3, Nat.add_mul, Nat.one_mul] at h0
  omega
theorem v_slot {N : Nat} {h : Hs} (hS : Sk h) {a b c th fi : Nat} (g7 : gI h 107 25 = iI th) (g8 : gI h 108 25 = iI fi) : fX1_slot N h 25 (iI a) (iI b) (iI c) = some (iI (((a * (th + 1) + b) * (fi + 1) + c : Nat) : Int), h) := by
  have c25 : (sh h 25).1 = 1 := by rw [ss_25 hS]
  have e : (((a * (th + 1) + b) * (fi + 1) + c : Nat) : Int) = ((a : Int) * ((th : Int) + 1) + b) * ((fi : Int) + 1) + c := by
    simp only [Int.natCast_add, Int.natCast_mul, Int.natCast_one]
  rw [e]
  simp only [fX1_slot, lit]
  refine bst (oIv c25 g7) ?_
  refine bst (oIv c25 g8) ?_
  simp only [iI_add, iI_mul]
theorem v_wW {N : Nat} {h : Hs} (p1 p2 p3 : Int32) : ∃ v, fX1_withWork N h 25 p1 p2 p3 = some (v, h) := by
  simp only [fX1_withWork, fX1_withWork_b15, fX1_withWork_b39]
  by_cases w : p3 < ((p1 - p1 / 100 * 100) + p2)
  · rw [if_pos w]
    exact ⟨_, if_pos trivial⟩
  · rw [if_neg w]
    exact ⟨_, if_neg (by decide)⟩
theorem v_lS {N : Nat} {h : Hs} (hS : Sk h) {a b c tw th fi : Nat} (ha : a ≤ tw) (hb : b ≤ th) (hc : c ≤ fi) (hs : tw + th + fi ≤ 12) (g7 : gI h 107 25 = iI th) (g8 : gI h 108 25 = iI fi) (p : Int32) : ∃ v, fX1_leastShare N h 25 (iI a) (iI b) (iI c) p = some (v, h) := by
  have rc1 : rc 1 h (some 25) = some 25 := rcv (by rw [ss_25 hS])
  have l82 : ∀ u : Int32, ∃ v, fX1_leastShare_b82 N 25 h (iI a) (iI b) (iI c) p u = some (v, h) := by
    intro u
    simp only [fX1_leastShare_b82, fX1_leastShare_b114, lit, Option.bind_some]
    by_cases w : c = 0
    · exact ⟨u, by rw [if_pos (by rw [w]; exact Int32.le_refl _)]⟩
    · have w0 : ¬ iI (c : Int) ≤ iI 0 := fun q => by have := (iI_le (by omega) (by omega) (by omega) (by omega)).mp q; omega
      have sl := v_slot (N := N) hS (a := a) (b := b) (c := c - 1) g7 g8
      have sb := slot_b (c := c - 1) ha hb (by omega) hs
      have ec : iI (c : Int) - iI 1 = iI ((c - 1 : Nat) : Int) := by rw [iI_sub]; congr 1; omega
      obtain ⟨v, hv⟩ := v_wW (N := N) (h := h) (aI h 28 ((a * (th + 1) + b) * (fi + 1) + (c - 1))) (iI 5) p
      refine ⟨if v < u then v else u, ?_⟩
      · skip
        refine ifn (w0) ?_
        refine bst (sR_103_25 hS) ?_
        refine bst (rc1) ?_
        rw [ec]
        refine bst (sl) ?_
        refine bst (lAv (ss_28 hS) sb (by omega) rfl) ?_
        refine bst (rc1) ?_
        refine bst (hv) ?_
        rfl
  have l50 : ∀ u : Int32, ∃ v, fX1_leastShare_b50 N 25 h (iI a) (iI b) (iI c) p u = some (v, h) := by
    intro u
    simp only [fX1_leastShare_b50, lit, Option.bind_some]
    by_cases w : b = 0
    · obtain ⟨v, hv⟩ := l82 u
      exact ⟨v, by rw [if_pos (by rw [w]; exact Int32.le_refl _)]; exact hv⟩
    · have w0 : ¬ iI (b : Int) ≤ iI 0 := fun q => by have := (iI_le (by omega) (by omega) (by omega) (by omega)).mp q; omega
      have sl := v_slot (N := N) hS (a := a) (b := b - 1) (c := c) g7 g8
      have sb := slot_b (b := b - 1) ha (by omega) hc hs
      have ec : iI (b : Int) - iI 1 = iI ((b - 1 : Nat) : Int) := by rw [iI_sub]; congr 1; omega
      obtain ⟨v, hv⟩ := v_wW (N := N) (h := h) (aI h 28 ((a * (th + 1) + (b - 1)) * (fi + 1) + c)) (iI 3) p
      obtain ⟨x, hx⟩ := l82 (if v < u then v else u)
      refine ⟨x, ?_⟩
      · skip
        refine ifn (w0) ?_
        refine bst (sR_103_25 hS) ?_
        refine bst (rc1) ?_
        rw [ec]
        refine bst (sl) ?_
        refine bst (lAv (ss_28 hS) sb (by omega) rfl) ?_
        refine bst (rc1) ?_
        refine bst (hv) ?_
        exact hx
  have l16 : ∀ u : Int32, ∃ v, fX1_leastShare_b16 N 25 h (iI a) (iI b) (iI c) p u = some (v, h) := by
    intro u
    simp only [fX1_leastShare_b16, lit, Option.bind_some]
    by_cases w : a = 0
    · obtain ⟨v, hv⟩ := l50 u
      exact ⟨v, by rw [if_pos (by rw [w]; exact Int32.le_refl _)]; exact hv⟩
    · have w0 : ¬ iI (a : Int) ≤ iI 0 := fun q => by have := (iI_le (by omega) (by omega) (by omega) (by omega)).mp q; omega
      have sl := v_slot (N := N) hS (a := a - 1) (b := b) (c := c) g7 g8
      have sb := slot_b (a := a - 1) (by omega) hb hc hs
      have ec : iI (a : Int) - iI 1 = iI ((a - 1 : Nat) : Int) := by rw [iI_sub]; congr 1; omega
      obtain ⟨v, hv⟩ := v_wW (N := N) (h := h) (aI h 28 (((a - 1) * (th + 1) + b) * (fi + 1) + c)) (iI 2) p
      obtain ⟨x, hx⟩ := l50 (if v < u then v else u)
      refine ⟨x, ?_⟩
      · skip
        refine ifn (w0) ?_
        refine bst (sR_103_25 hS) ?_
        refine bst (rc1) ?_
        rw [ec]
        refine bst (sl) ?_
        refine bst (lAv (ss_28 hS) sb (by omega) rfl) ?_
        refine bst (rc1) ?_
        refine bst (hv) ?_
        exact hx
  unfold fX1_leastShare
  by_cases w : ((iI (a : Int) + iI b) + iI c) = 0
  · rw [if_pos w]; exact l16 _
  · rw [if_neg w]; exact l16 _
theorem v_shO {N : Nat} (hN : 100000000 ≤ N) {h0 : Hs} (hS0 : Sk h0) (hz : 70 ≤ sz h0) {tw th fi : Nat} (hs : tw + th + fi ≤ 12) (g6 : gI h0 106 25 = iI tw) (g7 : gI h0 107 25 = iI th) (g8 : gI h0 108 25 = iI fi) (p : Int32) : OKh [28] h0 (fX1_shareOut N h0 25 p) := by
  have L27 : ∀ (a b : Nat), a ≤ tw → b ≤ th → ∀ (g4 : Hs → Int32 → Int32 → Int32 → Option (Int32 × Hs)) (g15 : Hs → Int32 → Int32 → Int32 → Int32 → Option (Int32 × Hs)), (∀ h x2, Ke [] [28] [] [] h0 h → sz h = sz h0 → OKh [28] h0 (g15 h p x2 (iI a) (iI ((b : Int) + 1)))) → ∀ (e c fu : Nat) (h : Hs) (x2 : Int32), Ke [] [28] [] [] h0 h → sz h = sz h0 → c + e = fi + 1 → e < fu → OKh [28] h0 (fX1_shareOut_b27 N g4 g15 25 fu h p x2 (iI a) (iI b) (iI c)) := by
    intro a b ha hb g4 g15 G e
    induction e with
    | zero =>
      intro c fu h x2 ke s0 hc hf
      obtain ⟨fu, rfl⟩ : ∃ m, fu = m + 1 := ⟨fu - 1, by omega⟩
      have hS := hS0.e hz ke (by decide)
      have c25 : (sh h 25).1 = 1 := by rw [ss_25 hS]
      have a1 : iI (fi : Int) < iI (c : Int) := (iI_lt (by omega) (by omega) (by omega) (by omega)).mpr (by omega)
      have st : fX1_shareOut_b27 N g4 g15 25 (fu + 1) h p x2 (iI a) (iI b) (iI c) = g15 h p x2 (iI a) (iI ((b : Int) + 1)) := by
        show fX1_shareOut_b27_body N g4 g15 (fX1_shareOut_b27 N g4 g15 25 fu) 25 h p x2 (iI a) (iI b) (iI c) = _
        simp only [fX1_shareOut_b27_body, lit, iI_add, Option.bind_some]
        refine bst (oIv c25 ((ke.1 108 25 (by decide) (by omega)).trans g8)) ?_
        refine ifp (a1) ?_
        rfl
      rw [st]
      exact G h x2 ke s0
    | succ e ih =>
      intro c fu h x2 ke s0 hc hf
      obtain ⟨fu, rfl⟩ : ∃ m, fu = m + 1 := ⟨fu - 1, by omega⟩
      have hS := hS0.e hz ke (by decide)
      have c25 : (sh h 25).1 = 1 := by rw [ss_25 hS]
      have a1 : ¬ iI (fi : Int) < iI (c : Int) := fun q => by have := (iI_lt (by omega) (by omega) (by omega) (by omega)).mp q; omega
      have k7 : gI h 107 25 = iI th := by rw [ke.1 107 25 (by decide) (by omega)]; exact g7
      have k8 : gI h 108 25 = iI fi := by rw [ke.1 108 25 (by decide) (by omega)]; exact g8
      obtain ⟨v, hv⟩ := v_lS (N := N) hS ha hb (show c ≤ fi by omega) hs k7 k8 p
      have sl := v_slot (N := N) hS (a := a) (b := b) (c := c) k7 k8
      have sb := slot_b ha hb (show c ≤ fi by omega) hs
      have rc1 : rc 1 h (some 25) = some 25 := rcv (by rw [ss_25 hS])
      have ke2 : Ke [] [28] [] [] h0 (uA h 28 ((a * (th + 1) + b) * (fi + 1) + c) v) := ke.b 28 _ _ (by decide)
      have st : fX1_shareOut_b27 N g4 g15 25 (fu + 1) h p x2 (iI a) (iI b) (iI c) = fX1_shareOut_b27 N g4 g15 25 fu (uA h 28 ((a * (th + 1) + b) * (fi + 1) + c) v) p v (iI a) (iI b) (iI ((c : Int) + 1)) := by
        show fX1_shareOut_b27_body N g4 g15 (fX1_shareOut_b27 N g4 g15 25 fu) 25 h p x2 (iI a) (iI b) (iI c) = _
        simp only [fX1_shareOut_b27_body, lit, iI_add, Option.bind_some]
        refine bst (oIv c25 k8) ?_
        refine ifn (a1) ?_
        refine bst (rc1) ?_
        refine bst (hv) ?_
        refine bst (sR_103_25 hS) ?_
        refine bst (rc1) ?_
        refine bst (sl) ?_
        refine bst (sAv (ss_28 hS) sb (by omega)) ?_
        rfl
      rw [st]
      have := ih (c + 1) fu _ v ke2 s0 (by omega) (by omega)
      simp only [Int.natCast_add, Int.natCast_one] at this
      exact this
  have L15 : ∀ (a : Nat), a ≤ tw → ∀ (g4 : Hs → Int32 → Int32 → Int32 → Option (Int32 × Hs)), (∀ h x2, Ke [] [28] [] [] h0 h → sz h = sz h0 → OKh [28] h0 (g4 h p x2 (iI ((a : Int) + 1)))) → ∀ (e b fu : Nat) (h : Hs) (x2 : Int32), Ke [] [28] [] [] h0 h → sz h = sz h0 → b + e = th + 1 → e < fu → OKh [28] h0 (fX1_shareOut_b15 N g4 25 fu h p x2 (iI a) (iI b)) := by
    intro a ha g4 G e
    induction e with
    | zero =>
      intro b fu h x2 ke s0 hc hf
      obtain ⟨fu, rfl⟩ : ∃ m, fu = m + 1 := ⟨fu - 1, by omega⟩
      have hS := hS0.e hz ke (by decide)
      have c25 : (sh h 25).1 = 1 := by rw [ss_25 hS]
      have a1 : iI (th : Int) < iI (b : Int) := (iI_lt (by omega) (by omega) (by omega) (by omega)).mpr (by omega)
      have st : fX1_shareOut_b15 N g4 25 (fu + 1) h p x2 (iI a) (iI b) = g4 h p x2 (iI ((a : Int) + 1)) := by
        show fX1_shareOut_b15_body N g4 (fX1_shareOut_b15 N g4 25 fu) 25 h p x2 (iI a) (iI b) = _
        simp only [fX1_shareOut_b15_body, lit, iI_add, Option.bind_some]
        refine bst (oIv c25 ((ke.1 107 25 (by decide) (by omega)).trans g7)) ?_
        refine ifp (a1) ?_
        rfl
      rw [st]
      exact G h x2 ke s0
    | succ e ih =>
      intro b fu h x2 ke s0 hc hf
      obtain ⟨fu, rfl⟩ : ∃ m, fu = m + 1 := ⟨fu - 1, by omega⟩
      have hS := hS0.e hz ke (by decide)
      have c25 : (sh h 25).1 = 1 := by rw [ss_25 hS]
      have a1 : ¬ iI (th : Int) < iI (b : Int) := fun q => by have := (iI_lt (by omega) (by omega) (by omega) (by omega)).mp q; omega
      have st : fX1_shareOut_b15 N g4 25 (fu + 1) h p x2 (iI a) (iI b) = fX1_shareOut_b27 N g4 (fX1_shareOut_b15 N g4 25 fu) 25 N h p x2 (iI a) (iI b) (iI 0) := by
        show fX1_shareOut_b15_body N g4 (fX1_shareOut_b15 N g4 25 fu) 25 h p x2 (iI a) (iI b) = _
        simp only [fX1_shareOut_b15_body, lit]
        refine bst (oIv c25 ((ke.1 107 25 (by decide) (by omega)).trans g7)) ?_
        refine ifn (a1) ?_
        rfl
      rw [st]
      exact L27 a b ha (by omega) g4 _ (fun h' x' k' s' => by
        have := ih (b + 1) fu h' x' k' s' (by omega) (by omega)
        simp only [Int.natCast_add, Int.natCast_one] at this
        exact this) (fi + 1) 0 N h x2 ke s0 (by omega) (by omega)
  have L4 : ∀ (e a fu : Nat) (h : Hs) (x2 : Int32), Ke [] [28] [] [] h0 h → sz h = sz h0 → a + e = tw + 1 → e < fu → OKh [28] h0 (fX1_shareOut_b4 N 25 fu h p x2 (iI a)) := by
    intro e
    induction e with
    | zero =>
      intro a fu h x2 ke s0 hc hf
      obtain ⟨fu, rfl⟩ : ∃ m, fu = m + 1 := ⟨fu - 1, by omega⟩
      have hS := hS0.e hz ke (by decide)
      have c25 : (sh h 25).1 = 1 := by rw [ss_25 hS]
      have a1 : iI (tw : Int) < iI (a : Int) := (iI_lt (by omega) (by omega) (by omega) (by omega)).mpr (by omega)
      refine ⟨x2, h, ?_, ke, s0⟩
      show fX1_shareOut_b4_body N (fX1_shareOut_b4 N 25 fu) 25 h p x2 (iI a) = _
      simp only [fX1_shareOut_b4_body]
      refine bst (oIv c25 ((ke.1 106 25 (by decide) (by omega)).trans g6)) ?_
      refine ifp (a1) ?_
      rfl
    | succ e ih =>
      intro a fu h x2 ke s0 hc hf
      obtain ⟨fu, rfl⟩ : ∃ m, fu = m + 1 := ⟨fu - 1, by omega⟩
      have hS := hS0.e hz ke (by decide)
      have c25 : (sh h 25).1 = 1 := by rw [ss_25 hS]
      have a1 : ¬ iI (tw : Int) < iI (a : Int) := fun q => by have := (iI_lt (by omega) (by omega) (by omega) (by omega)).mp q; omega
      have st : fX1_shareOut_b4 N 25 (fu + 1) h p x2 (iI a) = fX1_shareOut_b15 N (fX1_shareOut_b4 N 25 fu) 25 N h p x2 (iI a) (iI 0) := by
        show fX1_shareOut_b4_body N (fX1_shareOut_b4 N 25 fu) 25 h p x2 (iI a) = _
        simp only [fX1_shareOut_b4_body, lit]
        refine bst (oIv c25 ((ke.1 106 25 (by decide) (by omega)).trans g6)) ?_
        refine ifn (a1) ?_
        rfl
      rw [st]
      exact L15 a (by omega) _ (fun h' x' k' s' => by
        have := ih (a + 1) fu h' x' k' s' (by omega) (by omega)
        simp only [Int.natCast_add, Int.natCast_one] at this
        exact this) (th + 1) 0 N h x2 ke s0 (by omega) (by omega)
  exact L4 (tw + 1) 0 N h0 p Ke_rf rfl (by omega) (by omega)
/-! the reference's sheet -/
theorem v_mF {N : Nat} (hN : 100000000 ≤ N) {h0 : Hs} (hS0 : Sk h0) (hz : 70 ≤ sz h0) {f5 f3 f2 : Nat} (h5 : f5 ≤ 12) (h3 : f3 ≤ 12) (h2 : f2 ≤ 12) (p : Int32) : OKh [52] h0 (fX12_menFor N h0 29 (iI f5) (iI f3) (iI f2) p) := by
  have ld : ∀ (h : Hs) (n : Nat), Ke [] [52] [] [] h0 h → n < 2197 → lA 20 h (some 52) (iI n) = some (aI h 52 n) := fun h n ke hn => lAv (ss_52 (hS0.e hz ke (by decide))) hn (by omega) rfl
  have L70 : ∀ (a b c x y : Nat), a ≤ 12 → b ≤ 12 → c ≤ 12 → x ≤ a → y ≤ b → ∀ (g3 : Hs → Int32 → Int32 → Int32 → Int32 → Int32 → Option (Int32 × Hs)) (g12 : Hs → Int32 → Int32 → Int32 → Int32 → Int32 → Int32 → Option (Int32 × Hs)) (g21 : Hs → Int32 → Int32 → Int32 → Int32 → Int32 → Int32 → Int32 → Option (Int32 × Hs)) (g50 : Hs → Int32 → Int32 → Int32 → Int32 → Int32 → Int32 → Int32 → Int32 → Int32 → Option (Int32 × Hs)) (g60 : Hs → Int32 → Int32 → Int32 → Int32 → Int32 → Int32 → Int32 → Int32 → Int32 → Int32 → Option (Int32 × Hs)), (∀ h x8, Ke [] [52] [] [] h0 h → sz h = sz h0 → OKh [52] h0 (g60 h (iI f5) (iI f3) (iI f2) p (iI a) (iI b) (iI c) x8 (iI x) (iI ((y : Int) + 1)))) → ∀ (e z fu : Nat) (h : Hs) (x8 : Int32), Ke [] [52] [] [] h0 h → sz h = sz h0 → z + e = c + 1 → e < fu → OKh [52] h0 (fX12_menFor_b70 N g3 g12 g21 g50 g60 29 fu h (iI f5) (iI f3) (iI f2) p (iI a) (iI b) (iI c) x8 (iI x) (iI y) (iI z)) := by
    intro a b c x y ha hb hc hx hy g3 g12 g21 g50 g60 G e
    induction e with
    | zero =>
      intro z fu h x8 ke s0 hz' hf
      obtain ⟨fu, rfl⟩ : ∃ m, fu = m + 1 := ⟨fu - 1, by omega⟩
      have a1 : iI (c : Int) < iI (z : Int) := (iI_lt (by omega) (by omega) (by omega) (by omega)).mpr (by omega)
      have st : fX12_menFor_b70 N g3 g12 g21 g50 g60 29 (fu + 1) h (iI f5) (iI f3) (iI f2) p (iI a) (iI b) (iI c) x8 (iI x) (iI y) (iI z) = g60 h (iI f5) (iI f3) (iI f2) p (iI a) (iI b) (iI c) x8 (iI x) (iI ((y : Int) + 1)) := by
        show fX12_menFor_b70_body N g3 g12 g21 g50 g60 (fX12_menFor_b70 N g3 g12 g21 g50 g60 29 fu) 29 h (iI f5) (iI f3) (iI f2) p (iI a) (iI b) (iI c) x8 (iI x) (iI y) (iI z) = _
        simp only [fX12_menFor_b70_body, lit, iI_add, Option.bind_some]
        refine ifp (a1) ?_
        rfl
      rw [st]
      exact G h x8 ke s0
    | succ e ih =>
      intro z fu h x8 ke s0 hz' hf
      obtain ⟨fu, rfl⟩ : ∃ m, fu = m + 1 := ⟨fu - 1, by omega⟩
      have hS := hS0.e hz ke (by decide)
      have a1 : ¬ iI (c : Int) < iI (z : Int) := fun q => by have := (iI_lt (by omega) (by omega) (by omega) (by omega)).mp q; omega
      have nx : ∀ x8 : Int32, OKh [52] h0 (fX12_menFor_b70 N g3 g12 g21 g50 g60 29 fu h (iI f5) (iI f3) (iI f2) p (iI a) (iI b) (iI c) x8 (iI x) (iI y) (iI ((z : Int) + 1))) := fun x8 => by
        have := ih (z + 1) fu h x8 ke s0 (by omega) (by omega)
        simp only [Int.natCast_add, Int.natCast_one] at this
        exact this
      have st : ∃ u : Int32, fX12_menFor_b70 N g3 g12 g21 g50 g60 29 (fu + 1) h (iI f5) (iI f3) (iI f2) p (iI a) (iI b) (iI c) x8 (iI x) (iI y) (iI z) = fX12_menFor_b70 N g3 g12 g21 g50 g60 29 fu h (iI f5) (iI f3) (iI f2) p (iI a) (iI b) (iI c) u (iI x) (iI y) (iI ((z : Int) + 1)) := by
        have un : fX12_menFor_b70 N g3 g12 g21 g50 g60 29 (fu + 1) h (iI f5) (iI f3) (iI f2) p (iI a) (iI b) (iI c) x8 (iI x) (iI y) (iI z) = fX12_menFor_b70_body N g3 g12 g21 g50 g60 (fX12_menFor_b70 N g3 g12 g21 g50 g60 29 fu) 29 h (iI f5) (iI f3) (iI f2) p (iI a) (iI b) (iI c) x8 (iI x) (iI y) (iI z) := rfl
        rw [un]
        simp only [fX12_menFor_b70_body, fX12_menFor_b157, fX12_menFor_b159, Option.bind_some]
        have e1 : iI (z : Int) + 1 = iI ((z : Int) + 1) := by rw [show (1 : Int32) = iI 1 from rfl, iI_add]
        rw [if_neg a1, e1]
        by_cases w1 : ((iI (x : Int) + iI y) + iI z) = 0
        · exact ⟨x8, by rw [if_pos w1]⟩
        · rw [if_neg w1]
          by_cases w2 : (((5 * iI (x : Int)) + (3 * iI (y : Int))) + (2 * iI (z : Int))) ≤ p
          · rw [if_pos w2]
            have ei : ((((169 * (iI (a : Int) - iI x)) + (13 * (iI (b : Int) - iI y))) + iI (c : Int)) - iI z) = iI ((169 * (a - x) + 13 * (b - y) + c - z : Nat) : Int) := by
              simp only [lit, iI_sub, iI_mul, iI_add]
              congr 1
              omega
            have l := ld h (169 * (a - x) + 13 * (b - y) + c - z) ke (by omega)
            rw [ei]
            by_cases w3 : x8 ≤ 1 + aI h 52 (169 * (a - x) + 13 * (b - y) + c - z)
            · refine ⟨x8, ?_⟩
              refine bst (sR_1235_29 hS) ?_
              refine bst (l) ?_
              refine ifp (w3) ?_
              rfl
            · refine ⟨1 + aI h 52 (169 * (a - x) + 13 * (b - y) + c - z), ?_⟩
              refine bst (sR_1235_29 hS) ?_
              refine bst (l) ?_
              refine ifn (w3) ?_
              rfl
          · exact ⟨x8, by rw [if_neg w2]⟩
      obtain ⟨u, hu⟩ := st
      rw [hu]
      exact nx u
  have L60 : ∀ (a b c x : Nat), a ≤ 12 → b ≤ 12 → c ≤ 12 → x ≤ a → ∀ (g3 : Hs → Int32 → Int32 → Int32 → Int32 → Int32 → Option (Int32 × Hs)) (g12 : Hs → Int32 → Int32 → Int32 → Int32 → Int32 → Int32 → Option (Int32 × Hs)) (g21 : Hs → Int32 → Int32 → Int32 → Int32 → Int32 → Int32 → Int32 → Option (Int32 × Hs)) (g50 : Hs → Int32 → Int32 → Int32 → Int32 → Int32 → Int32 → Int32 → Int32 → Int32 → Option (Int32 × Hs)), (∀ h x8, Ke [] [52] [] [] h0 h → sz h = sz h0 → OKh [52] h0 (g50 h (iI f5) (iI f3) (iI f2) p (iI a) (iI b) (iI c) x8 (iI ((x : Int) + 1)))) → ∀ (e y fu : Nat) (h : Hs) (x8 : Int32), Ke [] [52] [] [] h0 h → sz h = sz h0 → y + e = b + 1 → e < fu → OKh [52] h0 (fX12_menFor_b60 N g3 g12 g21 g50 29 fu h (iI f5) (iI f3) (iI f2) p (iI a) (iI b) (iI c) x8 (iI x) (iI y)) := by
    intro a b c x ha hb hc hx g3 g12 g21 g50 G e
    induction e with
    | zero =>
      intro y fu h x8 ke s0 hz' hf
      obtain ⟨fu, rfl⟩ : ∃ m, fu = m + 1 := ⟨fu - 1, by omega⟩
      have a1 : iI (b : Int) < iI (y : Int) := (iI_lt (by omega) (by omega) (by omega) (by omega)).mpr (by omega)
      have st : fX12_menFor_b60 N g3 g12 g21 g50 29 (fu + 1) h (iI f5) (iI f3) (iI f2) p (iI a) (iI b) (iI c) x8 (iI x) (iI y) = g50 h (iI f5) (iI f3) (iI f2) p (iI a) (iI b) (iI c) x8 (iI ((x : Int) + 1)) := by
        show fX12_menFor_b60_body N g3 g12 g21 g50 (fX12_menFor_b60 N g3 g12 g21 g50 29 fu) 29 h (iI f5) (iI f3) (iI f2) p (iI a) (iI b) (iI c) x8 (iI x) (iI y) = _
        simp only [fX12_menFor_b60_body, lit, iI_add, Option.bind_some]
        refine ifp (a1) ?_
        rfl
      rw [st]
      exact G h x8 ke s0
    | succ e ih =>
      intro y fu h x8 ke s0 hz' hf
      obtain ⟨fu, rfl⟩ : ∃ m, fu = m + 1 := ⟨fu - 1, by omega⟩
      have a1 : ¬ iI (b : Int) < iI (y : Int) := fun q => by have := (iI_lt (by omega) (by omega) (by omega) (by omega)).mp q; omega
      have st : fX12_menFor_b60 N g3 g12 g21 g50 29 (fu + 1) h (iI f5) (iI f3) (iI f2) p (iI a) (iI b) (iI c) x8 (iI x) (iI y) = fX12_menFor_b70 N g3 g12 g21 g50 (fX12_menFor_b60 N g3 g12 g21 g50 29 fu) 29 N h (iI f5) (iI f3) (iI f2) p (iI a) (iI b) (iI c) x8 (iI x) (iI y) (iI 0) := by
        show fX12_menFor_b60_body N g3 g12 g21 g50 (fX12_menFor_b60 N g3 g12 g21 g50 29 fu) 29 h (iI f5) (iI f3) (iI f2) p (iI a) (iI b) (iI c) x8 (iI x) (iI y) = _
        simp only [fX12_menFor_b60_body, lit]
        refine ifn (a1) ?_
        rfl
      rw [st]
      exact L70 a b c x y ha hb hc hx (by omega) g3 g12 g21 g50 _ (fun h' x' k' s' => by
        have := ih (y + 1) fu h' x' k' s' (by omega) (by omega)
        simp only [Int.natCast_add, Int.natCast_one] at this
        exact this) (c + 1) 0 N h x8 ke s0 (by omega) (by omega)
  have L50 : ∀ (a b c : Nat), a ≤ 12 → b ≤ 12 → c ≤ 12 → ∀ (g3 : Hs → Int32 → Int32 → Int32 → Int32 → Int32 → Option (Int32 × Hs)) (g12 : Hs → Int32 → Int32 → Int32 → Int32 → Int32 → Int32 → Option (Int32 × Hs)) (g21 : Hs → Int32 → Int32 → Int32 → Int32 → Int32 → Int32 → Int32 → Option (Int32 × Hs)), (∀ h, Ke [] [52] [] [] h0 h → sz h = sz h0 → OKh [52] h0 (g21 h (iI f5) (iI f3) (iI f2) p (iI a) (iI b) (iI ((c : Int) + 1)))) → ∀ (e x fu : Nat) (h : Hs) (x8 : Int32), Ke [] [52] [] [] h0 h → sz h = sz h0 → x + e = a + 1 → e < fu → OKh [52] h0 (fX12_menFor_b50 N g3 g12 g21 29 fu h (iI f5) (iI f3) (iI f2) p (iI a) (iI b) (iI c) x8 (iI x)) := by
    intro a b c ha hb hc g3 g12 g21 G e
    induction e with
    | zero =>
      intro x fu h x8 ke s0 hz' hf
      obtain ⟨fu, rfl⟩ : ∃ m, fu = m + 1 := ⟨fu - 1, by omega⟩
      have hS := hS0.e hz ke (by decide)
      have a1 : iI (a : Int) < iI (x : Int) := (iI_lt (by omega) (by omega) (by omega) (by omega)).mpr (by omega)
      have ei : iI 169 * iI (a : Int) + iI 13 * iI (b : Int) + iI (c : Int) = iI ((169 * a + 13 * b + c : Nat) : Int) := by
        simp only [iI_mul, iI_add]
        congr 1
      have st : fX12_menFor_b50 N g3 g12 g21 29 (fu + 1) h (iI f5) (iI f3) (iI f2) p (iI a) (iI b) (iI c) x8 (iI x) = g21 (uA h 52 (169 * a + 13 * b + c) x8) (iI f5) (iI f3) (iI f2) p (iI a) (iI b) (iI ((c : Int) + 1)) := by
        show fX12_menFor_b50_body N g3 g12 g21 (fX12_menFor_b50 N g3 g12 g21 29 fu) 29 h (iI f5) (iI f3) (iI f2) p (iI a) (iI b) (iI c) x8 (iI x) = _
        simp only [fX12_menFor_b50_body, lit, Option.bind_some]
        refine ifp (a1) ?_
        refine bst (sR_1235_29 hS) ?_
        rw [ei]
        refine bst (sAv (ss_52 hS) (by omega) (by omega)) ?_
        rw [iI_add]
      rw [st]
      exact G _ (ke.b 52 _ _ (by decide)) s0
    | succ e ih =>
      intro x fu h x8 ke s0 hz' hf
      obtain ⟨fu, rfl⟩ : ∃ m, fu = m + 1 := ⟨fu - 1, by omega⟩
      have a1 : ¬ iI (a : Int) < iI (x : Int) := fun q => by have := (iI_lt (by omega) (by omega) (by omega) (by omega)).mp q; omega
      have st : fX12_menFor_b50 N g3 g12 g21 29 (fu + 1) h (iI f5) (iI f3) (iI f2) p (iI a) (iI b) (iI c) x8 (iI x) = fX12_menFor_b60 N g3 g12 g21 (fX12_menFor_b50 N g3 g12 g21 29 fu) 29 N h (iI f5) (iI f3) (iI f2) p (iI a) (iI b) (iI c) x8 (iI x) (iI 0) := by
        show fX12_menFor_b50_body N g3 g12 g21 (fX12_menFor_b50 N g3 g12 g21 29 fu) 29 h (iI f5) (iI f3) (iI f2) p (iI a) (iI b) (iI c) x8 (iI x) = _
        simp only [fX12_menFor_b50_body, lit]
        refine ifn (a1) ?_
        rfl
      rw [st]
      exact L60 a b c x ha hb hc (by omega) g3 g12 g21 _ (fun h' x' k' s' => by
        have := ih (x + 1) fu h' x' k' s' (by omega) (by omega)
        simp only [Int.natCast_add, Int.natCast_one] at this
        exact this) (b + 1) 0 N h x8 ke s0 (by omega) (by omega)
  have L21 : ∀ (a b : Nat), a ≤ 12 → b ≤ 12 → ∀ (g3 : Hs → Int32 → Int32 → Int32 → Int32 → Int32 → Option (Int32 × Hs)) (g12 : Hs → Int32 → Int32 → Int32 → Int32 → Int32 → Int32 → Option (Int32 × Hs)), (∀ h, Ke [] [52] [] [] h0 h → sz h = sz h0 → OKh [52] h0 (g12 h (iI f5) (iI f3) (iI f2) p (iI a) (iI ((b : Int) + 1)))) → ∀ (e c fu : Nat) (h : Hs), Ke [] [52] [] [] h0 h → sz h = sz h0 → c + e = f2 + 1 → e < fu → OKh [52] h0 (fX12_menFor_b21 N g3 g12 29 fu h (iI f5) (iI f3) (iI f2) p (iI a) (iI b) (iI c)) := by
    intro a b ha hb g3 g12 G e
    induction e with
    | zero =>
      intro c fu h ke s0 hz' hf
      obtain ⟨fu, rfl⟩ : ∃ m, fu = m + 1 := ⟨fu - 1, by omega⟩
      have a1 : iI (f2 : Int) < iI (c : Int) := (iI_lt (by omega) (by omega) (by omega) (by omega)).mpr (by omega)
      have st : fX12_menFor_b21 N g3 g12 29 (fu + 1) h (iI f5) (iI f3) (iI f2) p (iI a) (iI b) (iI c) = g12 h (iI f5) (iI f3) (iI f2) p (iI a) (iI ((b : Int) + 1)) := by
        show fX12_menFor_b21_body N g3 g12 (fX12_menFor_b21 N g3 g12 29 fu) 29 h (iI f5) (iI f3) (iI f2) p (iI a) (iI b) (iI c) = _
        simp only [fX12_menFor_b21_body, lit, iI_add, Option.bind_some]
        refine ifp (a1) ?_
        rfl
      rw [st]
      exact G h ke s0
    | succ e ih =>
      intro c fu h ke s0 hz' hf
      obtain ⟨fu, rfl⟩ : ∃ m, fu = m + 1 := ⟨fu - 1, by omega⟩
      have a1 : ¬ iI (f2 : Int) < iI (c : Int) := fun q => by have := (iI_lt (by omega) (by omega) (by omega) (by omega)).mp q; omega
      have st : ∃ u : Int32, fX12_menFor_b21 N g3 g12 29 (fu + 1) h (iI f5) (iI f3) (iI f2) p (iI a) (iI b) (iI c) = fX12_menFor_b50 N g3 g12 (fX12_menFor_b21 N g3 g12 29 fu) 29 N h (iI f5) (iI f3) (iI f2) p (iI a) (iI b) (iI c) u (iI 0) := by
        have un : fX12_menFor_b21 N g3 g12 29 (fu + 1) h (iI f5) (iI f3) (iI f2) p (iI a) (iI b) (iI c) = fX12_menFor_b21_body N g3 g12 (fX12_menFor_b21 N g3 g12 29 fu) 29 h (iI f5) (iI f3) (iI f2) p (iI a) (iI b) (iI c) := rfl
        rw [un]
        simp only [fX12_menFor_b21_body, fX12_menFor_b45, lit]
        rw [if_neg a1]
        by_cases w : ((iI (a : Int) + iI b) + iI c) = iI 0
        · exact ⟨_, by rw [if_pos w]⟩
        · exact ⟨_, by rw [if_neg w]⟩
      obtain ⟨u, hu⟩ := st
      rw [hu]
      exact L50 a b c ha hb (by omega) g3 g12 _ (fun h' k' s' => by
        have := ih (c + 1) fu h' k' s' (by omega) (by omega)
        simp only [Int.natCast_add, Int.natCast_one] at this
        exact this) (a + 1) 0 N h u ke s0 (by omega) (by omega)
  have L12 : ∀ (a : Nat), a ≤ 12 → ∀ (g3 : Hs → Int32 → Int32 → Int32 → Int32 → Int32 → Option (Int32 × Hs)), (∀ h, Ke [] [52] [] [] h0 h → sz h = sz h0 → OKh [52] h0 (g3 h (iI f5) (iI f3) (iI f2) p (iI ((a : Int) + 1)))) → ∀ (e b fu : Nat) (h : Hs), Ke [] [52] [] [] h0 h → sz h = sz h0 → b + e = f3 + 1 → e < fu → OKh [52] h0 (fX12_menFor_b12 N g3 29 fu h (iI f5) (iI f3) (iI f2) p (iI a) (iI b)) := by
    intro a ha g3 G e
    induction e with
    | zero =>
      intro b fu h ke s0 hz' hf
      obtain ⟨fu, rfl⟩ : ∃ m, fu = m + 1 := ⟨fu - 1, by omega⟩
      have a1 : iI (f3 : Int) < iI (b : Int) := (iI_lt (by omega) (by omega) (by omega) (by omega)).mpr (by omega)
      have st : fX12_menFor_b12 N g3 29 (fu + 1) h (iI f5) (iI f3) (iI f2) p (iI a) (iI b) = g3 h (iI f5) (iI f3) (iI f2) p (iI ((a : Int) + 1)) := by
        show fX12_menFor_b12_body N g3 (fX12_menFor_b12 N g3 29 fu) 29 h (iI f5) (iI f3) (iI f2) p (iI a) (iI b) = _
        simp only [fX12_menFor_b12_body, lit, iI_add, Option.bind_some]
        refine ifp (a1) ?_
        rfl
      rw [st]
      exact G h ke s0
    | succ e ih =>
      intro b fu h ke s0 hz' hf
      obtain ⟨fu, rfl⟩ : ∃ m, fu = m + 1 := ⟨fu - 1, by omega⟩
      have a1 : ¬ iI (f3 : Int) < iI (b : Int) := fun q => by have := (iI_lt (by omega) (by omega) (by omega) (by omega)).mp q; omega
      have st : fX12_menFor_b12 N g3 29 (fu + 1) h (iI f5) (iI f3) (iI f2) p (iI a) (iI b) = fX12_menFor_b21 N g3 (fX12_menFor_b12 N g3 29 fu) 29 N h (iI f5) (iI f3) (iI f2) p (iI a) (iI b) (iI 0) := by
        show fX12_menFor_b12_body N g3 (fX12_menFor_b12 N g3 29 fu) 29 h (iI f5) (iI f3) (iI f2) p (iI a) (iI b) = _
        simp only [fX12_menFor_b12_body, lit]
        refine ifn (a1) ?_
        rfl
      rw [st]
      exact L21 a b ha (by omega) g3 _ (fun h' k' s' => by
        have := ih (b + 1) fu h' k' s' (by omega) (by omega)
        simp only [Int.natCast_add, Int.natCast_one] at this
        exact this) (f2 + 1) 0 N h ke s0 (by omega) (by omega)
  have L3 : ∀ (e a fu : Nat) (h : Hs), Ke [] [52] [] [] h0 h → sz h = sz h0 → a + e = f5 + 1 → e < fu → OKh [52] h0 (fX12_menFor_b3 N 29 fu h (iI f5) (iI f3) (iI f2) p (iI a)) := by
    intro e
    induction e with
    | zero =>
      intro a fu h ke s0 hz' hf
      obtain ⟨fu, rfl⟩ : ∃ m, fu = m + 1 := ⟨fu - 1, by omega⟩
      have hS := hS0.e hz ke (by decide)
      have a1 : iI (f5 : Int) < iI (a : Int) := (iI_lt (by omega) (by omega) (by omega) (by omega)).mpr (by omega)
      have ei : iI 169 * iI (f5 : Int) + iI 13 * iI (f3 : Int) + iI (f2 : Int) = iI ((169 * f5 + 13 * f3 + f2 : Nat) : Int) := by
        simp only [iI_mul, iI_add]
        congr 1
      refine ⟨aI h 52 (169 * f5 + 13 * f3 + f2), h, ?_, ke, s0⟩
      show fX12_menFor_b3_body N (fX12_menFor_b3 N 29 fu) 29 h (iI f5) (iI f3) (iI f2) p (iI a) = _
      simp only [fX12_menFor_b3_body, lit]
      refine ifp (a1) ?_
      refine bst (sR_1235_29 hS) ?_
      rw [ei]
      refine bst (ld h _ ke (by omega)) ?_
      rfl
    | succ e ih =>
      intro a fu h ke s0 hz' hf
      obtain ⟨fu, rfl⟩ : ∃ m, fu = m + 1 := ⟨fu - 1, by omega⟩
      have a1 : ¬ iI (f5 : Int) < iI (a : Int) := fun q => by have := (iI_lt (by omega) (by omega) (by omega) (by omega)).mp q; omega
      have st : fX12_menFor_b3 N 29 (fu + 1) h (iI f5) (iI f3) (iI f2) p (iI a) = fX12_menFor_b12 N (fX12_menFor_b3 N 29 fu) 29 N h (iI f5) (iI f3) (iI f2) p (iI a) (iI 0) := by
        show fX12_menFor_b3_body N (fX12_menFor_b3 N 29 fu) 29 h (iI f5) (iI f3) (iI f2) p (iI a) = _
        simp only [fX12_menFor_b3_body, lit]
        refine ifn (a1) ?_
        rfl
      rw [st]
      exact L12 a (by omega) _ (fun h' k' s' => by
        have := ih (a + 1) fu h' k' s' (by omega) (by omega)
        simp only [Int.natCast_add, Int.natCast_one] at this
        exact this) (f3 + 1) 0 N h ke s0 (by omega) (by omega)
  exact L3 (f5 + 1) 0 N h0 Ke_rf rfl (by omega) (by omega)
/-! ===== men: both calls end ===== -/
theorem v_q100 {N : Nat} {h : Hs} (v : Int32) : ∃ q, fX11_quotient N h v (iI 100) = some (q, h) := by
  obtain ⟨a, a1, a2, rfl⟩ := iI_ex v
  exact ⟨_, v_quot (N := N) (h := h) (a := a) (b := 100) a1 a2 (by omega) (by omega)⟩
theorem v_longest {N : Nat} {h : Hs} (hS : Sk h) : ∃ v, fX1_longestWork N h 25 = some (v, h) := by
  have c25 : (sh h 25).1 = 1 := by rw [ss_25 hS]
  simp only [fX1_longestWork, fX1_longestWork_b30]
  have o8 : oI 1 8 h (some 25) = some (gI h 108 25) := oIv c25 rfl
  have o7 : oI 1 7 h (some 25) = some (gI h 107 25) := oIv c25 rfl
  have o6 : oI 1 6 h (some 25) = some (gI h 106 25) := oIv c25 rfl
  rw [o8, o7, o6]
  simp only [Option.bind_some]
  by_cases w8 : gI h 108 25 ≤ 0
  · by_cases w7 : gI h 107 25 ≤ 0
    · by_cases w6 : gI h 106 25 ≤ 0
      · exact ⟨_, by rw [if_pos w8, if_pos w7, if_pos w6]⟩
      · exact ⟨_, by rw [if_pos w8, if_pos w7, if_neg w6]⟩
    · exact ⟨_, by rw [if_pos w8, if_neg w7]⟩
  · exact ⟨_, by rw [if_neg w8]⟩
theorem L_menM {N : Nat} (hN : 100000000 ≤ N) {h : Hs} (hS : Sk h) (hz : 70 ≤ sz h) {na : Nat} (hn : na ≤ 40) (k3 : gI h 1234 29 = iI na) (p : Int32) : ∀ (e i f5 f3 f2 fu : Nat), i + e = na → e < fu → f5 ≤ i → f3 ≤ i → f2 ≤ i → OKh [52] h (fX12_men_b39 N 29 fu h p (iI f5) (iI f3) (iI f2) (iI i)) := by
  have c29 : (sh h 29).1 = 12 := by rw [ss_29 hS]
  have o34 : oI 12 34 h (some 29) = some (iI na) := oIv c29 k3
  intro e
  induction e with
  | zero =>
    intro i f5 f3 f2 fu hi hf h5 h3 h2
    obtain ⟨fu, rfl⟩ : ∃ m, fu = m + 1 := ⟨fu - 1, by omega⟩
    have a1 : iI (na : Int) ≤ iI (i : Int) := (iI_le (by omega) (by omega) (by omega) (by omega)).mpr (by omega)
    have un : fX12_men_b39 N 29 (fu + 1) h p (iI f5) (iI f3) (iI f2) (iI i) = fX12_men_b39_body N (fX12_men_b39 N 29 fu) 29 h p (iI f5) (iI f3) (iI f2) (iI i) := rfl
    have lw : iI ((f5 : Int) + f3 + f2) ≤ iI 12 ↔ (f5 : Int) + f3 + f2 ≤ 12 := iI_le (by omega) (by omega) (by omega) (by omega)
    by_cases w : f5 + f3 + f2 ≤ 12
    · obtain ⟨v, h', e1, e2, e3⟩ := v_mF (N := N) hN hS hz (f5 := f5) (f3 := f3) (f2 := f2) (by omega) (by omega) (by omega) p
      have rc12 : rc 12 h (some 29) = some 29 := rcv (by rw [ss_29 hS])
      rw [un]
      simp only [fX12_men_b39_body, fX12_men_b153, lit, iI_add]
      by_cases w2 : v < iI 1000
      · refine ⟨v, h', ?_, e2, e3⟩
        refine bst (o34) ?_
        refine ifp (a1) ?_
        refine ifp (lw.mpr (by omega)) ?_
        refine bst (rc12) ?_
        refine bst (e1) ?_
        refine ifp (w2) ?_
        rfl
      · refine ⟨-2, h', ?_, e2, e3⟩
        refine bst (o34) ?_
        refine ifp (a1) ?_
        refine ifp (lw.mpr (by omega)) ?_
        refine bst (rc12) ?_
        refine bst (e1) ?_
        refine ifn (w2) ?_
        rfl
    · rw [un]
      simp only [fX12_men_b39_body, lit, iI_add]
      refine ⟨-4, h, ?_, Ke_rf, rfl⟩
      refine bst (o34) ?_
      refine ifp (a1) ?_
      refine ifn (fun q => by have := lw.mp q; omega) ?_
      rfl
  | succ e ih =>
    intro i f5 f3 f2 fu hi hf h5 h3 h2
    obtain ⟨fu, rfl⟩ : ∃ m, fu = m + 1 := ⟨fu - 1, by omega⟩
    have a1 : ¬ iI (na : Int) ≤ iI (i : Int) := fun q => by have := (iI_le (by omega) (by omega) (by omega) (by omega)).mp q; omega
    have l : lA 20 h (some 51) (iI (i : Int)) = some (aI h 51 i) := lAv (ss_51 hS) (by omega) (by omega) rfl
    have nx : ∀ g5 g3 g2 : Nat, g5 ≤ i + 1 → g3 ≤ i + 1 → g2 ≤ i + 1 → OKh [52] h (fX12_men_b39 N 29 fu h p (iI g5) (iI g3) (iI g2) (iI ((i : Int) + 1))) := fun g5 g3 g2 q5 q3 q2 => by
      have := ih (i + 1) g5 g3 g2 fu (by omega) (by omega) q5 q3 q2
      simp only [Int.natCast_add, Int.natCast_one] at this
      exact this
    have st : ∃ x5 x3 x2 : Nat, x5 ≤ 1 ∧ x3 ≤ 1 ∧ x2 ≤ 1 ∧ fX12_men_b39 N 29 (fu + 1) h p (iI f5) (iI f3) (iI f2) (iI i) = fX12_men_b39 N 29 fu h p (iI ((f5 + x5 : Nat) : Int)) (iI ((f3 + x3 : Nat) : Int)) (iI ((f2 + x2 : Nat) : Int)) (iI ((i : Int) + 1)) := by
      have un : fX12_men_b39 N 29 (fu + 1) h p (iI f5) (iI f3) (iI f2) (iI i) = fX12_men_b39_body N (fX12_men_b39 N 29 fu) 29 h p (iI f5) (iI f3) (iI f2) (iI i) := rfl
      rw [un]
      simp only [fX12_men_b39_body, fX12_men_b65, fX12_men_b84, fX12_men_b104, lit, iI_add, Option.bind_some]
      by_cases w5 : aI h 51 i = iI 5
      · have w3 : ¬ aI h 51 i = iI 3 := by rw [w5]; decide
        have w2 : ¬ aI h 51 i = iI 2 := by rw [w5]; decide
        refine ⟨1, 0, 0, by omega, by omega, by omega, ?_⟩
        refine bst (o34) ?_
        refine ifn (a1) ?_
        refine bst (sR_1233_29 hS) ?_
        refine bst (l) ?_
        refine ifp (w5) ?_
        refine bst (sR_1233_29 hS) ?_
        refine bst (l) ?_
        refine ifn (w3) ?_
        refine bst (sR_1233_29 hS) ?_
        refine bst (l) ?_
        refine ifn (w2) ?_
        simp
      · by_cases w3 : aI h 51 i = iI 3
        · have w2 : ¬ aI h 51 i = iI 2 := by rw [w3]; decide
          refine ⟨0, 1, 0, by omega, by omega, by omega, ?_⟩
          refine bst (o34) ?_
          refine ifn (a1) ?_
          refine bst (sR_1233_29 hS) ?_
          refine bst (l) ?_
          refine ifn (w5) ?_
          refine bst (sR_1233_29 hS) ?_
          refine bst (l) ?_
          refine ifp (w3) ?_
          refine bst (sR_1233_29 hS) ?_
          refine bst (l) ?_
          refine ifn (w2) ?_
          simp
        · by_cases w2 : aI h 51 i = iI 2
          · refine ⟨0, 0, 1, by omega, by omega, by omega, ?_⟩
            refine bst (o34) ?_
            refine ifn (a1) ?_
            refine bst (sR_1233_29 hS) ?_
            refine bst (l) ?_
            refine ifn (w5) ?_
            refine bst (sR_1233_29 hS) ?_
            refine bst (l) ?_
            refine ifn (w3) ?_
            refine bst (sR_1233_29 hS) ?_
            refine bst (l) ?_
            refine ifp (w2) ?_
            simp
          · refine ⟨0, 0, 0, by omega, by omega, by omega, ?_⟩
            refine bst (o34) ?_
            refine ifn (a1) ?_
            refine bst (sR_1233_29 hS) ?_
            refine bst (l) ?_
            refine ifn (w5) ?_
            refine bst (sR_1233_29 hS) ?_
            refine bst (l) ?_
            refine ifn (w3) ?_
            refine bst (sR_1233_29 hS) ?_
            refine bst (l) ?_
            refine ifn (w2) ?_
            simp
    obtain ⟨x5, x3, x2, b5, b3, b2', hu⟩ := st
    rw [hu]
    exact nx _ _ _ (by omega) (by omega) (by omega)
theorem t_men0 {N : Nat} (hN : 100000000 ≤ N) {h : Hs} (hS : Sk h) (hz : 70 ≤ sz h) {nt na : Nat} (hnt : nt ≤ 40) {as no : Bool} {cr cd wk : Nat → Int} (hG : RChg h nt na as no cr cd wk) (p : Int32) : ∃ (r r' : Int32) (h1 h2 : Hs), fX11_men N h 0 p = some (r, h1) ∧ fX12_men N h1 29 p = some (r', h2) ∧ Ke [] [28, 52] [] [] h h2 ∧ sz h2 = sz h := by
  obtain ⟨t, t1, t2, rfl⟩ := iI_ex p
  obtain ⟨⟨c1, c2⟩, c3⟩ := hG
  have rc1 : rc 1 h (some 25) = some 25 := rcv (by rw [ss_25 hS])
  have up : ∀ {r : Int32} {h1 : Hs}, fX1_leastMen N h 25 (iI t) = some (r, h1) → fX11_men N h 0 (iI t) = some (r, h1) := by
    intro r h1 e
    simp only [fX11_men]
    refine bst (sR_1102_0 hS) ?_
    refine bst (rc1) ?_
    refine bst (e) ?_
    rfl
  have c25 : (sh h 25).1 = 1 := by rw [ss_25 hS]
  have o4 : oI 1 4 h (some 25) = some (iI (b2 as)) := oIv c25 c1
  have iw := v_isW (N := N) (h := h) (x := t) (a := 1) (b := 99) t1 t2 (by omega) (by omega) (by omega) (by omega)
  -- the reference, from any sheet of the class's
  have ref : ∀ h1, Ke [] [28] [] [] h h1 → sz h1 = sz h → OKh [52] h1 (fX12_men N h1 29 (iI t)) := by
    intro h1 ke s1
    have hS1 := hS.e hz ke (by decide)
    have c29 : (sh h1 29).1 = 12 := by rw [ss_29 hS1]
    have o29 : oI 12 29 h1 (some 29) = some (iI (b2 as)) := oIv c29 ((ke.1 1229 29 (by decide) (by omega)).trans c2)
    have mw := v_inW (N := N) (h := h1) (x := t) (a := 1) (b := 99) t1 t2 (by omega) (by omega) (by omega) (by omega)
    simp only [fX12_men, fX12_men_b17, lit, iI_neg]
    cases has : as with
    | false =>
      rw [has] at o29
      refine ⟨iI (-1), h1, ?_, Ke_rf, rfl⟩
      refine bst (o29) ?_
      refine ifp (rfl) ?_
      rfl
    | true =>
      obtain ⟨⟨k1, k2, k3, k4⟩, -⟩ := c3 has
      rw [has] at o29
      have o29' : oI 12 29 h1 (some 29) = some (iI 1) := o29
      by_cases w : 1 ≤ t ∧ t ≤ 99
      · rw [if_pos w] at mw
        have o30 : oI 12 30 h1 (some 29) = some (iI (b2 no)) := oIv c29 ((ke.1 1230 29 (by decide) (by omega)).trans k2)
        cases hno : no with
        | true =>
          rw [hno] at o30
          have o30' : oI 12 30 h1 (some 29) = some (iI 1) := o30
          refine ⟨iI (-2), h1, ?_, Ke_rf, rfl⟩
          refine bst (o29') ?_
          refine ifn (n10) ?_
          refine bst (mw) ?_
          refine ifn (n10) ?_
          refine bst (o30') ?_
          refine ifn (n10) ?_
          rfl
        | false =>
          rw [hno] at o30
          have o30' : oI 12 30 h1 (some 29) = some (iI 0) := o30
          obtain ⟨r, h2, e1, e2⟩ := L_menM (N := N) hN hS1 (by omega) (show na ≤ 40 by omega) ((ke.1 1234 29 (by decide) (by omega)).trans k3) (iI t) na 0 0 0 0 N (by omega) (by omega) (by omega) (by omega) (by omega)
          refine ⟨r, h2, ?_, e2⟩
          refine bst (o29') ?_
          refine ifn (n10) ?_
          refine bst (mw) ?_
          refine ifn (n10) ?_
          refine bst (o30') ?_
          refine ifp (rfl) ?_
          exact e1
      · rw [if_neg w] at mw
        refine ⟨iI (-1), h1, ?_, Ke_rf, rfl⟩
        refine bst (o29') ?_
        refine ifn (n10) ?_
        refine bst (mw) ?_
        refine ifp (rfl) ?_
        rfl
  have cls : OKh [28] h (fX1_leastMen N h 25 (iI t)) := by
    simp only [fX1_leastMen, fX1_leastMen_b17, fX1_leastMen_b34, fX1_leastMen_b61, lit, iI_neg]
    cases has : as with
    | false =>
      rw [has] at o4
      refine ⟨iI (-1), h, ?_, Ke_rf, rfl⟩
      refine bst (o4) ?_
      refine ifp (rfl) ?_
      rfl
    | true =>
      obtain ⟨⟨k1, k2, k3, k4⟩, -, -, k7⟩ := c3 has
      rw [has] at o4
      have o4' : oI 1 4 h (some 25) = some (iI 1) := o4
      by_cases w : 1 ≤ t ∧ t ≤ 99
      · rw [if_pos w] at iw
        have o5 : oI 1 5 h (some 25) = some (iI (b2 (!no))) := oIv c25 k1
        cases hno : no with
        | true =>
          rw [hno] at o5
          have o5' : oI 1 5 h (some 25) = some (iI 0) := o5
          refine ⟨iI (-2), h, ?_, Ke_rf, rfl⟩
          refine bst (o4') ?_
          refine ifn (n10) ?_
          refine bst (iw) ?_
          refine ifn (n10) ?_
          refine bst (o5') ?_
          refine ifp (rfl) ?_
          rfl
        | false =>
          rw [hno] at o5
          have o5' : oI 1 5 h (some 25) = some (iI 1) := o5
          obtain ⟨-, j2, j3, j4⟩ := k7 hno
          obtain ⟨lv, hlv⟩ := v_longest (N := N) hS
          by_cases w1 : lv ≤ iI t
          · obtain ⟨tw, htw⟩ : ∃ x, x = cntB (fun i => decide (wk i = 2)) 0 na := ⟨_, rfl⟩
            obtain ⟨th, hth⟩ : ∃ x, x = cntB (fun i => decide (wk i = 3)) 0 na := ⟨_, rfl⟩
            obtain ⟨fi, hfi⟩ : ∃ x, x = cntB (fun i => decide (wk i = 5)) 0 na := ⟨_, rfl⟩
            have b1 := cntB_le (fun i => decide (wk i = 2)) na 0
            have b2' := cntB_le (fun i => decide (wk i = 3)) na 0
            have b3 := cntB_le (fun i => decide (wk i = 5)) na 0
            rw [← htw] at j2 b1
            rw [← hth] at j3 b2'
            rw [← hfi] at j4 b3
            have wks : fX1_works N h 25 = some (iI ((tw : Int) + th + fi), h) := by
              simp only [fX1_works]
              refine bst (oIv c25 j2) ?_
              refine bst (oIv c25 j3) ?_
              refine bst (oIv c25 j4) ?_
              simp only [iI_add]
            have lw : iI ((tw : Int) + th + fi) ≤ iI 12 ↔ (tw : Int) + th + fi ≤ 12 := iI_le (by omega) (by omega) (by omega) (by omega)
            by_cases w2 : tw + th + fi ≤ 12
            · obtain ⟨v, h', e1, e2, e3⟩ := v_shO (N := N) hN hS hz w2 j2 j3 j4 (iI t)
              obtain ⟨q, hq⟩ := v_q100 (N := N) (h := h') v
              refine ⟨q, h', ?_, e2, e3⟩
              refine bst (o4') ?_
              refine ifn (n10) ?_
              refine bst (iw) ?_
              refine ifn (n10) ?_
              refine bst (o5') ?_
              refine ifn (n10) ?_
              refine bst (rc1) ?_
              refine bst (hlv) ?_
              refine ifp (w1) ?_
              refine bst (rc1) ?_
              refine bst (wks) ?_
              refine ifp (lw.mpr (by omega)) ?_
              refine bst (rc1) ?_
              refine bst (e1) ?_
              refine bst (hq) ?_
              rfl
            · refine ⟨iI (-4), h, ?_, Ke_rf, rfl⟩
              refine bst (o4') ?_
              refine ifn (n10) ?_
              refine bst (iw) ?_
              refine ifn (n10) ?_
              refine bst (o5') ?_
              refine ifn (n10) ?_
              refine bst (rc1) ?_
              refine bst (hlv) ?_
              refine ifp (w1) ?_
              refine bst (rc1) ?_
              refine bst (wks) ?_
              refine ifn (fun q => by have := lw.mp q; omega) ?_
              rfl
          · refine ⟨iI (-2), h, ?_, Ke_rf, rfl⟩
            refine bst (o4') ?_
            refine ifn (n10) ?_
            refine bst (iw) ?_
            refine ifn (n10) ?_
            refine bst (o5') ?_
            refine ifn (n10) ?_
            refine bst (rc1) ?_
            refine bst (hlv) ?_
            refine ifn (w1) ?_
            rfl
      · rw [if_neg w] at iw
        refine ⟨iI (-1), h, ?_, Ke_rf, rfl⟩
        refine bst (o4') ?_
        refine ifn (n10) ?_
        refine bst (iw) ?_
        refine ifp (rfl) ?_
        rfl
  obtain ⟨r, h1, e1, k1, s1⟩ := cls
  obtain ⟨r', h2, e2, k2, s2⟩ := ref h1 k1 s1
  exact ⟨r, r', h1, h2, up e1, e2, (k1.w (by decide) (by decide) (by decide) (by decide)).tr (k2.w (by decide) (by decide) (by decide) (by decide)), by omega⟩
