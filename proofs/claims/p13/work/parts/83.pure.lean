/-! ===== turning, the reference: the steps ===== -/
theorem tpu_bdq {nr nt nd : Nat} {h : Hs} {rA tA dA rT : Nat → Nat} {wy gr hd ds : Nat → Int} {gn : Nat → Bool} {tl tw tg ls ms : Nat → Int} {dr td : Nat → Option Nat} {sr : Nat → Int} (hT : RTq h nt tl tw tg ls ms) (hD : RDr h nd dA ds) (hR : RRo h nr nt rA tA rT wy gr hd gn) (hL : RTl nt nd nr rT dr td) (hsr : ∀ r, r < nr → dr r ≠ none → 0 ≤ sr r ∧ sr r ≤ 100) {cw P : Nat → Int} (hcw : ∀ i, i < 20 → -9999 ≤ cw i ∧ cw i ≤ 9999) (hb : ∀ i, i < nt → 0 ≤ P i ∧ P i ≤ 100) : -5000000 ≤ tpu wy gr sr tg ds rT dr nr cw P ∧ tpu wy gr sr tg ds rT dr nr cw P ≤ 5000000 := by
  have c3 := hR.1.2.2
  have h1 := sumF_bd (f := fun r => tq wy gr sr tg ds rT dr r (P (rT r))) (B := 120000) nr 0 (fun r _ hr => by
    obtain ⟨-, -, -, q1, q2, q3, q4, q5⟩ := hR.2.1 r (by omega)
    obtain ⟨-, bb⟩ := hT.2 (rT r) q1
    exact tq_bd q2 q3 (by omega) (by omega) (fun e he => (hD.2.1 e (hL.1 r e (by omega) he).1).2.2.2) (hsr r (by omega)) (hb _ q1).1 (hb _ q1).2)
  have h2 := sumF_bd (f := cw) (B := 9999) 20 0 (fun j _ hj => hcw j (by omega))
  unfold tpu
  omega
theorem L_tnM {N : Nat} (hN : 100000000 ≤ N) {nr nt nd : Nat} {rA tA dA rT : Nat → Nat} {wy gr hd ds : Nat → Int} {gn : Nat → Bool} {tl tw tg ls ms pa : Nat → Int} {dr td : Nat → Option Nat} {sr dn : Nat → Int} {cw : Nat → Int} {bd : Int} (b1 : 0 ≤ bd) (b2 : bd ≤ 99999) (hL : RTl nt nd nr rT dr td) (hdn : ∀ r, r < nr → dr r ≠ none → -1000000000 ≤ dn r ∧ dn r ≤ 1000000000) (hsr : ∀ r, r < nr → dr r ≠ none → 0 ≤ sr r ∧ sr r ≤ 100) (hp : ∀ i, i < nt → 0 ≤ pa i ∧ pa i ≤ 100) (hcw : ∀ i, i < 20 → -9999 ≤ cw i ∧ cw i ≤ 9999) {d : Int} (hd1 : d = 1 ∨ d = -1) {m : Int} (m0 : 0 ≤ m) (hm : m ≤ 9999) : ∀ (q : Nat) (c : Int) (fu : Nat) (h : Hs), Sk h → 70 ≤ sz h → RTq h nt tl tw tg ls ms → RDr h nd dA ds → RRo h nr nt rA tA rT wy gr hd gn → RTm h nr rT dr sr (dnz ds dn dr (d * c)) → (∀ i, i < nt → aI h 33 i = iI (tpl pa wy gr sr dn ds dr td (d * c) i)) → (∀ i, i < 20 → aI h 45 i = iI (cw i)) → gI h 1220 29 = iI bd → (gI h 1223 29 = iI 0 ∧ gI h 1224 29 = iI (-1) ∧ gI h 1225 29 = iI (-1)) → 0 ≤ c → c ≤ m → m - c ≤ q → q < fu → (∀ s, 1 ≤ s → s ≤ c → tWh nt ls ms tl tw tg pa wy gr sr dn ds rT dr td nr cw bd d s 0 (-1) (-1)) → ∃ (n k t o : Int) (h' : Hs), fX12_turnNow_b39 N 29 fu h (iI d) (iI m) (iI c) = some (iI n, h') ∧ Stq m (tWh nt ls ms tl tw tg pa wy gr sr dn ds rT dr td nr cw bd d) n k t o ∧ (gI h' 1223 29 = iI k ∧ gI h' 1224 29 = iI t ∧ gI h' 1225 29 = iI o) ∧ Ke [1221, 1222, 1223, 1224, 1225] [33, 43] [] [] h h' ∧ sz h' = sz h ∧ RTm h' nr rT dr sr (dnz ds dn dr (d * n)) ∧ (∀ i, i < nt → aI h' 33 i = iI (tpl pa wy gr sr dn ds dr td (d * n) i)) ∧ gI h' 1221 29 = gI h 1221 29 + iI (d * (n - c)) ∧ gI h' 1222 29 = gI h 1222 29 + iI (n - c) := by
  have stop : ∀ (c : Int) (fu : Nat) (h : Hs), c = m → fX12_turnNow_b39 N 29 (fu + 1) h (iI d) (iI m) (iI c) = some (iI m, h) := by
    intro c fu h hc
    show fX12_turnNow_b39_body N (fX12_turnNow_b39 N 29 fu) 29 h (iI d) (iI m) (iI c) = _
    simp only [fX12_turnNow_b39_body]
    refine ifp ((by rw [hc]; exact Int32.le_refl _)) ?_
    rfl
  have z0 : ∀ x : Int32, x = x + iI 0 := fun x => by
    obtain ⟨a, -, -, rfl⟩ := iI_ex x
    rw [iI_add, Int.add_zero]
  intro q
  induction q with
  | zero =>
    intro c fu h hS hz hT hD hR hM hP hW hB hA c1 c2 hq hf hok
    obtain ⟨fu, rfl⟩ : ∃ m, fu = m + 1 := ⟨fu - 1, by omega⟩
    have ec : c = m := by omega
    subst ec
    refine ⟨c, 0, -1, -1, h, stop c fu h rfl, ⟨m0, Int.le_refl c, fun s' h1 h2 => hok s' h1 h2, Or.inl ⟨rfl, rfl, rfl, rfl⟩⟩, hA, Ke_rf, rfl, hM, hP, ?_, ?_⟩
    · rw [Int.sub_self, Int.mul_zero]; exact z0 _
    · rw [Int.sub_self]; exact z0 _
  | succ q ih =>
    intro c fu h hS hz hT hD hR hM hP hW hB hA c1 c2 hq hf hok
    obtain ⟨fu, rfl⟩ : ∃ m, fu = m + 1 := ⟨fu - 1, by omega⟩
    by_cases ec : c = m
    · subst ec
      refine ⟨c, 0, -1, -1, h, stop c fu h rfl, ⟨m0, Int.le_refl c, fun s' h1 h2 => hok s' h1 h2, Or.inl ⟨rfl, rfl, rfl, rfl⟩⟩, hA, Ke_rf, rfl, hM, hP, ?_, ?_⟩
      · rw [Int.sub_self, Int.mul_zero]; exact z0 _
      · rw [Int.sub_self]; exact z0 _
    have ct := hT.1.2
    have a1 : ¬ iI m ≤ iI c := fun w => by have := (iI_le (by omega) (by omega) (by omega) (by omega)).mp w; omega
    have zb : -100000 ≤ d * (c + 1) ∧ d * (c + 1) ≤ 100000 := by rcases hd1 with rfl | rfl <;> omega
    have zb0 : -100000 ≤ d * c ∧ d * c ≤ 100000 := by rcases hd1 with rfl | rfl <;> omega
    have ed : d = d * (c + 1) - d * c := by rw [Int.mul_add, Int.mul_one]; omega
    obtain ⟨h1, e1, ke1, s1, hM1, hP1⟩ := v_plM (N := N) hN hS hz hD hR hL ct (z := d * c) zb.1 zb.2 ed hdn hM hP
    have hS1 := hS.e hz ke1 (by decide)
    have hT1 := hT.e hz ke1 (by decide) (by decide)
    have hD1 := hD.e hz ke1 (by decide) (by decide) (by decide)
    have hR1 := hR.e hz ke1 (by decide) (by decide) (by decide) (by decide)
    have hbd := fun i hi => tpl_bd (i := i) hL (fun r hr => (hR.2.1 r hr).2.2.2.2.1) (fun r hr => (hR.2.1 r hr).2.2.2.2.2.1) (fun e he => (hD.2.1 e he).2.2.2) hdn hsr hp zb.1 zb.2 hi
    obtain ⟨k, t, o, h2, e2, wh, ww, ke2, s2⟩ := v_find (N := N) hN hS1 (by omega) hT1 hP1 hbd hD1 hR1 hM1 hL b1 b2 (fun i hi => by rw [ke1.2.1 45 (by decide) (by omega)]; exact hW i hi) (by rw [ke1.1 1220 29 (by decide) (by omega)]; exact hB) (fun hin => tpu_bdq hT1 hD1 hR1 hL hsr hcw hin)
    have ke12 : Ke [1221, 1222, 1223, 1224, 1225] [33, 43] [] [] h h2 := (ke1.w (by decide) (by decide) (by decide) (by decide)).tr (ke2.w (by decide) (by decide) (by decide) (by decide))
    have hS2 := hS.e hz ke12 (by decide)
    have hT2 := hT.e hz ke12 (by decide) (by decide)
    have hD2 := hD.e hz ke12 (by decide) (by decide) (by decide)
    have hR2 := hR.e hz ke12 (by decide) (by decide) (by decide) (by decide)
    have hM2 := hM1.e (by omega) ke2 (by decide)
    have hP2 : ∀ i, i < nt → aI h2 33 i = iI (tpl pa wy gr sr dn ds dr td (d * (c + 1)) i) := fun i hi => by rw [ke2.2.1 33 (by decide) (by omega)]; exact hP1 i hi
    have rc0 : rc 12 h (some 29) = some 29 := rcv (by rw [ss_29 hS])
    have rc1 : rc 12 h1 (some 29) = some 29 := rcv (by rw [ss_29 hS1])
    have rc2 : rc 12 h2 (some 29) = some 29 := rcv (by rw [ss_29 hS2])
    have c29 : (sh h2 29).1 = 12 := by rw [ss_29 hS2]
    have o23 : oI 12 23 h2 (some 29) = some (iI k) := oIv c29 ww.1
    have kb : 0 ≤ k ∧ k ≤ 3 := by
      rcases wh with ⟨i, -, -, -, w, -⟩ | ⟨a0, ⟨i, j, -, -, -, -, -, w, -⟩ | ⟨a1, -, -, ⟨w, -⟩ | ⟨w, -⟩⟩⟩ <;> omega
    have lk : iI k ≤ iI 0 ↔ k ≤ 0 := iI_le (by omega) (by omega) (by omega) (by omega)
    have g21 : gI h2 1221 29 = gI h 1221 29 := by rw [ke2.1 1221 29 (by decide) (by omega), ke1.1 1221 29 (by decide) (by omega)]
    have g22 : gI h2 1222 29 = gI h 1222 29 := by rw [ke2.1 1222 29 (by decide) (by omega), ke1.1 1222 29 (by decide) (by omega)]
    by_cases hk : k = 0
    · subst hk
      have tt : t = -1 ∧ o = -1 := by
        rcases wh with ⟨i, -, -, -, w, -⟩ | ⟨a0, ⟨i, j, -, -, -, -, -, w, -⟩ | ⟨a1, w1, w2, -⟩⟩
        · omega
        · omega
        · exact ⟨w1, w2⟩
      obtain ⟨rfl, rfl⟩ := tt
      obtain ⟨h3, eh3⟩ : ∃ h3, h3 = uI (uI h2 1221 29 (gI h 1221 29 + iI d)) 1222 29 (gI h 1222 29 + iI 1) := ⟨_, rfl⟩
      have ke3 : Ke [1221, 1222] [] [] [] h2 h3 := by rw [eh3]; exact (Ke_rf.u 1221 29 _ (by decide)).u 1222 29 _ (by decide)
      have ke : Ke [1221, 1222, 1223, 1224, 1225] [33, 43] [] [] h h3 := ke12.tr (ke3.w (by decide) (by decide) (by decide) (by decide))
      have s3 : sz h3 = sz h := by rw [eh3]; exact s2.trans s1
      have hz2 : 70 ≤ sz h2 := by omega
      obtain ⟨n, k', t', o', h', r1, r2, r3, r4, r5, r6, r7, r8, r9⟩ := ih (c + 1) fu h3 (hS.e hz ke (by decide)) (by omega) (hT.e hz ke (by decide) (by decide)) (hD.e hz ke (by decide) (by decide) (by decide)) (hR.e hz ke (by decide) (by decide) (by decide) (by decide)) (hM2.e hz2 ke3 (by decide)) (fun i hi => by rw [ke3.2.1 33 (by decide) (by omega)]; exact hP2 i hi) (fun i hi => by rw [ke.2.1 45 (by decide) (by omega)]; exact hW i hi) (by rw [ke.1 1220 29 (by decide) (by omega)]; exact hB) ⟨by rw [ke3.1 1223 29 (by decide) (by omega)]; exact ww.1, by rw [ke3.1 1224 29 (by decide) (by omega)]; exact ww.2.1, by rw [ke3.1 1225 29 (by decide) (by omega)]; exact ww.2.2⟩ (by omega) (by omega) (by omega) (by omega) (fun s h1 h2 => by
        by_cases es : s = c + 1
        · rw [es]; exact wh
        · exact hok s h1 (by omega))
      have g31 : gI h3 1221 29 = gI h 1221 29 + iI d := by rw [eh3]; simp [HR]
      have g32 : gI h3 1222 29 = gI h 1222 29 + iI 1 := by rw [eh3]; simp [HR]
      have g2b : gI (uI h2 1221 29 (gI h 1221 29 + iI d)) 1222 29 = gI h 1222 29 := by simp [HR, g22]
      refine ⟨n, k', t', o', h', ?_, r2, r3, ke.tr r4, r5.trans s3, r6, r7, ?_, ?_⟩
      · show fX12_turnNow_b39_body N (fX12_turnNow_b39 N 29 fu) 29 h (iI d) (iI m) (iI c) = _
        simp only [fX12_turnNow_b39_body, lit, iI_add, Option.bind_some]
        refine ifn (a1) ?_
        refine bst (rc0) ?_
        refine bst (e1) ?_
        refine bst (rc1) ?_
        refine bst (e2) ?_
        refine bst (o23) ?_
        refine ifp (lk.mpr (by omega)) ?_
        refine bst (oIv c29 g21) ?_
        refine bst (qIv c29) ?_
        refine bst (oIv (by rw [sh_uI]; exact c29) g2b) ?_
        refine bst (qIv (by rw [sh_uI]; exact c29)) ?_
        rw [← eh3]
        exact r1
      · rw [r8, g31]
        obtain ⟨x, -, -, ex⟩ := iI_ex (gI h 1221 29)
        rw [ex, iI_add, iI_add, iI_add]
        congr 1
        have e9 : d * (n - c) = d + d * (n - (c + 1)) := by
          rw [show n - c = 1 + (n - (c + 1)) by omega, Int.mul_add, Int.mul_one]
        omega
      · rw [r9, g32]
        obtain ⟨x, -, -, ex⟩ := iI_ex (gI h 1222 29)
        rw [ex, iI_add, iI_add, iI_add]
        congr 1
        omega
    · have ed2 : -d = d * c - d * (c + 1) := by rw [Int.mul_add, Int.mul_one]; omega
      obtain ⟨h3, e3, ke3, s3, hM3, hP3⟩ := v_plM (N := N) hN hS2 (by omega) hD2 hR2 hL ct (z := d * (c + 1)) zb0.1 zb0.2 ed2 hdn hM2 hP2
      rw [← iI_neg] at e3
      have ke : Ke [1221, 1222, 1223, 1224, 1225] [33, 43] [] [] h h3 := ke12.tr (ke3.w (by decide) (by decide) (by decide) (by decide))
      refine ⟨c, k, t, o, h3, ?_, ⟨c1, c2, hok, Or.inr ⟨by omega, wh, hk⟩⟩, ⟨by rw [ke3.1 1223 29 (by decide) (by omega)]; exact ww.1, by rw [ke3.1 1224 29 (by decide) (by omega)]; exact ww.2.1, by rw [ke3.1 1225 29 (by decide) (by omega)]; exact ww.2.2⟩, ke, by omega, hM3, hP3, ?_, ?_⟩
      · show fX12_turnNow_b39_body N (fX12_turnNow_b39 N 29 fu) 29 h (iI d) (iI m) (iI c) = _
        simp only [fX12_turnNow_b39_body, lit]
        refine ifn (a1) ?_
        refine bst (rc0) ?_
        refine bst (e1) ?_
        refine bst (rc1) ?_
        refine bst (e2) ?_
        refine bst (o23) ?_
        refine ifn (fun w => by have := lk.mp w; omega) ?_
        refine bst (rc2) ?_
        refine bst (e3) ?_
        rfl
      · rw [ke3.1 1221 29 (by decide) (by omega), g21, Int.sub_self, Int.mul_zero]; exact z0 _
      · rw [ke3.1 1222 29 (by decide) (by omega), g22, Int.sub_self]; exact z0 _
/-- the reference turns -/
theorem v_turnNow {N : Nat} (hN : 100000000 ≤ N) {h : Hs} (hS : Sk h) (hz : 70 ≤ sz h) {nr nt nd : Nat} {rA tA dA rT : Nat → Nat} {wy gr hd ds : Nat → Int} {gn : Nat → Bool} {tl tw tg ls ms pa : Nat → Int} {dr td : Nat → Option Nat} {sr dn : Nat → Int} (hT : RTq h nt tl tw tg ls ms) (hP : ∀ i, i < nt → aI h 33 i = iI (pa i)) (hD : RDr h nd dA ds) (hR : RRo h nr nt rA tA rT wy gr hd gn) (hM : RTm h nr rT dr sr dn) {cw : Nat → Int} {bd : Int} (b1 : 0 ≤ bd) (b2 : bd ≤ 99999) (hL : RTl nt nd nr rT dr td) (hdn : ∀ r, r < nr → dr r ≠ none → -1000000000 ≤ dn r ∧ dn r ≤ 1000000000) (hsr : ∀ r, r < nr → dr r ≠ none → 0 ≤ sr r ∧ sr r ≤ 100) (hA : ∀ r, r < nr → dr r ≠ none → pa (rT r) = sr r + wy r * (dn r).tdiv (100 * gr r)) (hp : ∀ i, i < nt → 0 ≤ pa i ∧ pa i ≤ 100) (hcw : ∀ i, i < 20 → -9999 ≤ cw i ∧ cw i ≤ 9999) (hW : ∀ i, i < 20 → aI h 45 i = iI (cw i)) (hB : gI h 1220 29 = iI bd) {z d m : Int} (z1 : -9999 ≤ z) (z2 : z ≤ 9999) (hdm : (0 ≤ z ∧ d = 1 ∧ m = z) ∨ (z < 0 ∧ d = -1 ∧ m = -z)) : ∃ (n k t o : Int) (h' : Hs), fX12_turnNow N h 29 (iI z) = some (iI n, h') ∧ Stq m (tWh nt ls ms tl tw tg pa wy gr sr dn ds rT dr td nr cw bd d) n k t o ∧ (gI h' 1223 29 = iI k ∧ gI h' 1224 29 = iI t ∧ gI h' 1225 29 = iI o) ∧ Ke [1221, 1222, 1223, 1224, 1225] [33, 43] [] [] h h' ∧ sz h' = sz h ∧ RTm h' nr rT dr sr (dnz ds dn dr (d * n)) ∧ (∀ i, i < nt → aI h' 33 i = iI (tpl pa wy gr sr dn ds dr td (d * n) i)) ∧ gI h' 1221 29 = gI h 1221 29 + iI (d * n) ∧ gI h' 1222 29 = gI h 1222 29 + iI n := by
  obtain ⟨h3, eh3⟩ : ∃ h3, h3 = uI (uI (uI h 1223 29 (iI 0)) 1224 29 (iI (-1))) 1225 29 (iI (-1)) := ⟨_, rfl⟩
  have ke : Ke [1223, 1224, 1225] [] [] [] h h3 := by rw [eh3]; exact ((Ke_rf.u 1223 29 _ (by decide)).u 1224 29 _ (by decide)).u 1225 29 _ (by decide)
  have s3 : sz h3 = sz h := by rw [eh3]; rfl
  have c29 : (sh h 29).1 = 12 := by rw [ss_29 hS]
  have e0 : dnz ds dn dr (d * 0) = dn := by
    funext r
    unfold dnz
    cases dr r with
    | none => rfl
    | some e => simp
  have ep : ∀ i, i < nt → tpl pa wy gr sr dn ds dr td (d * 0) i = pa i := fun i hi => by
    unfold tpl
    cases htd : td i with
    | none => rfl
    | some r =>
      obtain ⟨hr, hrt, hne⟩ := hL.2 i r hi htd
      obtain ⟨e, hde⟩ := Option.ne_none_iff_exists'.mp hne
      simp only [hde, rpl, Int.mul_zero, Int.add_zero]
      rw [← hA r hr hne, hrt]
  obtain ⟨n, k, t, o, h', r1, r2, r3, r4, r5, r6, r7, r8, r9⟩ := L_tnM (N := N) hN b1 b2 hL hdn hsr hp hcw (d := d) (by omega) (m := m) (by omega) (by omega) 9999 0 N h3 (hS.e hz ke (by decide)) (by omega) (hT.e hz ke (by decide) (by decide)) (hD.e hz ke (by decide) (by decide) (by decide)) (hR.e hz ke (by decide) (by decide) (by decide) (by decide)) (by rw [e0]; exact hM.e hz ke (by decide)) (fun i hi => by rw [ep i hi, ke.2.1 33 (by decide) (by omega)]; exact hP i hi) (fun i hi => by rw [ke.2.1 45 (by decide) (by omega)]; exact hW i hi) (by rw [ke.1 1220 29 (by decide) (by omega)]; exact hB) ⟨by rw [eh3]; simp [HR], by rw [eh3]; simp [HR], by rw [eh3]; simp [HR]⟩ (by omega) (by omega) (by omega) (by omega) (fun s h1 h2 => by omega)
  refine ⟨n, k, t, o, h', ?_, r2, r3, (ke.w (by decide) (by decide) (by decide) (by decide)).tr r4, r5.trans s3, r6, r7, ?_, ?_⟩
  · simp only [fX12_turnNow, fX12_turnNow_b24, fX12_turnNow_b35, lit]
    rcases hdm with ⟨q, rfl, rfl⟩ | ⟨q, rfl, rfl⟩
    · have q1 : iI 0 ≤ iI m := (iI_le (by omega) (by omega) (by omega) (by omega)).mpr q
      simp only [iI_neg]
      refine bst (qIv c29) ?_
      refine bst (qIv (by rw [sh_uI]; exact c29)) ?_
      refine bst (qIv (by rw [sh_uI, sh_uI]; exact c29)) ?_
      rw [← eh3]
      refine ifp (q1) ?_
      refine ifp (q1) ?_
      exact r1
    · have q1 : ¬ iI 0 ≤ iI z := fun w => by have := (iI_le (by omega) (by omega) (by omega) (by omega)).mp w; omega
      simp only [iI_neg]
      refine bst (qIv c29) ?_
      refine bst (qIv (by rw [sh_uI]; exact c29)) ?_
      refine bst (qIv (by rw [sh_uI, sh_uI]; exact c29)) ?_
      rw [← eh3]
      refine ifn (q1) ?_
      refine ifn (q1) ?_
      exact r1
  · rw [r8, ke.1 1221 29 (by decide) (by omega), Int.sub_zero]
  · rw [r9, ke.1 1222 29 (by decide) (by omega), Int.sub_zero]
