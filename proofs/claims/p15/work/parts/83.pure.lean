/-! ===== turning, the reference: the steps ===== -/
theorem tpu_bdq {nr nt nd : Nat} {h : Hs} {rA tA dA rT : Nat → Nat} {wy gr hd ds : Nat → Int} {gn : Nat → Bool} {tl tw tg ls ms : Nat → Int} {dr td : Nat → Option Nat} {sr : Nat → Int} (hT : RTq h nt tl tw tg ls ms) (hD : RDr h nd dA ds) (hR : RRo h nr nt rA tA rT wy gr hd gn) (hL : RTl nt nd nr rT dr td) (hsr : ∀ r, r < nr → dr r ≠ none → 0 ≤ sr r ∧ sr r ≤ 100) {cw P : Nat → Int} (hcw : ∀ i, i < 20 → -9999 ≤ cw i ∧ cw i ≤ 9999) (hb : ∀ i, i < nt → 0 ≤ P i ∧ P i ≤ 100) : -5000000 ≤ tpu wy gr sr tg ds rT dr nr cw P ∧ tpu wy gr sr tg ds rT dr nr cw P ≤ 5000000 := by
  have c3 := hR.1.2.2
  have h1 := sumF_bd (f := fun r => tq wy gr sr tg ds rT dr r (P (rT r))) (B := 120000) nr 0 (fun r _ hr => by
    obtain ⟨-, -, -, q1, q2, q3, q4, q5⟩ := hR.2.1 r (by omega)
    obtain ⟨-, bb⟩ := hT.2 (rT r) q1
    exact tq_bd q2 q3 (by omega) (by omega) (fun e he => (hD.2.1 e (hL.1 r e (by omega) he).1).2.2.2) (hsr r (by omega)) (hb _ q1).1 (hb _ q1).2)
  have h2 := sumF_bd (f := cw) (B := 9999) 20 0 (fun j _ hj => hcw j (by omega))
  unfold tpu
  omega
theorem L_tnM {N : Nat} (hN : 100000000 ≤ N) {nr nt nd : Nat} {rA tA dA rT : Nat → Nat} {wy gr hd ds : Nat → Int} {gn : Nat → Bool} {tl tw tg ls ms pa : Nat → Int} {dr td : Nat → Option Nat} {sr dn : Nat → Int} {cw : Nat → Int} {bd : Int} (b1 : 0 ≤ bd) (b2 : bd ≤ 99999) (hL : RTl nt nd nr rT dr td) (hdn : ∀ r, r < nr → dr r ≠ none → -1000000000 ≤ dn r ∧ dn r ≤ 1000000000) (hsr : ∀ r, r < nr → dr r ≠ none → 0 ≤ sr r ∧ sr r ≤ 100) (hp : ∀ i, i < nt → 0 ≤ pa i ∧ pa i ≤ 100) (hcw : ∀ i, i < 20 → -9999 ≤ cw i ∧ cw i ≤ 9999) {d : Int} (hd1 : d = 1 ∨ d = -1) {m : Int} (m0 : 0 ≤ m) (hm : m ≤ 9999) : ∀ (q : Nat) (c : Int) (fu : Nat) (h : Hs), Sk h → 70 ≤ sz h → RTq h nt tl tw tg ls ms → RDr h nd dA ds → RRo h nr nt rA tA rT wy gr hd gn → RTm h nr rT dr sr (dnz ds dn dr (d * c)) → (∀ i, i < nt → aI h 33 i = iI (tpl pa wy gr sr dn ds dr td (d * c) i)) → (∀ i, i < 20 → aI h 45 i = iI (cw i)) → gI h 1220 29 = iI bd → (gI h 1223 29 = iI 0 ∧ gI h 1224 29 = iI (-1) ∧ gI h 1225 29 = iI (-1)) → 0 ≤ c → c ≤ m → m - c ≤ q → q < fu → (∀ s, 1 ≤ s → s ≤ c → tWh nt ls ms tl tw tg pa wy gr sr dn ds rT dr td nr cw bd d s 0 (-1) (-1)) → ∃ (n k t o : Int) (h' : Hs), fX12_turnNow_b39 N 29 fu h (iI d) (iI m) (iI c) = some (iI n, h') ∧ Stq m (tWh nt ls ms tl tw tg pa wy gr sr dn ds rT dr td nr cw bd d) n k t o ∧ (gI h' 1223 29 = iI k ∧ gI h' 1224 29 = iI t ∧ gI h' 1225 29 = iI o) ∧ Ke [1221, 1222, 1223, 1224, 1225] [33, 43] [] [] h h' ∧ sz h' = sz h ∧ RTm h' nr rT dr sr (dnz ds dn dr (d * n)) ∧ (∀ i, i < nt → aI h' 33 i = iI (tpl pa wy gr sr dn ds dr td (d * n) i)) ∧ gI h' 1221 29 = gI h 1221 29 + iI (d * (n - c)) ∧ gI h' 1222 29 = gI h 1222 29 + iI (n - c) := by
  have stop : ∀ (c : Int) (fu : Nat) (h : Hs), c = m → fX12_turnNow_b39 N 29 (fu + 1) h (iI d) (iI m) (iI c) = some (iI m, h) := by
    intro c fu h hc
    show fX12_turnNow_b39_body N (fX12_turnNow_b39 N 29 fu) 29 h (iI d) (iI m) (iI c) = _
    simp only [fX12_turnNow_b39_body]
    refine ifp ((by rw [hc]; exact Int32.le_refl _)) ?_
    rfl
  have z0 : ∀ x : Int32, x = x + iI 0 := fun x => by
    obtain ⟨a, -, -, rfl⟩ := iI_ex x
    rw [iI_add, Int.add_zero]
  intro q
  induction q with
  | zero =>
    intro c fu h hS hz hT hD hR hM hP hW hB hA c1 c2 hq hf hok
    obtain ⟨fu, rfl⟩ : ∃ m, fu = m + 1 := ⟨fu - 1, by omega⟩
    have ec : c = m := by omega
    subst ec
    refine ⟨c, 0, -1, -1, h, stop c fu h rfl, ⟨m0, Int.le_refl c, fun s' h1 h2 => hok s' h1 h2, Or.inl ⟨rfl, rfl, rfl, rfl⟩⟩, hA, Ke_rf, rfl, hM, hP, ?_, ?_⟩
    · rw [Int.sub_self, Int.mul_zero]; exact z0 _
    · rw [Int.sub_self]; exact z0 _
  | succ q ih =>
    intro c fu h hS hz hT hD hR hM hP hW hB hA c1 c2 hq hf hok
    obtain ⟨fu, rfl⟩ : ∃ m, fu = m + 1 := ⟨fu - 1, by omega⟩
    by_cases ec : c = m
    · subst ec
      refine ⟨c, 0, -1, -1, h, stop c fu h rfl, ⟨m0, Int.le_refl c, fun s' h1 h2 => hok s' h1 h2, Or.inl ⟨rfl, rfl, rfl, rfl⟩⟩, hA, Ke_rf, rfl, hM, hP, ?_, ?_⟩
      · rw [Int.sub_self, Int.mul_zero]; exact z0 _
      · rw [Int.sub_self]; exact z0 _
    have ct := hT.1.2
    have a1 : ¬ iI m ≤ iI c := fun w => by have := (iI_le (by omega) (by omega) (by omega) (by omega)).mp w; omega
    have zb : -100000 ≤ d * (c + 1) ∧ d * (c + 1) ≤ 100000 := by rcases hd1 with rfl | rfl <;> omega
    have zb0 : -100000 ≤ d * c ∧ d * c ≤ 100000 := by rcases hd1 with rfl | rfl <;> omega
    have ed : d = d * (c + 1) - d * c := by rw [Int.mul_add, Int.mul_one]; omega
    obtain ⟨h1, e1, ke1, s1, hM1, hP1⟩ := v_plM (N := N) hN hS hz hD hR hL ct (z := d * c) zb.1 zb.2 ed hdn hM hP
    have hS1 := hS.e hz ke1 (by decide)
    have hT1 := hT.e hz ke1 (by decide) (by decide)
    have hD1 := hD.e hz ke1 (by decide) (by decide) (by decide)
    have hR1 := hR.e hz ke1 (by decide) (by decide) (by decide) (by decide)
    have hbd := fun i hi => tpl_bd (i := i) hL (fun r hr => (hR.2.1 r hr).2.2.2.2.1) (fun r hr => (hR.2.1 r hr).2.2.2.2.2.1) (fun e he => (hD.2.1 e he).2.2.2) hdn hsr hp zb.1 zb.2 hi
    obtain ⟨k, t, o, h2, e2, wh, ww, ke2, s2⟩ := v_find (N := N) hN hS1 (by omega) hT1 hP1 hbd hD1 hR1 hM1 hL b1 b2 (fun i hi => by rw [ke1.2.1 45 (by decide) (by omega)]; exact hW i hi) (by rw [ke1.1 1220 29 (by decide) (by omega)]; exact hB) (fun hin => tpu_bdq hT1 hD1 hR1 hL hsr hcw hin)
    have ke12 : Ke [1221, 1222, 1223, 1224, 1225] [33, 43] [] [] h h2 := (ke1.w (by decide) (by decide) (by decide) (by decide)).tr (ke2.w (by decide) (by decide) (by decide) (by decide))
    have hS2 := hS.e hz ke12 (by decide)
    have hT2 := hT.e hz ke12 (by decide) (by decide)
    have hD2 := hD.e hz ke12 (by decide) (by decide) (by decide)
    have hR2 := hR.e hz ke12 (by decide) (by decide) (by decide) (by decide)
    have hM2 := hM1.e (by omega) ke2 (by decide)
    have hP2 : ∀ i, i < nt → aI h2 33 i = iI (tpl pa wy gr sr dn ds dr td (d * (c + 1)) i) := fun i hi => by rw [ke2.2.1 33 (by decide) (by omega)]; exact hP1 i hi
    have rc0 : rc 12 h (some 29) = some 29 := rcv (by rw [ss_29 hS])
    have rc1 : rc 12 h1 (some 29) = some 29 := rcv (by rw [ss_29 hS1])
    have rc2 : rc 12 h2 (some 29) = some 29 := rcv (by rw [ss_29 hS2])
    have c29 : (sh h2 29).1 = 12 := by rw [ss_29 hS2]
    have o23 : oI 12 23 h2 (some 29) = some (iI k) := oIv c29 ww.1
    have kb : 0 ≤ k ∧ k ≤ 3 := by
      rcases wh with ⟨i, -, -, -, w, -⟩ | ⟨a0, ⟨i, j, -, -, -, -, -, w, -⟩ | ⟨a1, -, -, ⟨w, -⟩ | ⟨w, -⟩⟩⟩ <;> omega
    have lk : iI k ≤ iI 0 ↔ k ≤ 0 := iI_le (by omega) (by omega) (by omega) (by omega)
    have g21 : gI h2 1221 29 = gI h 1221 29 := by rw [ke2.1 1221 29 (by decide) (by omega), ke1.1 1221 29 (by decide) (by omega)]
    have g22 : gI h2 1222 29 = gI h 1222 29 := by rw [ke2.1 1222 29 (by decide) (by omega), ke1.1 1222 29 (by decide) (by omega)]
    by_cases hk : k = 0
    · subst hk
      have tt : t = -1 ∧ o = -1 := by
        rcases wh with ⟨i, -, -, -, w, -⟩ | ⟨a0, ⟨i, j, -, -, -, -, -, w, -⟩ | ⟨a1, w1, w2, -⟩⟩
        · omega
        · omega
        · exact ⟨w1, w2⟩
      obtain ⟨rfl, rfl⟩ := tt
      obtain ⟨h3, eh3⟩ : ∃ h3, h3 = uI (uI h2 1221 29 (gI h 1221 29 + iI d)) 1222 29 (gI h 1222 29 + iI 1) := ⟨_, rfl⟩
      have ke3 : Ke [1221, 1222] [] [] [] h2 h3 := by rw [eh3]; exact (Ke_rf.u 1221 29 _ (by decide)).u 1222 29 _ (by decide)
      have ke : Ke [1221, 1222, 1223, 1224, 1225] [33, 43] [] [] h h3 := ke12.tr (ke3.w (by decide) (by decide) (by decide) (by decide))
      have s3 : sz h3 = sz h := by rw [eh3]; exact s2.trans s1
      have hz2 : 70 ≤ sz h2 := by omega
      obtain ⟨n, k', t', o', h', r1, r2, r3, r4, r5, r6, r7, r8, r9⟩ := ih (c + 1) fu h3 (hS.e hz ke (by decide)) (by omega) (hT.e hz ke (by decide) (by decide)) (hD.e hz ke (by decide) (by decide) (by decide)) (hR.e hz ke (by decide) (by decide) (by decide) (by decide)) (hM2.e hz2 ke3 (by decide)) (fun i hi => by rw [ke3.2.1 33 (by decide) (by omega)]; exact hP2 i hi) (fun i hi => by rw [ke.2.1 45 (by decide) (by omega)]; exact hW i hi) (by rw [ke.1 1220 29 (by decide) (by omega)]; exact hB) ⟨by rw [ke3.1 1223 29 (by decide) (by omega)]; exact ww.1, by rw [ke3.1 1224 29 (by decide) (by omega)]; exact ww.2.1, by rw [ke3.1 1225 29 (by decide) (by omega)]; exact ww.2.2⟩ (by omega) (by omega) (by omega) (by omega) (fun s h1 h2 => by
        by_cases es : s = c + 1
        · rw [es]; exact wh
        · exact hok s h1 (by omega))
      have g31 : gI h3 1221 29 = gI h 1221 29 + iI d := by rw [eh3]; simp [HR]
      have g32 : gI h3 1222 29 = gI h 1222 29 + iI 1 := by rw [eh3]; simp [HR]
      have g2b : gI (uI h2 1221 29 (gI h 1221 29 + iI d)) 1222 29 = gI h 1222 29 := by simp [HR, g22]
      refine ⟨n, k', t', o', h', ?_, r2, r3, ke.tr r4, r5.trans s3, r6, r7, ?_, ?_⟩
      · show fX12_turnNow_b39_body N (fX12_turnNow_b39 N 29 fu) 29 h (iI d) (iI m) (iI c) = _
        simp only [fX12_turnNow_b39_body, lit, iI_add, Option.bind_some]
        refine ifn (a1) ?_
        refine bst (rc0) ?_
        refine bst (e1) ?_
        refine bst (rc1) ?_
        refine bst (e2) ?_
        refine bst (o23) ?_
        refine ifp (lk.mpr (by omega)) ?_
        refine bst (oIv c29 g21) ?_
        refine bst (qIv c29) ?_
        refine bst (oIv (by rw [sh_uI]; exact c29) g2b) ?_
        refine bst (qIv (by rw [sh_uI]; exact c29)) ?_
        rw [← eh3]
        exact r1
      · rw [r8, g31]
        obtain ⟨x, -, -, ex⟩ := iI_ex (gI h 1221 29)
        rw [ex, iI_add, iI_add, iI_add]
        congr 1
        have e9 : d * (n - c) = d + d * (n - (c + 1)) := by
          rw [show n - c = 1 + (n - (c + 1)) by omega, Int.mul_add, Int.mul_one]
        omega
      · rw [r9, g32]
        obtain ⟨x, -, -, ex⟩ := iI_ex (gI h 1222 29)
        rw [ex, iI_add, iI_add, iI_add]
        congr 1
        omega
    · have ed2 : -d = d * c - d * (c + 1) := by rw [Int.mul_add, Int.mul_one]; omega
      obtain ⟨h3, e3, ke3, s3, hM3, hP3⟩ := v_plM (N := N) hN hS2 (by omega) hD2 hR2 hL ct (z := d * (c + 1)) zb0.1 zb0.2 ed2 hdn hM2 hP2
      rw [← iI_neg] at e3
      have ke : Ke [1221, 1222, 1223, 1224, 1225] [33, 43] [] [] h h3 := ke12.tr (ke3.w (by decide) (by decide) (by decide) (by decide))
      refine ⟨c, k, t, o, h3, ?_, ⟨c1, c2, hok, Or.inr ⟨by omega, wh, hk⟩⟩, ⟨by rw [ke3.1 1223 29 (by decide) (by omega)]; exact ww.1, by rw [ke3.1 1224 29 (by decide) (by omega)]; exact ww.2.1, by rw [ke3.1 1225 29 (by decide) (by omega)]; exact ww.2.2⟩, ke, by omega, hM3, hP3, ?_, ?_⟩
      · show fX12_turnNow_b39_body N (fX12_turnNow_b39 N 29 fu) 29 h (iI d) (iI m) (iI c) = _
        simp only [fX12_turnNow_b39_body, lit]
        refine ifn (a1) ?_
        refine bst (rc0) ?_
        refine bst (e1) ?_
        refine bst (rc1) ?_
        refine bst (e2) ?_
        refine bst (o23) ?_
        refine ifn (fun w => by have := lk.mp w; omega) ?_
        refine bst (rc2) ?_
        refine bst (e3) ?_
        rfl
      · rw [ke3.1 1221 29 (by decide) (by omega), g21, Int.sub_self, Int.mul_zero]; exact z0 _
      · rw [ke3.1 1222 29 (by decide) (by omega), g22, Int.sub_self]; exact z0 _
/-- the reference turns -/
theorem v_turnNow {N : Nat} (hN : 100000000 ≤ N) {h : Hs} (hS : Sk h) (hz : 70 ≤ sz h) {nr nt nd : Nat} {rA tA dA rT : Nat → Nat} {wy gr hd ds : Nat → Int} {gn : Nat → Bool} {tl tw tg ls ms pa : Nat → Int} {dr td : Nat → Option Nat} {sr dn : Nat → Int} (hT : RTq h nt tl tw tg ls ms) (hP : ∀ i, i < nt → aI h 33 i = iI (pa i)) (hD : RDr h nd dA ds) (hR : RRo h nr nt rA tA rT wy gr hd gn) (hM : RTm h nr rT dr sr dn) {cw : Nat → Int} {bd : Int} (b1 : 0 ≤ bd) (b2 : bd ≤ 99999) (hL : RTl nt nd nr rT dr td) (hdn : ∀ r, r < nr → dr r ≠ none → -1000000000 ≤ dn r ∧ dn r ≤ 1000000000) (hsr : ∀ r, r < nr → dr r ≠ none → 0 ≤ sr r ∧ sr r ≤ 100) (hA : ∀ r, r < nr → dr r ≠ none → pa (rT r) = sr r + wy r * (dn r).tdiv (100 * gr r)) (hp : ∀ i, i < nt → 0 ≤ pa i ∧ pa i ≤ 100) (hcw : ∀ i, i < 20 → -9999 ≤ cw i ∧ cw i ≤ 9999) (hW : ∀ i, i < 20 → aI h 45 i = iI (cw i)) (hB : gI h 1220 29 = iI bd) {z d m : Int} (z1 : -9999 ≤ z) (z2 : z ≤ 9999) (hdm : (0 ≤ z ∧ d = 1 ∧ m = z) ∨ (z < 0 ∧ d = -1 ∧ m = -z)) : ∃ (n k t o : Int) (h' : Hs), fX12_turnNow N h 29 (iI z) = some (iI n, h') ∧ Stq m (tWh nt ls ms tl tw tg pa wy gr sr dn ds rT dr td nr cw bd d) n k t o ∧ (gI h' 1223 29 = iI k ∧ gI h' 1224 29 = iI t ∧ gI h' 1225 29 = iI o) ∧ Ke [1221, 1222, 1223, 1224, 1225] [33, 43] [] [] h h' ∧ sz h' = sz h ∧ RTm h' nr rT dr sr (dnz ds dn dr (d * n)) ∧ (∀ i, i < nt → aI h' 33 i = iI (tpl pa wy gr sr dn ds dr td (d * n) i)) ∧ gI h' 1221 29 = gI h 1221 29 + iI (d * n) ∧ gI h' 1222 29 = gI h 1222 29 + iI n := by
  obtain ⟨h3, eh3⟩ : ∃ h3, h3 = uI (uI (uI h 1223 29 (iI 0)) 1224 29 (iI (-1))) 1225 29 (iI (-1)) := ⟨_, rfl⟩
  have ke : Ke [1223, 1224, 1225] [] [] [] h h3 := by rw [eh3]; exact ((Ke_rf.u 1223 29 _ (by decide)).u 1224 29 _ (by decide)).u 1225 29 _ (by decide)
  have s3 : sz h3 = sz h := by rw [eh3]; rfl
  have c29 : (sh h 29).1 = 12 := by rw [ss_29 hS]
  have e0 : dnz ds dn dr (d * 0) = dn := by
    funext r
    unfold dnz
    cases dr r with
    | none => rfl
    | some e => simp
  have ep : ∀ i, i < nt → tpl pa wy gr sr dn ds dr td (d * 0) i = pa i := fun i hi => by
    unfold tpl
    cases htd : td i with
    | none => rfl
    | some r =>
      obtain ⟨hr, hrt, hne⟩ := hL.2 i r hi htd
      obtain ⟨e, hde⟩ := Option.ne_none_iff_exists'.mp hne
      simp only [hde, rpl, Int.mul_zero, Int.add_zero]
      rw [← hA r hr hne, hrt]
  obtain ⟨n, k, t, o, h', r1, r2, r3, r4, r5, r6, r7, r8, r9⟩ := L_tnM (N := N) hN b1 b2 hL hdn hsr hp hcw (d := d) (by omega) (m := m) (by omega) (by omega) 9999 0 N h3 (hS.e hz ke (by decide)) (by omega) (hT.e hz ke (by decide) (by decide)) (hD.e hz ke (by decide) (by decide) (by decide)) (hR.e hz ke (by decide) (by decide) (by decide) (by decide)) (by rw [e0]; exact hM.e hz ke (by decide)) (fun i hi => by rw [ep i hi, ke.2.1 33 (by decide) (by omega)]; exact hP i hi) (fun i hi => by rw [ke.2.1 45 (by decide) (by omega)]; exact hW i hi) (by rw [ke.1 1220 29 (by decide) (by omega)]; exact hB) ⟨by rw [eh3]; simp [HR], by rw [eh3]; simp [HR], by rw [eh3]; simp [HR]⟩ (by omega) (by omega) (by omega) (by omega) (fun s h1 h2 => by omega)
  refine ⟨n, k, t, o, h', ?_, r2, r3, (ke.w (by decide) (by decide) (by decide) (by decide)).tr r4, r5.trans s3, r6, r7, ?_, ?_⟩
  · simp only [fX12_turnNow, fX12_turnNow_b24, fX12_turnNow_b35, lit]
    rcases hdm with ⟨q, rfl, rfl⟩ | ⟨q, rfl, rfl⟩
    · have q1 : iI 0 ≤ iI m := (iI_le (by omega) (by omega) (by omega) (by omega)).mpr q
      simp only [iI_neg]
      refine bst (qIv c29) ?_
      refine bst (qIv (by rw [sh_uI]; exact c29)) ?_
      refine bst (qIv (by rw [sh_uI, sh_uI]; exact c29)) ?_
      rw [← eh3]
      refine ifp (q1) ?_
      refine ifp (q1) ?_
      exact r1
    · have q1 : ¬ iI 0 ≤ iI z := fun w => by have := (iI_le (by omega) (by omega) (by omega) (by omega)).mp w; omega
      simp only [iI_neg]
      refine bst (qIv c29) ?_
      refine bst (qIv (by rw [sh_uI]; exact c29)) ?_
      refine bst (qIv (by rw [sh_uI, sh_uI]; exact c29)) ?_
      rw [← eh3]
      refine ifn (q1) ?_
      refine ifn (q1) ?_
      exact r1
  · rw [r8, ke.1 1221 29 (by decide) (by omega), Int.sub_zero]
  · rw [r9, ke.1 1222 29 (by decide) (by omega), Int.sub_zero]
/-! ===== turn ===== -/
def RSh (h : Hs) : Prop := gI h 511 14 = gI h 1221 29 ∧ gI h 512 14 = gI h 1222 29
theorem RSh.e {F A FR AQ : List Nat} {h h2 : Hs} (hC : RSh h) (hz : 70 ≤ sz h) (k : Ke F A FR AQ h h2) (hF : ∀ f ∈ [511, 512, 1221, 1222], f ∉ F) : RSh h2 := by
  refine ⟨?_, ?_⟩
  · rw [k.1 _ _ (hF 511 (by decide)) (by omega), k.1 _ _ (hF 1221 (by decide)) (by omega)]; exact hC.1
  · rw [k.1 _ _ (hF 512 (by decide)) (by omega), k.1 _ _ (hF 1222 (by decide)) (by omega)]; exact hC.2
theorem RTo.mv {F A FR AQ : List Nat} {h h2 : Hs} {nt : Nat} {tA : Nat → Nat} {tl tw tg ls ms pa : Nat → Int} {pa' : Nat → Int} (hC : RTo h nt tA tl tw tg ls ms pa) (hz : 70 ≤ sz h) (k : Ke F A FR AQ h h2) (hF : ∀ f ∈ [507, 900, 901, 902, 903, 904, 905], f ∉ F) (hQ : 15 ∉ AQ) (h9 : ∀ i, i < nt → gI h2 907 (tA i) = iI (pa' i)) (hb : ∀ i, i < nt → ls i ≤ pa' i ∧ pa' i ≤ ms i) : RTo h2 nt tA tl tw tg ls ms pa' := by
  obtain ⟨⟨c1, c2, c3⟩, c4, c5⟩ := hC
  have k6 := k.2.2.2.2.2
  refine ⟨⟨by rw [k.1 _ _ (hF _ (by decide)) (by omega)]; exact c1, trivial, c3⟩, fun i hi => ?_, c5⟩
  obtain ⟨⟨d1, d2, d3, d4⟩, d5, d6, d7⟩ := c4 i hi
  have b := hb i hi
  refine ⟨⟨by rw [k.2.2.2.1 _ hQ (by omega)]; exact d1, d2, by omega, by rw [k.2.2.2.2.1 _ d3]; exact d4⟩, ?_, trivial, by omega⟩
  rw [k.1 _ _ (hF 900 (by decide)) d3, k.1 _ _ (hF 901 (by decide)) d3, k.1 _ _ (hF 902 (by decide)) d3, k.1 _ _ (hF 903 (by decide)) d3, k.1 _ _ (hF 904 (by decide)) d3, k.1 _ _ (hF 905 (by decide)) d3]
  exact ⟨d5.1, d5.2.1, d5.2.2.1, d5.2.2.2.1, d5.2.2.2.2.1, d5.2.2.2.2.2.1, h9 i hi⟩
theorem tpl_0 {nr nt nd : Nat} {rT : Nat → Nat} {pa wy gr ds sr dn : Nat → Int} {dr td : Nat → Option Nat} (hL : RTl nt nd nr rT dr td) (hA : ∀ r, r < nr → dr r ≠ none → pa (rT r) = sr r + wy r * (dn r).tdiv (100 * gr r)) {i : Nat} (hi : i < nt) : tpl pa wy gr sr dn ds dr td 0 i = pa i := by
  unfold tpl
  cases htd : td i with
  | none => rfl
  | some r =>
    obtain ⟨hr, hrt, hne⟩ := hL.2 i r hi htd
    obtain ⟨e, hde⟩ := Option.ne_none_iff_exists'.mp hne
    simp only [hde, rpl, Int.mul_zero, Int.add_zero]
    rw [← hA r hr hne, hrt]
theorem dnz_0 {ds dn : Nat → Int} {dr : Nat → Option Nat} : dnz ds dn dr 0 = dn := by
  funext r
  unfold dnz
  cases dr r with
  | none => rfl
  | some e => simp
theorem tpl_A {nr nt nd : Nat} {rT : Nat → Nat} {pa wy gr ds sr dn : Nat → Int} {dr td : Nat → Option Nat} (hL : RTl nt nd nr rT dr td) (z : Int) {r : Nat} (hr : r < nr) (hne : dr r ≠ none) : tpl pa wy gr sr dn ds dr td z (rT r) = sr r + wy r * (dnz ds dn dr z r).tdiv (100 * gr r) := by
  obtain ⟨e, hde⟩ := Option.ne_none_iff_exists'.mp hne
  have h1 := (hL.1 r e hr hde).2
  simp only [tpl, h1, hde, rpl, dnz]
theorem stq_in {nt : Nat} {ls ms tl tw tg pa wy gr sr dn ds : Nat → Int} {rT : Nat → Nat} {dr td : Nat → Option Nat} {nr nd : Nat} {cw : Nat → Int} {bd d m n k t o : Int} (hL : RTl nt nd nr rT dr td) (hA : ∀ r, r < nr → dr r ≠ none → pa (rT r) = sr r + wy r * (dn r).tdiv (100 * gr r)) (hb : ∀ i, i < nt → ls i ≤ pa i ∧ pa i ≤ ms i) (q : Stq m (tWh nt ls ms tl tw tg pa wy gr sr dn ds rT dr td nr cw bd d) n k t o) {i : Nat} (hi : i < nt) : ls i ≤ tpl pa wy gr sr dn ds dr td (d * n) i ∧ tpl pa wy gr sr dn ds dr td (d * n) i ≤ ms i := by
  obtain ⟨q1, q2, q3, q4⟩ := q
  by_cases w : n = 0
  · rw [w, Int.mul_zero, tpl_0 hL hA hi]
    exact hb i hi
  · exact Decidable.not_not.mp ((Wh0.mp (q3 n (by omega) (Int.le_refl n))).1 i hi)
theorem dnz_bd {nr nd nt : Nat} {rT : Nat → Nat} {ds dn : Nat → Int} {dr td : Nat → Option Nat} (hL : RTl nt nd nr rT dr td) (hs : ∀ e, e < nd → 1 ≤ ds e ∧ ds e ≤ 20) {z B : Int} (z1 : -B ≤ z) (z2 : z ≤ B) {r : Nat} (hr : r < nr) (hne : dr r ≠ none) : -(20 * B) ≤ dnz ds dn dr z r - dn r ∧ dnz ds dn dr z r - dn r ≤ 20 * B := by
  obtain ⟨e, hde⟩ := Option.ne_none_iff_exists'.mp hne
  have h1 := hs e (hL.1 r e hr hde).1
  simp only [dnz, hde]
  have b4 : ds e * z ≤ ds e * B := Int.mul_le_mul_of_nonneg_left z2 (by omega)
  have b5 : ds e * (-B) ≤ ds e * z := Int.mul_le_mul_of_nonneg_left z1 (by omega)
  have b6 : ds e * B ≤ 20 * B := Int.mul_le_mul_of_nonneg_right h1.2 (by omega)
  rw [Int.mul_neg] at b5
  omega
theorem t_turn {N : Nat} (hN : 100000000 ≤ N) {h : Hs} (hS : Sk h) (hz : 70 ≤ sz h) {nr nt nd : Nat} {rA tA dA rT : Nat → Nat} {wy gr hd ds : Nat → Int} {gn : Nat → Bool} {tl tw tg ls ms pa : Nat → Int} {dr td : Nat → Option Nat} {sr dn : Nat → Int} (hT : RTh h nt tA tl tw tg ls ms pa) (hD : RDr h nd dA ds) (hR : RRo h nr nt rA tA rT wy gr hd gn) (hI : RTi h nt nd nr tA dA rA rT dr td sr dn) (hW : ICnt h) (hB : IBnd h) (hE : RSh h) (hG : IStp h) (hK : ICan h) (hdn : ∀ r, r < nr → dr r ≠ none → -1000000000 ≤ dn r ∧ dn r ≤ 1000000000) (hsr : ∀ r, r < nr → dr r ≠ none → 0 ≤ sr r ∧ sr r ≤ 100) (hA : ∀ r, r < nr → dr r ≠ none → pa (rT r) = sr r + wy r * (dn r).tdiv (100 * gr r)) (p : Int32) : ∃ a h1 h2 pa' dn', fX11_turn N h 0 p = some (a, h1) ∧ fX12_turn N h1 29 p = some (a, h2) ∧ RTh h2 nt tA tl tw tg ls ms pa' ∧ RTi h2 nt nd nr tA dA rA rT dr td sr dn' ∧ (∀ r, r < nr → dr r ≠ none → pa' (rT r) = sr r + wy r * (dn' r).tdiv (100 * gr r)) ∧ (∀ r, r < nr → dr r ≠ none → -199980 ≤ dn' r - dn r ∧ dn' r - dn r ≤ 199980) ∧ IStp h2 ∧ ICn h h2 ∧ RSh h2 ∧ Ke [908, 700, 701, 702, 407, 907, 511, 512, 1106, 1221, 1222, 1223, 1224, 1225, 1243] [33, 43] [] [] h h2 ∧ sz h2 = sz h := by
  obtain ⟨z, y1, y2, rfl⟩ := iI_ex p
  by_cases w : -9999 ≤ z ∧ z ≤ 9999
  · obtain ⟨hC, hM, hL⟩ := RTi_iff.mp hI
    obtain ⟨cw, hcw⟩ := hW
    obtain ⟨bd, bb1, bb2, b1, b2⟩ := hB
    obtain ⟨c, k1, k2, k3⟩ := hK
    obtain ⟨d, m, hdm⟩ : ∃ d m : Int, (0 ≤ z ∧ d = 1 ∧ m = z) ∨ (z < 0 ∧ d = -1 ∧ m = -z) := by
      by_cases q : 0 ≤ z
      · exact ⟨1, z, Or.inl ⟨q, rfl, rfl⟩⟩
      · exact ⟨-1, -z, Or.inr ⟨by omega, rfl, rfl⟩⟩
    obtain ⟨n, k, t, o, h1, e1, st, w1, ke1, s1, hC1, hP1, g11, g12⟩ := v_turnBy hN hS hz hT.o hD hR hC b1 b2 hL hdn hsr (fun i hi => (hcw i hi).2.2) (fun i hi => (hcw i hi).1) bb1 w.1 w.2 hdm
    have n0 := st.1
    have n1 := st.2.1
    have nb : n ≤ 9999 := by omega
    have hS1 := hS.e hz ke1 (by decide)
    obtain ⟨h2, eh2⟩ : ∃ h2, h2 = (if 0 < n then uI h1 1106 0 (iI 0) else h1) := ⟨_, rfl⟩
    have ke2 : Ke [1106] [] [] [] h1 h2 := by
      rw [eh2]
      by_cases q : 0 < n
      · rw [if_pos q]; exact Ke_rf.u 1106 0 _ (by decide)
      · rw [if_neg q]; exact Ke_rf
    have s2 : sz h2 = sz h := by
      rw [eh2]
      by_cases q : 0 < n
      · rw [if_pos q]; exact s1
      · rw [if_neg q]; exact s1
    have g06 : gI h2 1106 0 = iI (if 0 < n then 0 else c) := by
      rw [eh2]
      by_cases q : 0 < n
      · rw [if_pos q, if_pos q]; simp [HR]
      · rw [if_neg q, if_neg q, ke1.1 1106 0 (by decide) (by omega)]; exact k1
    have cl : fX11_turn N h 0 (iI z) = some (iI n, h2) := by
      have it := isTurn_c (N := N) (h := h) (by omega) (by omega) (z := z)
      rw [if_pos w] at it
      have rc10 : rc 10 h (some 22) = some 22 := rcv (by rw [ss_22 hS])
      have rc11 : rc 11 h1 (some 0) = some 0 := rcv (by rw [ss_0 hS1])
      have ln : iI n ≤ iI 0 ↔ n ≤ 0 := iI_le (by omega) (by omega) (by omega) (by omega)
      simp only [fX11_turn, fX11_turn_b29, lit]
      by_cases q : 0 < n
      · have dd := v_deed (N := N) hS1 (r := iI n) (z := 1) (Or.inr rfl)
        rw [if_pos rfl] at dd
        rw [if_pos q] at eh2
        refine bst (it) ?_
        refine ifn (n10) ?_
        refine bst (sR_1101_0 hS) ?_
        refine bst (rc10) ?_
        refine bst (e1) ?_
        refine ifn (fun v => by have := ln.mp v; omega) ?_
        refine bst (rc11) ?_
        refine bst (dd) ?_
        rw [eh2]
      · have dd := v_deed (N := N) hS1 (r := iI n) (z := 0) (Or.inl rfl)
        rw [if_neg (by decide)] at dd
        rw [if_neg q] at eh2
        refine bst (it) ?_
        refine ifn (n10) ?_
        refine bst (sR_1101_0 hS) ?_
        refine bst (rc10) ?_
        refine bst (e1) ?_
        refine ifp (ln.mpr (by omega)) ?_
        refine bst (rc11) ?_
        refine bst (dd) ?_
        rw [eh2]
    have ke12 : Ke [908, 700, 701, 702, 407, 907, 511, 512, 1106] [] [] [] h h2 := (ke1.w (by decide) (by decide) (by decide) (by decide)).tr (ke2.w (by decide) (by decide) (by decide) (by decide))
    have hS2 := hS.e hz ke12 (by decide)
    have hz2 : 70 ≤ sz h2 := by omega
    have hD2 := hD.e hz ke12 (by decide) (by decide) (by decide)
    have hR2 := hR.e hz ke12 (by decide) (by decide) (by decide) (by decide)
    have hQ2 := hT.q.e hz ke12 (by decide) (by decide)
    have at2 : ∀ i, i < nt → aI h2 33 i = iI (pa i) := fun i hi => by rw [ke12.2.1 33 (by decide) (by omega)]; exact (hT.2.1 i hi).2.2.1.2.2.2.1
    obtain ⟨n', k', t', o', h3, e3, st', w3, ke3, s3, hM3, hP3, g31, g32⟩ := v_turnNow hN hS2 hz2 hQ2 at2 hD2 hR2 (hM.e hz ke12 (by decide)) b1 b2 hL hdn hsr hA (fun i hi => (show 0 ≤ pa i ∧ pa i ≤ 100 by have := (hT.2.1 i hi).2.2.2; omega)) (fun i hi => (hcw i hi).2.2) (fun i hi => by rw [ke12.2.1 45 (by decide) (by omega)]; exact (hcw i hi).2.1) (by rw [ke12.1 1220 29 (by decide) (by omega)]; exact bb2) w.1 w.2 hdm
    obtain ⟨rfl, rfl, rfl, rfl⟩ := Stq_un (WH := tWh nt ls ms tl tw tg pa wy gr sr dn ds rT dr td nr cw bd d) (fun s k t o k' t' o' a b => Wh_un a b) st st'
    have hS3 := hS2.e hz2 ke3 (by decide)
    have c29 : (sh h3 29).1 = 12 := by rw [ss_29 hS3]
    obtain ⟨h4, eh4⟩ : ∃ h4, h4 = uI h3 1243 29 (iI (if 0 < n then 0 else c)) := ⟨_, rfl⟩
    have ke4 : Ke [1243] [] [] [] h3 h4 := by rw [eh4]; exact Ke_rf.u 1243 29 _ (by decide)
    have s4 : sz h4 = sz h := by rw [eh4]; exact s3.trans s2
    have rf : fX12_turn N h2 29 (iI z) = some (iI n, h4) := by
      have it := isTurn_m (N := N) (h := h2) (by omega) (by omega) (z := z)
      rw [if_pos w] at it
      have rc12 : rc 12 h2 (some 29) = some 29 := rcv (by rw [ss_29 hS2])
      have g43 : gI h3 1243 29 = iI c := by rw [ke3.1 1243 29 (by decide) (by omega), ke12.1 1243 29 (by decide) (by omega)]; exact k2
      have o43 : oI 12 43 h3 (some 29) = some (iI c) := oIv c29 g43
      have ln : iI n = iI 0 ↔ n = 0 := iI_eq (by omega) (by omega) (by omega) (by omega)
      simp only [fX12_turn, fX12_turn_b31, fX12_turn_b32, lit]
      rcases k3 with rfl | rfl
      · have e0 : (if 0 < n then (0 : Int) else 0) = 0 := by by_cases q : 0 < n <;> simp [q]
        rw [e0] at eh4
        refine bst (it) ?_
        refine ifn (n10) ?_
        refine bst (rc12) ?_
        refine bst (e3) ?_
        refine bst (o43) ?_
        refine ifp (rfl) ?_
        refine bst (qZv c29 (by omega)) ?_
        rw [eh4]
      · by_cases q : 0 < n
        · rw [if_pos q] at eh4
          refine bst (it) ?_
          refine ifn (n10) ?_
          refine bst (rc12) ?_
          refine bst (e3) ?_
          refine bst (o43) ?_
          refine ifn (n10) ?_
          refine ifn (fun v => by have := ln.mp v; omega) ?_
          refine bst (qZv c29 (by omega)) ?_
          rw [eh4]
        · rw [if_neg q] at eh4
          refine bst (it) ?_
          refine ifn (n10) ?_
          refine bst (rc12) ?_
          refine bst (e3) ?_
          refine bst (o43) ?_
          refine ifn (n10) ?_
          refine ifp (ln.mpr (by omega)) ?_
          refine bst (qZv c29 (by omega)) ?_
          rw [eh4]
    have ke24 : Ke [1221, 1222, 1223, 1224, 1225, 1243] [33, 43] [] [] h2 h4 := (ke3.w (by decide) (by decide) (by decide) (by decide)).tr (ke4.w (by decide) (by decide) (by decide) (by decide))
    have ke : Ke [908, 700, 701, 702, 407, 907, 511, 512, 1106, 1221, 1222, 1223, 1224, 1225, 1243] [33, 43] [] [] h h4 := (ke12.w (by decide) (by decide) (by decide) (by decide)).tr (ke24.w (by decide) (by decide) (by decide) (by decide))
    have ke1_4 : Ke [1106, 1221, 1222, 1223, 1224, 1225, 1243] [33, 43] [] [] h1 h4 := (ke2.w (by decide) (by decide) (by decide) (by decide)).tr (ke24.w (by decide) (by decide) (by decide) (by decide))
    have zb : -9999 ≤ d * n ∧ d * n ≤ 9999 := by rcases hdm with ⟨_, rfl, _⟩ | ⟨_, rfl, _⟩ <;> omega
    refine ⟨iI n, h2, h4, tpl pa wy gr sr dn ds dr td (d * n), dnz ds dn dr (d * n), cl, rf, ?_, ?_, fun r hr hne => tpl_A hL (d * n) hr hne, fun r hr hne => dnz_bd hL (fun e he => (hD.2.1 e he).2.2.2) (B := 9999) (by omega) (by omega) hr hne, ?_, ?_, ?_, ke, s4⟩
    · refine RTh_of (hT.o.mv hz ke (by decide) (by decide) (fun i hi => ?_) (fun i hi => stq_in hL hA (fun i hi => (show ls i ≤ pa i ∧ pa i ≤ ms i by have := (hT.2.1 i hi).2.2.2; omega)) st hi)) (by rw [ke.1 1201 29 (by decide) (by omega)]; exact hT.1.2.1) (fun i hi => ?_)
      · rw [ke1_4.1 907 _ (by decide) (by have := hT.lt i hi; omega)]; exact hP1 i hi
      · obtain ⟨-, -, ⟨x0, x1, x2, x3, x4, x5⟩, -⟩ := hT.2.1 i hi
        rw [ke.2.1 30 (by decide) (by omega), ke.2.1 31 (by decide) (by omega), ke.2.1 32 (by decide) (by omega), ke.2.1 34 (by decide) (by omega), ke.2.1 35 (by decide) (by omega), ke4.2.1 33 (by decide) (by omega)]
        exact ⟨x0, x1, x2, hP3 i hi, x4, x5⟩
    · exact RTi_iff.mpr ⟨hC1.e (fun i hi => by have := hT.lt i hi; omega) (fun r hr => by have := hR.lt r hr; omega) ke1_4 (by decide) (by decide), hM3.e (by omega) ke4 (by decide), hL⟩
    · refine ⟨?_, ?_, ?_⟩
      · rw [ke1_4.1 700 23 (by decide) (by omega), w1.1, ke4.1 1223 29 (by decide) (by omega), w3.1]
      · rw [ke1_4.1 701 23 (by decide) (by omega), w1.2.1, ke4.1 1224 29 (by decide) (by omega), w3.2.1]
      · rw [ke1_4.1 702 23 (by decide) (by omega), w1.2.2, ke4.1 1225 29 (by decide) (by omega), w3.2.2]
    · refine ⟨if 0 < n then 0 else c, ?_, ?_, ?_⟩
      · rw [ke24.1 1106 0 (by decide) (by omega)]; exact g06
      · rw [eh4]; simp [HR]
      · by_cases q : 0 < n
        · rw [if_pos q]; exact Or.inl rfl
        · rw [if_neg q]; exact k3.imp id (fun e => ⟨e, by rw [k1, e]⟩)
    · refine ⟨?_, ?_⟩
      · rw [ke1_4.1 511 14 (by decide) (by omega), g11, ke4.1 1221 29 (by decide) (by omega), g31, ke12.1 1221 29 (by decide) (by omega), hE.1]
      · rw [ke1_4.1 512 14 (by decide) (by omega), g12, ke4.1 1222 29 (by decide) (by omega), g32, ke12.1 1222 29 (by decide) (by omega), hE.2]
  · have it := isTurn_c (N := N) (h := h) y1 y2
    have im := isTurn_m (N := N) (h := h) y1 y2
    rw [if_neg w] at it im
    refine ⟨iI (-1), h, h, pa, dn, ?_, ?_, hT, hI, hA, fun r _ _ => by omega, hG, hK.n, hE, Ke_rf, rfl⟩
    · simp only [fX11_turn, lit, iI_neg]
      refine bst (it) ?_
      refine ifp (rfl) ?_
      rfl
    · simp only [fX12_turn, lit, iI_neg]
      refine bst (im) ?_
      refine ifp (rfl) ?_
      rfl
/-! ===== free ===== -/
theorem L_freeM {N : Nat} (hN : 100000000 ≤ N) {nr nt nd : Nat} {rT : Nat → Nat} {pa wy gr ds sr dn : Nat → Int} {dr td : Nat → Option Nat} {rA tA dA : Nat → Nat} {hd : Nat → Int} {gn : Nat → Bool} (hL : RTl nt nd nr rT dr td) (hnt : nt ≤ 40) (hdn : ∀ r, r < nr → dr r ≠ none → -1000000000 ≤ dn r ∧ dn r ≤ 1000000000) {d n : Int} (hd1 : d = 1 ∨ d = -1) (n1 : n ≤ 9999) {u1 u2 u3 u4 : Int32} : ∀ (q : Nat) (c : Int) (fu : Nat) (h : Hs), Sk h → 70 ≤ sz h → RDr h nd dA ds → RRo h nr nt rA tA rT wy gr hd gn → RTm h nr rT dr sr (dnz ds dn dr (d * (n - c))) → (∀ i, i < nt → aI h 33 i = iI (tpl pa wy gr sr dn ds dr td (d * (n - c)) i)) → 0 ≤ c → c ≤ n → n - c ≤ q → q < fu → ∃ h', fX12_free_b52 N 29 fu h u1 u2 u3 u4 (iI n) (iI d) (iI c) = some (iI n, h') ∧ Ke [1221, 1222, 1223, 1224, 1225] [33, 43] [] [] h h' ∧ sz h' = sz h ∧ RTm h' nr rT dr sr (dnz ds dn dr 0) ∧ (∀ i, i < nt → aI h' 33 i = iI (tpl pa wy gr sr dn ds dr td 0 i)) ∧ gI h' 1221 29 = gI h 1221 29 - iI (d * n) ∧ gI h' 1222 29 = u4 ∧ gI h' 1223 29 = u1 ∧ gI h' 1224 29 = u2 ∧ gI h' 1225 29 = u3 := by
  have fin : ∀ (c : Int) (fu : Nat) (h : Hs), c = n → Sk h → 70 ≤ sz h → RDr h nd dA ds → RRo h nr nt rA tA rT wy gr hd gn → RTm h nr rT dr sr (dnz ds dn dr (d * (n - c))) → (∀ i, i < nt → aI h 33 i = iI (tpl pa wy gr sr dn ds dr td (d * (n - c)) i)) → ∃ h', fX12_free_b52 N 29 (fu + 1) h u1 u2 u3 u4 (iI n) (iI d) (iI c) = some (iI n, h') ∧ Ke [1221, 1222, 1223, 1224, 1225] [33, 43] [] [] h h' ∧ sz h' = sz h ∧ RTm h' nr rT dr sr (dnz ds dn dr 0) ∧ (∀ i, i < nt → aI h' 33 i = iI (tpl pa wy gr sr dn ds dr td 0 i)) ∧ gI h' 1221 29 = gI h 1221 29 - iI (d * n) ∧ gI h' 1222 29 = u4 ∧ gI h' 1223 29 = u1 ∧ gI h' 1224 29 = u2 ∧ gI h' 1225 29 = u3 := by
    intro c fu h ec hS hz hD hR hM hP
    subst ec
    rw [Int.sub_self, Int.mul_zero] at hM hP
    have c29 : (sh h 29).1 = 12 := by rw [ss_29 hS]
    obtain ⟨h6, eh6⟩ : ∃ h6, h6 = uI (uI (uI (uI (uI h 1221 29 (gI h 1221 29 - iI d * iI c)) 1222 29 u4) 1223 29 u1) 1224 29 u2) 1225 29 u3 := ⟨_, rfl⟩
    have ke : Ke [1221, 1222, 1223, 1224, 1225] [] [] [] h h6 := by rw [eh6]; exact ((((Ke_rf.u 1221 29 _ (by decide)).u 1222 29 _ (by decide)).u 1223 29 _ (by decide)).u 1224 29 _ (by decide)).u 1225 29 _ (by decide)
    refine ⟨h6, ?_, ke.w (by decide) (by decide) (by decide) (by decide), by rw [eh6]; rfl, hM.e hz ke (by decide), fun i hi => by rw [ke.2.1 33 (by decide) (by omega)]; exact hP i hi, by rw [eh6, ← iI_mul]; simp [HR], by rw [eh6]; simp [HR], by rw [eh6]; simp [HR], by rw [eh6]; simp [HR], by rw [eh6]; simp [HR]⟩
    show fX12_free_b52_body N (fX12_free_b52 N 29 fu) 29 h u1 u2 u3 u4 (iI c) (iI d) (iI c) = _
    simp only [fX12_free_b52_body]
    refine ifp (Int32.le_refl _) ?_
    refine bst (oIv c29 rfl) ?_
    refine bst (qIv c29) ?_
    refine bst (qIv (by rw [sh_uI]; exact c29)) ?_
    refine bst (qIv (by rw [sh_uI, sh_uI]; exact c29)) ?_
    refine bst (qIv (by rw [sh_uI, sh_uI, sh_uI]; exact c29)) ?_
    refine bst (qIv (by rw [sh_uI, sh_uI, sh_uI, sh_uI]; exact c29)) ?_
    rw [eh6]
  intro q
  induction q with
  | zero =>
    intro c fu h hS hz hD hR hM hP c1 c2 hq hf
    obtain ⟨fu, rfl⟩ : ∃ m, fu = m + 1 := ⟨fu - 1, by omega⟩
    exact fin c fu h (by omega) hS hz hD hR hM hP
  | succ q ih =>
    intro c fu h hS hz hD hR hM hP c1 c2 hq hf
    obtain ⟨fu, rfl⟩ : ∃ m, fu = m + 1 := ⟨fu - 1, by omega⟩
    by_cases ec : c = n
    · exact fin c fu h ec hS hz hD hR hM hP
    have a1 : ¬ iI n ≤ iI c := fun w => by have := (iI_le (by omega) (by omega) (by omega) (by omega)).mp w; omega
    have zb : -100000 ≤ d * (n - (c + 1)) ∧ d * (n - (c + 1)) ≤ 100000 := by rcases hd1 with rfl | rfl <;> omega
    have ed : -d = d * (n - (c + 1)) - d * (n - c) := by
      rw [show n - c = n - (c + 1) + 1 by omega, Int.mul_add, Int.mul_one]
      omega
    obtain ⟨h1, e1, ke1, s1, hM1, hP1⟩ := v_plM (N := N) hN hS hz hD hR hL hnt (z := d * (n - c)) zb.1 zb.2 ed hdn hM hP
    rw [← iI_neg] at e1
    obtain ⟨h', r1, r2, r3, r4, r5, r6, r7⟩ := ih (c + 1) fu h1 (hS.e hz ke1 (by decide)) (by omega) (hD.e hz ke1 (by decide) (by decide) (by decide)) (hR.e hz ke1 (by decide) (by decide) (by decide) (by decide)) hM1 hP1 (by omega) (by omega) (by omega) (by omega)
    refine ⟨h', ?_, (ke1.w (by decide) (by decide) (by decide) (by decide)).tr r2, r3.trans s1, r4, r5, by rw [r6, ke1.1 1221 29 (by decide) (by omega)], r7⟩
    have rc12 : rc 12 h (some 29) = some 29 := rcv (by rw [ss_29 hS])
    show fX12_free_b52_body N (fX12_free_b52 N 29 fu) 29 h u1 u2 u3 u4 (iI n) (iI d) (iI c) = _
    simp only [fX12_free_b52_body, lit, iI_add, Option.bind_some]
    refine ifn (a1) ?_
    refine bst (rc12) ?_
    refine bst (e1) ?_
    exact r1
theorem t_free {N : Nat} (hN : 100000000 ≤ N) {h : Hs} (hS : Sk h) (hz : 70 ≤ sz h) {nr nt nd : Nat} {rA tA dA rT : Nat → Nat} {wy gr hd ds : Nat → Int} {gn : Nat → Bool} {tl tw tg ls ms pa : Nat → Int} {dr td : Nat → Option Nat} {sr dn : Nat → Int} (hT : RTh h nt tA tl tw tg ls ms pa) (hD : RDr h nd dA ds) (hR : RRo h nr nt rA tA rT wy gr hd gn) (hI : RTi h nt nd nr tA dA rA rT dr td sr dn) (hW : ICnt h) (hB : IBnd h) (hE : RSh h) (hG : IStp h) (hdn : ∀ r, r < nr → dr r ≠ none → -1000000000 ≤ dn r ∧ dn r ≤ 1000000000) (hsr : ∀ r, r < nr → dr r ≠ none → 0 ≤ sr r ∧ sr r ≤ 100) (hA : ∀ r, r < nr → dr r ≠ none → pa (rT r) = sr r + wy r * (dn r).tdiv (100 * gr r)) (p : Int32) : ∃ a h1 h2, fX11_free N h 0 p = some (a, h1) ∧ fX12_free N h1 29 p = some (a, h2) ∧ RTh h2 nt tA tl tw tg ls ms pa ∧ RTi h2 nt nd nr tA dA rA rT dr td sr dn ∧ IStp h2 ∧ RSh h2 ∧ Ke [908, 700, 701, 702, 1221, 1222, 1223, 1224, 1225] [33, 43] [] [] h h2 ∧ sz h2 = sz h := by
  obtain ⟨z, y1, y2, rfl⟩ := iI_ex p
  by_cases w : -9999 ≤ z ∧ z ≤ 9999
  · obtain ⟨hC, hM, hL⟩ := RTi_iff.mp hI
    obtain ⟨cw, hcw⟩ := hW
    obtain ⟨bd, bb1, bb2, b1, b2⟩ := hB
    obtain ⟨d, m, hdm⟩ : ∃ d m : Int, (0 ≤ z ∧ d = 1 ∧ m = z) ∨ (z < 0 ∧ d = -1 ∧ m = -z) := by
      by_cases q : 0 ≤ z
      · exact ⟨1, z, Or.inl ⟨q, rfl, rfl⟩⟩
      · exact ⟨-1, -z, Or.inr ⟨by omega, rfl, rfl⟩⟩
    have ct := hT.1.2.2
    obtain ⟨n, k, t, o, h2, e1, st, w1, ke12, s2, g23⟩ := v_look hN hS hz hT.o hD hR hC b1 b2 hL hdn hsr (fun i hi => (hcw i hi).2.2) (fun i hi => (hcw i hi).1) bb1 w.1 w.2 hdm
    have n0 := st.1
    have n1 := st.2.1
    have nb : n ≤ 9999 := by omega
    have hS2 := hS.e hz ke12 (by decide)
    have hz2 : 70 ≤ sz h2 := by omega
    have cl : fX11_free N h 0 (iI z) = some (iI n, h2) := by
      have it := isTurn_c (N := N) (h := h) (by omega) (by omega) (z := z)
      rw [if_pos w] at it
      have rc10 : rc 10 h (some 22) = some 22 := rcv (by rw [ss_22 hS])
      simp only [fX11_free, fX11_free_b19, lit]
      refine bst (it) ?_
      refine ifn (n10) ?_
      refine bst (sR_1101_0 hS) ?_
      refine bst (rc10) ?_
      refine bst (e1) ?_
      rfl
    have hD2 := hD.e hz ke12 (by decide) (by decide) (by decide)
    have hR2 := hR.e hz ke12 (by decide) (by decide) (by decide) (by decide)
    have hQ2 := hT.q.e hz ke12 (by decide) (by decide)
    have at2 : ∀ i, i < nt → aI h2 33 i = iI (pa i) := fun i hi => by rw [ke12.2.1 33 (by decide) (by omega)]; exact (hT.2.1 i hi).2.2.1.2.2.2.1
    obtain ⟨n', k', t', o', h3, e3, st', w3, ke3, s3, hM3, hP3, g31, g32⟩ := v_turnNow hN hS2 hz2 hQ2 at2 hD2 hR2 (hM.e hz ke12 (by decide)) b1 b2 hL hdn hsr hA (fun i hi => (show 0 ≤ pa i ∧ pa i ≤ 100 by have := (hT.2.1 i hi).2.2.2; omega)) (fun i hi => (hcw i hi).2.2) (fun i hi => by rw [ke12.2.1 45 (by decide) (by omega)]; exact (hcw i hi).2.1) (by rw [ke12.1 1220 29 (by decide) (by omega)]; exact bb2) w.1 w.2 hdm
    obtain ⟨rfl, rfl, rfl, rfl⟩ := Stq_un (WH := tWh nt ls ms tl tw tg pa wy gr sr dn ds rT dr td nr cw bd d) (fun s k t o k' t' o' a b => Wh_un a b) st st'
    have hS3 := hS2.e hz2 ke3 (by decide)
    have hz3 : 70 ≤ sz h3 := by omega
    obtain ⟨h4, r1, ke4, s4, hM4, hP4, q1, q2, q3, q4, q5⟩ := L_freeM (N := N) (rA := rA) (tA := tA) (dA := dA) (hd := hd) (gn := gn) hN hL ct hdn (d := d) (n := n) (by omega) nb (u1 := gI h2 1223 29) (u2 := gI h2 1224 29) (u3 := gI h2 1225 29) (u4 := gI h2 1222 29) 9999 0 N h3 hS3 hz3 (hD2.e hz2 ke3 (by decide) (by decide) (by decide)) (hR2.e hz2 ke3 (by decide) (by decide) (by decide) (by decide)) (by rw [Int.sub_zero]; exact hM3) (fun i hi => by rw [Int.sub_zero]; exact hP3 i hi) (by omega) n0 (by omega) (by omega)
    have rf : fX12_free N h2 29 (iI z) = some (iI n, h4) := by
      have it := isTurn_m (N := N) (h := h2) (by omega) (by omega) (z := z)
      rw [if_pos w] at it
      have rc12 : rc 12 h2 (some 29) = some 29 := rcv (by rw [ss_29 hS2])
      have c29 : (sh h2 29).1 = 12 := by rw [ss_29 hS2]
      simp only [fX12_free, fX12_free_b47, lit]
      rcases hdm with ⟨q, rfl, rfl⟩ | ⟨q, rfl, rfl⟩
      · have q1 : iI 0 ≤ iI m := (iI_le (by omega) (by omega) (by omega) (by omega)).mpr q
        refine bst (it) ?_
        refine ifn (n10) ?_
        refine bst (oIv c29 rfl) ?_
        refine bst (oIv c29 rfl) ?_
        refine bst (oIv c29 rfl) ?_
        refine bst (oIv c29 rfl) ?_
        refine bst (rc12) ?_
        refine bst (e3) ?_
        refine ifp (q1) ?_
        exact r1
      · have q1 : ¬ iI 0 ≤ iI z := fun w => by have := (iI_le (by omega) (by omega) (by omega) (by omega)).mp w; omega
        refine bst (it) ?_
        refine ifn (n10) ?_
        refine bst (oIv c29 rfl) ?_
        refine bst (oIv c29 rfl) ?_
        refine bst (oIv c29 rfl) ?_
        refine bst (oIv c29 rfl) ?_
        refine bst (rc12) ?_
        refine bst (e3) ?_
        refine ifn (q1) ?_
        exact r1
    have ke24 : Ke [1221, 1222, 1223, 1224, 1225] [33, 43] [] [] h2 h4 := ke3.tr ke4
    have ke : Ke [908, 700, 701, 702, 1221, 1222, 1223, 1224, 1225] [33, 43] [] [] h h4 := (ke12.w (by decide) (by decide) (by decide) (by decide)).tr (ke24.w (by decide) (by decide) (by decide) (by decide))
    rw [dnz_0] at hM4
    refine ⟨iI n, h2, h4, cl, rf, ?_, ?_, ?_, ?_, ke, by omega⟩
    · refine RTh_of (hT.o.e hz ke (by decide) (by decide)) (by rw [ke.1 1201 29 (by decide) (by omega)]; exact hT.1.2.1) (fun i hi => ?_)
      obtain ⟨-, -, ⟨x0, x1, x2, x3, x4, x5⟩, -⟩ := hT.2.1 i hi
      rw [ke.2.1 30 (by decide) (by omega), ke.2.1 31 (by decide) (by omega), ke.2.1 32 (by decide) (by omega), ke.2.1 34 (by decide) (by omega), ke.2.1 35 (by decide) (by omega), hP4 i hi, tpl_0 hL hA hi]
      exact ⟨x0, x1, x2, rfl, x4, x5⟩
    · exact RTi_iff.mpr ⟨hC.e hT.lt hR.lt ke (by decide) (by decide), hM4, hL⟩
    · refine ⟨?_, ?_, ?_⟩
      · rw [ke24.1 700 23 (by decide) (by omega), g23 700 (by decide), q3, ke12.1 1223 29 (by decide) (by omega)]; exact hG.1
      · rw [ke24.1 701 23 (by decide) (by omega), g23 701 (by decide), q4, ke12.1 1224 29 (by decide) (by omega)]; exact hG.2.1
      · rw [ke24.1 702 23 (by decide) (by omega), g23 702 (by decide), q5, ke12.1 1225 29 (by decide) (by omega)]; exact hG.2.2
    · refine ⟨?_, ?_⟩
      · rw [ke.1 511 14 (by decide) (by omega), q1, g31, ke12.1 1221 29 (by decide) (by omega), hE.1]
        obtain ⟨x, -, -, ex⟩ := iI_ex (gI h 1221 29)
        rw [ex, iI_add, iI_sub]
        congr 1
        omega
      · rw [ke.1 512 14 (by decide) (by omega), q2, ke12.1 1222 29 (by decide) (by omega)]; exact hE.2
  · have it := isTurn_c (N := N) (h := h) y1 y2
    have im := isTurn_m (N := N) (h := h) y1 y2
    rw [if_neg w] at it im
    refine ⟨iI (-1), h, h, ?_, ?_, hT, hI, hG, hE, Ke_rf, rfl⟩
    · simp only [fX11_free, fX11_free_b19, lit, iI_neg]
      refine bst (it) ?_
      refine ifp (rfl) ?_
      rfl
    · simp only [fX12_free, lit, iI_neg]
      refine bst (im) ?_
      refine ifp (rfl) ?_
      rfl
/-! ===== snap ===== -/
theorem L_isClearo {N : Nat} {h : Hs} (hS : Sk h) {nt : Nat} {tA : Nat → Nat} {tl tw tg ls ms pa : Nat → Int} (hC : RTo h nt tA tl tw tg ls ms pa) {ex : Option Nat} (hex : ∀ k, ex = some k → k < nt) {l x w : Int} (l1 : 0 ≤ l) (l2 : l ≤ 15) (x1 : -1000 ≤ x) (x2 : x ≤ 1000) (w1 : 0 ≤ w) (w2 : w ≤ 1000) : ∀ (d i : Nat) (fu : Nat), i + d = nt → d < fu → fX5_isClear_b3 N 14 fu h (ex.map tA) (iI l) (iI x) (iI w) (iI i) = some (if hasB (metB tl tw pa ex l x w) i d then iI 0 else iI 1, h) := by
  obtain ⟨⟨c1, c2, c3⟩, c4, c5⟩ := hC
  have o9 : oI 5 7 h (some 14) = some (iI nt) := oIv (by rw [ss_14 hS]) c1
  intro d
  induction d with
  | zero =>
    intro i fu hi hf
    obtain ⟨fu, rfl⟩ : ∃ k, fu = k + 1 := ⟨fu - 1, by omega⟩
    show fX5_isClear_b3_body N (fX5_isClear_b3 N 14 fu) 14 h (ex.map tA) (iI l) (iI x) (iI w) (iI i) = _
    have a1 : iI (nt : Int) ≤ iI (i : Int) := (iI_le (by omega) (by omega) (by omega) (by omega)).mpr (by omega)
    simp only [fX5_isClear_b3_body, lit]
    refine bst (o9) ?_
    refine ifp (a1) ?_
    simp [hasB]
  | succ d ih =>
    intro i fu hi hf
    obtain ⟨fu, rfl⟩ : ∃ k, fu = k + 1 := ⟨fu - 1, by omega⟩
    show fX5_isClear_b3_body N (fX5_isClear_b3 N 14 fu) 14 h (ex.map tA) (iI l) (iI x) (iI w) (iI i) = _
    have a1 : ¬ iI (nt : Int) ≤ iI (i : Int) := fun q => by have := (iI_le (by omega) (by omega) (by omega) (by omega)).mp q; omega
    obtain ⟨⟨d1, d2, d3, d4⟩, ⟨g0, g1, g2, g3, g4, g5, g7⟩, -, bb⟩ := c4 i (by omega)
    have e := ih (i + 1) fu (by omega) (by omega)
    simp only [Int.natCast_add, Int.natCast_one] at e
    have oq : lQ 23 h (some 15) (iI i) = some (some (tA i)) := lQv (ss_15 hS) (by omega) (by omega) d1
    have o1 : oI 9 1 h (some (tA i)) = some (iI (tl i)) := oIv (by rw [d4]) g1
    have o2 : oI 9 2 h (some (tA i)) = some (iI (tw i)) := oIv (by rw [d4]) g2
    have o7 : oI 9 7 h (some (tA i)) = some (iI (pa i)) := oIv (by rw [d4]) g7
    have le : iI (tl i) = iI l ↔ tl i = l := iI_eq (by omega) (by omega) (by omega) (by omega)
    have ov := v_overlap (N := N) (h := h) (a := x) (b := w) (c := pa i) (d := tw i) (by omega) (by omega) (by omega) (by omega) (by omega) (by omega) (by omega) (by omega)
    have exi : some (tA i) = ex.map tA ↔ ex = some i := by
      constructor
      · intro q
        cases hx : ex with
        | none => rw [hx] at q; cases q
        | some k =>
          rw [hx] at q
          have q2 : tA i = tA k := Option.some.inj q
          rw [c5 i k (by omega) (hex k hx) q2]
      · intro q
        rw [q]
        rfl
    simp only [fX5_isClear_b3_body, fX5_isClear_b40, fX5_isClear_b41, fX5_isClear_b69, lit, iI_add, Option.bind_some]
    by_cases u1 : ex = some i
    · have mb : metB tl tw pa ex l x w i = false := decide_eq_false (fun q => q.1 u1)
      simp only [hasB, mb, Bool.false_or]
      refine bst (o9) ?_
      refine ifn (a1) ?_
      refine bst (sR_500_14 hS) ?_
      refine bst (oq) ?_
      refine ifp (exi.mpr u1) ?_
      refine ifp (trivial) ?_
      exact e
    · by_cases u2 : tl i = l
      · by_cases u3 : x < pa i + tw i ∧ pa i < x + w
        · have mb : metB tl tw pa ex l x w i = true := decide_eq_true ⟨u1, u2, u3⟩
          rw [if_pos u3] at ov
          simp only [hasB, mb, Bool.true_or, if_true]
          refine bst (o9) ?_
          refine ifn (a1) ?_
          refine bst (sR_500_14 hS) ?_
          refine bst (oq) ?_
          refine ifn (fun q => u1 (exi.mp q)) ?_
          refine bst (o1) ?_
          refine ifp (le.mpr u2) ?_
          refine ifn (n10) ?_
          refine bst (o7) ?_
          refine bst (o2) ?_
          refine bst (ov) ?_
          refine ifn (n10) ?_
          rfl
        · have mb : metB tl tw pa ex l x w i = false := decide_eq_false (fun q => u3 q.2.2)
          rw [if_neg u3] at ov
          simp only [hasB, mb, Bool.false_or]
          refine bst (o9) ?_
          refine ifn (a1) ?_
          refine bst (sR_500_14 hS) ?_
          refine bst (oq) ?_
          refine ifn (fun q => u1 (exi.mp q)) ?_
          refine bst (o1) ?_
          refine ifp (le.mpr u2) ?_
          refine ifn (n10) ?_
          refine bst (o7) ?_
          refine bst (o2) ?_
          refine bst (ov) ?_
          refine ifp (rfl) ?_
          exact e
      · have mb : metB tl tw pa ex l x w i = false := decide_eq_false (fun q => u2 q.2.1)
        simp only [hasB, mb, Bool.false_or]
        refine bst (o9) ?_
        refine ifn (a1) ?_
        refine bst (sR_500_14 hS) ?_
        refine bst (oq) ?_
        refine ifn (fun q => u1 (exi.mp q)) ?_
        refine bst (o1) ?_
        refine ifn (fun q => u2 (le.mp q)) ?_
        refine ifp (trivial) ?_
        exact e
theorem v_isClearo {N : Nat} (hN : 100000000 ≤ N) {h : Hs} (hS : Sk h) {nt : Nat} {tA : Nat → Nat} {tl tw tg ls ms pa : Nat → Int} (hC : RTo h nt tA tl tw tg ls ms pa) {ex : Option Nat} (hex : ∀ k, ex = some k → k < nt) {l x w : Int} (l1 : 0 ≤ l) (l2 : l ≤ 15) (x1 : -1000 ≤ x) (x2 : x ≤ 1000) (w1 : 0 ≤ w) (w2 : w ≤ 1000) : fX5_isClear N h 14 (ex.map tA) (iI l) (iI x) (iI w) = some (if hasB (metB tl tw pa ex l x w) 0 nt then iI 0 else iI 1, h) := by
  have c3 := hC.1.2.2
  exact L_isClearo hS hC hex l1 l2 x1 x2 w1 w2 nt 0 N (by omega) (by omega)
theorem hasB_iff {p : Nat → Bool} : ∀ (d i : Nat), hasB p i d = true ↔ ∃ k, i ≤ k ∧ k < i + d ∧ p k = true
  | 0, i => by simp [hasB]; omega
  | d + 1, i => by
    rw [hasB, Bool.or_eq_true, hasB_iff d (i + 1)]
    constructor
    · rintro (q | ⟨k, h1, h2, h3⟩)
      · exact ⟨i, by omega, by omega, q⟩
      · exact ⟨k, by omega, by omega, h3⟩
    · rintro ⟨k, h1, h2, h3⟩
      by_cases e : k = i
      · subst e; exact Or.inl h3
      · exact Or.inr ⟨k, by omega, by omega, h3⟩
theorem hasB_congr {p q : Nat → Bool} : ∀ (d i : Nat), (∀ k, i ≤ k → k < i + d → p k = q k) → hasB p i d = hasB q i d
  | 0, _, _ => rfl
  | d + 1, i, e => by rw [hasB, hasB, e i (by omega) (by omega), hasB_congr d (i + 1) (fun k h1 h2 => e k (by omega) (by omega))]
def canF (tl tw pa : Nat → Int) (nt : Nat) (cc : Nat → Nat) (cp : Nat → Int) (dd : Int) (t : Nat) (x : Int) : Bool := !(hasB (fun k => decide (cp (5 * (tl t).toNat + k) = x)) 0 (cc (tl t).toNat)) && !(hasB (metB tl tw pa (some t) (tl t) (x + dd) (tw t)) 0 nt)
def fallN (can : Int → Bool) (dd : Int) : Nat → Int → Nat
  | 0, _ => 0
  | f + 1, x => if can x then fallN can dd f (x + dd) + 1 else 0
theorem fallN_le (can : Int → Bool) (dd : Int) : ∀ (f : Nat) (x : Int), fallN can dd f x ≤ f
  | 0, _ => Nat.le_refl 0
  | f + 1, x => by
    rw [fallN]
    have := fallN_le can dd f (x + dd)
    split <;> omega
theorem metB_upd {tl tw pa : Nat → Int} {t : Nat} {x l y w : Int} (k : Nat) : metB tl tw (updO pa t x) (some t) l y w k = metB tl tw pa (some t) l y w k := by
  unfold metB
  by_cases e : k = t
  · subst e; simp
  · rw [updO_n _ _ e]
def ICp (h : Hs) (cc : Nat → Nat) (cp : Nat → Int) : Prop := ∀ l, l < 16 → aI h 21 l = iI (cc l) ∧ aI h 46 l = iI (cc l) ∧ cc l ≤ 5 ∧ ∀ k, k < cc l → aI h 20 (5 * l + k) = iI (cp (5 * l + k)) ∧ aI h 47 (5 * l + k) = iI (cp (5 * l + k)) ∧ 0 ≤ cp (5 * l + k) ∧ cp (5 * l + k) ≤ 99
theorem ICp.e {F A FR AQ : List Nat} {h h2 : Hs} {cc : Nat → Nat} {cp : Nat → Int} (c1 : ICp h cc cp) (hz : 70 ≤ sz h) (k : Ke F A FR AQ h h2) (hA : ∀ a ∈ [20, 21, 46, 47], a ∉ A) : ICp h2 cc cp := fun i hi => by
  rw [k.2.1 _ (hA 20 (by decide)) (by omega), k.2.1 _ (hA 21 (by decide)) (by omega), k.2.1 _ (hA 46 (by decide)) (by omega), k.2.1 _ (hA 47 (by decide)) (by omega)]
  exact c1 i hi
theorem v_canFall {N : Nat} (hN : 100000000 ≤ N) {h : Hs} (hS : Sk h) {nt : Nat} {tA : Nat → Nat} {tl tw tg ls ms pa : Nat → Int} {x : Int} {t : Nat} (ht : t < nt) (hT : RTo h nt tA tl tw tg ls ms (updO pa t x)) {cc : Nat → Nat} {cp : Nat → Int} (hK : ICp h cc cp) {dd : Int} (hd : dd = 1 ∨ dd = -1) : fX5_canFall N h 14 (some (tA t)) (iI dd) = some (if canF tl tw pa nt cc cp dd t x then iI 1 else iI 0, h) := by
  obtain ⟨⟨d1, d2, d3, d4⟩, ⟨g0, g1, g2, g3, g4, g5, g7⟩, -, bb⟩ := hT.2.1 t ht
  rw [updO_s] at g7 bb
  obtain ⟨k1, k2, k3, k4⟩ := hK (tl t).toNat (by omega)
  have el : iI (((tl t).toNat : Nat) : Int) = iI (tl t) := by congr 1; omega
  have hc := L_isCatch (N := N) hS (l := (tl t).toNat) (by omega) k1 k3 (fun k hk => ⟨(k4 k hk).1, (k4 k hk).2.2⟩) (x := x) (by omega) (cc (tl t).toNat) 0 N (by omega) (by omega)
  rw [el] at hc
  have ic : fX5_isCatch N h 14 (iI (tl t)) (iI x) = some (if hasB (fun k => decide (cp (5 * (tl t).toNat + k) = x)) 0 (cc (tl t).toNat) then iI 1 else iI 0, h) := hc
  have cl := v_isClearo hN hS hT (ex := some t) (fun k hk => by cases hk; exact ht) (l := tl t) (x := x + dd) (w := tw t) (by omega) (by omega) (by omega) (by omega) (by omega) (by omega)
  rw [hasB_congr nt 0 (fun k _ _ => metB_upd k)] at cl
  have cl' : fX5_isClear N h 14 (some (tA t)) (iI (tl t)) (iI (x + dd)) (iI (tw t)) = some (if hasB (metB tl tw pa (some t) (tl t) (x + dd) (tw t)) 0 nt then iI 0 else iI 1, h) := cl
  have o1 : oI 9 1 h (some (tA t)) = some (iI (tl t)) := oIv (by rw [d4]) g1
  have o7 : oI 9 7 h (some (tA t)) = some (iI x) := oIv (by rw [d4]) g7
  have o2 : oI 9 2 h (some (tA t)) = some (iI (tw t)) := oIv (by rw [d4]) g2
  have rc5 : rc 5 h (some 14) = some 14 := rcv (by rw [ss_14 hS])
  have ea : iI x + iI dd = iI (x + dd) := by rw [iI_add]
  simp only [fX5_canFall, fX5_canFall_b41, fX5_canFall_b42, lit]
  obtain ⟨q1, hc1⟩ : ∃ b, hasB (fun k => decide (cp (5 * (tl t).toNat + k) = x)) 0 (cc (tl t).toNat) = b := ⟨_, rfl⟩
  obtain ⟨q2, hc2⟩ : ∃ b, hasB (metB tl tw pa (some t) (tl t) (x + dd) (tw t)) 0 nt = b := ⟨_, rfl⟩
  have hcf : canF tl tw pa nt cc cp dd t x = (!q1 && !q2) := by rw [canF, hc1, hc2]
  rw [hcf]
  rw [hc1] at ic
  rw [hc2] at cl'
  cases q1 with
  | true =>
    refine bst (o1) ?_
    refine bst (o7) ?_
    refine bst (rc5) ?_
    refine bst (ic) ?_
    refine ifn (n10) ?_
    refine bst (zc_i0) ?_
    rfl
  | false =>
    cases q2 with
    | true =>
      refine bst (o1) ?_
      refine bst (o7) ?_
      refine bst (rc5) ?_
      refine bst (ic) ?_
      refine ifp (rfl) ?_
      refine bst (o1) ?_
      refine bst (o7) ?_
      refine bst (o2) ?_
      refine bst (rc5) ?_
      rw [ea]
      refine bst (cl') ?_
      refine ifp (rfl) ?_
      refine bst (zc_i0) ?_
      rfl
    | false =>
      refine bst (o1) ?_
      refine bst (o7) ?_
      refine bst (rc5) ?_
      refine bst (ic) ?_
      refine ifp (rfl) ?_
      refine bst (o1) ?_
      refine bst (o7) ?_
      refine bst (o2) ?_
      refine bst (rc5) ?_
      rw [ea]
      refine bst (cl') ?_
      refine ifn (n10) ?_
      refine bst (zc_i1) ?_
      rfl
theorem L_fall {N : Nat} (hN : 100000000 ≤ N) {nt : Nat} {tA : Nat → Nat} {tl tw tg ls ms pa : Nat → Int} {t : Nat} (ht : t < nt) {cc : Nat → Nat} {cp : Nat → Int} {dd : Int} (hd : dd = 1 ∨ dd = -1) {most : Int} (hm : most ≤ 1000) : ∀ (f : Nat) (x c : Int) (fu : Nat) (h : Hs), Sk h → 70 ≤ sz h → RTo h nt tA tl tw tg ls ms (updO pa t x) → ICp h cc cp → 0 ≤ c → most - c = f → ls t ≤ x + dd * f → x + dd * f ≤ ms t → f < fu → ∃ h', fX5_fall_b3 N 14 fu h (some (tA t)) (iI dd) (iI most) (iI c) = some (iI (c + fallN (canF tl tw pa nt cc cp dd t) dd f x), h') ∧ Ke [907] [] [] [] h h' ∧ sz h' = sz h ∧ RTo h' nt tA tl tw tg ls ms (updO pa t (x + dd * fallN (canF tl tw pa nt cc cp dd t) dd f x)) := by
  intro f
  induction f with
  | zero =>
    intro x c fu h hS hz hT hK c0 hc b1 b2 hf
    obtain ⟨fu, rfl⟩ : ∃ m, fu = m + 1 := ⟨fu - 1, by omega⟩
    have a1 : iI most ≤ iI c := (iI_le (by omega) (by omega) (by omega) (by omega)).mpr (by omega)
    refine ⟨h, ?_, Ke_rf, rfl, by simpa [fallN] using hT⟩
    show fX5_fall_b3_body N (fX5_fall_b3 N 14 fu) 14 h (some (tA t)) (iI dd) (iI most) (iI c) = _
    simp only [fX5_fall_b3_body, fX5_fall_b34]
    refine ifp (a1) ?_
    simp [fallN]
  | succ f ih =>
    intro x c fu h hS hz hT hK c0 hc b1 b2 hf
    obtain ⟨fu, rfl⟩ : ∃ m, fu = m + 1 := ⟨fu - 1, by omega⟩
    have a1 : ¬ iI most ≤ iI c := fun q => by have := (iI_le (by omega) (by omega) (by omega) (by omega)).mp q; omega
    have rc5 : rc 5 h (some 14) = some 14 := rcv (by rw [ss_14 hS])
    have cf := v_canFall hN hS ht hT hK hd
    obtain ⟨⟨d1, d2, d3, d4⟩, ⟨g0, g1, g2, g3, g4, g5, g7⟩, -, bb⟩ := hT.2.1 t ht
    rw [updO_s] at g7 bb
    cases hcf : canF tl tw pa nt cc cp dd t x with
    | false =>
      rw [hcf] at cf
      have e0 : fallN (canF tl tw pa nt cc cp dd t) dd (f + 1) x = 0 := by simp [fallN, hcf]
      rw [e0]
      refine ⟨h, ?_, Ke_rf, rfl, by simpa using hT⟩
      show fX5_fall_b3_body N (fX5_fall_b3 N 14 fu) 14 h (some (tA t)) (iI dd) (iI most) (iI c) = _
      simp only [fX5_fall_b3_body, fX5_fall_b34, lit]
      refine ifn (a1) ?_
      refine bst (rc5) ?_
      refine bst (cf) ?_
      refine ifp (rfl) ?_
      simp
    | true =>
      rw [hcf] at cf
      have e0 : fallN (canF tl tw pa nt cc cp dd t) dd (f + 1) x = fallN (canF tl tw pa nt cc cp dd t) dd f (x + dd) + 1 := by simp [fallN, hcf]
      rw [e0]
      obtain ⟨h1, eh1⟩ : ∃ h1, h1 = uI h 907 (tA t) (iI (x + dd)) := ⟨_, rfl⟩
      have ke1 : Ke [907] [] [] [] h h1 := by rw [eh1]; exact Ke_rf.u 907 _ _ (by decide)
      have s1 : sz h1 = sz h := by rw [eh1]; rfl
      have ef : x + dd * ((f + 1 : Nat) : Int) = x + dd + dd * f := by rw [Int.natCast_add, Int.natCast_one, Int.mul_add, Int.mul_one]; omega
      rw [ef] at b1 b2
      have hb1 : ls t ≤ x + dd ∧ x + dd ≤ ms t := by
        rcases hd with rfl | rfl <;> omega
      have hT1 : RTo h1 nt tA tl tw tg ls ms (updO pa t (x + dd)) := hT.mv hz ke1 (by decide) (by decide) (fun i hi => by
        by_cases e : i = t
        · subst e
          rw [updO_s, eh1]
          simp [HR]
        · have na : ¬ tA i = tA t := fun q => e (hT.2.2 i t hi ht q)
          have g := (hT.2.1 i hi).2.1.2.2.2.2.2.2
          rw [updO_n _ _ e] at g ⊢
          rw [eh1]
          simp [HR, na, g]) (fun i hi => by
        by_cases e : i = t
        · subst e
          rw [updO_s]
          exact hb1
        · have b := (hT.2.1 i hi).2.2.2
          rw [updO_n _ _ e] at b ⊢
          omega)
      obtain ⟨h', r1, r2, r3, r4⟩ := ih (x + dd) (c + 1) fu h1 (hS.e hz ke1 (by decide)) (by omega) hT1 (hK.e hz ke1 (by decide)) (by omega) (by omega) b1 b2 (by omega)
      have ea : iI x + iI dd = iI (x + dd) := by rw [iI_add]
      refine ⟨h', ?_, ke1.tr r2, r3.trans s1, ?_⟩
      · show fX5_fall_b3_body N (fX5_fall_b3 N 14 fu) 14 h (some (tA t)) (iI dd) (iI most) (iI c) = _
        simp only [fX5_fall_b3_body, lit, Option.bind_some]
        refine ifn (a1) ?_
        refine bst (rc5) ?_
        refine bst (cf) ?_
        refine ifn (n10) ?_
        refine bst (oIv (by rw [d4]) g7) ?_
        refine bst (qIv (by rw [d4])) ?_
        rw [ea, ← eh1, iI_add, r1]
        congr 3
        rw [Int.natCast_add, Int.natCast_one]
        omega
      · have e9 : x + dd * ((fallN (canF tl tw pa nt cc cp dd t) dd f (x + dd) + 1 : Nat) : Int) = x + dd + dd * (fallN (canF tl tw pa nt cc cp dd t) dd f (x + dd) : Nat) := by rw [Int.natCast_add, Int.natCast_one, Int.mul_add, Int.mul_one]; omega
        rw [e9]
        exact r4
theorem L_fallM {N : Nat} (hN : 100000000 ≤ N) {nt : Nat} {tl tw tg ls ms pa : Nat → Int} (hb : ∀ i, i < nt → 0 ≤ pa i ∧ pa i ≤ 100) {t r : Nat} (ht : t < nt) (hr : r < 40) {cc : Nat → Nat} {cp : Nat → Int} {wr dd : Int} (hd : dd = 1 ∨ dd = -1) (hw : dd = -wr) {most : Int} (hm : most ≤ 1000) : ∀ (f : Nat) (x c : Int) (fu : Nat) (h : Hs), Sk h → 70 ≤ sz h → RTq h nt tl tw tg ls ms → (∀ i, i < nt → aI h 33 i = iI (updO pa t x i)) → aI h 40 r = iI wr → ICp h cc cp → 0 ≤ c → most - c = f → 0 ≤ x → x ≤ 100 → 0 ≤ x + dd * f → x + dd * f ≤ 100 → f < fu → ∃ h', fX12_snap_b107 N 29 fu h (iI r) (iI t) (iI most) (iI c) = some (iI (c + fallN (canF tl tw pa nt cc cp dd t) dd f x), h') ∧ Ke [] [33] [] [] h h' ∧ sz h' = sz h ∧ (∀ i, i < nt → aI h' 33 i = iI (updO pa t (x + dd * fallN (canF tl tw pa nt cc cp dd t) dd f x) i)) := by
  intro f
  induction f with
  | zero =>
    intro x c fu h hS hz hT hP h40 hK c0 hc x1 x2 b1 b2 hf
    obtain ⟨fu, rfl⟩ : ∃ m, fu = m + 1 := ⟨fu - 1, by omega⟩
    have a1 : iI most ≤ iI c := (iI_le (by omega) (by omega) (by omega) (by omega)).mpr (by omega)
    refine ⟨h, ?_, Ke_rf, rfl, by simpa [fallN] using hP⟩
    show fX12_snap_b107_body N (fX12_snap_b107 N 29 fu) 29 h (iI r) (iI t) (iI most) (iI c) = _
    simp only [fX12_snap_b107_body, fX12_snap_b174]
    refine ifp (a1) ?_
    simp [fallN]
  | succ f ih =>
    intro x c fu h hS hz hT hP h40 hK c0 hc x1 x2 b1 b2 hf
    obtain ⟨fu, rfl⟩ : ∃ m, fu = m + 1 := ⟨fu - 1, by omega⟩
    have a1 : ¬ iI most ≤ iI c := fun q => by have := (iI_le (by omega) (by omega) (by omega) (by omega)).mp q; omega
    have ct := hT.1.2
    have rc12 : rc 12 h (some 29) = some 29 := rcv (by rw [ss_29 hS])
    obtain ⟨⟨g0, g1, g2, g4, g5⟩, bb⟩ := hT.2 t ht
    have g3 := hP t ht
    rw [updO_s] at g3
    obtain ⟨k1, k2, k3, k4⟩ := hK (tl t).toNat (by omega)
    have el : iI (((tl t).toNat : Nat) : Int) = iI (tl t) := by congr 1; omega
    have hcc := L_isCaught (N := N) hS (l := (tl t).toNat) (by omega) k2 k3 (fun k hk => ⟨(k4 k hk).2.1, (k4 k hk).2.2⟩) (x := x) (by omega) (cc (tl t).toNat) 0 N (by omega) (by omega)
    rw [el] at hcc
    have ic : fX12_isCaught N h 29 (iI (tl t)) (iI x) = some (if hasB (fun k => decide (cp (5 * (tl t).toNat + k) = x)) 0 (cc (tl t).toNat) then iI 1 else iI 0, h) := hcc
    have l0 := lAv (ss_30 hS) (show t < 40 by omega) (by omega) g0
    have l3 := lAv (ss_33 hS) (show t < 40 by omega) (by omega) g3
    have l40 := lAv (ss_40 hS) hr (by omega) h40
    have ea : iI x - iI wr = iI (x + dd) := by rw [iI_sub, hw]; congr 1
    have hbu : ∀ i, i < nt → 0 ≤ updO pa t x i ∧ updO pa t x i ≤ 100 := fun i hi => by
      by_cases e : i = t
      · subst e; rw [updO_s]; exact ⟨x1, x2⟩
      · rw [updO_n _ _ e]; exact hb i hi
    have ot := v_other (N := N) hN hS hT hP hbu (x := x + dd) (by omega) (by omega) ht
    have met : (∃ o, o < nt ∧ o ≠ t ∧ HitX tl tw (updO pa t x) (x + dd) t o) ↔ hasB (metB tl tw pa (some t) (tl t) (x + dd) (tw t)) 0 nt = true := by
      rw [hasB_iff]
      constructor
      · rintro ⟨o, h1, h2, h3, h4⟩
        rw [updO_n _ _ h2] at h4
        exact ⟨o, by omega, by omega, decide_eq_true ⟨fun q => h2 (Option.some.inj q).symm, h3.symm, h4⟩⟩
      · rintro ⟨o, h1, h2, h3⟩
        obtain ⟨q1, q2, q3⟩ := of_decide_eq_true h3
        have ne : o ≠ t := fun q => q1 (by rw [q])
        refine ⟨o, by omega, ne, q2.symm, ?_⟩
        rw [updO_n _ _ ne]
        exact q3
    have stay : fallN (canF tl tw pa nt cc cp dd t) dd (f + 1) x = 0 → fX12_snap_b107 N 29 (fu + 1) h (iI r) (iI t) (iI most) (iI c) = some (iI c, h) → ∃ h', fX12_snap_b107 N 29 (fu + 1) h (iI r) (iI t) (iI most) (iI c) = some (iI (c + fallN (canF tl tw pa nt cc cp dd t) dd (f + 1) x), h') ∧ Ke [] [33] [] [] h h' ∧ sz h' = sz h ∧ (∀ i, i < nt → aI h' 33 i = iI (updO pa t (x + dd * fallN (canF tl tw pa nt cc cp dd t) dd (f + 1) x) i)) := by
      intro e0 e1
      rw [e0, e1]
      exact ⟨h, by simp, Ke_rf, rfl, by simpa using hP⟩
    cases hc1 : hasB (fun k => decide (cp (5 * (tl t).toNat + k) = x)) 0 (cc (tl t).toNat) with
    | true =>
      rw [hc1] at ic
      refine stay (by simp [fallN, canF, hc1]) ?_
      show fX12_snap_b107_body N (fX12_snap_b107 N 29 fu) 29 h (iI r) (iI t) (iI most) (iI c) = _
      simp only [fX12_snap_b107_body, fX12_snap_b174, lit]
      refine ifn (a1) ?_
      refine bst (sR_1202_29 hS) ?_
      refine bst (l0) ?_
      refine bst (sR_1205_29 hS) ?_
      refine bst (l3) ?_
      refine bst (rc12) ?_
      refine bst (ic) ?_
      refine ifn (n10) ?_
      rfl
    | false =>
      rw [hc1] at ic
      rcases ot with ⟨o0, e1, e2, e3, e4, e5⟩ | ⟨e1, e2⟩
      · have hc2 := met.mp ⟨o0, e1, e2, e3⟩
        have w0 : iI 0 ≤ iI (o0 : Int) := (iI_le (by omega) (by omega) (by omega) (by omega)).mpr (by omega)
        refine stay (by simp [fallN, canF, hc2]) ?_
        show fX12_snap_b107_body N (fX12_snap_b107 N 29 fu) 29 h (iI r) (iI t) (iI most) (iI c) = _
        simp only [fX12_snap_b107_body, fX12_snap_b174, lit]
        refine ifn (a1) ?_
        refine bst (sR_1202_29 hS) ?_
        refine bst (l0) ?_
        refine bst (sR_1205_29 hS) ?_
        refine bst (l3) ?_
        refine bst (rc12) ?_
        refine bst (ic) ?_
        refine ifp (rfl) ?_
        refine bst (sR_1205_29 hS) ?_
        refine bst (l3) ?_
        refine bst (sR_1214_29 hS) ?_
        refine bst (l40) ?_
        refine bst (rc12) ?_
        rw [ea]
        refine bst (e5) ?_
        refine ifp (w0) ?_
        rfl
      · have hc2 : hasB (metB tl tw pa (some t) (tl t) (x + dd) (tw t)) 0 nt = false := by
          cases hx : hasB (metB tl tw pa (some t) (tl t) (x + dd) (tw t)) 0 nt with
          | false => rfl
          | true =>
            obtain ⟨o, q1, q2, q3⟩ := met.mpr hx
            exact absurd q3 (e1 o q1 q2)
        have hcf : canF tl tw pa nt cc cp dd t x = true := by simp [canF, hc1, hc2]
        have e0 : fallN (canF tl tw pa nt cc cp dd t) dd (f + 1) x = fallN (canF tl tw pa nt cc cp dd t) dd f (x + dd) + 1 := by simp [fallN, hcf]
        rw [e0]
        have w0 : ¬ iI 0 ≤ iI (-1) := by decide
        obtain ⟨h1, eh1⟩ : ∃ h1, h1 = uA h 33 t (iI (x + dd)) := ⟨_, rfl⟩
        have ke1 : Ke [] [33] [] [] h h1 := by rw [eh1]; exact Ke_rf.b 33 _ _ (by decide)
        have s1 : sz h1 = sz h := by rw [eh1]; rfl
        have ef : x + dd * ((f + 1 : Nat) : Int) = x + dd + dd * f := by rw [Int.natCast_add, Int.natCast_one, Int.mul_add, Int.mul_one]; omega
        rw [ef] at b1 b2
        obtain ⟨h', r1, r2, r3, r4⟩ := ih (x + dd) (c + 1) fu h1 (hS.e hz ke1 (by decide)) (by omega) (hT.e hz ke1 (by decide) (by decide)) (fun i hi => by
          by_cases e : i = t
          · subst e
            rw [updO_s, eh1]
            simp [HR]
          · have g := hP i hi
            rw [updO_n _ _ e] at g ⊢
            rw [eh1]
            simp [HR, e, g]) (by rw [ke1.2.1 40 (by decide) (by omega)]; exact h40) (hK.e hz ke1 (by decide)) (by omega) (by omega) (by rcases hd with rfl | rfl <;> omega) (by rcases hd with rfl | rfl <;> omega) b1 b2 (by omega)
        refine ⟨h', ?_, ke1.tr r2, r3.trans s1, ?_⟩
        · show fX12_snap_b107_body N (fX12_snap_b107 N 29 fu) 29 h (iI r) (iI t) (iI most) (iI c) = _
          simp only [fX12_snap_b107_body, lit, Option.bind_some]
          refine ifn (a1) ?_
          refine bst (sR_1202_29 hS) ?_
          refine bst (l0) ?_
          refine bst (sR_1205_29 hS) ?_
          refine bst (l3) ?_
          refine bst (rc12) ?_
          refine bst (ic) ?_
          refine ifp (rfl) ?_
          refine bst (sR_1205_29 hS) ?_
          refine bst (l3) ?_
          refine bst (sR_1214_29 hS) ?_
          refine bst (l40) ?_
          refine bst (rc12) ?_
          rw [ea]
          refine bst (e2) ?_
          refine ifn (w0) ?_
          refine bst (sR_1205_29 hS) ?_
          refine bst (l3) ?_
          refine bst (sR_1214_29 hS) ?_
          refine bst (l40) ?_
          refine bst (sAv (ss_33 hS) (by omega) (by omega)) ?_
          rw [ea, ← eh1, iI_add, r1]
          congr 3
          rw [Int.natCast_add, Int.natCast_one]
          omega
        · have e9 : x + dd * ((fallN (canF tl tw pa nt cc cp dd t) dd f (x + dd) + 1 : Nat) : Int) = x + dd + dd * (fallN (canF tl tw pa nt cc cp dd t) dd f (x + dd) : Nat) := by rw [Int.natCast_add, Int.natCast_one, Int.mul_add, Int.mul_one]; omega
          rw [e9]
          exact r4
/-! ===== snap: class beside reference ===== -/
theorem sZv {h : Hs} {a n i : Nat} {v : Int} (hs : sh h a = (21, n)) (hi : i < n) (hn : n < 5000) (hv : v = 0 ∨ v = 1) : sZ h (some a) (iI i) (iI v) = some (uA h a i (iI v)) := by
  have e1 : ixb (iI (i : Int)) n = true := ixb_i (by omega) (by omega) (by omega)
  have e2 : (iI (i : Int)).toNatClampNeg = i := by rw [iI_cl (by omega) (by omega)]; simp
  have e : vp_nar .boolean (iI v) = iI v := by
    rcases hv with rfl | rfl <;> decide
  simp [sZ, hs, e1, e2, e]
theorem t_snap {N : Nat} (hN : 100000000 ≤ N) {h : Hs} (hS : Sk h) (hz : 70 ≤ sz h) {nr nt nd : Nat} {rA tA dA rT : Nat → Nat} {wy gr hd ds : Nat → Int} {gn : Nat → Bool} {tl tw tg ls ms pa : Nat → Int} {dr td : Nat → Option Nat} {sr dn : Nat → Int} {cc : Nat → Nat} {cp : Nat → Int} (hT : RTh h nt tA tl tw tg ls ms pa) (hnd : nd ≤ 20) (hR : RRo h nr nt rA tA rT wy gr hd gn) (hI : RTi h nt nd nr tA dA rA rT dr td sr dn) (hK : ICp h cc cp) (hB : ICan h) (hG : ∀ r, nr ≤ r → r < 40 → aI h 44 r = iI 0) (hdn : ∀ r, r < nr → dr r ≠ none → -1000000000 ≤ dn r ∧ dn r ≤ 1000000000) (hsl : ∀ r, r < nr → dr r ≠ none → ls (rT r) ≤ sr r ∧ sr r ≤ ms (rT r)) (hA : ∀ r, r < nr → dr r ≠ none → pa (rT r) = sr r + wy r * (dn r).tdiv (100 * gr r)) (p : Int32) : ∃ a h1 h2 pa' gn' dr' td', fX11_snap N h 0 p = some (a, h1) ∧ fX12_snap N h1 29 p = some (a, h2) ∧ RTh h2 nt tA tl tw tg ls ms pa' ∧ RRo h2 nr nt rA tA rT wy gr hd gn' ∧ RTi h2 nt nd nr tA dA rA rT dr' td' sr dn ∧ ICn h h2 ∧ (∀ r, nr ≤ r → r < 40 → aI h2 44 r = iI 0) ∧ (∀ r, r < nr → dr' r ≠ none → dr r ≠ none ∧ pa' (rT r) = pa (rT r)) ∧ Ke [407, 408, 907, 1106, 1243] [33, 42, 44] [405, 909] [] h h2 ∧ sz h2 = sz h := by
  obtain ⟨z, y1, y2, rfl⟩ := iI_ex p
  obtain ⟨hC, hM, hL⟩ := RTi_iff.mp hI
  have hB0 := hB
  obtain ⟨c, k1, k2, k3⟩ := hB
  have ct := hT.1.2.2
  have cr := hR.1.2.2
  have rc5 : rc 5 h (some 14) = some 14 := rcv (by rw [ss_14 hS])
  have rc11 : rc 11 h (some 0) = some 0 := rcv (by rw [ss_0 hS])
  have rc12 : rc 12 h (some 29) = some 29 := rcv (by rw [ss_29 hS])
  have ir := v_isRope (N := N) hS hR.1.2.1 cr y1 y2
  have no : ∀ v : Int, v = -1 ∨ v = -2 → fX5_breakRope N h 14 (iI z) = some (iI v, h) → fX11_snap N h 0 (iI z) = some (iI v, h) := by
    intro v hv e
    have dd := v_deed (N := N) hS (r := iI v) (z := 0) (Or.inl rfl)
    rw [if_neg (by decide)] at dd
    have l0 : iI v < iI 0 := (iI_lt (by omega) (by omega) (by omega) (by omega)).mpr (by omega)
    simp only [fX11_snap, fX11_snap_b20, lit]
    refine bst (sR_1100_0 hS) ?_
    refine bst (rc5) ?_
    refine bst (e) ?_
    refine ifp (l0) ?_
    refine bst (rc11) ?_
    refine bst (dd) ?_
    rfl
  by_cases w : 0 ≤ z ∧ z ≤ (nr : Int) - 1
  · obtain ⟨r, rfl⟩ : ∃ i : Nat, z = i := ⟨z.toNat, by omega⟩
    have hr : r < nr := by omega
    rw [if_pos w] at ir
    have ry := v_ropeY (N := N) hS hR hr
    obtain ⟨⟨d1, d2, d3, d4⟩, ⟨f0, f1, f2, f3, f4, f8⟩, ⟨m0, m1, m2, m3, m4⟩, q1, q2, q3, q4, q5⟩ := hR.2.1 r hr
    obtain ⟨x1, x2⟩ := hM r hr
    obtain ⟨v1, v2⟩ := hC.1 r hr
    cases hdr : dr r with
    | none =>
      rw [hdr] at x1 v1
      simp only [od] at x1
      refine ⟨iI (-2), h, h, pa, gn, dr, td, no (-2) (by omega) ?_, ?_, hT, hR, hI, hB0.n, hG, fun r _ hn => ⟨hn, rfl⟩, Ke_rf, rfl⟩
      · simp only [fX5_breakRope, lit, iI_neg]
        refine bst (rc5) ?_
        refine bst (ry) ?_
        refine ifn (fun q => by cases q) ?_
        refine bst (oRv (by rw [d4]) v1) ?_
        refine ifp (rfl) ?_
        rfl
      · have w0 : ¬ iI 0 ≤ iI (-1) := by decide
        simp only [fX12_snap, lit, iI_neg]
        refine bst (rc12) ?_
        refine bst (ir) ?_
        refine ifn (n10) ?_
        refine bst (sR_1216_29 hS) ?_
        refine bst (lAv (ss_42 hS) (by omega) (by omega) x1) ?_
        refine ifn (w0) ?_
        rfl
    | some e0 =>
      have hne : dr r ≠ none := by rw [hdr]; exact fun q => by cases q
      obtain ⟨hel, htr⟩ := hL.1 r e0 hr hdr
      obtain ⟨x3, x4⟩ := x2 hne
      obtain ⟨v3, v4⟩ := v2 hne
      rw [hdr] at x1 v1
      simp only [od] at x1
      obtain ⟨t, et⟩ : ∃ t, t = rT r := ⟨_, rfl⟩
      have ht : t < nt := by rw [et]; exact q1
      obtain ⟨⟨t1, t2, t3, t4⟩, ⟨g0, g1, g2, g3, g4, g5, g7⟩, ⟨a0, a1, a2, a3, a4, a5⟩, bb⟩ := hT.2.1 t ht
      have nb := hdn r hr hne
      have sb := hsl r hr hne
      have hAr := hA r hr hne
      rw [← et] at sb hAr x4 f1 m0 htr
      obtain ⟨M, hM0, hMd⟩ : ∃ M : Int, 0 ≤ M ∧ ((dn r ≤ 0 ∧ M = 0) ∨ (0 < dn r ∧ pa t = sr r + wy r * M)) := by
        by_cases q : dn r ≤ 0
        · exact ⟨0, by omega, Or.inl ⟨q, rfl⟩⟩
        · refine ⟨(dn r).tdiv (100 * gr r), ?_, Or.inr ⟨by omega, hAr⟩⟩
          rw [Int.tdiv_eq_ediv_of_nonneg (by omega)]
          exact Int.ediv_nonneg (by omega) (by omega)
      have hMb : M ≤ 100 := by
        rcases hMd with ⟨_, q⟩ | ⟨_, q⟩
        · omega
        · rcases q2 with q2 | q2 <;> rw [q2] at q <;> omega
      have hend : ls t ≤ pa t + -wy r * M ∧ pa t + -wy r * M ≤ ms t := by
        rcases hMd with ⟨_, q⟩ | ⟨_, q⟩
        · rw [q, Int.mul_zero]; omega
        · rw [Int.neg_mul]; omega
      have hdd : -wy r = 1 ∨ -wy r = -1 := by omega
      have eM : ((M.toNat : Nat) : Int) = M := by omega
      have epa : updO pa t (pa t) = pa := by
        funext j
        by_cases e : j = t
        · rw [e, updO_s]
        · rw [updO_n _ _ e]
      -- the class
      have vl := v_loosen (N := N) (dA := dA) hR hT hr
      rw [← et] at vl
      have hCl := hC.loose hL hT.2.2 hR.2.2 hr q1 (iI 0)
      rw [← et] at hCl
      have ke1 : Ke [407] [] [405, 909] [] h (uR (uI (uR h 405 (rA r) none) 407 (rA r) (iI 0)) 909 (tA t) none) := ((Ke_rf.r 405 _ _ (by decide)).u 407 _ _ (by decide)).r 909 _ _ (by decide)
      have sz1 : sz (uR (uI (uR h 405 (rA r) none) 407 (rA r) (iI 0)) 909 (tA t) none) = sz h := rfl
      have sh1 : ∀ a, sh (uR (uI (uR h 405 (rA r) none) 407 (rA r) (iI 0)) 909 (tA t) none) a = sh h a := fun _ => rfl
      generalize uR (uI (uR h 405 (rA r) none) 407 (rA r) (iI 0)) 909 (tA t) none = h1 at vl hCl ke1 sz1 sh1
      obtain ⟨h2, eh2⟩ : ∃ h2, h2 = uI h1 408 (rA r) (iI 1) := ⟨_, rfl⟩
      have ke2 : Ke [408] [] [] [] h1 h2 := by rw [eh2]; exact Ke_rf.u 408 _ _ (by decide)
      have sz2 : sz h2 = sz h := by rw [eh2]; exact sz1
      have sh2 : ∀ a, sh h2 a = sh h a := fun a => by rw [eh2]; exact sh1 a
      have ke12 : Ke [407, 408] [] [405, 909] [] h h2 := (ke1.w (by decide) (by decide) (by decide) (by decide)).tr (ke2.w (by decide) (by decide) (by decide) (by decide))
      have hS2 := hS.e hz ke12 (by decide)
      have hTo2 : RTo h2 nt tA tl tw tg ls ms (updO pa t (pa t)) := by rw [epa]; exact hT.o.e hz ke12 (by decide) (by decide)
      obtain ⟨h3, r1, ke3, sz3, hTo3⟩ := L_fall (N := N) hN ht (dd := -wy r) hdd (most := M) (by omega) M.toNat (pa t) 0 N h2 hS2 (by omega) hTo2 (hK.e hz ke12 (by decide)) (by omega) (by omega) (by rw [eM]; exact hend.1) (by rw [eM]; exact hend.2) (by omega)
      obtain ⟨K, eK⟩ : ∃ K : Nat, K = fallN (canF tl tw pa nt cc cp (-wy r) t) (-wy r) M.toNat (pa t) := ⟨_, rfl⟩
      have hKb : K ≤ M.toNat := by rw [eK]; exact fallN_le _ _ _ _
      rw [← eK, Int.zero_add] at r1
      rw [← eK] at hTo3
      have hz3 : 70 ≤ sz h3 := by omega
      have ke13 : Ke [407, 408, 907] [] [405, 909] [] h h3 := (ke12.w (by decide) (by decide) (by decide) (by decide)).tr (ke3.w (by decide) (by decide) (by decide) (by decide))
      have hS3 := hS.e hz ke13 (by decide)
      have b48 : ∀ u0 : Int32, u0 = iI M → fX5_breakRope_b48 N 14 h (some (rA r)) u0 = some (iI K, h3) := by
        intro u0 hu0
        have rc4 : rc 4 h (some (rA r)) = some (rA r) := rcv (by rw [d4])
        have z8 : qZ 4 8 h1 (some (rA r)) (iI 1) = some h2 := by rw [eh2]; exact qZv (by rw [sh1, d4]) (by omega)
        have o1 : oR 4 1 h2 (some (rA r)) = some (some (tA t)) := oRv (by rw [sh2, d4]) (by rw [ke12.2.2.1 401 _ (by decide) d3]; exact f1)
        have o2 : oI 4 2 h2 (some (rA r)) = some (iI (wy r)) := oIv (by rw [sh2, d4]) (by rw [ke12.1 402 _ (by decide) d3]; exact f2)
        have fl : fX5_fall N h2 14 (some (tA t)) (iI (-wy r)) (iI M) = some (iI K, h3) := r1
        rw [hu0]
        simp only [fX5_breakRope_b48, lit]
        refine bst (rc4) ?_
        refine bst (vl) ?_
        refine bst (z8) ?_
        refine bst (o1) ?_
        refine bst (o2) ?_
        refine bst (rcv (by rw [ss_14 hS2])) ?_
        rw [iI_neg]
        refine bst (fl) ?_
        rfl
      have br : fX5_breakRope N h 14 (iI (r : Int)) = some (iI K, h3) := by
        have o7 : oI 4 7 h (some (rA r)) = some (iI (dn r)) := oIv (by rw [d4]) v4
        have ld : iI (dn r) ≤ iI 0 ↔ dn r ≤ 0 := iI_le (by omega) (by omega) (by omega) (by omega)
        have o5 : oR 4 5 h (some (rA r)) = some (some (dA e0)) := oRv (by rw [d4]) v1
        simp only [fX5_breakRope, lit, iI_neg]
        rcases hMd with ⟨q, q'⟩ | ⟨q, q'⟩
        · skip
          refine bst (rc5) ?_
          refine bst (ry) ?_
          refine ifn (fun q => by cases q) ?_
          refine bst (o5) ?_
          refine ifn (fun q => by cases q) ?_
          refine bst (o7) ?_
          refine ifp (ld.mpr q) ?_
          exact b48 _ (by rw [q'])
        · have ab : (if iI 0 ≤ iI (pa t) - iI (sr r) then iI (pa t) - iI (sr r) else iI 0 - (iI (pa t) - iI (sr r))) = iI M := by
            rw [iI_sub]
            by_cases v : 0 ≤ pa t - sr r
            · rw [if_pos ((iI_le (by omega) (by omega) (by omega) (by omega)).mpr v)]
              congr 1
              rcases q2 with q2 | q2 <;> rw [q2] at q' <;> omega
            · rw [if_neg (fun s => v ((iI_le (by omega) (by omega) (by omega) (by omega)).mp s)), iI_sub]
              congr 1
              rcases q2 with q2 | q2 <;> rw [q2] at q' <;> omega
          refine bst (rc5) ?_
          refine bst (ry) ?_
          refine ifn (fun q => by cases q) ?_
          refine bst (o5) ?_
          refine ifn (fun q => by cases q) ?_
          refine bst (o7) ?_
          refine ifn (fun s => by have := ld.mp s; omega) ?_
          refine bst (oRv (by rw [d4]) f1) ?_
          refine bst (oIv (by rw [t4]) g7) ?_
          refine bst (oIv (by rw [d4]) v3) ?_
          exact b48 _ ab
      obtain ⟨h4, eh4⟩ : ∃ h4, h4 = uI h3 1106 0 (iI 0) := ⟨_, rfl⟩
      have ke4 : Ke [1106] [] [] [] h3 h4 := by rw [eh4]; exact Ke_rf.u 1106 _ _ (by decide)
      have sz4 : sz h4 = sz h := by rw [eh4]; exact sz3.trans sz2
      have ke14 : Ke [407, 408, 907, 1106] [] [405, 909] [] h h4 := (ke13.w (by decide) (by decide) (by decide) (by decide)).tr (ke4.w (by decide) (by decide) (by decide) (by decide))
      have hS4 := hS.e hz ke14 (by decide)
      have hz4 : 70 ≤ sz h4 := by omega
      have cl : fX11_snap N h 0 (iI (r : Int)) = some (iI K, h4) := by
        have dd := v_deed (N := N) hS3 (r := iI K) (z := 1) (Or.inr rfl)
        rw [if_pos rfl, ← eh4] at dd
        have l0 : ¬ iI (K : Int) < iI 0 := fun s => by have := (iI_lt (by omega) (by omega) (by omega) (by omega)).mp s; omega
        simp only [fX11_snap, fX11_snap_b20, lit]
        refine bst (sR_1100_0 hS) ?_
        refine bst (rc5) ?_
        refine bst (br) ?_
        refine ifn (l0) ?_
        refine bst (rcv (by rw [ss_0 hS3])) ?_
        refine bst (dd) ?_
        rfl
      -- the reference
      have ka : ∀ a, a < 70 → aI h4 a = aI h a := fun a ha => ke14.2.1 a (by simp) (by omega)
      obtain ⟨h5, eh5⟩ : ∃ h5, h5 = uI (uA (uA h4 42 r (iI (-1))) 44 r (iI 1)) 1243 29 (iI 0) := ⟨_, rfl⟩
      have ke5 : Ke [1243] [42, 44] [] [] h4 h5 := by rw [eh5]; exact ((Ke_rf.b 42 _ _ (by decide)).b 44 _ _ (by decide)).u 1243 _ _ (by decide)
      have sz5 : sz h5 = sz h := by rw [eh5]; exact sz4
      have hS5 := hS4.e hz4 ke5 (by decide)
      have kb : ∀ a, a < 70 → a ∉ [42, 44] → aI h5 a = aI h a := fun a ha hn => by rw [ke5.2.1 a hn (by omega), ka a ha]
      have ke15 : Ke [407, 408, 907, 1106, 1243] [42, 44] [405, 909] [] h h5 := (ke14.w (by decide) (by decide) (by decide) (by decide)).tr (ke5.w (by decide) (by decide) (by decide) (by decide))
      obtain ⟨h6, r2, ke6, sz6, hP6⟩ := L_fallM (N := N) hN (fun i hi => (show 0 ≤ pa i ∧ pa i ≤ 100 by have := (hT.2.1 i hi).2.2.2; omega)) ht (show r < 40 by omega) (dd := -wy r) (wr := wy r) hdd rfl (most := M) (by omega) M.toNat (pa t) 0 N h5 hS5 (by omega) (hT.q.e hz ke15 (by decide) (by decide)) (fun i hi => by rw [epa, kb 33 (by decide) (by decide)]; exact (hT.2.1 i hi).2.2.1.2.2.2.1) (by rw [kb 40 (by decide) (by decide)]; exact m2) (hK.e hz ke15 (by decide)) (by omega) (by omega) (by omega) (by omega) (by rw [eM]; omega) (by rw [eM]; omega) (by omega)
      rw [← eK, Int.zero_add] at r2
      rw [← eK] at hP6
      have ke16 : Ke [407, 408, 907, 1106, 1243] [33, 42, 44] [405, 909] [] h h6 := (ke15.w (by decide) (by decide) (by decide) (by decide)).tr (ke6.w (by decide) (by decide) (by decide) (by decide))
      have rf : fX12_snap N h4 29 (iI (r : Int)) = some (iI K, h6) := by
        have ir4 := v_isRope (N := N) hS4 (by rw [ke14.1 1211 29 (by decide) (by omega)]; exact hR.1.2.1) cr (z := r) (by omega) (by omega)
        rw [if_pos w] at ir4
        have b85 : ∀ u : Int32, u = iI M → fX12_snap_b85 N 29 h4 (iI (r : Int)) (iI (t : Int)) u = some (iI K, h6) := by
          intro u hu
          have s42 : sA h4 (some 42) (iI (r : Int)) (iI (-1)) = some (uA h4 42 r (iI (-1))) := sAv (ss_42 hS4) (by omega) (by omega)
          have hSx : Sk (uA h4 42 r (iI (-1))) := hS4.e hz4 (F := []) (A := [42]) (FR := []) (AQ := []) (Ke_rf.b 42 _ _ (by decide)) (by decide)
          have s44 : sZ (uA h4 42 r (iI (-1))) (some 44) (iI (r : Int)) (iI 1) = some (uA (uA h4 42 r (iI (-1))) 44 r (iI 1)) := sZv (ss_44 hSx) (by omega) (by omega) (by omega)
          have z43 : qZ 12 43 (uA (uA h4 42 r (iI (-1))) 44 r (iI 1)) (some 29) (iI 0) = some h5 := by rw [eh5]; exact qZv (by rw [sh_uA, sh_uA, ss_29 hS4]) (by omega)
          rw [hu]
          simp only [fX12_snap_b85, lit, iI_neg]
          refine bst (sR_1216_29 hS4) ?_
          refine bst (s42) ?_
          refine bst (sR_1218_29 hSx) ?_
          refine bst (s44) ?_
          refine bst (z43) ?_
          exact r2
        have l42 := lAv (ss_42 hS4) (show r < 40 by omega) (by omega) (v := iI (e0 : Int)) (by rw [ka 42 (by decide)]; exact x1)
        have l38 := lAv (ss_38 hS4) (show r < 40 by omega) (by omega) (v := iI (t : Int)) (by rw [ka 38 (by decide)]; exact m0)
        have l33 := lAv (ss_33 hS4) (show t < 40 by omega) (by omega) (v := iI (pa t)) (by rw [ka 33 (by decide)]; exact a3)
        have l36 := lAv (ss_36 hS4) (show t < 40 by omega) (by omega) (v := iI (sr r)) (by rw [ka 36 (by decide)]; exact x4)
        have l43 := lAv (ss_43 hS4) (show r < 40 by omega) (by omega) (v := iI (dn r)) (by rw [ka 43 (by decide)]; exact x3)
        have w2 : iI 0 ≤ iI (e0 : Int) := (iI_le (by omega) (by omega) (by omega) (by omega)).mpr (by omega)
        have ld : iI 0 < iI (dn r) ↔ 0 < dn r := iI_lt (by omega) (by omega) (by omega) (by omega)
        have b73 : ∀ u : Int32, (0 < dn r → u = iI M) → fX12_snap_b73 N 29 h4 (iI (r : Int)) (iI (t : Int)) u = some (iI K, h6) := by
          intro u hu
          simp only [fX12_snap_b73, lit]
          by_cases v : 0 < dn r
          · skip
            refine bst (sR_1217_29 hS4) ?_
            refine bst (l43) ?_
            refine ifp (ld.mpr v) ?_
            exact b85 _ (hu v)
          · have : M = 0 := by omega
            refine bst (sR_1217_29 hS4) ?_
            refine bst (l43) ?_
            refine ifn (fun s => v (ld.mp s)) ?_
            exact b85 _ (by rw [this])
        have lv : iI (sr r) ≤ iI (pa t) ↔ sr r ≤ pa t := iI_le (by omega) (by omega) (by omega) (by omega)
        simp only [fX12_snap, lit]
        by_cases v : sr r ≤ pa t
        · have e9 : 0 < dn r → iI (pa t) - iI (sr r) = iI M := fun q => by
            rw [iI_sub]
            congr 1
            rcases hMd with ⟨q0, _⟩ | ⟨_, q'⟩
            · omega
            · rcases q2 with q2 | q2 <;> rw [q2] at q' <;> omega
          refine bst (rcv (by rw [ss_29 hS4])) ?_
          refine bst (ir4) ?_
          refine ifn (n10) ?_
          refine bst (sR_1216_29 hS4) ?_
          refine bst (l42) ?_
          refine ifp (w2) ?_
          refine bst (sR_1212_29 hS4) ?_
          refine bst (l38) ?_
          refine bst (sR_1205_29 hS4) ?_
          refine bst (l33) ?_
          refine bst (sR_1208_29 hS4) ?_
          refine bst (l36) ?_
          refine ifp (lv.mpr v) ?_
          refine bst (sR_1205_29 hS4) ?_
          refine bst (l33) ?_
          refine bst (sR_1208_29 hS4) ?_
          refine bst (l36) ?_
          exact b73 _ e9
        · have e9 : 0 < dn r → iI (sr r) - iI (pa t) = iI M := fun q => by
            rw [iI_sub]
            congr 1
            rcases hMd with ⟨q0, _⟩ | ⟨_, q'⟩
            · omega
            · rcases q2 with q2 | q2 <;> rw [q2] at q' <;> omega
          refine bst (rcv (by rw [ss_29 hS4])) ?_
          refine bst (ir4) ?_
          refine ifn (n10) ?_
          refine bst (sR_1216_29 hS4) ?_
          refine bst (l42) ?_
          refine ifp (w2) ?_
          refine bst (sR_1212_29 hS4) ?_
          refine bst (l38) ?_
          refine bst (sR_1205_29 hS4) ?_
          refine bst (l33) ?_
          refine bst (sR_1208_29 hS4) ?_
          refine bst (l36) ?_
          refine ifn (fun s => v (lv.mp s)) ?_
          refine bst (sR_1208_29 hS4) ?_
          refine bst (l36) ?_
          refine bst (sR_1205_29 hS4) ?_
          refine bst (l33) ?_
          exact b73 _ e9
      have ke36 : Ke [1106, 1243] [33, 42, 44] [] [] h3 h6 := (ke4.w (by decide) (by decide) (by decide) (by decide)).tr ((ke5.w (by decide) (by decide) (by decide) (by decide)).tr (ke6.w (by decide) (by decide) (by decide) (by decide)))
      have hM5 : RTm h5 nr rT (updO dr r none) sr dn := by
        have := (hM.e hz ke14 (by decide)).loose hr
        refine this.e (by show 70 ≤ sz h4; omega) (F := [1243]) (A := [44]) (FR := []) (AQ := []) (by rw [eh5]; exact (Ke_rf.b 44 _ _ (by decide)).u 1243 _ _ (by decide)) (by decide)
      refine ⟨iI K, h4, h6, updO pa t (pa t + -wy r * K), updO gn r true, updO dr r none, updO td t none, cl, rf, ?_, ?_, ?_, ?_, ?_, ?_, ke16, by omega⟩
      · refine RTh_of (hTo3.e (by omega) ke36 (by decide) (by decide)) (by rw [ke16.1 1201 29 (by decide) (by omega)]; exact hT.1.2.1) (fun i hi => ?_)
        obtain ⟨-, -, ⟨z0, z1, z2, z3, z4, z5⟩, -⟩ := hT.2.1 i hi
        rw [ke16.2.1 30 (by decide) (by omega), ke16.2.1 31 (by decide) (by omega), ke16.2.1 32 (by decide) (by omega), ke16.2.1 34 (by decide) (by omega), ke16.2.1 35 (by decide) (by omega), hP6 i hi]
        exact ⟨z0, z1, z2, rfl, z4, z5⟩
      · refine ⟨⟨by rw [ke16.1 509 14 (by decide) (by omega)]; exact hR.1.1, by rw [ke16.1 1211 29 (by decide) (by omega)]; exact hR.1.2.1, cr⟩, fun s hs => ?_, hR.2.2⟩
        obtain ⟨⟨e1, e2, e3, e4⟩, ⟨w0, w1, w2, w3, w4, w8⟩, ⟨u0, u1, u2, u3, u4⟩, uu⟩ := hR.2.1 s hs
        refine ⟨⟨by rw [ke16.2.2.2.1 17 (by decide) (by omega)]; exact e1, e2, by omega, by rw [ke16.2.2.2.2.1 _ e3]; exact e4⟩, ⟨by rw [ke16.1 400 _ (by decide) e3]; exact w0, by rw [ke16.2.2.1 401 _ (by decide) e3]; exact w1, by rw [ke16.1 402 _ (by decide) e3]; exact w2, by rw [ke16.1 403 _ (by decide) e3]; exact w3, by rw [ke16.1 404 _ (by decide) e3]; exact w4, ?_⟩, ⟨by rw [ke16.2.1 38 (by decide) (by omega)]; exact u0, by rw [ke16.2.1 39 (by decide) (by omega)]; exact u1, by rw [ke16.2.1 40 (by decide) (by omega)]; exact u2, by rw [ke16.2.1 41 (by decide) (by omega)]; exact u3, ?_⟩, uu⟩
        · rw [ke36.1 408 _ (by decide) (by omega), ke3.1 408 _ (by decide) (by omega), eh2]
          by_cases e : s = r
          · subst e
            rw [updO_s]
            simp [HR, b2]
          · have na : ¬ rA s = rA r := fun q => e (hR.2.2 s r hs hr q)
            rw [updO_n _ _ e]
            have : gI h1 408 (rA s) = gI h 408 (rA s) := ke1.1 408 _ (by decide) e3
            simp [HR, na, this, w8]
        · rw [ke6.2.1 44 (by decide) (by omega), eh5]
          by_cases e : s = r
          · subst e
            rw [updO_s]
            simp [HR, b2]
          · rw [updO_n _ _ e]
            simp [HR, e, ka 44 (by decide), u4]
      · refine RTi_iff.mpr ⟨?_, hM5.e (by omega) ke6 (by decide), ?_⟩
        · have ke_1 : Ke [408, 907, 1106, 1243] [33, 42, 44] [] [] h1 h6 := (ke2.w (by decide) (by decide) (by decide) (by decide)).tr ((ke3.w (by decide) (by decide) (by decide) (by decide)).tr (ke36.w (by decide) (by decide) (by decide) (by decide)))
          exact hCl.e (fun i hi => by have := hT.lt i hi; omega) (fun s hs => by have := hR.lt s hs; omega) ke_1 (by decide) (by decide)
        · have := hL.loose hr hdr
          rw [← et] at this
          exact this
      · refine ⟨0, ?_, ?_, Or.inl rfl⟩
        · rw [ke6.1 1106 0 (by decide) (by omega), ke5.1 1106 0 (by decide) (by omega), eh4]
          simp [HR]
        · rw [ke6.1 1243 29 (by decide) (by omega), eh5]
          simp [HR]
      · intro s s1 s2
        have e : ¬ s = r := by omega
        rw [ke6.2.1 44 (by decide) (by omega), eh5]
        simp [HR, e, ka 44 (by decide), hG s s1 s2]
      · intro s hs hn
        by_cases e : s = r
        · subst e
          rw [updO_s] at hn
          exact absurd rfl hn
        · rw [updO_n _ _ e] at hn
          refine ⟨hn, ?_⟩
          obtain ⟨d0, hd0⟩ := Option.ne_none_iff_exists'.mp hn
          have hts := (hL.1 s d0 hs hd0).2
          have ne : rT s ≠ t := fun q => by
            rw [q, htr] at hts
            exact e (Option.some.inj hts).symm
          rw [updO_n _ _ ne]
  · rw [if_neg w] at ir
    have rn := v_ropeN (N := N) hS hR y1 y2 w
    refine ⟨iI (-1), h, h, pa, gn, dr, td, no (-1) (by omega) ?_, ?_, hT, hR, hI, hB0.n, hG, fun r _ hn => ⟨hn, rfl⟩, Ke_rf, rfl⟩
    · simp only [fX5_breakRope, lit, iI_neg]
      refine bst (rc5) ?_
      refine bst (rn) ?_
      refine ifp (rfl) ?_
      rfl
    · simp only [fX12_snap, lit, iI_neg]
      refine bst (rc12) ?_
      refine bst (ir) ?_
      refine ifp (rfl) ?_
      rfl
