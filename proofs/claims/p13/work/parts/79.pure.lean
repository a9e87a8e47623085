/-! ===== turning, the class: look ahead ===== -/
theorem sumF_bd {f : Nat → Int} {B : Int} : ∀ (d i : Nat), (∀ j, i ≤ j → j < i + d → -B ≤ f j ∧ f j ≤ B) → -(B * d) ≤ sumF f i d ∧ sumF f i d ≤ B * d
  | 0, _, _ => by simp [sumF]
  | d + 1, i, q => by
    have h1 := sumF_bd d (i + 1) (fun j a b => q j (by omega) (by omega))
    have h2 := q i (by omega) (by omega)
    have h3 : B * ((d + 1 : Nat) : Int) = B * d + B := by rw [Int.natCast_add, Int.natCast_one, Int.mul_add, Int.mul_one]
    rw [sumF, h3]
    omega
def tpu (wy gr sr tg ds : Nat → Int) (rT : Nat → Nat) (dr : Nat → Option Nat) (nr : Nat) (cw P : Nat → Int) : Int := sumF (fun r => tq wy gr sr tg ds rT dr r (P (rT r))) 0 nr + sumF cw 0 20
theorem tq_bd {wy gr sr tg ds : Nat → Int} {rT : Nat → Nat} {dr : Nat → Option Nat} {r : Nat} {p : Int} (hw : wy r = 1 ∨ wy r = -1) (hg : 1 ≤ gr r) (ht1 : 0 ≤ tg (rT r)) (ht2 : tg (rT r) ≤ 999) (hs : ∀ e, dr r = some e → 1 ≤ ds e ∧ ds e ≤ 20) (hsr : dr r ≠ none → 0 ≤ sr r ∧ sr r ≤ 100) (p1 : 0 ≤ p) (p2 : p ≤ 100) : -120000 ≤ tq wy gr sr tg ds rT dr r p ∧ tq wy gr sr tg ds rT dr r p ≤ 120000 := by
  unfold tq
  cases hdr : dr r with
  | none => simp
  | some e =>
    have h1 := hsr (by rw [hdr]; exact fun q => by cases q)
    have h2 := hs e hdr
    have h3 := tgds ht1 ht2 h2.1 h2.2
    simp only
    rw [Int.tdiv_eq_ediv_of_nonneg h3.1]
    have h4 := Int.ediv_nonneg h3.1 (show 0 ≤ gr r by omega)
    have h5 := Int.ediv_le_self (gr r) h3.1
    generalize tg (rT r) * ds e / gr r = y at *
    have h6 : tg (rT r) * (p - sr r) ≤ tg (rT r) * 100 := Int.mul_le_mul_of_nonneg_left (by omega) ht1
    have h7 : tg (rT r) * (-100) ≤ tg (rT r) * (p - sr r) := Int.mul_le_mul_of_nonneg_left (by omega) ht1
    generalize tg (rT r) * (p - sr r) = x at *
    rcases hw with hw | hw <;> rw [hw] <;> omega
theorem tpu_bd {nr nt nd : Nat} {h : Hs} {rA tA dA rT : Nat → Nat} {wy gr hd ds : Nat → Int} {gn : Nat → Bool} {tl tw tg ls ms pa : Nat → Int} {dr td : Nat → Option Nat} {sr : Nat → Int} (hT : RTo h nt tA tl tw tg ls ms pa) (hD : RDr h nd dA ds) (hR : RRo h nr nt rA tA rT wy gr hd gn) (hL : RTl nt nd nr rT dr td) (hsr : ∀ r, r < nr → dr r ≠ none → 0 ≤ sr r ∧ sr r ≤ 100) {cw P : Nat → Int} (hcw : ∀ i, i < 20 → -9999 ≤ cw i ∧ cw i ≤ 9999) (hb : ∀ i, i < nt → 0 ≤ P i ∧ P i ≤ 100) : -5000000 ≤ tpu wy gr sr tg ds rT dr nr cw P ∧ tpu wy gr sr tg ds rT dr nr cw P ≤ 5000000 := by
  have c3 := hR.1.2.2
  have h1 := sumF_bd (f := fun r => tq wy gr sr tg ds rT dr r (P (rT r))) (B := 120000) nr 0 (fun r _ hr => by
    obtain ⟨-, -, -, q1, q2, q3, q4, q5⟩ := hR.2.1 r (by omega)
    obtain ⟨-, -, -, bb⟩ := hT.2.1 (rT r) q1
    exact tq_bd q2 q3 (by omega) (by omega) (fun e he => (hD.2.1 e (hL.1 r e (by omega) he).1).2.2.2) (hsr r (by omega)) (hb _ q1).1 (hb _ q1).2)
  have h2 := sumF_bd (f := cw) (B := 9999) 20 0 (fun j _ hj => hcw j (by omega))
  unfold tpu
  omega
theorem tpu_congr {nr nt : Nat} {rT : Nat → Nat} {wy gr ds tg : Nat → Int} {dr : Nat → Option Nat} {sr cw P P' : Nat → Int} (hr : ∀ r, r < nr → rT r < nt) (he : ∀ i, i < nt → P i = P' i) : tpu wy gr sr tg ds rT dr nr cw P = tpu wy gr sr tg ds rT dr nr cw P' := by
  unfold tpu
  rw [sumF_congr nr 0 (fun r _ h => by rw [he _ (hr r (by omega))])]
theorem Wh0 {nt : Nat} {ls ms tl tw P : Nat → Int} {pu bd : Int} : Wh nt ls ms tl tw P pu bd 0 (-1) (-1) ↔ (∀ j, j < nt → ¬ Bey ls ms P j) ∧ (∀ i j, i < j → j < nt → ¬ Hit tl tw P i j) ∧ -bd ≤ pu ∧ pu ≤ bd := by
  constructor
  · rintro (⟨i, -, -, -, q, -⟩ | ⟨a0, ⟨i, j, -, -, -, -, -, q, -⟩ | ⟨a1, -, -, ⟨q, -⟩ | ⟨-, q⟩⟩⟩)
    · omega
    · omega
    · omega
    · exact ⟨a0, a1, q⟩
  · rintro ⟨a0, a1, q⟩
    exact Or.inr ⟨a0, Or.inr ⟨a1, rfl, rfl, Or.inr ⟨rfl, q⟩⟩⟩
theorem Wh0_congr {nt : Nat} {ls ms tl tw P P' : Nat → Int} {pu bd : Int} (he : ∀ i, i < nt → P i = P' i) (a : Wh nt ls ms tl tw P pu bd 0 (-1) (-1)) : Wh nt ls ms tl tw P' pu bd 0 (-1) (-1) := by
  obtain ⟨a0, a1, a2⟩ := Wh0.mp a
  refine Wh0.mpr ⟨fun j hj q => a0 j hj ?_, fun i j h1 h2 q => a1 i j h1 h2 ?_, a2⟩
  · unfold Bey at q ⊢
    rw [he j hj]
    exact q
  · unfold Hit at q ⊢
    rw [he i (by omega), he j h2]
    exact q
def tWh (nt : Nat) (ls ms tl tw tg pa wy gr sr dn ds : Nat → Int) (rT : Nat → Nat) (dr td : Nat → Option Nat) (nr : Nat) (cw : Nat → Int) (bd d s k t o : Int) : Prop := Wh nt ls ms tl tw (tpl pa wy gr sr dn ds dr td (d * s)) (tpu wy gr sr tg ds rT dr nr cw (tpl pa wy gr sr dn ds dr td (d * s))) bd k t o
theorem tpl_bd {nr nt nd : Nat} {rT : Nat → Nat} {pa wy gr ds sr dn : Nat → Int} {dr td : Nat → Option Nat} (hL : RTl nt nd nr rT dr td) (hw : ∀ r, r < nr → wy r = 1 ∨ wy r = -1) (hg : ∀ r, r < nr → 1 ≤ gr r) (hs : ∀ e, e < nd → 1 ≤ ds e ∧ ds e ≤ 20) (hdn : ∀ r, r < nr → dr r ≠ none → -1000000000 ≤ dn r ∧ dn r ≤ 1000000000) (hsr : ∀ r, r < nr → dr r ≠ none → 0 ≤ sr r ∧ sr r ≤ 100) (hp : ∀ i, i < nt → 0 ≤ pa i ∧ pa i ≤ 100) {z : Int} (z1 : -100000 ≤ z) (z2 : z ≤ 100000) {i : Nat} (hi : i < nt) : -2000000000 ≤ tpl pa wy gr sr dn ds dr td z i ∧ tpl pa wy gr sr dn ds dr td z i ≤ 2000000000 := by
  unfold tpl
  cases htd : td i with
  | none => have := hp i hi; simp only; omega
  | some r =>
    obtain ⟨hr, hrt, hne⟩ := hL.2 i r hi htd
    obtain ⟨e, hde⟩ := Option.ne_none_iff_exists'.mp hne
    have hel := (hL.1 r e hr hde).1
    have h1 := hs e hel
    have h2 := hdn r hr hne
    have h3 := hsr r hr hne
    simp only [hde, rpl]
    have h4 : ds e * z ≤ ds e * 100000 := Int.mul_le_mul_of_nonneg_left z2 (by omega)
    have h5 : ds e * (-100000) ≤ ds e * z := Int.mul_le_mul_of_nonneg_left z1 (by omega)
    generalize ds e * z = x at *
    have q1 := td_abs (dn r + x) (100 * gr r)
    generalize (dn r + x).tdiv (100 * gr r) = y at *
    rcases hw r hr with w | w <;> rw [w] <;> omega
theorem Ke.w {F F' A A' FR FR' AQ AQ' : List Nat} {h h2 : Hs} (k : Ke F A FR AQ h h2) (h1 : ∀ f ∈ F, f ∈ F') (h3 : ∀ f ∈ A, f ∈ A') (h4 : ∀ f ∈ FR, f ∈ FR') (h5 : ∀ f ∈ AQ, f ∈ AQ') : Ke F' A' FR' AQ' h h2 := ⟨fun f a q => k.1 f a (fun z => q (h1 f z)), fun a q => k.2.1 a (fun z => q (h3 a z)), fun f a q => k.2.2.1 f a (fun z => q (h4 f z)), fun a q => k.2.2.2.1 a (fun z => q (h5 a z)), k.2.2.2.2⟩
theorem L_look {N : Nat} (hN : 100000000 ≤ N) {nr nt nd : Nat} {rA tA dA rT : Nat → Nat} {wy gr hd ds : Nat → Int} {gn : Nat → Bool} {tl tw tg ls ms pa : Nat → Int} {dr td : Nat → Option Nat} {sr dn : Nat → Int} {cw : Nat → Int} {bd : Int} (b1 : 0 ≤ bd) (b2 : bd ≤ 99999) (hL : RTl nt nd nr rT dr td) (hdn : ∀ r, r < nr → dr r ≠ none → -1000000000 ≤ dn r ∧ dn r ≤ 1000000000) (hsr : ∀ r, r < nr → dr r ≠ none → 0 ≤ sr r ∧ sr r ≤ 100) (hcw : ∀ i, i < 20 → -9999 ≤ cw i ∧ cw i ≤ 9999) {d : Int} (hd1 : d = 1 ∨ d = -1) {m : Int} (m0 : 0 ≤ m) (hm : m ≤ 9999) : ∀ (q : Nat) (s : Int) (fu : Nat) (h : Hs), Sk h → 70 ≤ sz h → RTo h nt tA tl tw tg ls ms pa → RDr h nd dA ds → RRo h nr nt rA tA rT wy gr hd gn → RTc h nt nr tA dA rA dr td sr dn → (∀ i, i < 20 → aI h 18 i = iI (cw i)) → gI h 510 14 = iI bd → (gI h 700 24 = iI 0 ∧ gI h 701 24 = iI (-1) ∧ gI h 702 24 = iI (-1)) → 1 ≤ s → s ≤ 30000 → m + 1 - s ≤ q → q < fu → (∀ s', 1 ≤ s' → s' < s → s' ≤ m → tWh nt ls ms tl tw tg pa wy gr sr dn ds rT dr td nr cw bd d s' 0 (-1) (-1)) → ∃ (n k t o : Int) (h' : Hs), fX10_lookAhead_b28 N 22 fu h (iI d) (iI m) (iI s) = some (iI n, h') ∧ Stq m (tWh nt ls ms tl tw tg pa wy gr sr dn ds rT dr td nr cw bd d) n k t o ∧ (gI h' 700 24 = iI k ∧ gI h' 701 24 = iI t ∧ gI h' 702 24 = iI o) ∧ Ke [908, 700, 701, 702] [] [] [] h h' ∧ sz h' = sz h ∧ ∀ f, f ≠ 908 → gI h' f 23 = gI h f 23 := by
  have stop : ∀ (s : Int) (fu : Nat) (h : Hs), m < s → s ≤ 30000 → fX10_lookAhead_b28 N 22 (fu + 1) h (iI d) (iI m) (iI s) = some (iI m, h) := by
    intro s fu h hs hs2
    show fX10_lookAhead_b28_body N (fX10_lookAhead_b28 N 22 fu) 22 h (iI d) (iI m) (iI s) = _
    simp only [fX10_lookAhead_b28_body]
    refine ifp ((iI_lt (by omega) (by omega) (by omega) (by omega)).mpr hs) ?_
    rfl
  intro q
  induction q with
  | zero =>
    intro s fu h hS hz hT hD hR hC hW hB hA s1 s3 hq hf hp
    obtain ⟨fu, rfl⟩ : ∃ m, fu = m + 1 := ⟨fu - 1, by omega⟩
    exact ⟨m, 0, -1, -1, h, stop s fu h (by omega) s3, ⟨m0, Int.le_refl m, fun s' h1 h2 => hp s' h1 (by omega) h2, Or.inl ⟨rfl, rfl, rfl, rfl⟩⟩, hA, Ke_rf, rfl, fun _ _ => rfl⟩
  | succ q ih =>
    intro s fu h hS hz hT hD hR hC hW hB hA s1 s3 hq hf hp
    obtain ⟨fu, rfl⟩ : ∃ m, fu = m + 1 := ⟨fu - 1, by omega⟩
    by_cases hsm : m < s
    · exact ⟨m, 0, -1, -1, h, stop s fu h hsm s3, ⟨m0, Int.le_refl m, fun s' h1 h2 => hp s' h1 (by omega) h2, Or.inl ⟨rfl, rfl, rfl, rfl⟩⟩, hA, Ke_rf, rfl, fun _ _ => rfl⟩
    have c3 := hR.1.2.2
    have ct := hT.1.2.2
    have zb : -100000 ≤ d * s ∧ d * s ≤ 100000 := by rcases hd1 with rfl | rfl <;> omega
    have lp := L_placeo (N := N) hL (k := d * s) zb.1 zb.2 hdn nt 0 N h hS hz hT hD hR hC (by omega) (by omega)
    have ke := Ke_plH tA (tpl pa wy gr sr dn ds dr td (d * s)) nt 0 h
    have sp := sz_plH tA (tpl pa wy gr sr dn ds dr td (d * s)) nt 0 h
    have at' : ∀ i, i < nt → gI (plH tA (tpl pa wy gr sr dn ds dr td (d * s)) 0 nt h) 908 (tA i) = iI (tpl pa wy gr sr dn ds dr td (d * s) i) := fun i hi => plH_at tA _ hT.2.2 nt 0 h i (by omega) (by omega) hi
    generalize plH tA (tpl pa wy gr sr dn ds dr td (d * s)) 0 nt h = h1 at lp ke sp at'
    have hS1 := hS.e hz ke (by decide)
    have hT1 := hT.e hz ke (by decide) (by decide)
    have hD1 := hD.e hz ke (by decide) (by decide) (by decide)
    have hR1 := hR.e hz ke (by decide) (by decide) (by decide) (by decide)
    have hC1 := hC.e hT.lt hR.lt ke (by decide) (by decide)
    have w18 : ∀ i, i < 20 → aI h1 18 i = iI (cw i) := fun i hi => by rw [ke.2.1 18 (by decide) (by omega)]; exact hW i hi
    have hB1 : gI h1 510 14 = iI bd := by rw [ke.1 510 14 (by decide) (by omega)]; exact hB
    have kf : ∀ f, f ≠ 908 → ∀ a, a < 70 → gI h1 f a = gI h f a := fun f hf a ha => ke.1 f a (by simpa using hf) (by omega)
    have hz1 : 70 ≤ sz h1 := by omega
    have kew : Ke [908, 700, 701, 702] [] [] [] h h1 := ke.w (by decide) (by decide) (by decide) (by decide)
    have rc5 : rc 5 h (some 14) = some 14 := rcv (by rw [ss_14 hS])
    have rc51 : rc 5 h1 (some 14) = some 14 := rcv (by rw [ss_14 hS1])
    have rc10 : rc 10 h1 (some 22) = some 22 := rcv (by rw [ss_22 hS1])
    have nsm : ¬ iI m < iI s := fun z => hsm ((iI_lt (by omega) (by omega) (by omega) (by omega)).mp z)
    have pr : fX5_place N h 14 (iI d * iI s) = some h1 := by
      simp only [fX5_place, lit, iI_mul]
      exact lp
    have hbd := fun i hi => tpl_bd (i := i) hL (fun r hr => (hR.2.1 r hr).2.2.2.2.1) (fun r hr => (hR.2.1 r hr).2.2.2.2.2.1) (fun e he => (hD.2.1 e he).2.2.2) hdn hsr (fun i hi => (show 0 ≤ pa i ∧ pa i ≤ 100 by have := (hT.2.1 i hi).2.2.2; omega)) zb.1 zb.2 hi
    have en : s - 1 + 1 = s := by omega
    rcases L_bey (N := N) hS1 hT1 at' hbd nt 0 N (by omega) (by omega) (fun j hj => absurd hj (by omega)) with ⟨j, j1, j2, j3, e1⟩ | ⟨nb, e1⟩
    · have e1' : fX10_isBeyond N h1 22 = some (iI 1, putH h1 24 1 j (-1)) := e1
      refine ⟨s - 1, 1, j, -1, putH h1 24 1 j (-1), ?_, ⟨by omega, by omega, fun s' h1 h2 => hp s' h1 (by omega) (by omega), Or.inr ⟨by omega, ?_, by omega⟩⟩, put_0, kew.tr (Ke_put.w (by decide) (by decide) (by decide) (by decide)), sp, fun f hf => by rw [put_n (by decide), kf f hf 23 (by omega)]⟩
      · show fX10_lookAhead_b28_body N (fX10_lookAhead_b28 N 22 fu) 22 h (iI d) (iI m) (iI s) = _
        simp only [fX10_lookAhead_b28_body, fX10_lookAhead_b73, lit]
        refine ifn (nsm) ?_
        refine bst (sR_1000_22 hS) ?_
        refine bst (rc5) ?_
        refine bst (pr) ?_
        refine bst (rc10) ?_
        refine bst (e1') ?_
        refine ifn (n10) ?_
        rw [iI_sub]
      · rw [en]
        exact Or.inl ⟨j, j1, j2, j3, rfl, rfl, rfl⟩
    have e1' : fX10_isBeyond N h1 22 = some (iI 0, h1) := e1
    have hin : ∀ i, i < nt → 0 ≤ tpl pa wy gr sr dn ds dr td (d * s) i ∧ tpl pa wy gr sr dn ds dr td (d * s) i ≤ 100 := fun i hi => by
      have z1 := Decidable.not_not.mp (nb i hi)
      have z2 := (hT.2.1 i hi).2.2.2
      omega
    rcases L_hit (N := N) hN hS1 hT1 at' hin nt 0 N (by omega) (by omega) (fun i' j' hj => absurd hj (by omega)) with ⟨i0, j0, x1, x2, x3, x4, x5, e2⟩ | ⟨nh, e2⟩
    · have e2' : fX10_isMeeting N h1 22 = some (iI 1, putH h1 24 2 i0 j0) := e2
      refine ⟨s - 1, 2, i0, j0, putH h1 24 2 i0 j0, ?_, ⟨by omega, by omega, fun s' h1 h2 => hp s' h1 (by omega) (by omega), Or.inr ⟨by omega, ?_, by omega⟩⟩, put_0, kew.tr (Ke_put.w (by decide) (by decide) (by decide) (by decide)), sp, fun f hf => by rw [put_n (by decide), kf f hf 23 (by omega)]⟩
      · show fX10_lookAhead_b28_body N (fX10_lookAhead_b28 N 22 fu) 22 h (iI d) (iI m) (iI s) = _
        simp only [fX10_lookAhead_b28_body, fX10_lookAhead_b73, lit]
        refine ifn (nsm) ?_
        refine bst (sR_1000_22 hS) ?_
        refine bst (rc5) ?_
        refine bst (pr) ?_
        refine bst (rc10) ?_
        refine bst (e1') ?_
        refine ifp (rfl) ?_
        refine bst (rc10) ?_
        refine bst (e2') ?_
        refine ifn (n10) ?_
        rw [iI_sub]
      · rw [en]
        exact Or.inr ⟨nb, Or.inl ⟨i0, j0, x1, x2, x3, x4, x5, rfl, rfl, rfl⟩⟩
    have e2' : fX10_isMeeting N h1 22 = some (iI 0, h1) := e2
    have lt := L_trialo hN hS1 hT1 hD1 hR1 hC1 hL w18 at' nr 0 0 N (by omega) (by omega)
    have e3 : fX5_trialPull N h1 14 = some (iI (tpu wy gr sr tg ds rT dr nr cw (tpl pa wy gr sr dn ds dr td (d * s))), h1) := by
      simp only [fX5_trialPull, lit, tpu]
      rw [Int.zero_add] at lt
      exact lt
    obtain ⟨p1, p2⟩ := tpu_bd hT1 hD1 hR1 hL hsr hcw hin
    obtain ⟨u1, u0⟩ := v_uneven (N := N) hS1 p1 p2 b1 b2 hB1
    by_cases pq : bd < tpu wy gr sr tg ds rT dr nr cw (tpl pa wy gr sr dn ds dr td (d * s)) ∨ tpu wy gr sr tg ds rT dr nr cw (tpl pa wy gr sr dn ds dr td (d * s)) < -bd
    · have eu := u1 pq
      refine ⟨s - 1, 3, -1, -1, putH h1 24 3 (-1) (-1), ?_, ⟨by omega, by omega, fun s' h1 h2 => hp s' h1 (by omega) (by omega), Or.inr ⟨by omega, ?_, by omega⟩⟩, put_0, kew.tr (Ke_put.w (by decide) (by decide) (by decide) (by decide)), sp, fun f hf => by rw [put_n (by decide), kf f hf 23 (by omega)]⟩
      · show fX10_lookAhead_b28_body N (fX10_lookAhead_b28 N 22 fu) 22 h (iI d) (iI m) (iI s) = _
        simp only [fX10_lookAhead_b28_body, fX10_lookAhead_b73, lit]
        refine ifn (nsm) ?_
        refine bst (sR_1000_22 hS) ?_
        refine bst (rc5) ?_
        refine bst (pr) ?_
        refine bst (rc10) ?_
        refine bst (e1') ?_
        refine ifp (rfl) ?_
        refine bst (rc10) ?_
        refine bst (e2') ?_
        refine ifp (rfl) ?_
        refine bst (sR_1000_22 hS1) ?_
        refine bst (rc51) ?_
        refine bst (e3) ?_
        refine bst (rc10) ?_
        refine bst (eu) ?_
        refine ifn (n10) ?_
        rw [iI_sub]
      · rw [en]
        exact Or.inr ⟨nb, Or.inr ⟨nh, rfl, rfl, Or.inl ⟨rfl, pq⟩⟩⟩
    have eu := u0 (by omega)
    have ok : tWh nt ls ms tl tw tg pa wy gr sr dn ds rT dr td nr cw bd d s 0 (-1) (-1) := Wh0.mpr ⟨nb, nh, by omega⟩
    obtain ⟨M, M1, M2, M3, M4⟩ := L_stm (N := N) hS1 hD1 hR1 hC1 hL hdn hd1 (s := s) (by omega) (by omega) nr 0 9999 N (by omega) (by omega) (by omega) (by omega)
    have em : fX10_stepsToNextMove N h1 22 (iI d) (iI s) = some (iI M, h1) := M4
    have ey : iI s + (if iI 1 < iI M then iI M else iI 1) = iI (s + M) := by
      by_cases q1 : 1 < M
      · rw [if_pos ((iI_lt (by omega) (by omega) (by omega) (by omega)).mpr q1), iI_add]
      · rw [if_neg (fun z => q1 ((iI_lt (by omega) (by omega) (by omega) (by omega)).mp z)), iI_add]
        have : M = 1 := by omega
        rw [this]
    obtain ⟨n, k, t, o, h2, r1, r2, r3, r4, r5, r6⟩ := ih (s + M) fu h1 hS1 hz1 hT1 hD1 hR1 hC1 w18 hB1 ⟨by rw [kf 700 (by decide) 24 (by omega)]; exact hA.1, by rw [kf 701 (by decide) 24 (by omega)]; exact hA.2.1, by rw [kf 702 (by decide) 24 (by omega)]; exact hA.2.2⟩ (by omega) (by omega) (by omega) (by omega) (fun s' h1 h2 h3 => by
      by_cases q1 : s' < s
      · exact hp s' h1 q1 h3
      · have eq : ∀ i, i < nt → tpl pa wy gr sr dn ds dr td (d * s') i = tpl pa wy gr sr dn ds dr td (d * s) i := fun i hi => by
          have := tpl_quiet hL hd1 (fun r hr => ⟨(hR.2.1 r hr).2.2.2.2.2.1, (hR.2.1 r hr).2.2.2.2.2.2.1⟩) (fun e he => (hD.2.1 e he).2.2.2.1) (fun r hr => M3 r (by omega) hr) (j := s' - s) (by omega) (by omega) hi (pa := pa) (wy := wy) (sr := sr)
          rw [show s + (s' - s) = s' by omega] at this
          exact this
        have epu := tpu_congr (wy := wy) (gr := gr) (ds := ds) (tg := tg) (dr := dr) (sr := sr) (cw := cw) (fun r hr => (hR.2.1 r hr).2.2.2.1) eq
        unfold tWh
        rw [epu]
        exact Wh0_congr (fun i hi => (eq i hi).symm) ok)
    refine ⟨n, k, t, o, h2, ?_, r2, r3, kew.tr r4, r5.trans sp, fun f hf => (r6 f hf).trans (kf f hf 23 (by omega))⟩
    show fX10_lookAhead_b28_body N (fX10_lookAhead_b28 N 22 fu) 22 h (iI d) (iI m) (iI s) = _
    simp only [fX10_lookAhead_b28_body, lit, Option.bind_some]
    refine ifn (nsm) ?_
    refine bst (sR_1000_22 hS) ?_
    refine bst (rc5) ?_
    refine bst (pr) ?_
    refine bst (rc10) ?_
    refine bst (e1') ?_
    refine ifp (rfl) ?_
    refine bst (rc10) ?_
    refine bst (e2') ?_
    refine ifp (rfl) ?_
    refine bst (sR_1000_22 hS1) ?_
    refine bst (rc51) ?_
    refine bst (e3) ?_
    refine bst (rc10) ?_
    refine bst (eu) ?_
    refine ifp (rfl) ?_
    refine bst (rc10) ?_
    refine bst (em) ?_
    rw [ey]
    exact r1
theorem v_look {N : Nat} (hN : 100000000 ≤ N) {h : Hs} (hS : Sk h) (hz : 70 ≤ sz h) {nr nt nd : Nat} {rA tA dA rT : Nat → Nat} {wy gr hd ds : Nat → Int} {gn : Nat → Bool} {tl tw tg ls ms pa : Nat → Int} {dr td : Nat → Option Nat} {sr dn : Nat → Int} (hT : RTo h nt tA tl tw tg ls ms pa) (hD : RDr h nd dA ds) (hR : RRo h nr nt rA tA rT wy gr hd gn) (hC : RTc h nt nr tA dA rA dr td sr dn) {cw : Nat → Int} {bd : Int} (b1 : 0 ≤ bd) (b2 : bd ≤ 99999) (hL : RTl nt nd nr rT dr td) (hdn : ∀ r, r < nr → dr r ≠ none → -1000000000 ≤ dn r ∧ dn r ≤ 1000000000) (hsr : ∀ r, r < nr → dr r ≠ none → 0 ≤ sr r ∧ sr r ≤ 100) (hcw : ∀ i, i < 20 → -9999 ≤ cw i ∧ cw i ≤ 9999) (hW : ∀ i, i < 20 → aI h 18 i = iI (cw i)) (hB : gI h 510 14 = iI bd) {z d m : Int} (z1 : -9999 ≤ z) (z2 : z ≤ 9999) (hdm : (0 ≤ z ∧ d = 1 ∧ m = z) ∨ (z < 0 ∧ d = -1 ∧ m = -z)) : ∃ (n k t o : Int) (h' : Hs), fX10_lookAhead N h 22 (iI z) = some (iI n, h') ∧ Stq m (tWh nt ls ms tl tw tg pa wy gr sr dn ds rT dr td nr cw bd d) n k t o ∧ (gI h' 700 24 = iI k ∧ gI h' 701 24 = iI t ∧ gI h' 702 24 = iI o) ∧ Ke [908, 700, 701, 702] [] [] [] h h' ∧ sz h' = sz h ∧ ∀ f, f ≠ 908 → gI h' f 23 = gI h f 23 := by
  have vp := v_putS (N := N) (h := h) (a := 24) (k := 0) (t := -1) (o := -1) (by rw [ss_24 hS])
  have ke : Ke [700, 701, 702] [] [] [] h (putH h 24 0 (-1) (-1)) := Ke_put
  have p0 : gI (putH h 24 0 (-1) (-1)) 700 24 = iI 0 ∧ gI (putH h 24 0 (-1) (-1)) 701 24 = iI (-1) ∧ gI (putH h 24 0 (-1) (-1)) 702 24 = iI (-1) := put_0
  have pn : ∀ f, gI (putH h 24 0 (-1) (-1)) f 23 = gI h f 23 := fun f => put_n (by decide) f
  have sp : sz (putH h 24 0 (-1) (-1)) = sz h := rfl
  generalize putH h 24 0 (-1) (-1) = h0 at vp ke p0 pn sp
  have hS0 := hS.e hz ke (by decide)
  obtain ⟨n, k, t, o, h2, r1, r2, r3, r4, r5, r6⟩ := L_look (N := N) hN b1 b2 hL hdn hsr hcw (d := d) (by omega) (m := m) (by omega) (by omega) 9999 1 N h0 hS0 (by omega) (hT.e hz ke (by decide) (by decide)) (hD.e hz ke (by decide) (by decide) (by decide)) (hR.e hz ke (by decide) (by decide) (by decide) (by decide)) (hC.e hT.lt hR.lt ke (by decide) (by decide)) (fun i hi => by rw [ke.2.1 18 (by decide) (by omega)]; exact hW i hi) (by rw [ke.1 510 14 (by decide) (by omega)]; exact hB) p0 (by omega) (by omega) (by omega) (by omega) (fun s' h1 h2 => by omega)
  refine ⟨n, k, t, o, h2, ?_, r2, r3, (ke.w (by decide) (by decide) (by decide) (by decide)).tr r4, r5.trans sp, fun f hf => (r6 f hf).trans (pn f)⟩
  have rc7 : rc 7 h (some 24) = some 24 := rcv (by rw [ss_24 hS])
  have b9 : ∀ y : Int32, y = iI m → ((oR 10 2 h (some 22)).bind fun o2 => (rc 7 h o2).bind fun a4 => (fX7_put N h a4 (iI 0) (iI (-1)) (iI (-1))).bind fun r3 => fX10_lookAhead_b28 N 22 N r3 (iI d) y (iI 1)) = some (iI n, h2) := by
    intro y hy
    rw [hy]
    refine bst (sR_1002_22 hS) ?_
    refine bst (rc7) ?_
    refine bst (vp) ?_
    exact r1
  simp only [fX10_lookAhead, fX10_lookAhead_b9, lit, iI_neg, Option.bind_some]
  rcases hdm with ⟨q, rfl, rfl⟩ | ⟨q, rfl, rfl⟩
  · have q1 : iI 0 ≤ iI m := (iI_le (by omega) (by omega) (by omega) (by omega)).mpr q
    rw [if_pos q1, if_pos q1]
    exact b9 _ rfl
  · have q1 : ¬ iI 0 ≤ iI z := fun w => by have := (iI_le (by omega) (by omega) (by omega) (by omega)).mp w; omega
    rw [if_neg q1, if_neg q1]
    exact b9 _ (by rw [iI_sub, Int.zero_sub])
