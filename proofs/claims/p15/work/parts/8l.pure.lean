/-! ===== a line is done ===== -/
def PCl (h : Hs) (nt nd nr : Nat) (tA dA rA rT : Nat → Nat) (tl tw tg ls ms ds wy gr hd : Nat → Int) (gn : Nat → Bool) (bd : Int) (pa : Nat → Int) (dr td : Nat → Option Nat) (sr dn cw : Nat → Int) (x y u1 u2 u3 : Int32) : Prop := (Sk h ∧ 70 ≤ sz h ∧ RTo h nt tA tl tw tg ls ms pa ∧ RDr h nd dA ds ∧ RRo h nr nt rA tA rT wy gr hd gn ∧ RTc h nt nr tA dA rA dr td sr dn) ∧ (∀ i, i < 20 → aI h 18 i = iI (cw i)) ∧ gI h 510 14 = iI bd ∧ (gI h 511 14 = x ∧ gI h 512 14 = y) ∧ gI h 700 23 = u1 ∧ gI h 701 23 = u2 ∧ gI h 702 23 = u3
def PMl (h : Hs) (nt nd nr : Nat) (tA dA rA rT : Nat → Nat) (tl tw tg ls ms ds wy gr hd : Nat → Int) (gn : Nat → Bool) (bd : Int) (pa : Nat → Int) (dr td : Nat → Option Nat) (sr dn cw : Nat → Int) (x y u1 u2 u3 : Int32) : Prop := (Sk h ∧ 70 ≤ sz h ∧ RTq h nt tl tw tg ls ms ∧ (∀ i, i < nt → aI h 33 i = iI (pa i)) ∧ RDr h nd dA ds ∧ RRo h nr nt rA tA rT wy gr hd gn ∧ RTm h nr rT dr sr dn) ∧ (∀ i, i < 20 → aI h 45 i = iI (cw i)) ∧ gI h 1220 29 = iI bd ∧ (gI h 1221 29 = x ∧ gI h 1222 29 = y) ∧ gI h 1223 29 = u1 ∧ gI h 1224 29 = u2 ∧ gI h 1225 29 = u3
def PLl (B : Int) (nt nd nr : Nat) (rT : Nat → Nat) (ls ms wy gr : Nat → Int) (pa : Nat → Int) (dr td : Nat → Option Nat) (sr dn cw : Nat → Int) : Prop := RTl nt nd nr rT dr td ∧ (∀ r, r < nr → dr r ≠ none → ls (rT r) ≤ sr r ∧ sr r ≤ ms (rT r)) ∧ (∀ r, r < nr → dr r ≠ none → pa (rT r) = sr r + wy r * (dn r).tdiv (100 * gr r)) ∧ (∀ i, i < 20 → -9999 ≤ cw i ∧ cw i ≤ 9999) ∧ ∀ r, r < nr → dr r ≠ none → -B ≤ dn r ∧ dn r ≤ B
/-- the reference's answer to a line of which the class says c -/
def lnR (c k : Int) (g : Hs → Int32 → Option (Int32 × Hs)) (h : Hs) : Option (Int32 × Hs) := if c = 0 then g h (iI (k + 1)) else if c = -5 then some (iI (-5), h) else some (iI (-1000 - k), h)
theorem v_ln {N : Nat} (hN : 100000000 ≤ N) {nr nt nd : Nat} {rA tA dA rT : Nat → Nat} {wy gr hd ds : Nat → Int} {gn : Nat → Bool} {tl tw tg ls ms : Nat → Int} {bd : Int} (b1 : 0 ≤ bd) (b2' : bd ≤ 99999) {pa : Nat → Int} {dr td : Nat → Option Nat} {sr dn cw : Nat → Int} {x y u1 u2 u3 : Int32} {B : Int} (hB0 : 0 ≤ B) (hB : B ≤ 900000000) {h : Hs} (hP : PCl h nt nd nr tA dA rA rT tl tw tg ls ms ds wy gr hd gn bd pa dr td sr dn cw x y u1 u2 u3) (hl : PLl B nt nd nr rT ls ms wy gr pa dr td sr dn cw) {k : Nat} (hk : k < 30) {b v1 v2 : Int} (hb : b = 115 ∨ b = 116 ∨ b = 117 ∨ b = 119) (w1 : -9999 ≤ v1 ∧ v1 ≤ 9999) (w2 : -9999 ≤ v2 ∧ v2 ≤ 9999) (a3 : aI h 3 k = iI b) (a4 : aI h 4 k = iI v1) (a5 : aI h 5 k = iI v2) :
    ∃ (c : Int) (pa' : Nat → Int) (dr' td' : Nat → Option Nat) (sr' dn' cw' : Nat → Int) (x' y' u1' u2' u3' : Int32) (h' : Hs), (c = 0 ∨ c = -2 ∨ c = -5) ∧ fX11_playLine N h 0 (iI k) = some (iI c, h') ∧ PCl h' nt nd nr tA dA rA rT tl tw tg ls ms ds wy gr hd gn bd pa' dr' td' sr' dn' cw' x' y' u1' u2' u3' ∧ PLl (B + 199980) nt nd nr rT ls ms wy gr pa' dr' td' sr' dn' cw' ∧ Ke [908, 700, 701, 702, 406, 407, 907, 511, 512] [18] [405, 909] [] h h' ∧ sz h' = sz h ∧
    (∀ (hm : Hs) (cn : Nat), PMl hm nt nd nr tA dA rA rT tl tw tg ls ms ds wy gr hd gn bd pa dr td sr dn cw x y u1 u2 u3 → gI hm 1239 29 = iI cn → k < cn → cn ≤ 30 → aI hm 54 k = iI b → aI hm 55 k = iI v1 → aI hm 56 k = iI v2 → ∃ hm', PMl hm' nt nd nr tA dA rA rT tl tw tg ls ms ds wy gr hd gn bd pa' dr' td' sr' dn' cw' x' y' u1' u2' u3' ∧ Ke [1221, 1222, 1223, 1224, 1225] [33, 36, 42, 43, 45] [] [] hm hm' ∧ sz hm' = sz hm ∧ ∀ g, fX12_play_b66_body N g 29 hm (iI k) = lnR c k g hm') := by
  obtain ⟨⟨hS, hz, hT, hD, hR, hC⟩, hW, hBd, ⟨hx, hy⟩, hu1, hu2, hu3⟩ := hP
  obtain ⟨hL, hsl, hA, hcw, hdB⟩ := hl
  have ct := hT.1.2.2
  have cr := hR.1.2.2
  have cd := hD.1.2.2
  have hdn : ∀ r, r < nr → dr r ≠ none → -1000000000 ≤ dn r ∧ dn r ≤ 1000000000 := fun r hr hn => by have := hdB r hr hn; omega
  have hsr : ∀ r, r < nr → dr r ≠ none → 0 ≤ sr r ∧ sr r ≤ 100 := fun r hr hn => by
    have z1 := hsl r hr hn
    have z2 := (hT.2.1 (rT r) (hR.2.1 r hr).2.2.2.1).2.2.2
    omega
  have hdB2 : ∀ r, r < nr → dr r ≠ none → -(B + 199980) ≤ dn r ∧ dn r ≤ B + 199980 := fun r hr hn => by have := hdB r hr hn; omega
  have l3 := lAv (ss_3 hS) (show k < 30 by omega) (by omega) a3
  have l4 := lAv (ss_4 hS) (show k < 30 by omega) (by omega) a4
  have l5 := lAv (ss_5 hS) (show k < 30 by omega) (by omega) a5
  have q1 : iI b = iI 116 ↔ b = 116 := iI_eq (by omega) (by omega) (by omega) (by omega)
  have q2 : iI b = iI 117 ↔ b = 117 := iI_eq (by omega) (by omega) (by omega) (by omega)
  have q3 : iI b = iI 119 ↔ b = 119 := iI_eq (by omega) (by omega) (by omega) (by omega)
  have q0 : iI b = iI 115 ↔ b = 115 := iI_eq (by omega) (by omega) (by omega) (by omega)
  have rc5 : rc 5 h (some 14) = some 14 := rcv (by rw [ss_14 hS])
  have rc10 : rc 10 h (some 22) = some 22 := rcv (by rw [ss_22 hS])
  -- a refused line
  have no : ∀ c : Int, c = -2 → fX11_playLine N h 0 (iI k) = some (iI c, h) → (∀ (hm : Hs) (cn : Nat), PMl hm nt nd nr tA dA rA rT tl tw tg ls ms ds wy gr hd gn bd pa dr td sr dn cw x y u1 u2 u3 → gI hm 1239 29 = iI cn → k < cn → cn ≤ 30 → aI hm 54 k = iI b → aI hm 55 k = iI v1 → aI hm 56 k = iI v2 → ∀ g, fX12_play_b66_body N g 29 hm (iI k) = lnR c k g hm) → ∃ (c : Int) (pa' : Nat → Int) (dr' td' : Nat → Option Nat) (sr' dn' cw' : Nat → Int) (x' y' u1' u2' u3' : Int32) (h' : Hs), (c = 0 ∨ c = -2 ∨ c = -5) ∧ fX11_playLine N h 0 (iI k) = some (iI c, h') ∧ PCl h' nt nd nr tA dA rA rT tl tw tg ls ms ds wy gr hd gn bd pa' dr' td' sr' dn' cw' x' y' u1' u2' u3' ∧ PLl (B + 199980) nt nd nr rT ls ms wy gr pa' dr' td' sr' dn' cw' ∧ Ke [908, 700, 701, 702, 406, 407, 907, 511, 512] [18] [405, 909] [] h h' ∧ sz h' = sz h ∧ (∀ (hm : Hs) (cn : Nat), PMl hm nt nd nr tA dA rA rT tl tw tg ls ms ds wy gr hd gn bd pa dr td sr dn cw x y u1 u2 u3 → gI hm 1239 29 = iI cn → k < cn → cn ≤ 30 → aI hm 54 k = iI b → aI hm 55 k = iI v1 → aI hm 56 k = iI v2 → ∃ hm', PMl hm' nt nd nr tA dA rA rT tl tw tg ls ms ds wy gr hd gn bd pa' dr' td' sr' dn' cw' x' y' u1' u2' u3' ∧ Ke [1221, 1222, 1223, 1224, 1225] [33, 36, 42, 43, 45] [] [] hm hm' ∧ sz hm' = sz hm ∧ ∀ g, fX12_play_b66_body N g 29 hm (iI k) = lnR c k g hm') := fun c hc e1 e2 => ⟨c, pa, dr, td, sr, dn, cw, x, y, u1, u2, u3, h, by omega, e1, ⟨⟨hS, hz, hT, hD, hR, hC⟩, hW, hBd, ⟨hx, hy⟩, hu1, hu2, hu3⟩, ⟨hL, hsl, hA, hcw, hdB2⟩, Ke_rf, rfl, fun hm cn p1 p2 p3 p4 p5 p6 p7 => ⟨hm, p1, Ke_rf, rfl, e2 hm cn p1 p2 p3 p4 p5 p6 p7⟩⟩
  have nR2 : ∀ g hm, lnR (-2) k g hm = some (iI (-1000 - (k : Int)), hm) := fun g hm => by
    unfold lnR
    rw [if_neg (by omega), if_neg (by omega)]
  have nR0 : ∀ g hm, lnR 0 k g hm = g hm (iI ((k : Int) + 1)) := fun g hm => by
    unfold lnR
    rw [if_pos rfl]
  have nR5 : ∀ g hm, lnR (-5) k g hm = some (iI (-5), hm) := fun g hm => by
    unfold lnR
    rw [if_neg (by omega), if_pos rfl]
  have n20 : ¬ iI (-2) = iI 0 := by decide
  have tt0 : iI 0 = iI 0 := rfl
  rcases hb with rfl | rfl | rfl | rfl
  · -- the shaft turns
    obtain ⟨d, m, hdm⟩ : ∃ d m : Int, (0 ≤ v1 ∧ d = 1 ∧ m = v1) ∨ (v1 < 0 ∧ d = -1 ∧ m = -v1) := by
      by_cases q : 0 ≤ v1
      · exact ⟨1, v1, Or.inl ⟨q, rfl, rfl⟩⟩
      · exact ⟨-1, -v1, Or.inr ⟨by omega, rfl, rfl⟩⟩
    obtain ⟨n, kk, t, o, h1, e1, st, ⟨x1, x2, x3⟩, ke1, s1, hC1, hP1, g11, g12⟩ := v_turnBy hN hS hz hT hD hR hC b1 b2' hL hdn hsr hcw hW hBd w1.1 w1.2 hdm
    have n0 := st.1
    have n1 := st.2.1
    have zb : -9999 ≤ d * n ∧ d * n ≤ 9999 := by rcases hdm with ⟨_, rfl, _⟩ | ⟨_, rfl, _⟩ <;> omega
    have hbp : ∀ i, i < nt → ls i ≤ pa i ∧ pa i ≤ ms i := fun i hi => by have := (hT.2.1 i hi).2.2.2; omega
    have am : (if iI 0 ≤ iI v1 then iI v1 else iI 0 - iI v1) = iI m := by
      rcases hdm with ⟨q, _, rfl⟩ | ⟨q, _, rfl⟩
      · rw [if_pos ((iI_le (by omega) (by omega) (by omega) (by omega)).mpr q)]
      · rw [if_neg (fun z => by have := (iI_le (by omega) (by omega) (by omega) (by omega)).mp z; omega), iI_sub, Int.zero_sub]
    have le : iI n = iI m ↔ n = m := iI_eq (by omega) (by omega) (by omega) (by omega)
    obtain ⟨c, hc, hc2⟩ : ∃ c : Int, (n = m ∧ c = 0 ∨ n < m ∧ c = -5) ∧ (c = 0 ∨ c = -2 ∨ c = -5) := by
      by_cases q : n = m
      · exact ⟨0, Or.inl ⟨q, rfl⟩, Or.inl rfl⟩
      · exact ⟨-5, Or.inr ⟨by omega, rfl⟩, Or.inr (Or.inr rfl)⟩
    have ke1w : Ke [908, 700, 701, 702, 406, 407, 907, 511, 512] [18] [405, 909] [] h h1 := ke1.w (by decide) (by decide) (by decide) (by decide)
    refine ⟨c, tpl pa wy gr sr dn ds dr td (d * n), dr, td, sr, dnz ds dn dr (d * n), cw, x + iI (d * n), y + iI n, iI kk, iI t, iI o, h1, hc2, ?_, ⟨⟨hS.e hz ke1 (by decide), by omega, hT.mv hz ke1 (by decide) (by decide) hP1 (fun i hi => stq_in hL hA hbp st hi), hD.e hz ke1 (by decide) (by decide) (by decide), hR.e hz ke1 (by decide) (by decide) (by decide) (by decide), hC1⟩, fun i hi => by rw [ke1.2.1 18 (by decide) (by omega)]; exact hW i hi, by rw [ke1.1 510 14 (by decide) (by omega)]; exact hBd, ⟨by rw [g11, hx], by rw [g12, hy]⟩, x1, x2, x3⟩, ⟨hL, hsl, fun r hr hne => tpl_A hL (d * n) hr hne, hcw, fun r hr hne => ?_⟩, ke1w, s1, ?_⟩
    · simp only [fX11_playLine, fX11_playLine_b141, lit, iI_neg]
      rcases hc with ⟨q, rfl⟩ | ⟨q, rfl⟩
      · skip
        refine bst (sR_1103_0 hS) ?_
        refine bst (sR_802_1 hS) ?_
        refine bst (l4) ?_
        refine bst (sR_1103_0 hS) ?_
        refine bst (sR_803_1 hS) ?_
        refine bst (l5) ?_
        refine bst (sR_1103_0 hS) ?_
        refine bst (sR_801_1 hS) ?_
        refine bst (l3) ?_
        refine ifn (fun z => by have := q1.mp z; omega) ?_
        refine ifn (fun z => by have := q2.mp z; omega) ?_
        refine ifn (fun z => by have := q3.mp z; omega) ?_
        refine bst (sR_1101_0 hS) ?_
        refine bst (rc10) ?_
        refine bst (e1) ?_
        rw [am]
        refine ifp (le.mpr q) ?_
        rfl
      · skip
        refine bst (sR_1103_0 hS) ?_
        refine bst (sR_802_1 hS) ?_
        refine bst (l4) ?_
        refine bst (sR_1103_0 hS) ?_
        refine bst (sR_803_1 hS) ?_
        refine bst (l5) ?_
        refine bst (sR_1103_0 hS) ?_
        refine bst (sR_801_1 hS) ?_
        refine bst (l3) ?_
        refine ifn (fun z => by have := q1.mp z; omega) ?_
        refine ifn (fun z => by have := q2.mp z; omega) ?_
        refine ifn (fun z => by have := q3.mp z; omega) ?_
        refine bst (sR_1101_0 hS) ?_
        refine bst (rc10) ?_
        refine bst (e1) ?_
        rw [am]
        refine ifn (fun z => by have := le.mp z; omega) ?_
        rfl
    · have := dnz_bd (dn := dn) hL (fun e he => (hD.2.1 e he).2.2.2) (B := 9999) zb.1 zb.2 hr hne
      have := hdB r hr hne
      omega
    · intro hm cn hPM hcn hkc hc30 m54 m55 m56
      obtain ⟨⟨mS, mz, mT, mP, mD, mR, mM⟩, mW, mB, ⟨mx, my⟩, mu1, mu2, mu3⟩ := hPM
      obtain ⟨n', k', t', o', h3, e3, st', w3, ke3, s3, hM3, hP3, g31, g32⟩ := v_turnNow hN mS mz mT mP mD mR mM b1 b2' hL hdn hsr hA (fun i hi => (show 0 ≤ pa i ∧ pa i ≤ 100 by have := (hT.2.1 i hi).2.2.2; omega)) hcw mW mB w1.1 w1.2 hdm
      obtain ⟨rfl, rfl, rfl, rfl⟩ := Stq_un (WH := tWh nt ls ms tl tw tg pa wy gr sr dn ds rT dr td nr cw bd d) (fun s k t o k' t' o' a b => Wh_un a b) st st'
      refine ⟨h3, ⟨⟨mS.e mz ke3 (by decide), by omega, mT.e mz ke3 (by decide) (by decide), hP3, mD.e mz ke3 (by decide) (by decide) (by decide), mR.e mz ke3 (by decide) (by decide) (by decide) (by decide), hM3⟩, fun i hi => by rw [ke3.2.1 45 (by decide) (by omega)]; exact mW i hi, by rw [ke3.1 1220 29 (by decide) (by omega)]; exact mB, ⟨by rw [g31, mx], by rw [g32, my]⟩, w3.1, w3.2.1, w3.2.2⟩, ke3.w (by decide) (by decide) (by decide) (by decide), s3, fun g => ?_⟩
      have c29 : (sh hm 29).1 = 12 := by rw [ss_29 mS]
      have a1 : ¬ iI (cn : Int) ≤ iI (k : Int) := fun q => by have := (iI_le (by omega) (by omega) (by omega) (by omega)).mp q; omega
      have rc12 : rc 12 hm (some 29) = some 29 := rcv (by rw [ss_29 mS])
      have m4 := lAv (ss_55 mS) (show k < 60 by omega) (by omega) m55
      have m3 := lAv (ss_54 mS) (show k < 60 by omega) (by omega) m54
      have lm : iI m ≤ iI n ↔ m ≤ n := iI_le (by omega) (by omega) (by omega) (by omega)
      have b107 : fX12_play_b107 N g 29 h3 (iI k) (iI n) (iI m) = lnR c k g h3 := by
        simp only [fX12_play_b107, fX12_play_b209, lit, iI_neg, iI_add, Option.bind_some]
        rcases hc with ⟨q, rfl⟩ | ⟨q, rfl⟩
        · rw [nR0]
          refine ifp (lm.mpr (by omega)) ?_
          rfl
        · rw [nR5]
          refine ifn (fun z => by have := lm.mp z; omega) ?_
          rfl
      simp only [fX12_play_b66_body, lit]
      rcases hdm with ⟨q, rfl, rfl⟩ | ⟨q, rfl, rfl⟩
      · have p0 : iI 0 ≤ iI m := (iI_le (by omega) (by omega) (by omega) (by omega)).mpr q
        refine bst (oIv c29 hcn) ?_
        refine ifn (a1) ?_
        refine bst (sR_1241_29 mS) ?_
        refine bst (m4) ?_
        refine bst (sR_1240_29 mS) ?_
        refine bst (m3) ?_
        refine ifp (rfl) ?_
        refine bst (rc12) ?_
        refine bst (e3) ?_
        refine ifp (p0) ?_
        exact b107
      · have p0 : ¬ iI 0 ≤ iI v1 := fun z => by have := (iI_le (by omega) (by omega) (by omega) (by omega)).mp z; omega
        rw [← iI_neg] at b107
        refine bst (oIv c29 hcn) ?_
        refine ifn (a1) ?_
        refine bst (sR_1241_29 mS) ?_
        refine bst (m4) ?_
        refine bst (sR_1240_29 mS) ?_
        refine bst (m3) ?_
        refine ifp (rfl) ?_
        refine bst (rc12) ?_
        refine bst (e3) ?_
        refine ifn (p0) ?_
        exact b107
  · -- a rope is tied
    obtain ⟨cN, cY⟩ := c_tieo (N := N) hS hz hR hT hD hC v1 v2 (by omega) (by omega) (by omega) (by omega)
    have clN : ∀ (v : Int) (hx : Hs), -2147483648 ≤ v → v < 0 → fX5_tieRope N h 14 (iI v1) (iI v2) = some (iI v, hx) → fX11_playLine N h 0 (iI k) = some (iI (-2), hx) := by
      intro v hx v0 v9 e
      have lz : iI v < iI 0 := (iI_lt (by omega) (by omega) (by omega) (by omega)).mpr v9
      simp only [fX11_playLine, fX11_playLine_b78, lit, iI_neg]
      refine bst (sR_1103_0 hS) ?_
      refine bst (sR_802_1 hS) ?_
      refine bst (l4) ?_
      refine bst (sR_1103_0 hS) ?_
      refine bst (sR_803_1 hS) ?_
      refine bst (l5) ?_
      refine bst (sR_1103_0 hS) ?_
      refine bst (sR_801_1 hS) ?_
      refine bst (l3) ?_
      refine ifp (rfl) ?_
      refine bst (sR_1100_0 hS) ?_
      refine bst (rc5) ?_
      refine bst (e) ?_
      refine ifp (lz) ?_
      rfl
    have clY : ∀ (v : Int) (hx : Hs), 0 ≤ v → v < 2147483648 → fX5_tieRope N h 14 (iI v1) (iI v2) = some (iI v, hx) → fX11_playLine N h 0 (iI k) = some (iI 0, hx) := by
      intro v hx v0 v9 e
      have lz : ¬ iI v < iI 0 := fun z => by have := (iI_lt (by omega) (by omega) (by omega) (by omega)).mp z; omega
      simp only [fX11_playLine, fX11_playLine_b78, lit]
      refine bst (sR_1103_0 hS) ?_
      refine bst (sR_802_1 hS) ?_
      refine bst (l4) ?_
      refine bst (sR_1103_0 hS) ?_
      refine bst (sR_803_1 hS) ?_
      refine bst (l5) ?_
      refine bst (sR_1103_0 hS) ?_
      refine bst (sR_801_1 hS) ?_
      refine bst (l3) ?_
      refine ifp (rfl) ?_
      refine bst (sR_1100_0 hS) ?_
      refine bst (rc5) ?_
      refine bst (e) ?_
      refine ifn (lz) ?_
      rfl
    have rfl' : ∀ (hm : Hs) (cn : Nat) (g : Hs → Int32 → Option (Int32 × Hs)) (v : Int) (hx : Hs), Sk hm → gI hm 1239 29 = iI cn → k < cn → cn ≤ 30 → aI hm 54 k = iI 116 → aI hm 55 k = iI v1 → aI hm 56 k = iI v2 → -2147483648 ≤ v → v < 2147483648 → fX12_tieNow N hm 29 (iI v1) (iI v2) = some (iI v, hx) → fX12_play_b66_body N g 29 hm (iI k) = lnR (if v < 0 then -2 else 0) k g hx := by
      intro hm cn g v hx mS hcn hkc hc30 m54 m55 m56 v0 v9 e
      have c29 : (sh hm 29).1 = 12 := by rw [ss_29 mS]
      have a1 : ¬ iI (cn : Int) ≤ iI (k : Int) := fun q => by have := (iI_le (by omega) (by omega) (by omega) (by omega)).mp q; omega
      have rc12 : rc 12 hm (some 29) = some 29 := rcv (by rw [ss_29 mS])
      have m4 := lAv (ss_55 mS) (show k < 60 by omega) (by omega) m55
      have m3 := lAv (ss_54 mS) (show k < 60 by omega) (by omega) m54
      have m5 := lAv (ss_56 mS) (show k < 60 by omega) (by omega) m56
      have lz : iI 0 ≤ iI v ↔ 0 ≤ v := iI_le (by omega) (by omega) (by omega) (by omega)
      have n65 : ¬ iI 116 = iI 115 := by decide
      simp only [fX12_play_b66_body, fX12_play_b196, fX12_play_b209, lit, iI_neg, iI_add, iI_sub, Option.bind_some]
      by_cases w : v < 0
      · rw [if_pos w, nR2]
        refine bst (oIv c29 hcn) ?_
        refine ifn (a1) ?_
        refine bst (sR_1241_29 mS) ?_
        refine bst (m4) ?_
        refine bst (sR_1240_29 mS) ?_
        refine bst (m3) ?_
        refine ifn (n65) ?_
        refine bst (sR_1240_29 mS) ?_
        refine bst (m3) ?_
        refine ifp (rfl) ?_
        refine bst (sR_1242_29 mS) ?_
        refine bst (m5) ?_
        refine bst (rc12) ?_
        refine bst (e) ?_
        refine ifn (fun z => by have := lz.mp z; omega) ?_
        refine ifn (n10) ?_
        rfl
      · rw [if_neg w, nR0]
        refine bst (oIv c29 hcn) ?_
        refine ifn (a1) ?_
        refine bst (sR_1241_29 mS) ?_
        refine bst (m4) ?_
        refine bst (sR_1240_29 mS) ?_
        refine bst (m3) ?_
        refine ifn (n65) ?_
        refine bst (sR_1240_29 mS) ?_
        refine bst (m3) ?_
        refine ifp (rfl) ?_
        refine bst (sR_1242_29 mS) ?_
        refine bst (m5) ?_
        refine bst (rc12) ?_
        refine bst (e) ?_
        refine ifp (lz.mpr (by omega)) ?_
        refine ifp (trivial) ?_
        rfl
    by_cases w : (0 ≤ v1 ∧ v1 ≤ (nr : Int) - 1) ∧ 0 ≤ v2 ∧ v2 ≤ (nd : Int) - 1
    · obtain ⟨r, hr⟩ : ∃ r : Nat, v1 = r := ⟨v1.toNat, by omega⟩
      obtain ⟨d, hd'⟩ : ∃ d : Nat, v2 = d := ⟨v2.toNat, by omega⟩
      have hrl : r < nr := by omega
      have hdl : d < nd := by omega
      obtain ⟨y0, y1⟩ := cY r d hr hd' hrl hdl
      obtain ⟨-, -, -, p1, p2, p3, p4, p5⟩ := hR.2.1 r hrl
      obtain ⟨-, -, -, pb⟩ := hT.2.1 (rT r) p1
      have lb := ldv_b (g := tg (rT r)) (r := gr r) (by omega) (by omega)
      by_cases w' : gn r = false ∧ td (rT r) = none ∧ ldv (tg (rT r)) (gr r) ≤ hd r
      · have e1 := y1 w'
        have ke1 := Ke_tieH (h := h) (ra := rA r) (ta := tA (rT r)) (da := dA d) (p := pa (rT r))
        have hC1 := hC.tie (nd := nd) (rT := rT) hT.2.2 hR.2.2 (d := d) hrl p1 (pa (rT r))
        have sz1 : sz (tieH h (rA r) (tA (rT r)) (dA d) (pa (rT r))) = sz h := rfl
        generalize tieH h (rA r) (tA (rT r)) (dA d) (pa (rT r)) = h1 at e1 ke1 hC1 sz1
        have htd : ∀ s, s < nr → updO dr r (some d) s ≠ none → s ≠ r → dr s ≠ none := fun s hs hn ne => by rw [updO_n _ _ ne] at hn; exact hn
        refine ⟨0, pa, updO dr r (some d), updO td (rT r) (some r), updO sr r (pa (rT r)), updO dn r 0, cw, x, y, u1, u2, u3, h1, Or.inl rfl, clY _ _ (by omega) (by omega) e1, ⟨⟨hS.e hz ke1 (by decide), by omega, hT.e hz ke1 (by decide) (by decide), hD.e hz ke1 (by decide) (by decide) (by decide), hR.e hz ke1 (by decide) (by decide) (by decide) (by decide), hC1⟩, fun i hi => by rw [ke1.2.1 18 (by decide) (by omega)]; exact hW i hi, by rw [ke1.1 510 14 (by decide) (by omega)]; exact hBd, ⟨by rw [ke1.1 511 14 (by decide) (by omega)]; exact hx, by rw [ke1.1 512 14 (by decide) (by omega)]; exact hy⟩, by rw [ke1.1 700 23 (by decide) (by omega)]; exact hu1, by rw [ke1.1 701 23 (by decide) (by omega)]; exact hu2, by rw [ke1.1 702 23 (by decide) (by omega)]; exact hu3⟩, ⟨hL.tie hrl hdl w'.2.1, fun s hs hn => ?_, fun s hs hn => ?_, hcw, fun s hs hn => ?_⟩, ke1.w (by decide) (by decide) (by decide) (by decide), sz1, ?_⟩
        · by_cases es : s = r
          · subst es
            rw [updO_s]
            omega
          · rw [updO_n _ _ es]
            exact hsl s hs (htd s hs hn es)
        · by_cases es : s = r
          · subst es
            rw [updO_s, updO_s]
            simp
          · rw [updO_n _ _ es, updO_n _ _ es]
            exact hA s hs (htd s hs hn es)
        · by_cases es : s = r
          · subst es
            rw [updO_s]
            omega
          · rw [updO_n _ _ es]
            exact hdB2 s hs (htd s hs hn es)
        · intro hm cn hPM hcn hkc hc30 m54 m55 m56
          obtain ⟨⟨mS, mz, mT, mP, mD, mR, mM⟩, mW, mB, ⟨mx, my⟩, mu1, mu2, mu3⟩ := hPM
          have e3 := ((m_tieq hN mS mz mR mT mP mD mM hL v1 v2 (by omega) (by omega) (by omega) (by omega)).2 r d hr hd' hrl hdl).2 w'
          have ke3 : Ke [] [36, 42, 43] [] [] hm (tieM hm r (rT r) d (pa (rT r))) := Kq_tieM.e
          have hM3 := mM.tie hL (d := d) hrl w'.2.1 (pa (rT r))
          have st := fun g => rfl' hm cn g _ _ mS hcn hkc hc30 m54 m55 m56 (by omega) (by omega) e3
          have s3 : sz (tieM hm r (rT r) d (pa (rT r))) = sz hm := rfl
          have hM3' : RTm (tieM hm r (rT r) d (pa (rT r))) nr rT (updO dr r (some d)) (updO sr r (pa (rT r))) (updO dn r 0) := hM3
          generalize tieM hm r (rT r) d (pa (rT r)) = h3 at e3 ke3 hM3' st s3
          refine ⟨h3, ⟨⟨mS.e mz ke3 (by decide), by omega, mT.e mz ke3 (by decide) (by decide), fun i hi => by rw [ke3.2.1 33 (by decide) (by omega)]; exact mP i hi, mD.e mz ke3 (by decide) (by decide) (by decide), mR.e mz ke3 (by decide) (by decide) (by decide) (by decide), hM3'⟩, fun i hi => by rw [ke3.2.1 45 (by decide) (by omega)]; exact mW i hi, by rw [ke3.1 1220 29 (by decide) (by omega)]; exact mB, ⟨by rw [ke3.1 1221 29 (by decide) (by omega)]; exact mx, by rw [ke3.1 1222 29 (by decide) (by omega)]; exact my⟩, by rw [ke3.1 1223 29 (by decide) (by omega)]; exact mu1, by rw [ke3.1 1224 29 (by decide) (by omega)]; exact mu2, by rw [ke3.1 1225 29 (by decide) (by omega)]; exact mu3⟩, ke3.w (by decide) (by decide) (by decide) (by decide), s3, fun g => ?_⟩
          have := st g
          rw [if_neg (by omega)] at this
          exact this
      · refine no (-2) rfl (clN _ _ (by omega) (by omega) (y0 w')) (fun hm cn hPM hcn hkc hc30 m54 m55 m56 g => ?_)
        obtain ⟨⟨mS, mz, mT, mP, mD, mR, mM⟩, -⟩ := hPM
        have e3 := ((m_tieq hN mS mz mR mT mP mD mM hL v1 v2 (by omega) (by omega) (by omega) (by omega)).2 r d hr hd' hrl hdl).1 w'
        exact rfl' hm cn g _ _ mS hcn hkc hc30 m54 m55 m56 (by omega) (by omega) e3
    · refine no (-2) rfl (clN _ _ (by omega) (by omega) (cN w)) (fun hm cn hPM hcn hkc hc30 m54 m55 m56 g => ?_)
      obtain ⟨⟨mS, mz, mT, mP, mD, mR, mM⟩, -⟩ := hPM
      have e3 := (m_tieq hN mS mz mR mT mP mD mM hL v1 v2 (by omega) (by omega) (by omega) (by omega)).1 w
      exact rfl' hm cn g _ _ mS hcn hkc hc30 m54 m55 m56 (by omega) (by omega) e3
  · -- a rope is untied
    have rfl' : ∀ (hm : Hs) (cn : Nat) (g : Hs → Int32 → Option (Int32 × Hs)) (v : Int) (hx : Hs), Sk hm → gI hm 1239 29 = iI cn → k < cn → cn ≤ 30 → aI hm 54 k = iI 117 → aI hm 55 k = iI v1 → -2147483648 ≤ v → v < 2147483648 → fX12_untieNow N hm 29 (iI v1) = some (iI v, hx) → fX12_play_b66_body N g 29 hm (iI k) = lnR (if v = -2000000000 then -2 else 0) k g hx := by
      intro hm cn g v hx mS hcn hkc hc30 m54 m55 v0 v9 e
      have c29 : (sh hm 29).1 = 12 := by rw [ss_29 mS]
      have a1 : ¬ iI (cn : Int) ≤ iI (k : Int) := fun q => by have := (iI_le (by omega) (by omega) (by omega) (by omega)).mp q; omega
      have rc12 : rc 12 hm (some 29) = some 29 := rcv (by rw [ss_29 mS])
      have m4 := lAv (ss_55 mS) (show k < 60 by omega) (by omega) m55
      have m3 := lAv (ss_54 mS) (show k < 60 by omega) (by omega) m54
      have lz : iI v = iI (-2000000000) ↔ v = -2000000000 := iI_eq (by omega) (by omega) (by omega) (by omega)
      have n65 : ¬ iI 117 = iI 115 := by decide
      have n66 : ¬ iI 117 = iI 116 := by decide
      simp only [fX12_play_b66_body, fX12_play_b196, fX12_play_b209, lit, iI_neg, iI_add, iI_sub, Option.bind_some]
      by_cases w : v = -2000000000
      · rw [if_pos w, nR2]
        refine bst (oIv c29 hcn) ?_
        refine ifn (a1) ?_
        refine bst (sR_1241_29 mS) ?_
        refine bst (m4) ?_
        refine bst (sR_1240_29 mS) ?_
        refine bst (m3) ?_
        refine ifn (n65) ?_
        refine bst (sR_1240_29 mS) ?_
        refine bst (m3) ?_
        refine ifn (n66) ?_
        refine bst (sR_1240_29 mS) ?_
        refine bst (m3) ?_
        refine ifp (rfl) ?_
        refine bst (rc12) ?_
        refine bst (e) ?_
        refine ifp (lz.mpr w) ?_
        refine ifn (n10) ?_
        rfl
      · rw [if_neg w, nR0]
        refine bst (oIv c29 hcn) ?_
        refine ifn (a1) ?_
        refine bst (sR_1241_29 mS) ?_
        refine bst (m4) ?_
        refine bst (sR_1240_29 mS) ?_
        refine bst (m3) ?_
        refine ifn (n65) ?_
        refine bst (sR_1240_29 mS) ?_
        refine bst (m3) ?_
        refine ifn (n66) ?_
        refine bst (sR_1240_29 mS) ?_
        refine bst (m3) ?_
        refine ifp (rfl) ?_
        refine bst (rc12) ?_
        refine bst (e) ?_
        refine ifn (fun z => w (lz.mp z)) ?_
        refine ifp (trivial) ?_
        rfl
    have n76 : ¬ iI 117 = iI 116 := by decide
    rcases c_untieo (N := N) (nd := nd) hS hR hT hC v1 (by omega) (by omega) with ⟨un, e1⟩ | ⟨r, d0, hr, hrl, hdr, e1⟩
    · refine no (-2) rfl ?_ (fun hm cn hPM hcn hkc hc30 m54 m55 m56 g => ?_)
      · simp only [fX11_playLine, fX11_playLine_b98, lit, iI_neg]
        refine bst (sR_1103_0 hS) ?_
        refine bst (sR_802_1 hS) ?_
        refine bst (l4) ?_
        refine bst (sR_1103_0 hS) ?_
        refine bst (sR_803_1 hS) ?_
        refine bst (l5) ?_
        refine bst (sR_1103_0 hS) ?_
        refine bst (sR_801_1 hS) ?_
        refine bst (l3) ?_
        refine ifn (n76) ?_
        refine ifp (rfl) ?_
        refine bst (sR_1100_0 hS) ?_
        refine bst (rc5) ?_
        refine bst (e1) ?_
        refine ifp (rfl) ?_
        rfl
      · obtain ⟨⟨mS, mz, mT, mP, mD, mR, mM⟩, -⟩ := hPM
        have e3 := (m_untie (N := N) mS mR mM hL cd v1 (by omega) (by omega)).1 un
        have := rfl' hm cn g _ _ mS hcn hkc hc30 m54 m55 (by omega) (by omega) e3
        rw [if_pos rfl] at this
        exact this
    · have hne : dr r ≠ none := by rw [hdr]; exact fun q => by cases q
      have nb := hdn r hrl hne
      have p1 := (hR.2.1 r hrl).2.2.2.1
      have nz : ¬ iI (dn r) = iI (-2000000000) := fun z => by have := (iI_eq (by omega) (by omega) (by omega) (by omega)).mp z; omega
      have hC1 := hC.loose hL hT.2.2 hR.2.2 hrl p1 (iI 0)
      have ke1 : Ke [407] [] [405, 909] [] h (uR (uI (uR h 405 (rA r) none) 407 (rA r) (iI 0)) 909 (tA (rT r)) none) := ((Ke_rf.r 405 _ _ (by decide)).u 407 _ _ (by decide)).r 909 _ _ (by decide)
      have sz1 : sz (uR (uI (uR h 405 (rA r) none) 407 (rA r) (iI 0)) 909 (tA (rT r)) none) = sz h := rfl
      generalize uR (uI (uR h 405 (rA r) none) 407 (rA r) (iI 0)) 909 (tA (rT r)) none = h1 at e1 ke1 hC1 sz1
      have htd : ∀ s, s < nr → updO dr r none s ≠ none → dr s ≠ none := fun s hs hn => by
        by_cases es : s = r
        · rw [es, updO_s] at hn; exact absurd rfl hn
        · rw [updO_n _ _ es] at hn; exact hn
      refine ⟨0, pa, updO dr r none, updO td (rT r) none, sr, dn, cw, x, y, u1, u2, u3, h1, Or.inl rfl, ?_, ⟨⟨hS.e hz ke1 (by decide), by omega, hT.e hz ke1 (by decide) (by decide), hD.e hz ke1 (by decide) (by decide) (by decide), hR.e hz ke1 (by decide) (by decide) (by decide) (by decide), hC1⟩, fun i hi => by rw [ke1.2.1 18 (by decide) (by omega)]; exact hW i hi, by rw [ke1.1 510 14 (by decide) (by omega)]; exact hBd, ⟨by rw [ke1.1 511 14 (by decide) (by omega)]; exact hx, by rw [ke1.1 512 14 (by decide) (by omega)]; exact hy⟩, by rw [ke1.1 700 23 (by decide) (by omega)]; exact hu1, by rw [ke1.1 701 23 (by decide) (by omega)]; exact hu2, by rw [ke1.1 702 23 (by decide) (by omega)]; exact hu3⟩, ⟨hL.loose hrl hdr, fun s hs hn => hsl s hs (htd s hs hn), fun s hs hn => hA s hs (htd s hs hn), hcw, fun s hs hn => hdB2 s hs (htd s hs hn)⟩, ke1.w (by decide) (by decide) (by decide) (by decide), sz1, ?_⟩
      · simp only [fX11_playLine, fX11_playLine_b98, lit, iI_neg]
        refine bst (sR_1103_0 hS) ?_
        refine bst (sR_802_1 hS) ?_
        refine bst (l4) ?_
        refine bst (sR_1103_0 hS) ?_
        refine bst (sR_803_1 hS) ?_
        refine bst (l5) ?_
        refine bst (sR_1103_0 hS) ?_
        refine bst (sR_801_1 hS) ?_
        refine bst (l3) ?_
        refine ifn (n76) ?_
        refine ifp (rfl) ?_
        refine bst (sR_1100_0 hS) ?_
        refine bst (rc5) ?_
        refine bst (e1) ?_
        refine ifn (nz) ?_
        rfl
      · intro hm cn hPM hcn hkc hc30 m54 m55 m56
        obtain ⟨⟨mS, mz, mT, mP, mD, mR, mM⟩, mW, mB, ⟨mx, my⟩, mu1, mu2, mu3⟩ := hPM
        have e3 := (m_untie (N := N) mS mR mM hL cd v1 (by omega) (by omega)).2 r d0 hr hrl hdr
        have st := fun g => rfl' hm cn g _ _ mS hcn hkc hc30 m54 m55 (by omega) (by omega) e3
        have hM3 := mM.loose hrl
        have ke3 : Ke [] [42] [] [] hm (uA hm 42 r (iI (-1))) := Ke_rf.b 42 _ _ (by decide)
        have s3 : sz (uA hm 42 r (iI (-1))) = sz hm := rfl
        generalize uA hm 42 r (iI (-1)) = h3 at e3 ke3 hM3 st s3
        refine ⟨h3, ⟨⟨mS.e mz ke3 (by decide), by omega, mT.e mz ke3 (by decide) (by decide), fun i hi => by rw [ke3.2.1 33 (by decide) (by omega)]; exact mP i hi, mD.e mz ke3 (by decide) (by decide) (by decide), mR.e mz ke3 (by decide) (by decide) (by decide) (by decide), hM3⟩, fun i hi => by rw [ke3.2.1 45 (by decide) (by omega)]; exact mW i hi, by rw [ke3.1 1220 29 (by decide) (by omega)]; exact mB, ⟨by rw [ke3.1 1221 29 (by decide) (by omega)]; exact mx, by rw [ke3.1 1222 29 (by decide) (by omega)]; exact my⟩, by rw [ke3.1 1223 29 (by decide) (by omega)]; exact mu1, by rw [ke3.1 1224 29 (by decide) (by omega)]; exact mu2, by rw [ke3.1 1225 29 (by decide) (by omega)]; exact mu3⟩, ke3.w (by decide) (by decide) (by decide) (by decide), s3, fun g => ?_⟩
        have := st g
        rw [if_neg (by omega)] at this
        exact this
  · -- a counterweight
    have n96 : ¬ iI 119 = iI 116 := by decide
    have n97 : ¬ iI 119 = iI 117 := by decide
    have rfl' : ∀ (hm : Hs) (cn : Nat) (g : Hs → Int32 → Option (Int32 × Hs)) (v : Int) (hx : Hs), Sk hm → gI hm 1239 29 = iI cn → k < cn → cn ≤ 30 → aI hm 54 k = iI 119 → aI hm 55 k = iI v1 → aI hm 56 k = iI v2 → -2147483648 ≤ v → v < 2147483648 → fX12_weighNow N hm 29 (iI v1) (iI v2) = some (iI v, hx) → fX12_play_b66_body N g 29 hm (iI k) = lnR (if v = -2000000000 then -2 else 0) k g hx := by
      intro hm cn g v hx mS hcn hkc hc30 m54 m55 m56 v0 v9 e
      have c29 : (sh hm 29).1 = 12 := by rw [ss_29 mS]
      have a1 : ¬ iI (cn : Int) ≤ iI (k : Int) := fun q => by have := (iI_le (by omega) (by omega) (by omega) (by omega)).mp q; omega
      have rc12 : rc 12 hm (some 29) = some 29 := rcv (by rw [ss_29 mS])
      have m4 := lAv (ss_55 mS) (show k < 60 by omega) (by omega) m55
      have m3 := lAv (ss_54 mS) (show k < 60 by omega) (by omega) m54
      have m5 := lAv (ss_56 mS) (show k < 60 by omega) (by omega) m56
      have lz : iI v = iI (-2000000000) ↔ v = -2000000000 := iI_eq (by omega) (by omega) (by omega) (by omega)
      have n65 : ¬ iI 119 = iI 115 := by decide
      simp only [fX12_play_b66_body, fX12_play_b196, fX12_play_b209, lit, iI_neg, iI_add, iI_sub, Option.bind_some]
      by_cases w : v = -2000000000
      · rw [if_pos w, nR2]
        refine bst (oIv c29 hcn) ?_
        refine ifn (a1) ?_
        refine bst (sR_1241_29 mS) ?_
        refine bst (m4) ?_
        refine bst (sR_1240_29 mS) ?_
        refine bst (m3) ?_
        refine ifn (n65) ?_
        refine bst (sR_1240_29 mS) ?_
        refine bst (m3) ?_
        refine ifn (n96) ?_
        refine bst (sR_1240_29 mS) ?_
        refine bst (m3) ?_
        refine ifn (n97) ?_
        refine bst (sR_1242_29 mS) ?_
        refine bst (m5) ?_
        refine bst (rc12) ?_
        refine bst (e) ?_
        refine ifp (lz.mpr w) ?_
        refine ifn (n10) ?_
        rfl
      · rw [if_neg w, nR0]
        refine bst (oIv c29 hcn) ?_
        refine ifn (a1) ?_
        refine bst (sR_1241_29 mS) ?_
        refine bst (m4) ?_
        refine bst (sR_1240_29 mS) ?_
        refine bst (m3) ?_
        refine ifn (n65) ?_
        refine bst (sR_1240_29 mS) ?_
        refine bst (m3) ?_
        refine ifn (n96) ?_
        refine bst (sR_1240_29 mS) ?_
        refine bst (m3) ?_
        refine ifn (n97) ?_
        refine bst (sR_1242_29 mS) ?_
        refine bst (m5) ?_
        refine bst (rc12) ?_
        refine bst (e) ?_
        refine ifn (fun z => w (lz.mp z)) ?_
        refine ifp (trivial) ?_
        rfl
    have iw1 := v_isW (N := N) (h := h) (x := v1) (a := 0) (b := 19) (by omega) (by omega) (by omega) (by omega) (by omega) (by omega)
    have iw2 := v_isW (N := N) (h := h) (x := v2) (a := -9999) (b := 9999) (by omega) (by omega) (by omega) (by omega) (by omega) (by omega)
    rw [if_pos w2] at iw2
    by_cases w : 0 ≤ v1 ∧ v1 ≤ 19
    · rw [if_pos w] at iw1
      obtain ⟨i, rfl⟩ : ∃ i : Nat, v1 = i := ⟨v1.toNat, by omega⟩
      have hi20 : i < 20 := by omega
      have cb := hcw i hi20
      have nz : ¬ iI (cw i) = iI (-2000000000) := fun z => by have := (iI_eq (by omega) (by omega) (by omega) (by omega)).mp z; omega
      obtain ⟨h1, eh1⟩ : ∃ h1, h1 = uA h 18 i (iI v2) := ⟨_, rfl⟩
      have ke1 : Ke [] [18] [] [] h h1 := by rw [eh1]; exact Ke_rf.b 18 _ _ (by decide)
      have sz1 : sz h1 = sz h := by rw [eh1]; rfl
      have e1 : fX5_setWeight N h 14 (iI (i : Int)) (iI v2) = some (iI (cw i), h1) := by
        simp only [fX5_setWeight, lit, iI_neg]
        refine bst (iw1) ?_
        refine ifn (n10) ?_
        refine bst (iw2) ?_
        refine ifn (n10) ?_
        refine bst (sR_503_14 hS) ?_
        refine bst (lAv (ss_18 hS) hi20 (by omega) (hW i hi20)) ?_
        refine bst (sR_503_14 hS) ?_
        refine bst (sAv (ss_18 hS) hi20 (by omega)) ?_
        rw [← eh1]
      refine ⟨0, pa, dr, td, sr, dn, updO cw i v2, x, y, u1, u2, u3, h1, Or.inl rfl, ?_, ⟨⟨hS.e hz ke1 (by decide), by omega, hT.e hz ke1 (by decide) (by decide), hD.e hz ke1 (by decide) (by decide) (by decide), hR.e hz ke1 (by decide) (by decide) (by decide) (by decide), hC.e hT.lt hR.lt ke1 (by decide) (by decide)⟩, fun j hj => ?_, by rw [ke1.1 510 14 (by decide) (by omega)]; exact hBd, ⟨by rw [ke1.1 511 14 (by decide) (by omega)]; exact hx, by rw [ke1.1 512 14 (by decide) (by omega)]; exact hy⟩, by rw [ke1.1 700 23 (by decide) (by omega)]; exact hu1, by rw [ke1.1 701 23 (by decide) (by omega)]; exact hu2, by rw [ke1.1 702 23 (by decide) (by omega)]; exact hu3⟩, ⟨hL, hsl, hA, fun j hj => ?_, hdB2⟩, ke1.w (by decide) (by decide) (by decide) (by decide), sz1, ?_⟩
      · simp only [fX11_playLine, fX11_playLine_b119, lit, iI_neg]
        refine bst (sR_1103_0 hS) ?_
        refine bst (sR_802_1 hS) ?_
        refine bst (l4) ?_
        refine bst (sR_1103_0 hS) ?_
        refine bst (sR_803_1 hS) ?_
        refine bst (l5) ?_
        refine bst (sR_1103_0 hS) ?_
        refine bst (sR_801_1 hS) ?_
        refine bst (l3) ?_
        refine ifn (n96) ?_
        refine ifn (n97) ?_
        refine ifp (rfl) ?_
        refine bst (sR_1100_0 hS) ?_
        refine bst (rc5) ?_
        refine bst (e1) ?_
        refine ifn (nz) ?_
        rfl
      · by_cases ej : j = i
        · subst ej
          rw [updO_s, eh1]
          simp [HR]
        · rw [updO_n _ _ ej, ← hW j hj, eh1]
          simp [HR, ej]
      · by_cases ej : j = i
        · subst ej
          rw [updO_s]
          exact w2
        · rw [updO_n _ _ ej]
          exact hcw j hj
      · intro hm cn hPM hcn hkc hc30 m54 m55 m56
        obtain ⟨⟨mS, mz, mT, mP, mD, mR, mM⟩, mW, mB, ⟨mx, my⟩, mu1, mu2, mu3⟩ := hPM
        have jw1 := v_inW (N := N) (h := hm) (x := i) (a := 0) (b := 19) (by omega) (by omega) (by omega) (by omega) (by omega) (by omega)
        have jw2 := v_inW (N := N) (h := hm) (x := v2) (a := -9999) (b := 9999) (by omega) (by omega) (by omega) (by omega) (by omega) (by omega)
        rw [if_pos w] at jw1
        rw [if_pos w2] at jw2
        obtain ⟨h3, eh3⟩ : ∃ h3, h3 = uA hm 45 i (iI v2) := ⟨_, rfl⟩
        have ke3 : Ke [] [45] [] [] hm h3 := by rw [eh3]; exact Ke_rf.b 45 _ _ (by decide)
        have s3 : sz h3 = sz hm := by rw [eh3]; rfl
        have e3 : fX12_weighNow N hm 29 (iI (i : Int)) (iI v2) = some (iI (cw i), h3) := by
          simp only [fX12_weighNow, lit, iI_neg]
          refine bst (jw1) ?_
          refine ifn (n10) ?_
          refine bst (jw2) ?_
          refine ifn (n10) ?_
          refine bst (sR_1219_29 mS) ?_
          refine bst (lAv (ss_45 mS) hi20 (by omega) (mW i hi20)) ?_
          refine bst (sR_1219_29 mS) ?_
          refine bst (sAv (ss_45 mS) hi20 (by omega)) ?_
          rw [← eh3]
        refine ⟨h3, ⟨⟨mS.e mz ke3 (by decide), by omega, mT.e mz ke3 (by decide) (by decide), fun i hi => by rw [ke3.2.1 33 (by decide) (by omega)]; exact mP i hi, mD.e mz ke3 (by decide) (by decide) (by decide), mR.e mz ke3 (by decide) (by decide) (by decide) (by decide), mM.e mz ke3 (by decide)⟩, fun j hj => ?_, by rw [ke3.1 1220 29 (by decide) (by omega)]; exact mB, ⟨by rw [ke3.1 1221 29 (by decide) (by omega)]; exact mx, by rw [ke3.1 1222 29 (by decide) (by omega)]; exact my⟩, by rw [ke3.1 1223 29 (by decide) (by omega)]; exact mu1, by rw [ke3.1 1224 29 (by decide) (by omega)]; exact mu2, by rw [ke3.1 1225 29 (by decide) (by omega)]; exact mu3⟩, ke3.w (by decide) (by decide) (by decide) (by decide), s3, fun g => ?_⟩
        · by_cases ej : j = i
          · subst ej
            rw [updO_s, eh3]
            simp [HR]
          · rw [updO_n _ _ ej, ← mW j hj, eh3]
            simp [HR, ej]
        · have := rfl' hm cn g _ _ mS hcn hkc hc30 m54 m55 m56 (by omega) (by omega) e3
          rw [if_neg (by omega)] at this
          exact this
    · rw [if_neg w] at iw1
      refine no (-2) rfl ?_ (fun hm cn hPM hcn hkc hc30 m54 m55 m56 g => ?_)
      · have e1 : fX5_setWeight N h 14 (iI v1) (iI v2) = some (iI (-2000000000), h) := by
          simp only [fX5_setWeight, fX5_setWeight_b23, lit, iI_neg]
          refine bst (iw1) ?_
          refine ifp (rfl) ?_
          rfl
        simp only [fX11_playLine, fX11_playLine_b119, lit, iI_neg]
        refine bst (sR_1103_0 hS) ?_
        refine bst (sR_802_1 hS) ?_
        refine bst (l4) ?_
        refine bst (sR_1103_0 hS) ?_
        refine bst (sR_803_1 hS) ?_
        refine bst (l5) ?_
        refine bst (sR_1103_0 hS) ?_
        refine bst (sR_801_1 hS) ?_
        refine bst (l3) ?_
        refine ifn (n96) ?_
        refine ifn (n97) ?_
        refine ifp (rfl) ?_
        refine bst (sR_1100_0 hS) ?_
        refine bst (rc5) ?_
        refine bst (e1) ?_
        refine ifp (rfl) ?_
        rfl
      · obtain ⟨⟨mS, -⟩, -⟩ := hPM
        have jw1 := v_inW (N := N) (h := hm) (x := v1) (a := 0) (b := 19) (by omega) (by omega) (by omega) (by omega) (by omega) (by omega)
        rw [if_neg w] at jw1
        have e3 : fX12_weighNow N hm 29 (iI v1) (iI v2) = some (iI (-2000000000), hm) := by
          simp only [fX12_weighNow, fX12_weighNow_b23, lit, iI_neg]
          refine bst (jw1) ?_
          refine ifp (rfl) ?_
          rfl
        have := rfl' hm cn g _ _ mS hcn hkc hc30 m54 m55 m56 (by omega) (by omega) e3
        rw [if_pos rfl] at this
        exact this
/-! ===== play ===== -/
def okL (c : Int × Int × Int) : Prop := (c.1 = 115 ∨ c.1 = 116 ∨ c.1 = 117 ∨ c.1 = 119) ∧ (-9999 ≤ c.2.1 ∧ c.2.1 ≤ 9999) ∧ (-9999 ≤ c.2.2 ∧ c.2.2 ≤ 9999)
theorem prs_ok {bt : Nat → Int} {L : Nat} (hL : L ≤ 120) : ∀ (f p ln : Nat) (lc : Nat → Int × Int × Int), 4 * ln ≤ p → p ≤ 120 → (∀ k, k < ln → okL (lc k)) → ((prs (pkf bt L) L f p ln lc).1 = -1 ∨ (0 ≤ (prs (pkf bt L) L f p ln lc).1 ∧ (prs (pkf bt L) L f p ln lc).1 ≤ 200)) ∧ ((prs (pkf bt L) L f p ln lc).1 = -1 → 4 * (prs (pkf bt L) L f p ln lc).2.1 ≤ L) ∧ (∀ k, k < (prs (pkf bt L) L f p ln lc).2.1 → okL ((prs (pkf bt L) L f p ln lc).2.2 k)) := by
  intro f
  induction f with
  | zero =>
    intro p ln lc h4 hp hv
    refine ⟨Or.inr ⟨?_, ?_⟩, fun q => ?_, hv⟩
    · simp only [prs]; omega
    · simp only [prs]; omega
    · simp only [prs] at q; omega
  | succ f ih =>
    intro p ln lc h4 hp hv
    have rb := rdL_b bt L p
    have ep : prs (pkf bt L) L (f + 1) p ln lc = if (rdL (pkf bt L) p).1 then (if (rdL (pkf bt L) p).2.1 < L then prs (pkf bt L) L f (rdL (pkf bt L) p).2.1 (ln + 1) (updO lc ln (rdL (pkf bt L) p).2.2) else (-1, ln + 1, updO lc ln (rdL (pkf bt L) p).2.2)) else (((rdL (pkf bt L) p).2.1 : Int), ln, lc) := rfl
    rw [ep]
    generalize rdL (pkf bt L) p = R at *
    obtain ⟨ok, q, c⟩ := R
    simp only at *
    obtain ⟨rb1, rb2, rb3⟩ := rb
    cases ok with
    | false =>
      rw [if_neg (by decide)]
      exact ⟨Or.inr ⟨by simp only; omega, by simp only; omega⟩, fun z => by simp only at z; omega, hv⟩
    | true =>
      obtain ⟨x1, x2, x3, x4, x5, x6, x7⟩ := rb3 rfl
      have hv2 : ∀ k, k < ln + 1 → okL (updO lc ln c k) := fun k hk => by
        by_cases w : k = ln
        · subst w
          rw [updO_s]
          exact ⟨x3, ⟨x4, x5⟩, ⟨x6, x7⟩⟩
        · rw [updO_n _ _ w]
          exact hv k (by omega)
      rw [if_pos rfl]
      by_cases w : q < L
      · rw [if_pos w]
        exact ih q (ln + 1) (updO lc ln c) (by omega) (by omega) hv2
      · rw [if_neg w]
        exact ⟨Or.inl rfl, fun _ => by simp only; omega, hv2⟩
theorem L_run {N : Nat} (hN : 100000000 ≤ N) {nr nt nd : Nat} {rA tA dA rT : Nat → Nat} {wy gr hd ds : Nat → Int} {gn : Nat → Bool} {tl tw tg ls ms : Nat → Int} {bd : Int} (b1 : 0 ≤ bd) (b2' : bd ≤ 99999) {cn : Nat} (hcn : cn ≤ 30) {lc : Nat → Int × Int × Int} (hlc : ∀ k, k < cn → okL (lc k)) : ∀ (e k fu : Nat) (B : Int) (pa : Nat → Int) (dr td : Nat → Option Nat) (sr dn cw : Nat → Int) (x y u1 u2 u3 : Int32) (h : Hs), 0 ≤ B → B + 199980 * e ≤ 900000000 → PCl h nt nd nr tA dA rA rT tl tw tg ls ms ds wy gr hd gn bd pa dr td sr dn cw x y u1 u2 u3 → PLl B nt nd nr rT ls ms wy gr pa dr td sr dn cw → gI h 805 1 = iI cn → (∀ j, j < cn → aI h 3 j = iI (lc j).1 ∧ aI h 4 j = iI (lc j).2.1 ∧ aI h 5 j = iI (lc j).2.2) → k + e = cn → e < fu → ∃ (a : Int32) (pa' : Nat → Int) (dr' td' : Nat → Option Nat) (sr' dn' cw' : Nat → Int) (x' y' u1' u2' u3' : Int32) (h' : Hs), fX11_play_b39 N 0 fu h (iI k) = some (a, h') ∧ PCl h' nt nd nr tA dA rA rT tl tw tg ls ms ds wy gr hd gn bd pa' dr' td' sr' dn' cw' x' y' u1' u2' u3' ∧ PLl (B + 199980 * e) nt nd nr rT ls ms wy gr pa' dr' td' sr' dn' cw' ∧ Ke [908, 700, 701, 702, 406, 407, 907, 511, 512] [18] [405, 909] [] h h' ∧ sz h' = sz h ∧ (∀ (hm : Hs) (fu' : Nat), PMl hm nt nd nr tA dA rA rT tl tw tg ls ms ds wy gr hd gn bd pa dr td sr dn cw x y u1 u2 u3 → gI hm 1239 29 = iI cn → (∀ j, j < cn → aI hm 54 j = iI (lc j).1 ∧ aI hm 55 j = iI (lc j).2.1 ∧ aI hm 56 j = iI (lc j).2.2) → e < fu' → ∃ hm', fX12_play_b66 N 29 fu' hm (iI k) = some (a, hm') ∧ PMl hm' nt nd nr tA dA rA rT tl tw tg ls ms ds wy gr hd gn bd pa' dr' td' sr' dn' cw' x' y' u1' u2' u3' ∧ Ke [1221, 1222, 1223, 1224, 1225] [33, 36, 42, 43, 45] [] [] hm hm' ∧ sz hm' = sz hm) := by
  intro e
  induction e with
  | zero =>
    intro k fu B pa dr td sr dn cw x y u1 u2 u3 h hB0 hB hP hl g5 ga hk hf
    obtain ⟨fu, rfl⟩ : ∃ m, fu = m + 1 := ⟨fu - 1, by omega⟩
    have hS := hP.1.1
    have cc : (sh h 1).1 = 8 := by rw [ss_1 hS]
    have o5 : oI 8 5 h (some 1) = some (iI cn) := oIv cc g5
    have a1 : iI (cn : Int) ≤ iI (k : Int) := (iI_le (by omega) (by omega) (by omega) (by omega)).mpr (by omega)
    refine ⟨iI cn, pa, dr, td, sr, dn, cw, x, y, u1, u2, u3, h, ?_, hP, by simpa using hl, Ke_rf, rfl, fun hm fu' hPM g9 gm hf' => ?_⟩
    · show fX11_play_b39_body N (fX11_play_b39 N 0 fu) 0 h (iI k) = _
      simp only [fX11_play_b39_body]
      refine bst (sR_1103_0 hS) ?_
      refine bst (o5) ?_
      refine ifp (a1) ?_
      refine bst (sR_1103_0 hS) ?_
      refine bst (o5) ?_
      rfl
    · obtain ⟨fu', rfl⟩ : ∃ m, fu' = m + 1 := ⟨fu' - 1, by omega⟩
      have mS := hPM.1.1
      have o9 : oI 12 39 hm (some 29) = some (iI cn) := oIv (by rw [ss_29 mS]) g9
      refine ⟨hm, ?_, hPM, Ke_rf, rfl⟩
      show fX12_play_b66_body N (fX12_play_b66 N 29 fu') 29 hm (iI k) = _
      simp only [fX12_play_b66_body]
      refine bst (o9) ?_
      refine ifp (a1) ?_
      refine bst (o9) ?_
      rfl
  | succ e ih =>
    intro k fu B pa dr td sr dn cw x y u1 u2 u3 h hB0 hB hP hl g5 ga hk hf
    obtain ⟨fu, rfl⟩ : ∃ m, fu = m + 1 := ⟨fu - 1, by omega⟩
    have hS := hP.1.1
    have hz := hP.1.2.1
    have cc : (sh h 1).1 = 8 := by rw [ss_1 hS]
    have o5 : oI 8 5 h (some 1) = some (iI cn) := oIv cc g5
    have a1 : ¬ iI (cn : Int) ≤ iI (k : Int) := fun q => by have := (iI_le (by omega) (by omega) (by omega) (by omega)).mp q; omega
    have rc11 : rc 11 h (some 0) = some 0 := rcv (by rw [ss_0 hS])
    obtain ⟨l1, l2, l3⟩ := hlc k (by omega)
    obtain ⟨m1, m2, m3⟩ := ga k (by omega)
    obtain ⟨c, pa1, dr1, td1, sr1, dn1, cw1, x1, y1, v1, v2, v3, h1, hc, e1, hP1, hl1, ke1, s1, ref⟩ := v_ln hN b1 b2' hB0 (by omega) hP hl (k := k) (by omega) l1 l2 l3 m1 m2 m3
    have eB : B + 199980 * ((e + 1 : Nat) : Int) = B + 199980 + 199980 * e := by rw [Int.natCast_add, Int.natCast_one, Int.mul_add]; omega
    have un : fX11_play_b39 N 0 (fu + 1) h (iI k) = fX11_play_b39_body N (fX11_play_b39 N 0 fu) 0 h (iI k) := rfl
    have hlw : PLl (B + 199980 + 199980 * e) nt nd nr rT ls ms wy gr pa1 dr1 td1 sr1 dn1 cw1 := ⟨hl1.1, hl1.2.1, hl1.2.2.1, hl1.2.2.2.1, fun r hr hn => by have := hl1.2.2.2.2 r hr hn; omega⟩
    rw [eB]
    by_cases c0 : c = 0
    · subst c0
      obtain ⟨a, pa2, dr2, td2, sr2, dn2, cw2, x2, y2, z1, z2, z3, h2, t1, t2, t3, t4, t5, t6⟩ := ih (k + 1) fu (B + 199980) pa1 dr1 td1 sr1 dn1 cw1 x1 y1 v1 v2 v3 h1 (by omega) (by omega) hP1 hl1 (by rw [ke1.1 805 1 (by decide) (by omega)]; exact g5) (fun j hj => by rw [ke1.2.1 3 (by decide) (by omega), ke1.2.1 4 (by decide) (by omega), ke1.2.1 5 (by decide) (by omega)]; exact ga j hj) (by omega) (by omega)
      simp only [Int.natCast_add, Int.natCast_one] at t1
      refine ⟨a, pa2, dr2, td2, sr2, dn2, cw2, x2, y2, z1, z2, z3, h2, ?_, t2, t3, ke1.tr t4, t5.trans s1, fun hm fu' hPM g9 gm hf' => ?_⟩
      · rw [un, ← t1]
        simp only [fX11_play_b39_body, lit, iI_add, Option.bind_some]
        refine bst (sR_1103_0 hS) ?_
        refine bst (o5) ?_
        refine ifn (a1) ?_
        refine bst (rc11) ?_
        refine bst (e1) ?_
        refine ifp (rfl) ?_
        rfl
      · obtain ⟨fu', rfl⟩ : ∃ m, fu' = m + 1 := ⟨fu' - 1, by omega⟩
        obtain ⟨n1, n2, n3⟩ := gm k (by omega)
        obtain ⟨hm1, r1, r2, r3, r4⟩ := ref hm cn hPM g9 (by omega) hcn n1 n2 n3
        have mz := hPM.1.2.1
        obtain ⟨hm2, s1', s2', s3', s4'⟩ := t6 hm1 fu' r1 (by rw [r2.1 1239 29 (by decide) (by omega)]; exact g9) (fun j hj => by rw [r2.2.1 54 (by decide) (by omega), r2.2.1 55 (by decide) (by omega), r2.2.1 56 (by decide) (by omega)]; exact gm j hj) (by omega)
        simp only [Int.natCast_add, Int.natCast_one] at s1'
        refine ⟨hm2, ?_, s2', r2.tr s3', s4'.trans r3⟩
        have := r4 (fX12_play_b66 N 29 fu')
        unfold lnR at this
        rw [if_pos rfl] at this
        exact this.trans s1'
    · have stop : ∀ a : Int32, fX11_play_b39 N 0 (fu + 1) h (iI k) = some (a, h1) → (∀ g hm1, lnR c k g hm1 = some (a, hm1)) → ∃ (a : Int32) (pa' : Nat → Int) (dr' td' : Nat → Option Nat) (sr' dn' cw' : Nat → Int) (x' y' u1' u2' u3' : Int32) (h' : Hs), fX11_play_b39 N 0 (fu + 1) h (iI k) = some (a, h') ∧ PCl h' nt nd nr tA dA rA rT tl tw tg ls ms ds wy gr hd gn bd pa' dr' td' sr' dn' cw' x' y' u1' u2' u3' ∧ PLl (B + 199980 + 199980 * e) nt nd nr rT ls ms wy gr pa' dr' td' sr' dn' cw' ∧ Ke [908, 700, 701, 702, 406, 407, 907, 511, 512] [18] [405, 909] [] h h' ∧ sz h' = sz h ∧ (∀ (hm : Hs) (fu' : Nat), PMl hm nt nd nr tA dA rA rT tl tw tg ls ms ds wy gr hd gn bd pa dr td sr dn cw x y u1 u2 u3 → gI hm 1239 29 = iI cn → (∀ j, j < cn → aI hm 54 j = iI (lc j).1 ∧ aI hm 55 j = iI (lc j).2.1 ∧ aI hm 56 j = iI (lc j).2.2) → e + 1 < fu' → ∃ hm', fX12_play_b66 N 29 fu' hm (iI k) = some (a, hm') ∧ PMl hm' nt nd nr tA dA rA rT tl tw tg ls ms ds wy gr hd gn bd pa' dr' td' sr' dn' cw' x' y' u1' u2' u3' ∧ Ke [1221, 1222, 1223, 1224, 1225] [33, 36, 42, 43, 45] [] [] hm hm' ∧ sz hm' = sz hm) := by
        intro a ea el
        refine ⟨a, pa1, dr1, td1, sr1, dn1, cw1, x1, y1, v1, v2, v3, h1, ea, hP1, hlw, ke1, s1, fun hm fu' hPM g9 gm hf' => ?_⟩
        obtain ⟨fu', rfl⟩ : ∃ m, fu' = m + 1 := ⟨fu' - 1, by omega⟩
        obtain ⟨n1, n2, n3⟩ := gm k (by omega)
        obtain ⟨hm1, r1, r2, r3, r4⟩ := ref hm cn hPM g9 (by omega) hcn n1 n2 n3
        exact ⟨hm1, (r4 (fX12_play_b66 N 29 fu')).trans (el _ _), r1, r2, r3⟩
      have cne : ¬ iI c = iI 0 := fun z => c0 ((iI_eq (by omega) (by omega) (by omega) (by omega)).mp z)
      have c5 : iI c = iI (-5) ↔ c = -5 := iI_eq (by omega) (by omega) (by omega) (by omega)
      by_cases w5 : c = -5
      · refine stop (iI (-5)) ?_ (fun g hm1 => by unfold lnR; rw [if_neg c0, if_pos w5])
        rw [un]
        simp only [fX11_play_b39_body, fX11_play_b76, lit, iI_neg]
        refine bst (sR_1103_0 hS) ?_
        refine bst (o5) ?_
        refine ifn (a1) ?_
        refine bst (rc11) ?_
        refine bst (e1) ?_
        refine ifn (cne) ?_
        refine ifp (c5.mpr w5) ?_
        rfl
      · refine stop (iI (-1000 - (k : Int))) ?_ (fun g hm1 => by unfold lnR; rw [if_neg c0, if_neg w5])
        rw [un]
        simp only [fX11_play_b39_body, fX11_play_b76, lit, iI_neg]
        refine bst (sR_1103_0 hS) ?_
        refine bst (o5) ?_
        refine ifn (a1) ?_
        refine bst (rc11) ?_
        refine bst (e1) ?_
        refine ifn (cne) ?_
        refine ifn (fun z => w5 (c5.mp z)) ?_
        rw [iI_sub]
/-! ===== play: both ===== -/
theorem RTh_mk {h : Hs} {nt : Nat} {tA : Nat → Nat} {tl tw tg ls ms pa : Nat → Int} (ho : RTo h nt tA tl tw tg ls ms pa) (hq : RTq h nt tl tw tg ls ms) (hp : ∀ i, i < nt → aI h 33 i = iI (pa i)) : RTh h nt tA tl tw tg ls ms pa := ⟨⟨ho.1.1, hq.1.1, ho.1.2.2⟩, fun i hi => ⟨(ho.2.1 i hi).1, (ho.2.1 i hi).2.1, ⟨(hq.2 i hi).1.1, (hq.2 i hi).1.2.1, (hq.2 i hi).1.2.2.1, hp i hi, (hq.2 i hi).1.2.2.2.1, (hq.2 i hi).1.2.2.2.2⟩, (ho.2.1 i hi).2.2.2⟩, ho.2.2⟩
def PlF : List Nat := [804, 805, 806, 807, 1237, 1238, 1239, 1251]
def PlA : List Nat := [3, 4, 5, 54, 55, 56]
def PlG : List Nat := [804, 805, 806, 807, 1237, 1238, 1239, 1251, 910, 410, 411, 513, 514, 1106, 908, 700, 701, 702, 406, 407, 907, 511, 512, 1249, 1250, 1243, 1221, 1222, 1223, 1224, 1225]
def PlB : List Nat := [3, 4, 5, 54, 55, 56, 19, 18, 57, 58, 59, 60, 61, 33, 36, 42, 43, 45]
theorem t_play {N : Nat} (hN : 100000000 ≤ N) {h : Hs} (hS : Sk h) (hz : 70 ≤ sz h) {nr nt nd : Nat} {rA tA dA rT : Nat → Nat} {wy gr hd ds : Nat → Int} {gn : Nat → Bool} {tl tw tg ls ms pa : Nat → Int} {dr td : Nat → Option Nat} {sr dn : Nat → Int} {cw : Nat → Int} (hT : RTh h nt tA tl tw tg ls ms pa) (hD : RDr h nd dA ds) (hR : RRo h nr nt rA tA rT wy gr hd gn) (hI : RTi h nt nd nr tA dA rA rT dr td sr dn) (hW : ∀ i, i < 20 → aI h 18 i = iI (cw i) ∧ aI h 45 i = iI (cw i) ∧ -9999 ≤ cw i ∧ cw i ≤ 9999) (hBd : IBnd h) (hE : RSh h) (hG : IStp h) {L : Nat} {bt : Nat → Int} (hY : RTape h L bt) {B : Int} (hB0 : 0 ≤ B) (hB9 : B ≤ 890000000) (hdB : ∀ r, r < nr → dr r ≠ none → -B ≤ dn r ∧ dn r ≤ B) (hsl : ∀ r, r < nr → dr r ≠ none → ls (rT r) ≤ sr r ∧ sr r ≤ ms (rT r)) (hA : ∀ r, r < nr → dr r ≠ none → pa (rT r) = sr r + wy r * (dn r).tdiv (100 * gr r)) :
    ∃ a h1 h2, fX11_play N h 0 = some (a, h1) ∧ fX12_play N h1 29 = some (a, h2) ∧ RTape h2 0 bt ∧ sz h2 = sz h ∧ (Ke PlF PlA [] [] h h2 ∨ ∃ (n : Nat) (pa' : Nat → Int) (dr' td' : Nat → Option Nat) (sr' dn' cw' : Nat → Int), 4 * n ≤ L ∧ RTh h2 nt tA tl tw tg ls ms pa' ∧ RTi h2 nt nd nr tA dA rA rT dr' td' sr' dn' ∧ (∀ i, i < 20 → aI h2 18 i = iI (cw' i) ∧ aI h2 45 i = iI (cw' i) ∧ -9999 ≤ cw' i ∧ cw' i ≤ 9999) ∧ (∀ r, r < nr → dr' r ≠ none → ls (rT r) ≤ sr' r ∧ sr' r ≤ ms (rT r)) ∧ (∀ r, r < nr → dr' r ≠ none → pa' (rT r) = sr' r + wy r * (dn' r).tdiv (100 * gr r)) ∧ (∀ r, r < nr → dr' r ≠ none → -(B + 199980 * n) ≤ dn' r ∧ dn' r ≤ B + 199980 * n) ∧ IStp h2 ∧ RSh h2 ∧ (gI h2 1106 0 = iI 1 ∧ gI h2 1243 29 = iI 1) ∧ RKc h2 nt nr tA dA rA pa dr td sr dn cw ∧ RKm h2 nt nr rT pa dr sr dn cw ∧ RKl nt nd nr rT wy gr ls ms pa dr td sr dn cw ∧ RKs h2 ∧ Ke PlG PlB [911, 409, 405, 909] [] h h2) := by
  obtain ⟨hC, hM, hL⟩ := RTi_iff.mp hI
  obtain ⟨bd, bb1, bb2, b1, b2'⟩ := hBd
  have ct := hT.1.2.2
  have cr := hR.1.2.2
  obtain ⟨y1, y2, y3, y4⟩ := hY
  have hTC : TC h L bt := ⟨y1, y3, fun i hi => ⟨(y4 i hi).1, (y4 i hi).2.2⟩⟩
  have hTM : TM h L bt := ⟨y2, y3, fun i hi => ⟨(y4 i hi).2.1, (y4 i hi).2.2⟩⟩
  -- the class reads
  obtain ⟨ha, eha⟩ : ∃ ha, ha = uI (uI h 806 1 (iI 0)) 805 1 (iI 0) := ⟨_, rfl⟩
  have kea : Ke [805, 806, 807] [3, 4, 5] [] [] h ha := by rw [eha]; exact (Ke_rf.u 806 _ _ (by decide)).u 805 _ _ (by decide)
  have sza : sz ha = sz h := by rw [eha]; rfl
  have ga6 : gI ha 806 1 = iI ((0 : Nat) : Int) := by rw [eha]; simp [HR]
  have ga5 : gI ha 805 1 = iI ((0 : Nat) : Int) := by rw [eha]; simp [HR]
  have hSa := hS.e hz kea (by decide)
  obtain ⟨h3, e3, ke3, s3, g35, l3⟩ := L_rdC (N := N) hN (L := L) (bt := bt) 201 0 0 (fun _ => (0, 0, 0)) N ha hSa (by omega) (hTC.e hz kea (by decide) (by decide)) ga6 ga5 (by omega) (Or.inr rfl) (by omega) (by omega) (by omega) (fun k hk => by omega)
  obtain ⟨po1, po2, po3⟩ := prs_ok (bt := bt) y3 201 0 0 (fun _ => (0, 0, 0)) (by omega) (by omega) (fun k hk => by omega)
  have keh3 : Ke [805, 806, 807] [3, 4, 5] [] [] h h3 := kea.tr ke3
  have rM : ∀ hm : Hs, Sk hm → 70 ≤ sz hm → TM hm L bt → ∃ (x : Bool) (h' : Hs), fX12_play N hm 29 = fX12_play_b38 N 29 h' (iI (b2 x)) ∧ Ke [1238, 1239, 1251] [54, 55, 56] [] [] hm h' ∧ sz h' = sz hm ∧ ((x = true ∧ (prs (pkf bt L) L 201 0 0 (fun _ => (0, 0, 0))).1 = -1) ∨ (x = false ∧ 0 ≤ (prs (pkf bt L) L 201 0 0 (fun _ => (0, 0, 0))).1 ∧ gI h' 1238 29 = iI (prs (pkf bt L) L 201 0 0 (fun _ => (0, 0, 0))).1)) ∧ gI h' 1239 29 = iI (((prs (pkf bt L) L 201 0 0 (fun _ => (0, 0, 0))).2.1 : Nat) : Int) ∧ (∀ k, k < (prs (pkf bt L) L 201 0 0 (fun _ => (0, 0, 0))).2.1 → aI h' 54 k = iI ((prs (pkf bt L) L 201 0 0 (fun _ => (0, 0, 0))).2.2 k).1 ∧ aI h' 55 k = iI ((prs (pkf bt L) L 201 0 0 (fun _ => (0, 0, 0))).2.2 k).2.1 ∧ aI h' 56 k = iI ((prs (pkf bt L) L 201 0 0 (fun _ => (0, 0, 0))).2.2 k).2.2) := by
    intro hm mS mz mT
    obtain ⟨hb, ehb⟩ : ∃ hb, hb = uI (uI hm 1238 29 (iI 0)) 1239 29 (iI 0) := ⟨_, rfl⟩
    have keb : Ke [1238, 1239, 1251] [54, 55, 56] [] [] hm hb := by rw [ehb]; exact (Ke_rf.u 1238 _ _ (by decide)).u 1239 _ _ (by decide)
    have szb : sz hb = sz hm := by rw [ehb]; rfl
    have gb8 : gI hb 1238 29 = iI ((0 : Nat) : Int) := by rw [ehb]; simp [HR]
    have gb9 : gI hb 1239 29 = iI ((0 : Nat) : Int) := by rw [ehb]; simp [HR]
    have mSb := mS.e mz keb (by decide)
    obtain ⟨x, h', q1, q2, q3, q4⟩ := L_rdM (N := N) hN (L := L) (bt := bt) 201 0 0 (fun _ => (0, 0, 0)) N hb mSb (by omega) (mT.e mz keb (by decide) (by decide)) gb8 gb9 (by omega) (Or.inr rfl) (by omega) (by omega) (by omega) (fun k hk => by omega)
    refine ⟨x, h', ?_, keb.tr q2, q3.trans szb, q4⟩
    rw [← q1]
    have z1 : qI 12 38 hm (some 29) (iI 0) = some (uI hm 1238 29 (iI 0)) := qIv (by rw [ss_29 mS])
    have mS1 : Sk (uI hm 1238 29 (iI 0)) := mS.e mz ((Ke_rf (F := [1238]) (A := []) (FR := []) (AQ := [])).u 1238 _ _ (by decide)) (by decide)
    have z2 : qI 12 39 (uI hm 1238 29 (iI 0)) (some 29) (iI 0) = some hb := by rw [ehb]; exact qIv (by rw [ss_29 mS1])
    simp only [fX12_play, lit]
    refine bst (z1) ?_
    refine bst (z2) ?_
    refine bst (rcv (by rw [ss_29 mSb])) ?_
    rfl
  generalize prs (pkf bt L) L 201 0 0 (fun _ => (0, 0, 0)) = P at *
  obtain ⟨ft, cn, lc⟩ := P
  simp only at e3 g35 l3 po1 po2 po3 rM
  have e3' : fX8_readLines N h 1 = some (iI ft, h3) := by
    have z1 : qI 8 6 h (some 1) (iI 0) = some (uI h 806 1 (iI 0)) := qIv (by rw [ss_1 hS])
    have mS1 : Sk (uI h 806 1 (iI 0)) := hS.e hz ((Ke_rf (F := [806]) (A := []) (FR := []) (AQ := [])).u 806 _ _ (by decide)) (by decide)
    have z2 : qI 8 5 (uI h 806 1 (iI 0)) (some 1) (iI 0) = some ha := by rw [eha]; exact qIv (by rw [ss_1 mS1])
    simp only [fX8_readLines, lit]
    refine bst (z1) ?_
    refine bst (z2) ?_
    exact e3
  have hz3 : 70 ≤ sz h3 := by omega
  have hS3 := hS.e hz keh3 (by decide)
  obtain ⟨h5, eh5⟩ : ∃ h5, h5 = uI h3 804 1 (iI 0) := ⟨_, rfl⟩
  have z5 : qI 8 4 h3 (some 1) (iI 0) = some h5 := by rw [eh5]; exact qIv (by rw [ss_1 hS3])
  have ke35 : Ke [804] [] [] [] h3 h5 := by rw [eh5]; exact Ke_rf.u 804 _ _ (by decide)
  have sz5 : sz h5 = sz h := by rw [eh5]; show sz h3 = sz h; omega
  have g54 : gI h5 804 1 = iI 0 := by rw [eh5]; simp [HR]
  have keh5 : Ke [804, 805, 806, 807] [3, 4, 5] [] [] h h5 := (keh3.w (by decide) (by decide) (by decide) (by decide)).tr (ke35.w (by decide) (by decide) (by decide) (by decide))
  have hS5 := hS.e hz keh5 (by decide)
  have hz5 : 70 ≤ sz h5 := by omega
  rcases po1 with ft1 | ⟨ft0, ft2⟩
  · subst ft1
    have hcn := po2 rfl
    have hcn30 : cn ≤ 30 := by omega
    have hT5 := hT.e hz keh5 (by decide) (by decide) (by decide)
    have hR5 := hR.e hz keh5 (by decide) (by decide) (by decide) (by decide)
    have hC5 := hC.e hT.lt hR.lt keh5 (by decide) (by decide)
    obtain ⟨h6, e6, ke6, s6, x1, x2, x3, x4, x5⟩ := v_keepC (N := N) hN hS5 hz5 hT5.1.1 ct (fun i hi => (hT5.2.1 i hi).1) hT5.2.2 hR5.1.1 cr (fun r hr => (hR5.2.1 r hr).1) hR5.2.2
    have hS6 := hS5.e hz5 ke6 (by decide)
    have hz6 : 70 ≤ sz h6 := by omega
    have kc6 : RKc h6 nt nr tA dA rA pa dr td sr dn cw := by
      refine ⟨fun i hi => ?_, fun r hr => ?_, fun i hi => ?_⟩
      · obtain ⟨q1, q2⟩ := x1 i hi
        exact ⟨q1.trans (hT5.2.1 i hi).2.1.2.2.2.2.2.2, q2.trans (hC5.2 i hi)⟩
      · obtain ⟨q1, q2, q3⟩ := x2 r hr
        exact ⟨q1.trans (hC5.1 r hr).1, fun hn => ⟨q2.trans ((hC5.1 r hr).2 hn).1, q3.trans ((hC5.1 r hr).2 hn).2⟩⟩
      · rw [x3 i hi, keh5.2.1 18 (by decide) (by omega)]
        exact (hW i hi).1
    obtain ⟨h7, eh7⟩ : ∃ h7, h7 = uI h6 1106 0 (iI 1) := ⟨_, rfl⟩
    have z7 : qZ 11 6 h6 (some 0) (iI 1) = some h7 := by rw [eh7]; exact qZv (by rw [ss_0 hS6]) (by omega)
    have ke67 : Ke [1106] [] [] [] h6 h7 := by rw [eh7]; exact Ke_rf.u 1106 _ _ (by decide)
    have sz7 : sz h7 = sz h := by rw [eh7]; show sz h6 = sz h; omega
    have g76 : gI h7 1106 0 = iI 1 := by rw [eh7]; simp [HR]
    have ke57 : Ke [910, 410, 411, 513, 514, 1106] [19] [911, 409] [] h5 h7 := (ke6.w (by decide) (by decide) (by decide) (by decide)).tr (ke67.w (by decide) (by decide) (by decide) (by decide))
    have ke7 : Ke [804, 805, 806, 807, 910, 410, 411, 513, 514, 1106] [3, 4, 5, 19] [911, 409] [] h h7 := (keh5.w (by decide) (by decide) (by decide) (by decide)).tr (ke57.w (by decide) (by decide) (by decide) (by decide))
    have hS7 := hS.e hz ke7 (by decide)
    have hz7 : 70 ≤ sz h7 := by omega
    have P7 : PCl h7 nt nd nr tA dA rA rT tl tw tg ls ms ds wy gr hd gn bd pa dr td sr dn cw (gI h 511 14) (gI h 512 14) (gI h 700 23) (gI h 701 23) (gI h 702 23) := ⟨⟨hS7, hz7, hT.o.e hz ke7 (by decide) (by decide), hD.e hz ke7 (by decide) (by decide) (by decide), hR.e hz ke7 (by decide) (by decide) (by decide) (by decide), hC.e hT.lt hR.lt ke7 (by decide) (by decide)⟩, (fun i hi => by rw [ke7.2.1 18 (by decide) (by omega)]; exact (hW i hi).1), (ke7.1 510 14 (by decide) (by omega)).trans bb1, ⟨ke7.1 511 14 (by decide) (by omega), ke7.1 512 14 (by decide) (by omega)⟩, ke7.1 700 23 (by decide) (by omega), ke7.1 701 23 (by decide) (by omega), ke7.1 702 23 (by decide) (by omega)⟩
    have L7 : PLl B nt nd nr rT ls ms wy gr pa dr td sr dn cw := ⟨hL, hsl, hA, fun i hi => (hW i hi).2.2, hdB⟩
    have ke37 : Ke [804, 910, 410, 411, 513, 514, 1106] [19] [911, 409] [] h3 h7 := (ke35.w (by decide) (by decide) (by decide) (by decide)).tr (ke57.w (by decide) (by decide) (by decide) (by decide))
    obtain ⟨a, pa', dr', td', sr', dn', cw', x', y', u1', u2', u3', h8, e8, P8, L8, ke8, s8, ref⟩ := L_run (N := N) hN b1 b2' hcn30 (lc := lc) po3 cn 0 N B pa dr td sr dn cw (gI h 511 14) (gI h 512 14) (gI h 700 23) (gI h 701 23) (gI h 702 23) h7 hB0 (by omega) P7 L7 ((ke37.1 805 1 (by decide) (by omega)).trans g35) (fun j hj => by rw [ke37.2.1 3 (by decide) (by omega), ke37.2.1 4 (by decide) (by omega), ke37.2.1 5 (by decide) (by omega)]; exact l3 j hj) (by omega) (by omega)
    have cl : fX11_play N h 0 = some (a, h8) := by
      have ltz : iI (-1) < iI 0 := by decide
      simp only [fX11_play, lit]
      refine bst (sR_1103_0 hS) ?_
      refine bst (rcv (by rw [ss_1 hS])) ?_
      refine bst (e3') ?_
      refine bst (sR_1103_0 hS3) ?_
      refine bst (z5) ?_
      refine ifp (ltz) ?_
      refine bst (sR_1100_0 hS5) ?_
      refine bst (rcv (by rw [ss_14 hS5])) ?_
      refine bst (e6) ?_
      refine bst (z7) ?_
      exact e8
    have keh8 : Ke [804, 805, 806, 807, 910, 410, 411, 513, 514, 1106, 908, 700, 701, 702, 406, 407, 907, 511, 512] [3, 4, 5, 19, 18] [911, 409, 405, 909] [] h h8 := (ke7.w (by decide) (by decide) (by decide) (by decide)).tr (ke8.w (by decide) (by decide) (by decide) (by decide))
    have hS8 := hS.e hz keh8 (by decide)
    have hz8 : 70 ≤ sz h8 := by omega
    have kc8 := (kc6.e hz6 (fun i hi => by have := hT.lt i hi; omega) (fun i hi => by have := hR.lt i hi; omega) ke67 (by decide) (by decide) (by decide)).e hz7 (fun i hi => by have := hT.lt i hi; omega) (fun i hi => by have := hR.lt i hi; omega) ke8 (by decide) (by decide) (by decide)
    -- the reference
    obtain ⟨x, h9, e9, ke9, s9, hx, g99, l9⟩ := rM h8 hS8 hz8 (hTM.e hz keh8 (by decide) (by decide))
    have hxt : x = true := by
      rcases hx with ⟨q, -⟩ | ⟨-, q, -⟩
      · exact q
      · omega
    subst hxt
    obtain ⟨ha1, eha1⟩ : ∃ ha1, ha1 = uI h9 1237 29 (iI 0) := ⟨_, rfl⟩
    have hS9 := hS8.e hz8 ke9 (by decide)
    have za1 : qI 12 37 h9 (some 29) (iI 0) = some ha1 := by rw [eha1]; exact qIv (by rw [ss_29 hS9])
    have kea1 : Ke [1237] [] [] [] h9 ha1 := by rw [eha1]; exact Ke_rf.u 1237 _ _ (by decide)
    have sza1 : sz ha1 = sz h := by rw [eha1]; show sz h9 = sz h; omega
    have g937 : gI ha1 1237 29 = iI 0 := by rw [eha1]; simp [HR]
    have ke8a : Ke [1237, 1238, 1239, 1251] [54, 55, 56] [] [] h8 ha1 := (ke9.w (by decide) (by decide) (by decide) (by decide)).tr (kea1.w (by decide) (by decide) (by decide) (by decide))
    have keha : Ke [804, 805, 806, 807, 910, 410, 411, 513, 514, 1106, 908, 700, 701, 702, 406, 407, 907, 511, 512, 1237, 1238, 1239, 1251] [3, 4, 5, 19, 18, 54, 55, 56] [911, 409, 405, 909] [] h ha1 := (keh8.w (by decide) (by decide) (by decide) (by decide)).tr (ke8a.w (by decide) (by decide) (by decide) (by decide))
    have hSa1 := hS.e hz keha (by decide)
    have hza1 : 70 ≤ sz ha1 := by omega
    have hTqa := hT.q.e hz keha (by decide) (by decide)
    have hMa := hM.e hz keha (by decide)
    obtain ⟨hb1, eb1, keb1, sb1, m1, m2, m3, m4, m5⟩ := L_mkeepT (N := N) hN hSa1 hza1 ct cr ((keha.1 1201 29 (by decide) (by omega)).trans hT.1.2.1) ((keha.1 1211 29 (by decide) (by omega)).trans hR.1.2.1) nt 0 N ha1 Ke_rf rfl (fun _ _ => rfl) (fun _ _ _ => rfl) (fun k hk => ⟨by rw [if_neg (by omega)], by rw [if_neg (by omega)]⟩) (by omega) (by omega)
    have hSb1 := hSa1.e hza1 keb1 (by decide)
    have hzb1 : 70 ≤ sz hb1 := by omega
    have km1 : RKm hb1 nt nr rT pa dr sr dn cw := by
      refine ⟨fun i hi => ?_, fun r hr => ?_, fun i hi => ?_⟩
      · rw [(m1 i hi).1, keha.2.1 33 (by decide) (by omega)]
        exact (hT.2.1 i hi).2.2.1.2.2.2.1
      · obtain ⟨q1, q2⟩ := hMa r hr
        refine ⟨(m2 r hr).1.trans q1, fun hn => ⟨(m2 r hr).2.trans (q2 hn).1, ?_⟩⟩
        exact (m1 (rT r) (hR.2.1 r hr).2.2.2.1).2.trans (q2 hn).2
      · rw [m3 i hi, keha.2.1 45 (by decide) (by omega)]
        exact (hW i hi).2.1
    obtain ⟨hc1, ehc1⟩ : ∃ hc1, hc1 = uI hb1 1243 29 (iI 1) := ⟨_, rfl⟩
    have zc1 : qZ 12 43 hb1 (some 29) (iI 1) = some hc1 := by rw [ehc1]; exact qZv (by rw [ss_29 hSb1]) (by omega)
    have kebc : Ke [1243] [] [] [] hb1 hc1 := by rw [ehc1]; exact Ke_rf.u 1243 _ _ (by decide)
    have szc1 : sz hc1 = sz h := by rw [ehc1]; show sz hb1 = sz h; omega
    have gc43 : gI hc1 1243 29 = iI 1 := by rw [ehc1]; simp [HR]
    have keac : Ke [1249, 1250, 1243] [57, 58, 59, 60, 61] [] [] ha1 hc1 := (keb1.w (by decide) (by decide) (by decide) (by decide)).tr (kebc.w (by decide) (by decide) (by decide) (by decide))
    have kehc : Ke [804, 805, 806, 807, 910, 410, 411, 513, 514, 1106, 908, 700, 701, 702, 406, 407, 907, 511, 512, 1237, 1238, 1239, 1251, 1249, 1250, 1243] [3, 4, 5, 19, 18, 54, 55, 56, 57, 58, 59, 60, 61] [911, 409, 405, 909] [] h hc1 := (keha.w (by decide) (by decide) (by decide) (by decide)).tr (keac.w (by decide) (by decide) (by decide) (by decide))
    have hSc1 := hS.e hz kehc (by decide)
    have hzc1 : 70 ≤ sz hc1 := by omega
    have Pc : PMl hc1 nt nd nr tA dA rA rT tl tw tg ls ms ds wy gr hd gn bd pa dr td sr dn cw (gI h 511 14) (gI h 512 14) (gI h 700 23) (gI h 701 23) (gI h 702 23) := ⟨⟨hSc1, hzc1, hT.q.e hz kehc (by decide) (by decide), (fun i hi => by rw [kehc.2.1 33 (by decide) (by omega)]; exact (hT.2.1 i hi).2.2.1.2.2.2.1), hD.e hz kehc (by decide) (by decide) (by decide), hR.e hz kehc (by decide) (by decide) (by decide) (by decide), hM.e hz kehc (by decide)⟩, (fun i hi => by rw [kehc.2.1 45 (by decide) (by omega)]; exact (hW i hi).2.1), (kehc.1 1220 29 (by decide) (by omega)).trans bb2, ⟨(kehc.1 1221 29 (by decide) (by omega)).trans hE.1.symm, (kehc.1 1222 29 (by decide) (by omega)).trans hE.2.symm⟩, (kehc.1 1223 29 (by decide) (by omega)).trans hG.1.symm, (kehc.1 1224 29 (by decide) (by omega)).trans hG.2.1.symm, (kehc.1 1225 29 (by decide) (by omega)).trans hG.2.2.symm⟩
    have ke9c : Ke [1237, 1249, 1250, 1243] [57, 58, 59, 60, 61] [] [] h9 hc1 := (kea1.w (by decide) (by decide) (by decide) (by decide)).tr (keac.w (by decide) (by decide) (by decide) (by decide))
    obtain ⟨h12, e12, P12, ke12, s12⟩ := ref hc1 N Pc ((ke9c.1 1239 29 (by decide) (by omega)).trans g99) (fun j hj => by rw [ke9c.2.1 54 (by decide) (by omega), ke9c.2.1 55 (by decide) (by omega), ke9c.2.1 56 (by decide) (by omega)]; exact l9 j hj) (by omega)
    have rl : fX12_play N h8 29 = some (a, h12) := by
      have nz : ¬ iI (b2 true) = iI 0 := by decide
      rw [e9]
      simp only [fX12_play_b38, fX12_keep, lit]
      refine bst (za1) ?_
      refine ifn (nz) ?_
      refine bst (rcv (by rw [ss_29 hSa1])) ?_
      refine bst (eb1) ?_
      refine bst (zc1) ?_
      exact e12
    have ke8c : Ke [1237, 1238, 1239, 1251, 1249, 1250, 1243] [54, 55, 56, 57, 58, 59, 60, 61] [] [] h8 hc1 := (ke8a.w (by decide) (by decide) (by decide) (by decide)).tr (keac.w (by decide) (by decide) (by decide) (by decide))
    have ke8z : Ke [1237, 1238, 1239, 1251, 1249, 1250, 1243, 1221, 1222, 1223, 1224, 1225] [54, 55, 56, 57, 58, 59, 60, 61, 33, 36, 42, 43, 45] [] [] h8 h12 := (ke8c.w (by decide) (by decide) (by decide) (by decide)).tr (ke12.w (by decide) (by decide) (by decide) (by decide))
    have kehz : Ke PlG PlB [911, 409, 405, 909] [] h h12 := (keh8.w (by decide) (by decide) (by decide) (by decide)).tr (ke8z.w (by decide) (by decide) (by decide) (by decide))
    obtain ⟨⟨-, -, To8, -, -, C8⟩, W8, -, ⟨X8, Y8⟩, U81, U82, U83⟩ := P8
    obtain ⟨⟨-, -, Tq12, A12, -, -, M12⟩, W12, -, ⟨X12, Y12⟩, U121, U122, U123⟩ := P12
    obtain ⟨l81, l82, l83, l84, l85⟩ := L8
    have r12 : ∀ i, i < nr → rA i < sz h8 := fun i hi => by have := hR.lt i hi; omega
    refine ⟨a, h8, h12, cl, rl, ⟨?_, ?_, by omega, fun i hi => by omega⟩, by omega, Or.inr ⟨cn, pa', dr', td', sr', dn', cw', hcn, RTh_mk (To8.e hz8 ke8z (by decide) (by decide)) Tq12 A12, RTi_iff.mpr ⟨C8.e To8.lt r12 ke8z (by decide) (by decide), M12, l81⟩, fun i hi => ⟨?_, W12 i hi, l84 i hi⟩, l82, l83, l85, ⟨?_, ?_, ?_⟩, ⟨?_, ?_⟩, ⟨?_, ?_⟩, kc8.e hz8 To8.lt r12 ke8z (by decide) (by decide) (by decide), (km1.e hzb1 kebc (by decide)).e hzc1 ke12 (by decide), ⟨fun i hi => ?_, fun r hr hn => ⟨hA r hr hn, hsl r hr hn⟩, fun i hi => (hW i hi).2.2, hL⟩, ⟨?_, ?_⟩, kehz⟩⟩
    · rw [ke8z.1 804 1 (by decide) (by omega), ke8.1 804 1 (by decide) (by omega), ke57.1 804 1 (by decide) (by omega)]
      exact g54
    · rw [ke12.1 1237 29 (by decide) (by omega), keac.1 1237 29 (by decide) (by omega)]
      exact g937
    · rw [ke8z.2.1 18 (by decide) (by omega)]
      exact W8 i hi
    · rw [ke8z.1 700 23 (by decide) (by omega), U81, U121]
    · rw [ke8z.1 701 23 (by decide) (by omega), U82, U122]
    · rw [ke8z.1 702 23 (by decide) (by omega), U83, U123]
    · rw [ke8z.1 511 14 (by decide) (by omega), X8, X12]
    · rw [ke8z.1 512 14 (by decide) (by omega), Y8, Y12]
    · rw [ke8z.1 1106 0 (by decide) (by omega), ke8.1 1106 0 (by decide) (by omega)]
      exact g76
    · rw [ke12.1 1243 29 (by decide) (by omega)]
      exact gc43
    · have := (hT.2.1 i hi).2.2.2
      omega
    · rw [ke8z.1 513 14 (by decide) (by omega), ke8.1 513 14 (by decide) (by omega), ke67.1 513 14 (by decide) (by omega), x4, keh5.1 511 14 (by decide) (by omega), hE.1, ke12.1 1249 29 (by decide) (by omega), kebc.1 1249 29 (by decide) (by omega), m4, keha.1 1221 29 (by decide) (by omega)]
    · rw [ke8z.1 514 14 (by decide) (by omega), ke8.1 514 14 (by decide) (by omega), ke67.1 514 14 (by decide) (by omega), x5, keh5.1 512 14 (by decide) (by omega), hE.2, ke12.1 1250 29 (by decide) (by omega), kebc.1 1250 29 (by decide) (by omega), m5, keha.1 1222 29 (by decide) (by omega)]
  · -- a fault in the text
    have cl : fX11_play N h 0 = some (iI (-100 - ft), h5) := by
      have ltz : ¬ iI ft < iI 0 := fun q => by have := (iI_lt (by omega) (by omega) (by omega) (by omega)).mp q; omega
      simp only [fX11_play, lit, iI_neg]
      refine bst (sR_1103_0 hS) ?_
      refine bst (rcv (by rw [ss_1 hS])) ?_
      refine bst (e3') ?_
      refine bst (sR_1103_0 hS3) ?_
      refine bst (z5) ?_
      refine ifn (ltz) ?_
      rw [iI_sub]
    obtain ⟨x, h9, e9, ke9, s9, hx, g99, l9⟩ := rM h5 hS5 hz5 (hTM.e hz keh5 (by decide) (by decide))
    obtain ⟨hxt, g98⟩ : x = false ∧ gI h9 1238 29 = iI ft := by
      rcases hx with ⟨-, q⟩ | ⟨q, -, q'⟩
      · omega
      · exact ⟨q, q'⟩
    subst hxt
    obtain ⟨ha1, eha1⟩ : ∃ ha1, ha1 = uI h9 1237 29 (iI 0) := ⟨_, rfl⟩
    have hS9 := hS5.e hz5 ke9 (by decide)
    have za1 : qI 12 37 h9 (some 29) (iI 0) = some ha1 := by rw [eha1]; exact qIv (by rw [ss_29 hS9])
    have kea1 : Ke [1237] [] [] [] h9 ha1 := by rw [eha1]; exact Ke_rf.u 1237 _ _ (by decide)
    have sza1 : sz ha1 = sz h := by rw [eha1]; show sz h9 = sz h; omega
    have g937 : gI ha1 1237 29 = iI 0 := by rw [eha1]; simp [HR]
    have hSa1 := hS9.e (by omega) kea1 (by decide)
    have o38 : oI 12 38 ha1 (some 29) = some (iI ft) := oIv (by rw [ss_29 hSa1]) ((kea1.1 1238 29 (by decide) (by omega)).trans g98)
    have ke5a : Ke [1237, 1238, 1239, 1251] [54, 55, 56] [] [] h5 ha1 := (ke9.w (by decide) (by decide) (by decide) (by decide)).tr (kea1.w (by decide) (by decide) (by decide) (by decide))
    have rl : fX12_play N h5 29 = some (iI (-100 - ft), ha1) := by
      have nz : iI (b2 false) = iI 0 := by decide
      rw [e9]
      simp only [fX12_play_b38, lit, iI_neg]
      refine bst (za1) ?_
      refine ifp (nz) ?_
      refine bst (o38) ?_
      rw [iI_sub]
    refine ⟨iI (-100 - ft), h5, ha1, cl, rl, ⟨?_, g937, by omega, fun i hi => by omega⟩, by omega, Or.inl ((keh5.w (by decide) (by decide) (by decide) (by decide)).tr (ke5a.w (by decide) (by decide) (by decide) (by decide)))⟩
    rw [ke5a.1 804 1 (by decide) (by omega)]
    exact g54
/-! ===== paint: sets as numbers ===== -/
def pcn : Nat → Nat → Nat
  | 0, _ => 0
  | k + 1, T => T % 2 + pcn k (T / 2)
theorem mor_all : (List.range 12).all (fun i => decide (iI 1 <<< (iI i &&& iI 31) = iI ((2 ^ i : Nat) : Int))) = true := by decide +kernel
theorem bcn_all : (List.range 4096).all (fun T => decide ((fun p0 : Int32 => (fun y1 : Int32 => (fun y2 : Int32 => (fun y3 : Int32 => (fun y4 : Int32 => (fun y5 : Int32 => y5 &&& 63) (y4 + (((y4).toUInt32 >>> ((16 : Int32).toUInt32 &&& Int32.toUInt32 31)).toInt32))) (y3 + (((y3).toUInt32 >>> ((8 : Int32).toUInt32 &&& Int32.toUInt32 31)).toInt32))) ((y2 + (((y2).toUInt32 >>> ((4 : Int32).toUInt32 &&& Int32.toUInt32 31)).toInt32)) &&& 252645135)) ((y1 &&& 858993459) + ((((y1).toUInt32 >>> ((2 : Int32).toUInt32 &&& Int32.toUInt32 31)).toInt32) &&& 858993459))) (p0 - ((((p0).toUInt32 >>> ((1 : Int32).toUInt32 &&& Int32.toUInt32 31)).toInt32) &&& 1431655765))) (iI T) = iI (pcn 12 T))) = true := by decide +kernel
theorem pcn_or : ∀ (k i T : Nat), i < k → T.testBit i = false → pcn k (T ||| 2 ^ i) = pcn k T + 1
  | 0, i, T, h, _ => absurd h (Nat.not_lt_zero i)
  | k + 1, 0, T, _, h2 => by
    have h3 : ¬ T % 2 = 1 := by
      rw [Nat.testBit_zero] at h2
      exact of_decide_eq_false h2
    have e1 : (T ||| 2 ^ 0) / 2 = T / 2 := by
      rw [Nat.or_div_two]
      exact Nat.or_zero (T / 2)
    have e2 : (T ||| 2 ^ 0) % 2 = 1 := Nat.or_mod_two_eq_one.mpr (Or.inr rfl)
    show (T ||| 2 ^ 0) % 2 + pcn k ((T ||| 2 ^ 0) / 2) = T % 2 + pcn k (T / 2) + 1
    rw [e1, e2]
    omega
  | k + 1, i + 1, T, h1, h2 => by
    have h3 : (T / 2).testBit i = false := by
      rw [← Nat.testBit_add_one]
      exact h2
    have p2 : 2 ^ (i + 1) = 2 * 2 ^ i := by rw [Nat.pow_succ, Nat.mul_comm]
    have e1 : (T ||| 2 ^ (i + 1)) / 2 = T / 2 ||| 2 ^ i := by rw [Nat.or_div_two, p2, Nat.mul_div_cancel_left _ (by omega)]
    have e2 : (T ||| 2 ^ (i + 1)) % 2 = T % 2 := by
      have z : ¬ 2 ^ (i + 1) % 2 = 1 := by
        rw [p2, Nat.mul_mod_right]
        omega
      by_cases w : T % 2 = 1
      · rw [w]
        exact Nat.or_mod_two_eq_one.mpr (Or.inl w)
      · have : ¬ (T ||| 2 ^ (i + 1)) % 2 = 1 := fun q => (Nat.or_mod_two_eq_one.mp q).elim w z
        omega
    have q := pcn_or k i (T / 2) (by omega) h3
    show (T ||| 2 ^ (i + 1)) % 2 + pcn k ((T ||| 2 ^ (i + 1)) / 2) = T % 2 + pcn k (T / 2) + 1
    rw [e1, e2, q]
    omega
theorem iI_or {T U : Nat} (hT : T < 2147483648) (hU : U < 2147483648) : iI T ||| iI U = iI ((T ||| U : Nat) : Int) := by
  apply Int32.toBitVec_inj.mp
  apply BitVec.eq_of_toNat_eq
  simp [iI, Int32.toBitVec_or, BitVec.toNat_or]
/-! ===== paint: the class's sums ===== -/
theorem set_f {i T : Nat} (hi : i < 12) (hT : T < 4096) : (T.testBit i = true → T ||| 2 ^ i = T) ∧ (T.testBit i = false → T < T ||| 2 ^ i ∧ pcn 12 (T ||| 2 ^ i) = pcn 12 T + 1) := by
  refine ⟨fun w => Nat.eq_of_testBit_eq fun j => ?_, fun w => ?_⟩
  · rw [Nat.testBit_or, Nat.testBit_two_pow]
    by_cases e : i = j
    · subst e
      simp [w]
    · rw [decide_eq_false e, Bool.or_false]
  · have q := pcn_or 12 i T hi w
    refine ⟨Nat.lt_of_le_of_ne Nat.left_le_or fun z => ?_, q⟩
    rw [← z] at q
    omega
theorem or_lt {i T n : Nat} (hi : i < n) (hT : T < 2 ^ n) : T ||| 2 ^ i < 2 ^ n := Nat.or_lt_two_pow hT (Nat.pow_lt_pow_right (by omega) hi)
theorem p12 {n : Nat} (hn : n ≤ 12) : 2 ^ n ≤ 4096 := Nat.pow_le_pow_right (n := 2) (by omega) hn
theorem sh_f {i : Nat} (hi : i < 12) : iI 1 <<< (iI i &&& iI 31) = iI ((2 ^ i : Nat) : Int) := of_decide_eq_true (List.all_eq_true.mp mor_all i (List.mem_range.mpr hi))
theorem v_bcn {N : Nat} {h : Hs} {T : Nat} (hT : T < 4096) : fJ6_bitCount_0f7a4 N h (iI T) = some (iI (pcn 12 T), h) := by
  have q := of_decide_eq_true (List.all_eq_true.mp bcn_all T (List.mem_range.mpr hT))
  simp only [] at q
  simp only [fJ6_bitCount_0f7a4, Option.bind_some]
  rw [q]
def ctf (fh fw fp vh vw vp : Nat → Int) (i j : Nat) : Int := if vh j ≤ fh i ∧ vw j ≤ fw i then (if fp i = vp j then 0 else fh i * fw i) + fh i * fw i - vh j * vw j else -1
theorem ctf_b {fh fw fp vh vw vp : Nat → Int} {i j : Nat} (a1 : 1 ≤ fh i ∧ fh i ≤ 99 ∧ 1 ≤ fw i ∧ fw i ≤ 99) (a2 : 1 ≤ vh j ∧ vh j ≤ 99 ∧ 1 ≤ vw j ∧ vw j ≤ 99) : -1 ≤ ctf fh fw fp vh vw vp i j ∧ ctf fh fw fp vh vw vp i j ≤ 19602 ∧ (vh j ≤ fh i ∧ vw j ≤ fw i → 0 ≤ ctf fh fw fp vh vw vp i j) := by
  have m1 : fh i * fw i ≤ 99 * 99 := Int.mul_le_mul a1.2.1 a1.2.2.2 (by omega) (by omega)
  have m2 : 1 * 1 ≤ vh j * vw j := Int.mul_le_mul a2.1 a2.2.2.1 (by omega) (by omega)
  have m3 : 1 * 1 ≤ fh i * fw i := Int.mul_le_mul a1.1 a1.2.2.1 (by omega) (by omega)
  unfold ctf
  by_cases w : vh j ≤ fh i ∧ vw j ≤ fw i
  · rw [if_pos w]
    have m4 : vh j * vw j ≤ fh i * fw i := Int.mul_le_mul w.1 w.2 (by omega) (by omega)
    by_cases q : fp i = vp j
    · rw [if_pos q]; omega
    · rw [if_neg q]; omega
  · rw [if_neg w]
    exact ⟨by omega, by omega, fun z => absurd z w⟩
def swt (ct : Nat → Nat → Int) (S : Nat → Int) (T i j : Nat) : Int := if T.testBit i = true ∨ ct i j < 0 then 1000000 else if ct i j + S (T ||| 2 ^ i) < 1000000 then ct i j + S (T ||| 2 ^ i) else 1000000
def lsb (ct : Nat → Nat → Int) (S : Nat → Int) (T j : Nat) : Nat → Int
  | 0 => 1000000
  | n + 1 => if swt ct S T n j < lsb ct S T j n then swt ct S T n j else lsb ct S T j n
def PF (h : Hs) (nf : Nat) (fA : Nat → Nat) (fh fw fp : Nat → Int) : Prop := ∀ i, i < nf → (aR h 10 i = some (fA i) ∧ 70 ≤ fA i ∧ fA i < sz h ∧ sh h (fA i) = (3, 0) ∧ gI h 300 (fA i) = iI (fh i) ∧ gI h 301 (fA i) = iI (fw i) ∧ gI h 302 (fA i) = iI (fp i)) ∧ 1 ≤ fh i ∧ fh i ≤ 99 ∧ 1 ≤ fw i ∧ fw i ≤ 99 ∧ 0 ≤ fp i ∧ fp i ≤ 9
def PV (h : Hs) (nv : Nat) (vA : Nat → Nat) (vh vw vp : Nat → Int) : Prop := ∀ i, i < nv → (aR h 11 i = some (vA i) ∧ 70 ≤ vA i ∧ vA i < sz h ∧ sh h (vA i) = (3, 0) ∧ gI h 300 (vA i) = iI (vh i) ∧ gI h 301 (vA i) = iI (vw i) ∧ gI h 302 (vA i) = iI (vp i)) ∧ 1 ≤ vh i ∧ vh i ≤ 99 ∧ 1 ≤ vw i ∧ vw i ≤ 99 ∧ 0 ≤ vp i ∧ vp i ≤ 9
theorem v_area {N : Nat} {h : Hs} {a : Nat} {x y : Int} (hs : sh h a = (3, 0)) (g0 : gI h 300 a = iI x) (g1 : gI h 301 a = iI y) : fX3_area N h a = some (iI (x * y), h) := by
  have cc : (sh h a).1 = 3 := by rw [hs]
  simp only [fX3_area]
  refine bst (oIv cc g0) ?_
  refine bst (oIv cc g1) ?_
  rw [iI_mul]
theorem v_swt {N : Nat} {h : Hs} (hS : Sk h) {nf nv : Nat} {fA vA : Nat → Nat} {fh fw fp vh vw vp : Nat → Int} (hf : nf ≤ 12) (pF : PF h nf fA fh fw fp) (pV : PV h nv vA vh vw vp) {T i j : Nat} (hT : T < 2 ^ nf) (hi : i < nf) (hj : j < nv) {S : Nat → Int} (hv : T.testBit i = false → aI h 13 (T ||| 2 ^ i) = iI (S (T ||| 2 ^ i)) ∧ 0 ≤ S (T ||| 2 ^ i) ∧ S (T ||| 2 ^ i) ≤ 1000000) : fX6_sumWith N h 9 (iI T) (iI i) (some (vA j)) = some (iI (swt (ctf fh fw fp vh vw vp) S T i j), h) := by
  obtain ⟨⟨f1, f2, f3, f4, f5, f6, f7⟩, f8⟩ := pF i hi
  obtain ⟨⟨w1, w2, w3, w4, w5, w6, w7⟩, w8⟩ := pV j hj
  have hp := p12 hf
  have cf : (sh h (fA i)).1 = 3 := by rw [f4]
  have cv : (sh h (vA j)).1 = 3 := by rw [w4]
  obtain ⟨s1, s2⟩ := set_f (i := i) (T := T) (by omega) (by omega)
  have ol := or_lt hi hT
  have cb := ctf_b (fh := fh) (fw := fw) (fp := fp) (vh := vh) (vw := vw) (vp := vp) (i := i) (j := j) ⟨f8.1, f8.2.1, f8.2.2.1, f8.2.2.2.1⟩ ⟨w8.1, w8.2.1, w8.2.2.1, w8.2.2.2.1⟩
  have eo : (some (iI (T : Int) ||| (iI 1 <<< (iI (i : Int) &&& iI 31))) : Option Int32) = some (iI ((T ||| 2 ^ i : Nat) : Int)) := by
    rw [sh_f (by omega), iI_or (by omega) (by have := Nat.pow_lt_pow_right (a := 2) (by omega) hi; omega)]
  have eq : iI ((T ||| 2 ^ i : Nat) : Int) = iI (T : Int) ↔ T ||| 2 ^ i = T := (iI_eq (by omega) (by omega) (by omega) (by omega)).trans (by omega)
  have lf := lQv (t := 26) (i := i) (ss_10 hS) (by omega) (by omega) f1
  have lh : iI (fh i) < iI (vh j) ↔ fh i < vh j := iI_lt (by omega) (by omega) (by omega) (by omega)
  have lw : iI (fw i) < iI (vw j) ↔ fw i < vw j := iI_lt (by omega) (by omega) (by omega) (by omega)
  have lp' : iI (fp i) = iI (vp j) ↔ fp i = vp j := iI_eq (by omega) (by omega) (by omega) (by omega)
  have sv : fX3_serves N h (fA i) (some (vA j)) = some (iI (if vh j ≤ fh i ∧ vw j ≤ fw i then 1 else 0), h) := by
    simp only [fX3_serves, fX3_serves_b26, fX3_serves_b27, lit]
    by_cases q1 : fh i < vh j
    · rw [if_neg (by omega)]
      refine bst (oIv cf f5) ?_
      refine bst (oIv cv w5) ?_
      refine ifp (lh.mpr q1) ?_
      refine bst (zc_i0) ?_
      rfl
    · by_cases q2 : fw i < vw j
      · rw [if_neg (by omega)]
        refine bst (oIv cf f5) ?_
        refine bst (oIv cv w5) ?_
        refine ifn (fun z => q1 (lh.mp z)) ?_
        refine bst (oIv cf f6) ?_
        refine bst (oIv cv w6) ?_
        refine ifp (lw.mpr q2) ?_
        refine bst (zc_i0) ?_
        rfl
      · rw [if_pos (by omega)]
        refine bst (oIv cf f5) ?_
        refine bst (oIv cv w5) ?_
        refine ifn (fun z => q1 (lh.mp z)) ?_
        refine bst (oIv cf f6) ?_
        refine bst (oIv cv w6) ?_
        refine ifn (fun z => q2 (lw.mp z)) ?_
        refine bst (zc_i1) ?_
        rfl
  have aF := v_area (N := N) f4 f5 f6
  have aV := v_area (N := N) w4 w5 w6
  have pr : vh j ≤ fh i ∧ vw j ≤ fw i → fX3_priceFor N h (fA i) (some (vA j)) = some (iI (ctf fh fw fp vh vw vp i j), h) := by
    intro q
    unfold ctf
    rw [if_pos q]
    simp only [fX3_priceFor, fX3_priceFor_b19, lit]
    by_cases q2 : fp i = vp j
    · rw [if_pos q2]
      refine bst (oIv cf f7) ?_
      refine bst (oIv cv w7) ?_
      refine ifp (lp'.mpr q2) ?_
      refine bst (rcv cf) ?_
      refine bst (aF) ?_
      refine bst (rcv cv) ?_
      refine bst (aV) ?_
      rw [iI_add, iI_sub]
    · rw [if_neg q2]
      refine bst (oIv cf f7) ?_
      refine bst (oIv cv w7) ?_
      refine ifn (fun z => q2 (lp'.mp z)) ?_
      refine bst (rcv cf) ?_
      refine bst (aF) ?_
      refine bst (rcv cf) ?_
      refine bst (aF) ?_
      refine bst (rcv cv) ?_
      refine bst (aV) ?_
      rw [iI_add, iI_sub]
  simp only [fX6_sumWith, fX6_sumWith_b26, lit]
  unfold swt
  by_cases w : T.testBit i = true
  · rw [if_pos (Or.inl w)]
    refine bst (eo) ?_
    refine ifp (eq.mpr (s1 w)) ?_
    rfl
  · have w' : T.testBit i = false := by cases hb : T.testBit i with
      | true => exact absurd hb w
      | false => rfl
    obtain ⟨v1, v2, v3⟩ := hv w'
    have ne : ¬ iI ((T ||| 2 ^ i : Nat) : Int) = iI (T : Int) := fun z => by have := eq.mp z; have := (s2 w').1; omega
    by_cases q : vh j ≤ fh i ∧ vw j ≤ fw i
    · have c0 := cb.2.2 q
      rw [if_pos q] at sv
      rw [if_neg (fun z => z.elim w (fun z => by omega))]
      have lv := lAv (ss_13 hS) (show T ||| 2 ^ i < 4096 by omega) (by omega) v1
      have lm : iI (ctf fh fw fp vh vw vp i j + S (T ||| 2 ^ i)) < iI 1000000 ↔ ctf fh fw fp vh vw vp i j + S (T ||| 2 ^ i) < 1000000 := iI_lt (by omega) (by omega) (by omega) (by omega)
      refine bst (eo) ?_
      refine ifn (ne) ?_
      refine bst (sR_600_9 hS) ?_
      refine bst (lf) ?_
      refine bst (rcv cf) ?_
      refine bst (sv) ?_
      refine ifn (n10) ?_
      refine bst (sR_600_9 hS) ?_
      refine bst (lf) ?_
      refine bst (rcv cf) ?_
      refine bst (pr q) ?_
      refine bst (sR_603_9 hS) ?_
      refine bst (lv) ?_
      rw [iI_add]
      by_cases m : ctf fh fw fp vh vw vp i j + S (T ||| 2 ^ i) < 1000000
      · rw [if_pos m, if_pos (lm.mpr m)]
      · rw [if_neg m, if_neg (fun z => m (lm.mp z))]
    · have c0 : ctf fh fw fp vh vw vp i j = -1 := by unfold ctf; rw [if_neg q]
      rw [if_neg q] at sv
      rw [if_pos (Or.inr (by omega))]
      refine bst (eo) ?_
      refine ifn (ne) ?_
      refine bst (sR_600_9 hS) ?_
      refine bst (lf) ?_
      refine bst (rcv cf) ?_
      refine bst (sv) ?_
      refine ifp (rfl) ?_
      rfl
