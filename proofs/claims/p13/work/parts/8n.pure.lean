/-! ===== play: both ===== -/
theorem RTh_mk {h : Hs} {nt : Nat} {tA : Nat → Nat} {tl tw tg ls ms pa : Nat → Int} (ho : RTo h nt tA tl tw tg ls ms pa) (hq : RTq h nt tl tw tg ls ms) (hp : ∀ i, i < nt → aI h 33 i = iI (pa i)) : RTh h nt tA tl tw tg ls ms pa := ⟨⟨ho.1.1, hq.1.1, ho.1.2.2⟩, fun i hi => ⟨(ho.2.1 i hi).1, (ho.2.1 i hi).2.1, ⟨(hq.2 i hi).1.1, (hq.2 i hi).1.2.1, (hq.2 i hi).1.2.2.1, hp i hi, (hq.2 i hi).1.2.2.2.1, (hq.2 i hi).1.2.2.2.2⟩, (ho.2.1 i hi).2.2.2⟩, ho.2.2⟩
def PlF : List Nat := [804, 805, 806, 807, 1237, 1238, 1239, 1251]
def PlA : List Nat := [3, 4, 5, 54, 55, 56]
def PlG : List Nat := [804, 805, 806, 807, 1237, 1238, 1239, 1251, 910, 410, 411, 513, 514, 1106, 908, 700, 701, 702, 406, 407, 907, 511, 512, 1249, 1250, 1243, 1221, 1222, 1223, 1224, 1225]
def PlB : List Nat := [3, 4, 5, 54, 55, 56, 19, 18, 57, 58, 59, 60, 61, 33, 36, 42, 43, 45]
theorem t_play {N : Nat} (hN : 100000000 ≤ N) {h : Hs} (hS : Sk h) (hz : 70 ≤ sz h) {nr nt nd : Nat} {rA tA dA rT : Nat → Nat} {wy gr hd ds : Nat → Int} {gn : Nat → Bool} {tl tw tg ls ms pa : Nat → Int} {dr td : Nat → Option Nat} {sr dn : Nat → Int} {cw : Nat → Int} (hT : RTh h nt tA tl tw tg ls ms pa) (hD : RDr h nd dA ds) (hR : RRo h nr nt rA tA rT wy gr hd gn) (hI : RTi h nt nd nr tA dA rA rT dr td sr dn) (hW : ∀ i, i < 20 → aI h 18 i = iI (cw i) ∧ aI h 45 i = iI (cw i) ∧ -9999 ≤ cw i ∧ cw i ≤ 9999) (hBd : IBnd h) (hE : RSh h) (hG : IStp h) {L : Nat} {bt : Nat → Int} (hY : RTape h L bt) {B : Int} (hB0 : 0 ≤ B) (hB9 : B ≤ 890000000) (hdB : ∀ r, r < nr → dr r ≠ none → -B ≤ dn r ∧ dn r ≤ B) (hsl : ∀ r, r < nr → dr r ≠ none → ls (rT r) ≤ sr r ∧ sr r ≤ ms (rT r)) (hA : ∀ r, r < nr → dr r ≠ none → pa (rT r) = sr r + wy r * (dn r).tdiv (100 * gr r)) :
    ∃ a h1 h2, fX11_play N h 0 = some (a, h1) ∧ fX12_play N h1 29 = some (a, h2) ∧ RTape h2 0 bt ∧ sz h2 = sz h ∧ (Ke PlF PlA [] [] h h2 ∨ ∃ (n : Nat) (pa' : Nat → Int) (dr' td' : Nat → Option Nat) (sr' dn' cw' : Nat → Int), 4 * n ≤ L ∧ RTh h2 nt tA tl tw tg ls ms pa' ∧ RTi h2 nt nd nr tA dA rA rT dr' td' sr' dn' ∧ (∀ i, i < 20 → aI h2 18 i = iI (cw' i) ∧ aI h2 45 i = iI (cw' i) ∧ -9999 ≤ cw' i ∧ cw' i ≤ 9999) ∧ (∀ r, r < nr → dr' r ≠ none → ls (rT r) ≤ sr' r ∧ sr' r ≤ ms (rT r)) ∧ (∀ r, r < nr → dr' r ≠ none → pa' (rT r) = sr' r + wy r * (dn' r).tdiv (100 * gr r)) ∧ (∀ r, r < nr → dr' r ≠ none → -(B + 199980 * n) ≤ dn' r ∧ dn' r ≤ B + 199980 * n) ∧ IStp h2 ∧ RSh h2 ∧ (gI h2 1106 0 = iI 1 ∧ gI h2 1243 29 = iI 1) ∧ RKc h2 nt nr tA dA rA pa dr td sr dn cw ∧ RKm h2 nt nr rT pa dr sr dn cw ∧ RKl nt nd nr rT wy gr ls ms pa dr td sr dn cw ∧ RKs h2 ∧ Ke PlG PlB [911, 409, 405, 909] [] h h2) := by
  obtain ⟨hC, hM, hL⟩ := RTi_iff.mp hI
  obtain ⟨bd, bb1, bb2, b1, b2'⟩ := hBd
  have ct := hT.1.2.2
  have cr := hR.1.2.2
  obtain ⟨y1, y2, y3, y4⟩ := hY
  have hTC : TC h L bt := ⟨y1, y3, fun i hi => ⟨(y4 i hi).1, (y4 i hi).2.2⟩⟩
  have hTM : TM h L bt := ⟨y2, y3, fun i hi => ⟨(y4 i hi).2.1, (y4 i hi).2.2⟩⟩
  -- the class reads
  obtain ⟨ha, eha⟩ : ∃ ha, ha = uI (uI h 806 1 (iI 0)) 805 1 (iI 0) := ⟨_, rfl⟩
  have kea : Ke [805, 806, 807] [3, 4, 5] [] [] h ha := by rw [eha]; exact (Ke_rf.u 806 _ _ (by decide)).u 805 _ _ (by decide)
  have sza : sz ha = sz h := by rw [eha]; rfl
  have ga6 : gI ha 806 1 = iI ((0 : Nat) : Int) := by rw [eha]; simp [HR]
  have ga5 : gI ha 805 1 = iI ((0 : Nat) : Int) := by rw [eha]; simp [HR]
  have hSa := hS.e hz kea (by decide)
  obtain ⟨h3, e3, ke3, s3, g35, l3⟩ := L_rdC (N := N) hN (L := L) (bt := bt) 201 0 0 (fun _ => (0, 0, 0)) N ha hSa (by omega) (hTC.e hz kea (by decide) (by decide)) ga6 ga5 (by omega) (Or.inr rfl) (by omega) (by omega) (by omega) (fun k hk => by omega)
  obtain ⟨po1, po2, po3⟩ := prs_ok (bt := bt) y3 201 0 0 (fun _ => (0, 0, 0)) (by omega) (by omega) (fun k hk => by omega)
  have keh3 : Ke [805, 806, 807] [3, 4, 5] [] [] h h3 := kea.tr ke3
  have rM : ∀ hm : Hs, Sk hm → 70 ≤ sz hm → TM hm L bt → ∃ (x : Bool) (h' : Hs), fX12_play N hm 29 = fX12_play_b38 N 29 h' (iI (b2 x)) ∧ Ke [1238, 1239, 1251] [54, 55, 56] [] [] hm h' ∧ sz h' = sz hm ∧ ((x = true ∧ (prs (pkf bt L) L 201 0 0 (fun _ => (0, 0, 0))).1 = -1) ∨ (x = false ∧ 0 ≤ (prs (pkf bt L) L 201 0 0 (fun _ => (0, 0, 0))).1 ∧ gI h' 1238 29 = iI (prs (pkf bt L) L 201 0 0 (fun _ => (0, 0, 0))).1)) ∧ gI h' 1239 29 = iI (((prs (pkf bt L) L 201 0 0 (fun _ => (0, 0, 0))).2.1 : Nat) : Int) ∧ (∀ k, k < (prs (pkf bt L) L 201 0 0 (fun _ => (0, 0, 0))).2.1 → aI h' 54 k = iI ((prs (pkf bt L) L 201 0 0 (fun _ => (0, 0, 0))).2.2 k).1 ∧ aI h' 55 k = iI ((prs (pkf bt L) L 201 0 0 (fun _ => (0, 0, 0))).2.2 k).2.1 ∧ aI h' 56 k = iI ((prs (pkf bt L) L 201 0 0 (fun _ => (0, 0, 0))).2.2 k).2.2) := by
    intro hm mS mz mT
    obtain ⟨hb, ehb⟩ : ∃ hb, hb = uI (uI hm 1238 29 (iI 0)) 1239 29 (iI 0) := ⟨_, rfl⟩
    have keb : Ke [1238, 1239, 1251] [54, 55, 56] [] [] hm hb := by rw [ehb]; exact (Ke_rf.u 1238 _ _ (by decide)).u 1239 _ _ (by decide)
    have szb : sz hb = sz hm := by rw [ehb]; rfl
    have gb8 : gI hb 1238 29 = iI ((0 : Nat) : Int) := by rw [ehb]; simp [HR]
    have gb9 : gI hb 1239 29 = iI ((0 : Nat) : Int) := by rw [ehb]; simp [HR]
    have mSb := mS.e mz keb (by decide)
    obtain ⟨x, h', q1, q2, q3, q4⟩ := L_rdM (N := N) hN (L := L) (bt := bt) 201 0 0 (fun _ => (0, 0, 0)) N hb mSb (by omega) (mT.e mz keb (by decide) (by decide)) gb8 gb9 (by omega) (Or.inr rfl) (by omega) (by omega) (by omega) (fun k hk => by omega)
    refine ⟨x, h', ?_, keb.tr q2, q3.trans szb, q4⟩
    rw [← q1]
    have z1 : qI 12 38 hm (some 29) (iI 0) = some (uI hm 1238 29 (iI 0)) := qIv (by rw [ss_29 mS])
    have mS1 : Sk (uI hm 1238 29 (iI 0)) := mS.e mz ((Ke_rf (F := [1238]) (A := []) (FR := []) (AQ := [])).u 1238 _ _ (by decide)) (by decide)
    have z2 : qI 12 39 (uI hm 1238 29 (iI 0)) (some 29) (iI 0) = some hb := by rw [ehb]; exact qIv (by rw [ss_29 mS1])
    simp only [fX12_play, lit]
    refine bst (z1) ?_
    refine bst (z2) ?_
    refine bst (rcv (by rw [ss_29 mSb])) ?_
    rfl
  generalize prs (pkf bt L) L 201 0 0 (fun _ => (0, 0, 0)) = P at *
  obtain ⟨ft, cn, lc⟩ := P
  simp only at e3 g35 l3 po1 po2 po3 rM
  have e3' : fX8_readLines N h 1 = some (iI ft, h3) := by
    have z1 : qI 8 6 h (some 1) (iI 0) = some (uI h 806 1 (iI 0)) := qIv (by rw [ss_1 hS])
    have mS1 : Sk (uI h 806 1 (iI 0)) := hS.e hz ((Ke_rf (F := [806]) (A := []) (FR := []) (AQ := [])).u 806 _ _ (by decide)) (by decide)
    have z2 : qI 8 5 (uI h 806 1 (iI 0)) (some 1) (iI 0) = some ha := by rw [eha]; exact qIv (by rw [ss_1 mS1])
    simp only [fX8_readLines, lit]
    refine bst (z1) ?_
    refine bst (z2) ?_
    exact e3
  have hz3 : 70 ≤ sz h3 := by omega
  have hS3 := hS.e hz keh3 (by decide)
  obtain ⟨h5, eh5⟩ : ∃ h5, h5 = uI h3 804 1 (iI 0) := ⟨_, rfl⟩
  have z5 : qI 8 4 h3 (some 1) (iI 0) = some h5 := by rw [eh5]; exact qIv (by rw [ss_1 hS3])
  have ke35 : Ke [804] [] [] [] h3 h5 := by rw [eh5]; exact Ke_rf.u 804 _ _ (by decide)
  have sz5 : sz h5 = sz h := by rw [eh5]; show sz h3 = sz h; omega
  have g54 : gI h5 804 1 = iI 0 := by rw [eh5]; simp [HR]
  have keh5 : Ke [804, 805, 806, 807] [3, 4, 5] [] [] h h5 := (keh3.w (by decide) (by decide) (by decide) (by decide)).tr (ke35.w (by decide) (by decide) (by decide) (by decide))
  have hS5 := hS.e hz keh5 (by decide)
  have hz5 : 70 ≤ sz h5 := by omega
  rcases po1 with ft1 | ⟨ft0, ft2⟩
  · subst ft1
    have hcn := po2 rfl
    have hcn30 : cn ≤ 30 := by omega
    have hT5 := hT.e hz keh5 (by decide) (by decide) (by decide)
    have hR5 := hR.e hz keh5 (by decide) (by decide) (by decide) (by decide)
    have hC5 := hC.e hT.lt hR.lt keh5 (by decide) (by decide)
    obtain ⟨h6, e6, ke6, s6, x1, x2, x3, x4, x5⟩ := v_keepC (N := N) hN hS5 hz5 hT5.1.1 ct (fun i hi => (hT5.2.1 i hi).1) hT5.2.2 hR5.1.1 cr (fun r hr => (hR5.2.1 r hr).1) hR5.2.2
    have hS6 := hS5.e hz5 ke6 (by decide)
    have hz6 : 70 ≤ sz h6 := by omega
    have kc6 : RKc h6 nt nr tA dA rA pa dr td sr dn cw := by
      refine ⟨fun i hi => ?_, fun r hr => ?_, fun i hi => ?_⟩
      · obtain ⟨q1, q2⟩ := x1 i hi
        exact ⟨q1.trans (hT5.2.1 i hi).2.1.2.2.2.2.2.2, q2.trans (hC5.2 i hi)⟩
      · obtain ⟨q1, q2, q3⟩ := x2 r hr
        exact ⟨q1.trans (hC5.1 r hr).1, fun hn => ⟨q2.trans ((hC5.1 r hr).2 hn).1, q3.trans ((hC5.1 r hr).2 hn).2⟩⟩
      · rw [x3 i hi, keh5.2.1 18 (by decide) (by omega)]
        exact (hW i hi).1
    obtain ⟨h7, eh7⟩ : ∃ h7, h7 = uI h6 1106 0 (iI 1) := ⟨_, rfl⟩
    have z7 : qZ 11 6 h6 (some 0) (iI 1) = some h7 := by rw [eh7]; exact qZv (by rw [ss_0 hS6]) (by omega)
    have ke67 : Ke [1106] [] [] [] h6 h7 := by rw [eh7]; exact Ke_rf.u 1106 _ _ (by decide)
    have sz7 : sz h7 = sz h := by rw [eh7]; show sz h6 = sz h; omega
    have g76 : gI h7 1106 0 = iI 1 := by rw [eh7]; simp [HR]
    have ke57 : Ke [910, 410, 411, 513, 514, 1106] [19] [911, 409] [] h5 h7 := (ke6.w (by decide) (by decide) (by decide) (by decide)).tr (ke67.w (by decide) (by decide) (by decide) (by decide))
    have ke7 : Ke [804, 805, 806, 807, 910, 410, 411, 513, 514, 1106] [3, 4, 5, 19] [911, 409] [] h h7 := (keh5.w (by decide) (by decide) (by decide) (by decide)).tr (ke57.w (by decide) (by decide) (by decide) (by decide))
    have hS7 := hS.e hz ke7 (by decide)
    have hz7 : 70 ≤ sz h7 := by omega
    have P7 : PCl h7 nt nd nr tA dA rA rT tl tw tg ls ms ds wy gr hd gn bd pa dr td sr dn cw (gI h 511 14) (gI h 512 14) (gI h 700 23) (gI h 701 23) (gI h 702 23) := ⟨⟨hS7, hz7, hT.o.e hz ke7 (by decide) (by decide), hD.e hz ke7 (by decide) (by decide) (by decide), hR.e hz ke7 (by decide) (by decide) (by decide) (by decide), hC.e hT.lt hR.lt ke7 (by decide) (by decide)⟩, (fun i hi => by rw [ke7.2.1 18 (by decide) (by omega)]; exact (hW i hi).1), (ke7.1 510 14 (by decide) (by omega)).trans bb1, ⟨ke7.1 511 14 (by decide) (by omega), ke7.1 512 14 (by decide) (by omega)⟩, ke7.1 700 23 (by decide) (by omega), ke7.1 701 23 (by decide) (by omega), ke7.1 702 23 (by decide) (by omega)⟩
    have L7 : PLl B nt nd nr rT ls ms wy gr pa dr td sr dn cw := ⟨hL, hsl, hA, fun i hi => (hW i hi).2.2, hdB⟩
    have ke37 : Ke [804, 910, 410, 411, 513, 514, 1106] [19] [911, 409] [] h3 h7 := (ke35.w (by decide) (by decide) (by decide) (by decide)).tr (ke57.w (by decide) (by decide) (by decide) (by decide))
    obtain ⟨a, pa', dr', td', sr', dn', cw', x', y', u1', u2', u3', h8, e8, P8, L8, ke8, s8, ref⟩ := L_run (N := N) hN b1 b2' hcn30 (lc := lc) po3 cn 0 N B pa dr td sr dn cw (gI h 511 14) (gI h 512 14) (gI h 700 23) (gI h 701 23) (gI h 702 23) h7 hB0 (by omega) P7 L7 ((ke37.1 805 1 (by decide) (by omega)).trans g35) (fun j hj => by rw [ke37.2.1 3 (by decide) (by omega), ke37.2.1 4 (by decide) (by omega), ke37.2.1 5 (by decide) (by omega)]; exact l3 j hj) (by omega) (by omega)
    have cl : fX11_play N h 0 = some (a, h8) := by
      have ltz : iI (-1) < iI 0 := by decide
      simp only [fX11_play, lit]
      refine bst (sR_1103_0 hS) ?_
      refine bst (rcv (by rw [ss_1 hS])) ?_
      refine bst (e3') ?_
      refine bst (sR_1103_0 hS3) ?_
      refine bst (z5) ?_
      refine ifp (ltz) ?_
      refine bst (sR_1100_0 hS5) ?_
      refine bst (rcv (by rw [ss_14 hS5])) ?_
      refine bst (e6) ?_
      refine bst (z7) ?_
      exact e8
    have keh8 : Ke [804, 805, 806, 807, 910, 410, 411, 513, 514, 1106, 908, 700, 701, 702, 406, 407, 907, 511, 512] [3, 4, 5, 19, 18] [911, 409, 405, 909] [] h h8 := (ke7.w (by decide) (by decide) (by decide) (by decide)).tr (ke8.w (by decide) (by decide) (by decide) (by decide))
    have hS8 := hS.e hz keh8 (by decide)
    have hz8 : 70 ≤ sz h8 := by omega
    have kc8 := (kc6.e hz6 (fun i hi => by have := hT.lt i hi; omega) (fun i hi => by have := hR.lt i hi; omega) ke67 (by decide) (by decide) (by decide)).e hz7 (fun i hi => by have := hT.lt i hi; omega) (fun i hi => by have := hR.lt i hi; omega) ke8 (by decide) (by decide) (by decide)
    -- the reference
    obtain ⟨x, h9, e9, ke9, s9, hx, g99, l9⟩ := rM h8 hS8 hz8 (hTM.e hz keh8 (by decide) (by decide))
    have hxt : x = true := by
      rcases hx with ⟨q, -⟩ | ⟨-, q, -⟩
      · exact q
      · omega
    subst hxt
    obtain ⟨ha1, eha1⟩ : ∃ ha1, ha1 = uI h9 1237 29 (iI 0) := ⟨_, rfl⟩
    have hS9 := hS8.e hz8 ke9 (by decide)
    have za1 : qI 12 37 h9 (some 29) (iI 0) = some ha1 := by rw [eha1]; exact qIv (by rw [ss_29 hS9])
    have kea1 : Ke [1237] [] [] [] h9 ha1 := by rw [eha1]; exact Ke_rf.u 1237 _ _ (by decide)
    have sza1 : sz ha1 = sz h := by rw [eha1]; show sz h9 = sz h; omega
    have g937 : gI ha1 1237 29 = iI 0 := by rw [eha1]; simp [HR]
    have ke8a : Ke [1237, 1238, 1239, 1251] [54, 55, 56] [] [] h8 ha1 := (ke9.w (by decide) (by decide) (by decide) (by decide)).tr (kea1.w (by decide) (by decide) (by decide) (by decide))
    have keha : Ke [804, 805, 806, 807, 910, 410, 411, 513, 514, 1106, 908, 700, 701, 702, 406, 407, 907, 511, 512, 1237, 1238, 1239, 1251] [3, 4, 5, 19, 18, 54, 55, 56] [911, 409, 405, 909] [] h ha1 := (keh8.w (by decide) (by decide) (by decide) (by decide)).tr (ke8a.w (by decide) (by decide) (by decide) (by decide))
    have hSa1 := hS.e hz keha (by decide)
    have hza1 : 70 ≤ sz ha1 := by omega
    have hTqa := hT.q.e hz keha (by decide) (by decide)
    have hMa := hM.e hz keha (by decide)
    obtain ⟨hb1, eb1, keb1, sb1, m1, m2, m3, m4, m5⟩ := L_mkeepT (N := N) hN hSa1 hza1 ct cr ((keha.1 1201 29 (by decide) (by omega)).trans hT.1.2.1) ((keha.1 1211 29 (by decide) (by omega)).trans hR.1.2.1) nt 0 N ha1 Ke_rf rfl (fun _ _ => rfl) (fun _ _ _ => rfl) (fun k hk => ⟨by rw [if_neg (by omega)], by rw [if_neg (by omega)]⟩) (by omega) (by omega)
    have hSb1 := hSa1.e hza1 keb1 (by decide)
    have hzb1 : 70 ≤ sz hb1 := by omega
    have km1 : RKm hb1 nt nr rT pa dr sr dn cw := by
      refine ⟨fun i hi => ?_, fun r hr => ?_, fun i hi => ?_⟩
      · rw [(m1 i hi).1, keha.2.1 33 (by decide) (by omega)]
        exact (hT.2.1 i hi).2.2.1.2.2.2.1
      · obtain ⟨q1, q2⟩ := hMa r hr
        refine ⟨(m2 r hr).1.trans q1, fun hn => ⟨(m2 r hr).2.trans (q2 hn).1, ?_⟩⟩
        exact (m1 (rT r) (hR.2.1 r hr).2.2.2.1).2.trans (q2 hn).2
      · rw [m3 i hi, keha.2.1 45 (by decide) (by omega)]
        exact (hW i hi).2.1
    obtain ⟨hc1, ehc1⟩ : ∃ hc1, hc1 = uI hb1 1243 29 (iI 1) := ⟨_, rfl⟩
    have zc1 : qZ 12 43 hb1 (some 29) (iI 1) = some hc1 := by rw [ehc1]; exact qZv (by rw [ss_29 hSb1]) (by omega)
    have kebc : Ke [1243] [] [] [] hb1 hc1 := by rw [ehc1]; exact Ke_rf.u 1243 _ _ (by decide)
    have szc1 : sz hc1 = sz h := by rw [ehc1]; show sz hb1 = sz h; omega
    have gc43 : gI hc1 1243 29 = iI 1 := by rw [ehc1]; simp [HR]
    have keac : Ke [1249, 1250, 1243] [57, 58, 59, 60, 61] [] [] ha1 hc1 := (keb1.w (by decide) (by decide) (by decide) (by decide)).tr (kebc.w (by decide) (by decide) (by decide) (by decide))
    have kehc : Ke [804, 805, 806, 807, 910, 410, 411, 513, 514, 1106, 908, 700, 701, 702, 406, 407, 907, 511, 512, 1237, 1238, 1239, 1251, 1249, 1250, 1243] [3, 4, 5, 19, 18, 54, 55, 56, 57, 58, 59, 60, 61] [911, 409, 405, 909] [] h hc1 := (keha.w (by decide) (by decide) (by decide) (by decide)).tr (keac.w (by decide) (by decide) (by decide) (by decide))
    have hSc1 := hS.e hz kehc (by decide)
    have hzc1 : 70 ≤ sz hc1 := by omega
    have Pc : PMl hc1 nt nd nr tA dA rA rT tl tw tg ls ms ds wy gr hd gn bd pa dr td sr dn cw (gI h 511 14) (gI h 512 14) (gI h 700 23) (gI h 701 23) (gI h 702 23) := ⟨⟨hSc1, hzc1, hT.q.e hz kehc (by decide) (by decide), (fun i hi => by rw [kehc.2.1 33 (by decide) (by omega)]; exact (hT.2.1 i hi).2.2.1.2.2.2.1), hD.e hz kehc (by decide) (by decide) (by decide), hR.e hz kehc (by decide) (by decide) (by decide) (by decide), hM.e hz kehc (by decide)⟩, (fun i hi => by rw [kehc.2.1 45 (by decide) (by omega)]; exact (hW i hi).2.1), (kehc.1 1220 29 (by decide) (by omega)).trans bb2, ⟨(kehc.1 1221 29 (by decide) (by omega)).trans hE.1.symm, (kehc.1 1222 29 (by decide) (by omega)).trans hE.2.symm⟩, (kehc.1 1223 29 (by decide) (by omega)).trans hG.1.symm, (kehc.1 1224 29 (by decide) (by omega)).trans hG.2.1.symm, (kehc.1 1225 29 (by decide) (by omega)).trans hG.2.2.symm⟩
    have ke9c : Ke [1237, 1249, 1250, 1243] [57, 58, 59, 60, 61] [] [] h9 hc1 := (kea1.w (by decide) (by decide) (by decide) (by decide)).tr (keac.w (by decide) (by decide) (by decide) (by decide))
    obtain ⟨h12, e12, P12, ke12, s12⟩ := ref hc1 N Pc ((ke9c.1 1239 29 (by decide) (by omega)).trans g99) (fun j hj => by rw [ke9c.2.1 54 (by decide) (by omega), ke9c.2.1 55 (by decide) (by omega), ke9c.2.1 56 (by decide) (by omega)]; exact l9 j hj) (by omega)
    have rl : fX12_play N h8 29 = some (a, h12) := by
      have nz : ¬ iI (b2 true) = iI 0 := by decide
      rw [e9]
      simp only [fX12_play_b38, fX12_keep, lit]
      refine bst (za1) ?_
      refine ifn (nz) ?_
      refine bst (rcv (by rw [ss_29 hSa1])) ?_
      refine bst (eb1) ?_
      refine bst (zc1) ?_
      exact e12
    have ke8c : Ke [1237, 1238, 1239, 1251, 1249, 1250, 1243] [54, 55, 56, 57, 58, 59, 60, 61] [] [] h8 hc1 := (ke8a.w (by decide) (by decide) (by decide) (by decide)).tr (keac.w (by decide) (by decide) (by decide) (by decide))
    have ke8z : Ke [1237, 1238, 1239, 1251, 1249, 1250, 1243, 1221, 1222, 1223, 1224, 1225] [54, 55, 56, 57, 58, 59, 60, 61, 33, 36, 42, 43, 45] [] [] h8 h12 := (ke8c.w (by decide) (by decide) (by decide) (by decide)).tr (ke12.w (by decide) (by decide) (by decide) (by decide))
    have kehz : Ke PlG PlB [911, 409, 405, 909] [] h h12 := (keh8.w (by decide) (by decide) (by decide) (by decide)).tr (ke8z.w (by decide) (by decide) (by decide) (by decide))
    obtain ⟨⟨-, -, To8, -, -, C8⟩, W8, -, ⟨X8, Y8⟩, U81, U82, U83⟩ := P8
    obtain ⟨⟨-, -, Tq12, A12, -, -, M12⟩, W12, -, ⟨X12, Y12⟩, U121, U122, U123⟩ := P12
    obtain ⟨l81, l82, l83, l84, l85⟩ := L8
    have r12 : ∀ i, i < nr → rA i < sz h8 := fun i hi => by have := hR.lt i hi; omega
    refine ⟨a, h8, h12, cl, rl, ⟨?_, ?_, by omega, fun i hi => by omega⟩, by omega, Or.inr ⟨cn, pa', dr', td', sr', dn', cw', hcn, RTh_mk (To8.e hz8 ke8z (by decide) (by decide)) Tq12 A12, RTi_iff.mpr ⟨C8.e To8.lt r12 ke8z (by decide) (by decide), M12, l81⟩, fun i hi => ⟨?_, W12 i hi, l84 i hi⟩, l82, l83, l85, ⟨?_, ?_, ?_⟩, ⟨?_, ?_⟩, ⟨?_, ?_⟩, kc8.e hz8 To8.lt r12 ke8z (by decide) (by decide) (by decide), (km1.e hzb1 kebc (by decide)).e hzc1 ke12 (by decide), ⟨fun i hi => ?_, fun r hr hn => ⟨hA r hr hn, hsl r hr hn⟩, fun i hi => (hW i hi).2.2, hL⟩, ⟨?_, ?_⟩, kehz⟩⟩
    · rw [ke8z.1 804 1 (by decide) (by omega), ke8.1 804 1 (by decide) (by omega), ke57.1 804 1 (by decide) (by omega)]
      exact g54
    · rw [ke12.1 1237 29 (by decide) (by omega), keac.1 1237 29 (by decide) (by omega)]
      exact g937
    · rw [ke8z.2.1 18 (by decide) (by omega)]
      exact W8 i hi
    · rw [ke8z.1 700 23 (by decide) (by omega), U81, U121]
    · rw [ke8z.1 701 23 (by decide) (by omega), U82, U122]
    · rw [ke8z.1 702 23 (by decide) (by omega), U83, U123]
    · rw [ke8z.1 511 14 (by decide) (by omega), X8, X12]
    · rw [ke8z.1 512 14 (by decide) (by omega), Y8, Y12]
    · rw [ke8z.1 1106 0 (by decide) (by omega), ke8.1 1106 0 (by decide) (by omega)]
      exact g76
    · rw [ke12.1 1243 29 (by decide) (by omega)]
      exact gc43
    · have := (hT.2.1 i hi).2.2.2
      omega
    · rw [ke8z.1 513 14 (by decide) (by omega), ke8.1 513 14 (by decide) (by omega), ke67.1 513 14 (by decide) (by omega), x4, keh5.1 511 14 (by decide) (by omega), hE.1, ke12.1 1249 29 (by decide) (by omega), kebc.1 1249 29 (by decide) (by omega), m4, keha.1 1221 29 (by decide) (by omega)]
    · rw [ke8z.1 514 14 (by decide) (by omega), ke8.1 514 14 (by decide) (by omega), ke67.1 514 14 (by decide) (by omega), x5, keh5.1 512 14 (by decide) (by omega), hE.2, ke12.1 1250 29 (by decide) (by omega), kebc.1 1250 29 (by decide) (by omega), m5, keha.1 1222 29 (by decide) (by omega)]
  · -- a fault in the text
    have cl : fX11_play N h 0 = some (iI (-100 - ft), h5) := by
      have ltz : ¬ iI ft < iI 0 := fun q => by have := (iI_lt (by omega) (by omega) (by omega) (by omega)).mp q; omega
      simp only [fX11_play, lit, iI_neg]
      refine bst (sR_1103_0 hS) ?_
      refine bst (rcv (by rw [ss_1 hS])) ?_
      refine bst (e3') ?_
      refine bst (sR_1103_0 hS3) ?_
      refine bst (z5) ?_
      refine ifn (ltz) ?_
      rw [iI_sub]
    obtain ⟨x, h9, e9, ke9, s9, hx, g99, l9⟩ := rM h5 hS5 hz5 (hTM.e hz keh5 (by decide) (by decide))
    obtain ⟨hxt, g98⟩ : x = false ∧ gI h9 1238 29 = iI ft := by
      rcases hx with ⟨-, q⟩ | ⟨q, -, q'⟩
      · omega
      · exact ⟨q, q'⟩
    subst hxt
    obtain ⟨ha1, eha1⟩ : ∃ ha1, ha1 = uI h9 1237 29 (iI 0) := ⟨_, rfl⟩
    have hS9 := hS5.e hz5 ke9 (by decide)
    have za1 : qI 12 37 h9 (some 29) (iI 0) = some ha1 := by rw [eha1]; exact qIv (by rw [ss_29 hS9])
    have kea1 : Ke [1237] [] [] [] h9 ha1 := by rw [eha1]; exact Ke_rf.u 1237 _ _ (by decide)
    have sza1 : sz ha1 = sz h := by rw [eha1]; show sz h9 = sz h; omega
    have g937 : gI ha1 1237 29 = iI 0 := by rw [eha1]; simp [HR]
    have hSa1 := hS9.e (by omega) kea1 (by decide)
    have o38 : oI 12 38 ha1 (some 29) = some (iI ft) := oIv (by rw [ss_29 hSa1]) ((kea1.1 1238 29 (by decide) (by omega)).trans g98)
    have ke5a : Ke [1237, 1238, 1239, 1251] [54, 55, 56] [] [] h5 ha1 := (ke9.w (by decide) (by decide) (by decide) (by decide)).tr (kea1.w (by decide) (by decide) (by decide) (by decide))
    have rl : fX12_play N h5 29 = some (iI (-100 - ft), ha1) := by
      have nz : iI (b2 false) = iI 0 := by decide
      rw [e9]
      simp only [fX12_play_b38, lit, iI_neg]
      refine bst (za1) ?_
      refine ifp (nz) ?_
      refine bst (o38) ?_
      rw [iI_sub]
    refine ⟨iI (-100 - ft), h5, ha1, cl, rl, ⟨?_, g937, by omega, fun i hi => by omega⟩, by omega, Or.inl ((keh5.w (by decide) (by decide) (by decide) (by decide)).tr (ke5a.w (by decide) (by decide) (by decide) (by decide)))⟩
    rw [ke5a.1 804 1 (by decide) (by omega)]
    exact g54
