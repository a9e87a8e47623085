/-! ===== play: both ===== -/
theorem RTh_mk {h : Hs} {nt : Nat} {tA : Nat → Nat} {tl tw tg ls ms pa : Nat → Int} (ho : RTo h nt tA tl tw tg ls ms pa) (hq : RTq h nt tl tw tg ls ms) (hp : ∀ i, i < nt → aI h 33 i = iI (pa i)) : RTh h nt tA tl tw tg ls ms pa := ⟨⟨ho.1.1, hq.1.1, ho.1.2.2⟩, fun i hi => ⟨(ho.2.1 i hi).1, (ho.2.1 i hi).2.1, ⟨(hq.2 i hi).1.1, (hq.2 i hi).1.2.1, (hq.2 i hi).1.2.2.1, hp i hi, (hq.2 i hi).1.2.2.2.1, (hq.2 i hi).1.2.2.2.2⟩, (ho.2.1 i hi).2.2.2⟩, ho.2.2⟩
def PlF : List Nat := [804, 805, 806, 807, 1237, 1238, 1239, 1251]
def PlA : List Nat := [3, 4, 5, 54, 55, 56]
def PlG : List Nat := [804, 805, 806, 807, 1237, 1238, 1239, 1251, 910, 410, 411, 513, 514, 1106, 908, 700, 701, 702, 406, 407, 907, 511, 512, 1249, 1250, 1243, 1221, 1222, 1223, 1224, 1225]
def PlB : List Nat := [3, 4, 5, 54, 55, 56, 19, 18, 57, 58, 59, 60, 61, 33, 36, 42, 43, 45]
theorem t_play {N : Nat} (hN : 100000000 ≤ N) {h : Hs} (hS : Sk h) (hz : 70 ≤ sz h) {nr nt nd : Nat} {rA tA dA rT : Nat → Nat} {wy gr hd ds : Nat → Int} {gn : Nat → Bool} {tl tw tg ls ms pa : Nat → Int} {dr td : Nat → Option Nat} {sr dn : Nat → Int} {cw : Nat → Int} (hT : RTh h nt tA tl tw tg ls ms pa) (hD : RDr h nd dA ds) (hR : RRo h nr nt rA tA rT wy gr hd gn) (hI : RTi h nt nd nr tA dA rA rT dr td sr dn) (hW : ∀ i, i < 20 → aI h 18 i = iI (cw i) ∧ aI h 45 i = iI (cw i) ∧ -9999 ≤ cw i ∧ cw i ≤ 9999) (hBd : IBnd h) (hE : RSh h) (hG : IStp h) {L : Nat} {bt : Nat → Int} (hY : RTape h L bt) {B : Int} (hB0 : 0 ≤ B) (hB9 : B ≤ 890000000) (hdB : ∀ r, r < nr → dr r ≠ none → -B ≤ dn r ∧ dn r ≤ B) (hsl : ∀ r, r < nr → dr r ≠ none → ls (rT r) ≤ sr r ∧ sr r ≤ ms (rT r)) (hA : ∀ r, r < nr → dr r ≠ none → pa (rT r) = sr r + wy r * (dn r).tdiv (100 * gr r)) :
    ∃ a h1 h2, fX11_play N h 0 = some (a, h1) ∧ fX12_play N h1 29 = some (a, h2) ∧ RTape h2 0 bt ∧ sz h2 = sz h ∧ (Ke PlF PlA [] [] h h2 ∨ ∃ (n : Nat) (pa' : Nat → Int) (dr' td' : Nat → Option Nat) (sr' dn' cw' : Nat → Int), 4 * n ≤ L ∧ RTh h2 nt tA tl tw tg ls ms pa' ∧ RTi h2 nt nd nr tA dA rA rT dr' td' sr' dn' ∧ (∀ i, i < 20 → aI h2 18 i = iI (cw' i) ∧ aI h2 45 i = iI (cw' i) ∧ -9999 ≤ cw' i ∧ cw' i ≤ 9999) ∧ (∀ r, r < nr → dr' r ≠ none → ls (rT r) ≤ sr' r ∧ sr' r ≤ ms (rT r)) ∧ (∀ r, r < nr → dr' r ≠ none → pa' (rT r) = sr' r + wy r * (dn' r).tdiv (100 * gr r)) ∧ (∀ r, r < nr → dr' r ≠ none → -(B + 199980 * n) ≤ dn' r ∧ dn' r ≤ B + 199980 * n) ∧ IStp h2 ∧ RSh h2 ∧ (gI h2 1106 0 = iI 1 ∧ gI h2 1243 29 = iI 1) ∧ RKc h2 nt nr tA dA rA pa dr td sr dn cw ∧ RKm h2 nt nr rT pa dr sr dn cw ∧ RKl nt nd nr rT wy gr ls ms pa dr td sr dn cw ∧ RKs h2 ∧ Ke PlG PlB [911, 409, 405, 909] [] h h2) := by
  obtain ⟨hC, hM, hL⟩ := RTi_iff.mp hI
  obtain ⟨bd, bb1, bb2, b1, b2'⟩ := hBd
  have ct := hT.1.2.2
  have cr := hR.1.2.2
  obtain ⟨y1, y2, y3, y4⟩ := hY
  have hTC : TC h L bt := ⟨y1, y3, fun i hi => ⟨(y4 i hi).1, (y4 i hi).2.2⟩⟩
  have hTM : TM h L bt := ⟨y2, y3, fun i hi => ⟨(y4 i hi).2.1, (y4 i hi).2.2⟩⟩
  -- the class reads
  obtain ⟨ha, eha⟩ : ∃ ha, ha = uI (uI h 806 1 (iI 0)) 805 1 (iI 0) := ⟨_, rfl⟩
  have kea : Ke [805, 806, 807] [3, 4, 5] [] [] h ha := by rw [eha]; exact (Ke_rf.u 806 _ _ (by decide)).u 805 _ _ (by decide)
  have sza : sz ha = sz h := by rw [eha]; rfl
  have ga6 : gI ha 806 1 = iI ((0 : Nat) : Int) := by rw [eha]; simp [HR]
  have ga5 : gI ha 805 1 = iI ((0 : Nat) : Int) := by rw [eha]; simp [HR]
  have hSa := hS.e hz kea (by decide)
  obtain ⟨h3, e3, ke3, s3, g35, l3⟩ := L_rdC (N := N) hN (L := L) (bt := bt) 201 0 0 (fun _ => (0, 0, 0)) N ha hSa (by omega) (hTC.e hz kea (by decide) (by decide)) ga6 ga5 (by omega) (Or.inr rfl) (by omega) (by omega) (by omega) (fun k hk => by omega)
  obtain ⟨po1, po2, po3⟩ := prs_ok (bt := bt) y3 201 0 0 (fun _ => (0, 0, 0)) (by omega) (by omega) (fun k hk => by omega)
  have keh3 : Ke [805, 806, 807] [3, 4, 5] [] [] h h3 := kea.tr ke3
  have rM : ∀ hm : Hs, Sk hm → 70 ≤ sz hm → TM hm L bt → ∃ (x : Bool) (h' : Hs), fX12_play N hm 29 = fX12_play_b38 N 29 h' (iI (b2 x)) ∧ Ke [1238, 1239, 1251] [54, 55, 56] [] [] hm h' ∧ sz h' = sz hm ∧ ((x = true ∧ (prs (pkf bt L) L 201 0 0 (fun _ => (0, 0, 0))).1 = -1) ∨ (x = false ∧ 0 ≤ (prs (pkf bt L) L 201 0 0 (fun _ => (0, 0, 0))).1 ∧ gI h' 1238 29 = iI (prs (pkf bt L) L 201 0 0 (fun _ => (0, 0, 0))).1)) ∧ gI h' 1239 29 = iI (((prs (pkf bt L) L 201 0 0 (fun _ => (0, 0, 0))).2.1 : Nat) : Int) ∧ (∀ k, k < (prs (pkf bt L) L 201 0 0 (fun _ => (0, 0, 0))).2.1 → aI h' 54 k = iI ((prs (pkf bt L) L 201 0 0 (fun _ => (0, 0, 0))).2.2 k).1 ∧ aI h' 55 k = iI ((prs (pkf bt L) L 201 0 0 (fun _ => (0, 0, 0))).2.2 k).2.1 ∧ aI h' 56 k = iI ((prs (pkf bt L) L 201 0 0 (fun _ => (0, 0, 0))).2.2 k).2.2) := by
    intro hm mS mz mT
    obtain ⟨hb, ehb⟩ : ∃ hb, hb = uI (uI hm 1238 29 (iI 0)) 1239 29 (iI 0) := ⟨_, rfl⟩
    have keb : Ke [1238, 1239, 1251] [54, 55, 56] [] [] hm hb := by rw [ehb]; exact (Ke_rf.u 1238 _ _ (by decide)).u 1239 _ _ (by decide)
    have szb : sz hb = sz hm := by rw [ehb]; rfl
    have gb8 : gI hb 1238 29 = iI ((0 : Nat) : Int) := by rw [ehb]; simp [HR]
    have gb9 : gI hb 1239 29 = iI ((0 : Nat) : Int) := by rw [ehb]; simp [HR]
    have mSb := mS.e mz keb (by decide)
    obtain ⟨x, h', q1, q2, q3, q4⟩ := L_rdM (N := N) hN (L := L) (bt := bt) 201 0 0 (fun _ => (0, 0, 0)) N hb mSb (by omega) (mT.e mz keb (by decide) (by decide)) gb8 gb9 (by omega) (Or.inr rfl) (by omega) (by omega) (by omega) (fun k hk => by omega)
    refine ⟨x, h', ?_, keb.tr q2, q3.trans szb, q4⟩
    rw [← q1]
    have z1 : qI 12 38 hm (some 29) (iI 0) = some (uI hm 1238 29 (iI 0)) := qIv (by rw [ss_29 mS])
    have mS1 : Sk (uI hm 1238 29 (iI 0)) := mS.e mz ((Ke_rf (F := [1238]) (A := []) (FR := []) (AQ := [])).u 1238 _ _ (by decide)) (by decide)
    have z2 : qI 12 39 (uI hm 1238 29 (iI 0)) (some 29) (iI 0) = some hb := by rw [ehb]; exact qIv (by rw [ss_29 mS1])
    simp only [fX12_play, lit]
    refine bst (z1) ?_
    refine bst (z2) ?_
    refine bst (rcv (by rw [ss_29 mSb])) ?_
    rfl
  generalize prs (pkf bt L) L 201 0 0 (fun _ => (0, 0, 0)) = P at *
  obtain ⟨ft, cn, lc⟩ := P
  simp only at e3 g35 l3 po1 po2 po3 rM
  have e3' : fX8_readLines N h 1 = some (iI ft, h3) := by
    have z1 : qI 8 6 h (some 1) (iI 0) = some (uI h 806 1 (iI 0)) := qIv (by rw [ss_1 hS])
    have mS1 : Sk (uI h 806 1 (iI 0)) := hS.e hz ((Ke_rf (F := [806]) (A := []) (FR := []) (AQ := [])).u 806 _ _ (by decide)) (by decide)
    have z2 : qI 8 5 (uI h 806 1 (iI 0)) (some 1) (iI 0) = some ha := by rw [eha]; exact qIv (by rw [ss_1 mS1])
    simp only [fX8_readLines, lit]
    refine bst (z1) ?_
    refine bst (z2) ?_
    exact e3
  have hz3 : 70 ≤ sz h3 := by omega
  have hS3 := hS.e hz keh3 (by decide)
  obtain ⟨h5, eh5⟩ : ∃ h5, h5 = uI h3 804 1 (iI 0) := ⟨_, rfl⟩
  have z5 : qI 8 4 h3 (some 1) (iI 0) = some h5 := by rw [eh5]; exact qIv (by rw [ss_1 hS3])
  have ke35 : Ke [804] [] [] [] h3 h5 := by rw [eh5]; exact Ke_rf.u 804 _ _ (by decide)
  have sz5 : sz h5 = sz h := by rw [eh5]; show sz h3 = sz h; omega
  have g54 : gI h5 804 1 = iI 0 := by rw [eh5]; simp [HR]
  have keh5 : Ke [804, 805, 806, 807] [3, 4, 5] [] [] h h5 := (keh3.w (by decide) (by decide) (by decide) (by decide)).tr (ke35.w (by decide) (by decide) (by decide) (by decide))
  have hS5 := hS.e hz keh5 (by decide)
  have hz5 : 70 ≤ sz h5 := by omega
  rcases po1 with ft1 | ⟨ft0, ft2⟩
  · subst ft1
    have hcn := po2 rfl
    have hcn30 : cn ≤ 30 := by omega
    have hT5 := hT.e hz keh5 (by decide) (by decide) (by decide)
    have hR5 := hR.e hz keh5 (by decide) (by decide) (by decide) (by decide)
    have hC5 := hC.e hT.lt hR.lt keh5 (by decide) (by decide)
    obtain ⟨h6, e6, ke6, s6, x1, x2, x3, x4, x5⟩ := v_keepC (N := N) hN hS5 hz5 hT5.1.1 ct (fun i hi => (hT5.2.1 i hi).1) hT5.2.2 hR5.1.1 cr (fun r hr => (hR5.2.1 r hr).1) hR5.2.2
    have hS6 := hS5.e hz5 ke6 (by decide)
    have hz6 : 70 ≤ sz h6 := by omega
    have kc6 : RKc h6 nt nr tA dA rA pa dr td sr dn cw := by
      refine ⟨fun i hi => ?_, fun r hr => ?_, fun i hi => ?_⟩
      · obtain ⟨q1, q2⟩ := x1 i hi
        exact ⟨q1.trans (hT5.2.1 i hi).2.1.2.2.2.2.2.2, q2.trans (hC5.2 i hi)⟩
      · obtain ⟨q1, q2, q3⟩ := x2 r hr
        exact ⟨q1.trans (hC5.1 r hr).1, fun hn => ⟨q2.trans ((hC5.1 r hr).2 hn).1, q3.trans ((hC5.1 r hr).2 hn).2⟩⟩
      · rw [x3 i hi, keh5.2.1 18 (by decide) (by omega)]
        exact (hW i hi).1
    obtain ⟨h7, eh7⟩ : ∃ h7, h7 = uI h6 1106 0 (iI 1) := ⟨_, rfl⟩
    have z7 : qZ 11 6 h6 (some 0) (iI 1) = some h7 := by rw [eh7]; exact qZv (by rw [ss_0 hS6]) (by omega)
    have ke67 : Ke [1106] [] [] [] h6 h7 := by rw [eh7]; exact Ke_rf.u 1106 _ _ (by decide)
    have sz7 : sz h7 = sz h := by rw [eh7]; show sz h6 = sz h; omega
    have g76 : gI h7 1106 0 = iI 1 := by rw [eh7]; simp [HR]
    have ke57 : Ke [910, 410, 411, 513, 514, 1106] [19] [911, 409] [] h5 h7 := (ke6.w (by decide) (by decide) (by decide) (by decide)).tr (ke67.w (by decide) (by decide) (by decide) (by decide))
    have ke7 : Ke [804, 805, 806, 807, 910, 410, 411, 513, 514, 1106] [3, 4, 5, 19] [911, 409] [] h h7 := (keh5.w (by decide) (by decide) (by decide) (by decide)).tr (ke57.w (by decide) (by decide) (by decide) (by decide))
    have hS7 := hS.e hz ke7 (by decide)
    have hz7 : 70 ≤ sz h7 := by omega
    have P7 : PCl h7 nt nd nr tA dA rA rT tl tw tg ls ms ds wy gr hd gn bd pa dr td sr dn cw (gI h 511 14) (gI h 512 14) (gI h 700 23) (gI h 701 23) (gI h 702 23) := ⟨⟨hS7, hz7, hT.o.e hz ke7 (by decide) (by decide), hD.e hz ke7 (by decide) (by decide) (by decide), hR.e hz ke7 (by decide) (by decide) (by decide) (by decide), hC.e hT.lt hR.lt ke7 (by decide) (by decide)⟩, (fun i hi => by rw [ke7.2.1 18 (by decide) (by omega)]; exact (hW i hi).1), (ke7.1 510 14 (by decide) (by omega)).trans bb1, ⟨ke7.1 511 14 (by decide) (by omega), ke7.1 512 14 (by decide) (by omega)⟩, ke7.1 700 23 (by decide) (by omega), ke7.1 701 23 (by decide) (by omega), ke7.1 702 23 (by decide) (by omega)⟩
    have L7 : PLl B nt nd nr rT ls ms wy gr pa dr td sr dn cw := ⟨hL, hsl, hA, fun i hi => (hW i hi).2.2, hdB⟩
    have ke37 : Ke [804, 910, 410, 411, 513, 514, 1106] [19] [911, 409] [] h3 h7 := (ke35.w (by decide) (by decide) (by decide) (by decide)).tr (ke57.w (by decide) (by decide) (by decide) (by decide))
    obtain ⟨a, pa', dr', td', sr', dn', cw', x', y', u1', u2', u3', h8, e8, P8, L8, ke8, s8, ref⟩ := L_run (N := N) hN b1 b2' hcn30 (lc := lc) po3 cn 0 N B pa dr td sr dn cw (gI h 511 14) (gI h 512 14) (gI h 700 23) (gI h 701 23) (gI h 702 23) h7 hB0 (by omega) P7 L7 ((ke37.1 805 1 (by decide) (by omega)).trans g35) (fun j hj => by rw [ke37.2.1 3 (by decide) (by omega), ke37.2.1 4 (by decide) (by omega), ke37.2.1 5 (by decide) (by omega)]; exact l3 j hj) (by omega) (by omega)
    have cl : fX11_play N h 0 = some (a, h8) := by
      have ltz : iI (-1) < iI 0 := by decide
      simp only [fX11_play, lit]
      refine bst (sR_1103_0 hS) ?_
      refine bst (rcv (by rw [ss_1 hS])) ?_
      refine bst (e3') ?_
      refine bst (sR_1103_0 hS3) ?_
      refine bst (z5) ?_
      refine ifp (ltz) ?_
      refine bst (sR_1100_0 hS5) ?_
      refine bst (rcv (by rw [ss_14 hS5])) ?_
      refine bst (e6) ?_
      refine bst (z7) ?_
      exact e8
    have keh8 : Ke [804, 805, 806, 807, 910, 410, 411, 513, 514, 1106, 908, 700, 701, 702, 406, 407, 907, 511, 512] [3, 4, 5, 19, 18] [911, 409, 405, 909] [] h h8 := (ke7.w (by decide) (by decide) (by decide) (by decide)).tr (ke8.w (by decide) (by decide) (by decide) (by decide))
    have hS8 := hS.e hz keh8 (by decide)
    have hz8 : 70 ≤ sz h8 := by omega
    have kc8 := (kc6.e hz6 (fun i hi => by have := hT.lt i hi; omega) (fun i hi => by have := hR.lt i hi; omega) ke67 (by decide) (by decide) (by decide)).e hz7 (fun i hi => by have := hT.lt i hi; omega) (fun i hi => by have := hR.lt i hi; omega) ke8 (by decide) (by decide) (by decide)
    -- the reference
    obtain ⟨x, h9, e9, ke9, s9, hx, g99, l9⟩ := rM h8 hS8 hz8 (hTM.e hz keh8 (by decide) (by decide))
    have hxt : x = true := by
      rcases hx with ⟨q, -⟩ | ⟨-, q, -⟩
      · exact q
      · omega
    subst hxt
    obtain ⟨ha1, eha1⟩ : ∃ ha1, ha1 = uI h9 1237 29 (iI 0) := ⟨_, rfl⟩
    have hS9 := hS8.e hz8 ke9 (by decide)
    have za1 : qI 12 37 h9 (some 29) (iI 0) = some ha1 := by rw [eha1]; exact qIv (by rw [ss_29 hS9])
    have kea1 : Ke [1237] [] [] [] h9 ha1 := by rw [eha1]; exact Ke_rf.u 1237 _ _ (by decide)
    have sza1 : sz ha1 = sz h := by rw [eha1]; show sz h9 = sz h; omega
    have g937 : gI ha1 1237 29 = iI 0 := by rw [eha1]; simp [HR]
    have ke8a : Ke [1237, 1238, 1239, 1251] [54, 55, 56] [] [] h8 ha1 := (ke9.w (by decide) (by decide) (by decide) (by decide)).tr (kea1.w (by decide) (by decide) (by decide) (by decide))
    have keha : Ke [804, 805, 806, 807, 910, 410, 411, 513, 514, 1106, 908, 700, 701, 702, 406, 407, 907, 511, 512, 1237, 1238, 1239, 1251] [3, 4, 5, 19, 18, 54, 55, 56] [911, 409, 405, 909] [] h ha1 := (keh8.w (by decide) (by decide) (by decide) (by decide)).tr (ke8a.w (by decide) (by decide) (by decide) (by decide))
    have hSa1 := hS.e hz keha (by decide)
    have hza1 : 70 ≤ sz ha1 := by omega
    have hTqa := hT.q.e hz keha (by decide) (by decide)
    have hMa := hM.e hz keha (by decide)
    obtain ⟨hb1, eb1, keb1, sb1, m1, m2, m3, m4, m5⟩ := L_mkeepT (N := N) hN hSa1 hza1 ct cr ((keha.1 1201 29 (by decide) (by omega)).trans hT.1.2.1) ((keha.1 1211 29 (by decide) (by omega)).trans hR.1.2.1) nt 0 N ha1 Ke_rf rfl (fun _ _ => rfl) (fun _ _ _ => rfl) (fun k hk => ⟨by rw [if_neg (by omega)], by rw [if_neg (by omega)]⟩) (by omega) (by omega)
    have hSb1 := hSa1.e hza1 keb1 (by decide)
    have hzb1 : 70 ≤ sz hb1 := by omega
    have km1 : RKm hb1 nt nr rT pa dr sr dn cw := by
      refine ⟨fun i hi => ?_, fun r hr => ?_, fun i hi => ?_⟩
      · rw [(m1 i hi).1, keha.2.1 33 (by decide) (by omega)]
        exact (hT.2.1 i hi).2.2.1.2.2.2.1
      · obtain ⟨q1, q2⟩ := hMa r hr
        refine ⟨(m2 r hr).1.trans q1, fun hn => ⟨(m2 r hr).2.trans (q2 hn).1, ?_⟩⟩
        exact (m1 (rT r) (hR.2.1 r hr).2.2.2.1).2.trans (q2 hn).2
      · rw [m3 i hi, keha.2.1 45 (by decide) (by omega)]
        exact (hW i hi).2.1
    obtain ⟨hc1, ehc1⟩ : ∃ hc1, hc1 = uI hb1 1243 29 (iI 1) := ⟨_, rfl⟩
    have zc1 : qZ 12 43 hb1 (some 29) (iI 1) = some hc1 := by rw [ehc1]; exact qZv (by rw [ss_29 hSb1]) (by omega)
    have kebc : Ke [1243] [] [] [] hb1 hc1 := by rw [ehc1]; exact Ke_rf.u 1243 _ _ (by decide)
    have szc1 : sz hc1 = sz h := by rw [ehc1]; show sz hb1 = sz h; omega
    have gc43 : gI hc1 1243 29 = iI 1 := by rw [ehc1]; simp [HR]
    have keac : Ke [1249, 1250, 1243] [57, 58, 59, 60, 61] [] [] ha1 hc1 := (keb1.w (by decide) (by decide) (by decide) (by decide)).tr (kebc.w (by decide) (by decide) (by decide) (by decide))
    have kehc : Ke [804, 805, 806, 807, 910, 410, 411, 513, 514, 1106, 908, 700, 701, 702, 406, 407, 907, 511, 512, 1237, 1238, 1239, 1251, 1249, 1250, 1243] [3, 4, 5, 19, 18, 54, 55, 56, 57, 58, 59, 60, 61] [911, 409, 405, 909] [] h hc1 := (keha.w (by decide) (by decide) (by decide) (by decide)).tr (keac.w (by decide) (by decide) (by decide) (by decide))
    have hSc1 := hS.e hz kehc (by decide)
    have hzc1 : 70 ≤ sz hc1 := by omega
    have Pc : PMl hc1 nt nd nr tA dA rA rT tl tw tg ls ms ds wy gr hd gn bd pa dr td sr dn cw (gI h 511 14) (gI h 512 14) (gI h 700 23) (gI h 701 23) (gI h 702 23) := ⟨⟨hSc1, hzc1, hT.q.e hz kehc (by decide) (by decide), (fun i hi => by rw [kehc.2.1 33 (by decide) (by omega)]; exact (hT.2.1 i hi).2.2.1.2.2.2.1), hD.e hz kehc (by decide) (by decide) (by decide), hR.e hz kehc (by decide) (by decide) (by decide) (by decide), hM.e hz kehc (by decide)⟩, (fun i hi => by rw [kehc.2.1 45 (by decide) (by omega)]; exact (hW i hi).2.1), (kehc.1 1220 29 (by decide) (by omega)).trans bb2, ⟨(kehc.1 1221 29 (by decide) (by omega)).trans hE.1.symm, (kehc.1 1222 29 (by decide) (by omega)).trans hE.2.symm⟩, (kehc.1 1223 29 (by decide) (by omega)).trans hG.1.symm, (kehc.1 1224 29 (by decide) (by omega)).trans hG.2.1.symm, (kehc.1 1225 29 (by decide) (by omega)).trans hG.2.2.symm⟩
    have ke9c : Ke [1237, 1249, 1250, 1243] [57, 58, 59, 60, 61] [] [] h9 hc1 := (kea1.w (by decide) (by decide) (by decide) (by decide)).tr (keac.w (by decide) (by decide) (by decide) (by decide))
    obtain ⟨h12, e12, P12, ke12, s12⟩ := ref hc1 N Pc ((ke9c.1 1239 29 (by decide) (by omega)).trans g99) (fun j hj => by rw [ke9c.2.1 54 (by decide) (by omega), ke9c.2.1 55 (by decide) (by omega), ke9c.2.1 56 (by decide) (by omega)]; exact l9 j hj) (by omega)
    have rl : fX12_play N h8 29 = some (a, h12) := by
      have nz : ¬ iI (b2 true) = iI 0 := by decide
      rw [e9]
      simp only [fX12_play_b38, fX12_keep, lit]
      refine bst (za1) ?_
      refine ifn (nz) ?_
      refine bst (rcv (by rw [ss_29 hSa1])) ?_
      refine bst (eb1) ?_
      refine bst (zc1) ?_
      exact e12
    have ke8c : Ke [1237, 1238, 1239, 1251, 1249, 1250, 1243] [54, 55, 56, 57, 58, 59, 60, 61] [] [] h8 hc1 := (ke8a.w (by decide) (by decide) (by decide) (by decide)).tr (keac.w (by decide) (by decide) (by decide) (by decide))
    have ke8z : Ke [1237, 1238, 1239, 1251, 1249, 1250, 1243, 1221, 1222, 1223, 1224, 1225] [54, 55, 56, 57, 58, 59, 60, 61, 33, 36, 42, 43, 45] [] [] h8 h12 := (ke8c.w (by decide) (by decide) (by decide) (by decide)).tr (ke12.w (by decide) (by decide) (by decide) (by decide))
    have kehz : Ke PlG PlB [911, 409, 405, 909] [] h h12 := (keh8.w (by decide) (by decide) (by decide) (by decide)).tr (ke8z.w (by decide) (by decide) (by decide) (by decide))
    obtain ⟨⟨-, -, To8, -, -, C8⟩, W8, -, ⟨X8, Y8⟩, U81, U82, U83⟩ := P8
    obtain ⟨⟨-, -, Tq12, A12, -, -, M12⟩, W12, -, ⟨X12, Y12⟩, U121, U122, U123⟩ := P12
    obtain ⟨l81, l82, l83, l84, l85⟩ := L8
    have r12 : ∀ i, i < nr → rA i < sz h8 := fun i hi => by have := hR.lt i hi; omega
    refine ⟨a, h8, h12, cl, rl, ⟨?_, ?_, by omega, fun i hi => by omega⟩, by omega, Or.inr ⟨cn, pa', dr', td', sr', dn', cw', hcn, RTh_mk (To8.e hz8 ke8z (by decide) (by decide)) Tq12 A12, RTi_iff.mpr ⟨C8.e To8.lt r12 ke8z (by decide) (by decide), M12, l81⟩, fun i hi => ⟨?_, W12 i hi, l84 i hi⟩, l82, l83, l85, ⟨?_, ?_, ?_⟩, ⟨?_, ?_⟩, ⟨?_, ?_⟩, kc8.e hz8 To8.lt r12 ke8z (by decide) (by decide) (by decide), (km1.e hzb1 kebc (by decide)).e hzc1 ke12 (by decide), ⟨fun i hi => ?_, fun r hr hn => ⟨hA r hr hn, hsl r hr hn⟩, fun i hi => (hW i hi).2.2, hL⟩, ⟨?_, ?_⟩, kehz⟩⟩
    · rw [ke8z.1 804 1 (by decide) (by omega), ke8.1 804 1 (by decide) (by omega), ke57.1 804 1 (by decide) (by omega)]
      exact g54
    · rw [ke12.1 1237 29 (by decide) (by omega), keac.1 1237 29 (by decide) (by omega)]
      exact g937
    · rw [ke8z.2.1 18 (by decide) (by omega)]
      exact W8 i hi
    · rw [ke8z.1 700 23 (by decide) (by omega), U81, U121]
    · rw [ke8z.1 701 23 (by decide) (by omega), U82, U122]
    · rw [ke8z.1 702 23 (by decide) (by omega), U83, U123]
    · rw [ke8z.1 511 14 (by decide) (by omega), X8, X12]
    · rw [ke8z.1 512 14 (by decide) (by omega), Y8, Y12]
    · rw [ke8z.1 1106 0 (by decide) (by omega), ke8.1 1106 0 (by decide) (by omega)]
      exact g76
    · rw [ke12.1 1243 29 (by decide) (by omega)]
      exact gc43
    · have := (hT.2.1 i hi).2.2.2
      omega
    · rw [ke8z.1 513 14 (by decide) (by omega), ke8.1 513 14 (by decide) (by omega), ke67.1 513 14 (by decide) (by omega), x4, keh5.1 511 14 (by decide) (by omega), hE.1, ke12.1 1249 29 (by decide) (by omega), kebc.1 1249 29 (by decide) (by omega), m4, keha.1 1221 29 (by decide) (by omega)]
    · rw [ke8z.1 514 14 (by decide) (by omega), ke8.1 514 14 (by decide) (by omega), ke67.1 514 14 (by decide) (by omega), x5, keh5.1 512 14 (by decide) (by omega), hE.2, ke12.1 1250 29 (by decide) (by omega), kebc.1 1250 29 (by decide) (by omega), m5, keha.1 1222 29 (by decide) (by omega)]
  · -- a fault in the text
    have cl : fX11_play N h 0 = some (iI (-100 - ft), h5) := by
      have ltz : ¬ iI ft < iI 0 := fun q => by have := (iI_lt (by omega) (by omega) (by omega) (by omega)).mp q; omega
      simp only [fX11_play, lit, iI_neg]
      refine bst (sR_1103_0 hS) ?_
      refine bst (rcv (by rw [ss_1 hS])) ?_
      refine bst (e3') ?_
      refine bst (sR_1103_0 hS3) ?_
      refine bst (z5) ?_
      refine ifn (ltz) ?_
      rw [iI_sub]
    obtain ⟨x, h9, e9, ke9, s9, hx, g99, l9⟩ := rM h5 hS5 hz5 (hTM.e hz keh5 (by decide) (by decide))
    obtain ⟨hxt, g98⟩ : x = false ∧ gI h9 1238 29 = iI ft := by
      rcases hx with ⟨-, q⟩ | ⟨q, -, q'⟩
      · omega
      · exact ⟨q, q'⟩
    subst hxt
    obtain ⟨ha1, eha1⟩ : ∃ ha1, ha1 = uI h9 1237 29 (iI 0) := ⟨_, rfl⟩
    have hS9 := hS5.e hz5 ke9 (by decide)
    have za1 : qI 12 37 h9 (some 29) (iI 0) = some ha1 := by rw [eha1]; exact qIv (by rw [ss_29 hS9])
    have kea1 : Ke [1237] [] [] [] h9 ha1 := by rw [eha1]; exact Ke_rf.u 1237 _ _ (by decide)
    have sza1 : sz ha1 = sz h := by rw [eha1]; show sz h9 = sz h; omega
    have g937 : gI ha1 1237 29 = iI 0 := by rw [eha1]; simp [HR]
    have hSa1 := hS9.e (by omega) kea1 (by decide)
    have o38 : oI 12 38 ha1 (some 29) = some (iI ft) := oIv (by rw [ss_29 hSa1]) ((kea1.1 1238 29 (by decide) (by omega)).trans g98)
    have ke5a : Ke [1237, 1238, 1239, 1251] [54, 55, 56] [] [] h5 ha1 := (ke9.w (by decide) (by decide) (by decide) (by decide)).tr (kea1.w (by decide) (by decide) (by decide) (by decide))
    have rl : fX12_play N h5 29 = some (iI (-100 - ft), ha1) := by
      have nz : iI (b2 false) = iI 0 := by decide
      rw [e9]
      simp only [fX12_play_b38, lit, iI_neg]
      refine bst (za1) ?_
      refine ifp (nz) ?_
      refine bst (o38) ?_
      rw [iI_sub]
    refine ⟨iI (-100 - ft), h5, ha1, cl, rl, ⟨?_, g937, by omega, fun i hi => by omega⟩, by omega, Or.inl ((keh5.w (by decide) (by decide) (by decide) (by decide)).tr (ke5a.w (by decide) (by decide) (by decide) (by decide)))⟩
    rw [ke5a.1 804 1 (by decide) (by omega)]
    exact g54
/-! ===== paint: sets as numbers ===== -/
def pcn : Nat → Nat → Nat
  | 0, _ => 0
  | k + 1, T => T % 2 + pcn k (T / 2)
theorem mor_all : (List.range 12).all (fun i => decide (iI 1 <<< (iI i &&& iI 31) = iI ((2 ^ i : Nat) : Int))) = true := by decide +kernel
theorem bcn_all : (List.range 4096).all (fun T => decide ((fun p0 : Int32 => (fun y1 : Int32 => (fun y2 : Int32 => (fun y3 : Int32 => (fun y4 : Int32 => (fun y5 : Int32 => y5 &&& 63) (y4 + (((y4).toUInt32 >>> ((16 : Int32).toUInt32 &&& Int32.toUInt32 31)).toInt32))) (y3 + (((y3).toUInt32 >>> ((8 : Int32).toUInt32 &&& Int32.toUInt32 31)).toInt32))) ((y2 + (((y2).toUInt32 >>> ((4 : Int32).toUInt32 &&& Int32.toUInt32 31)).toInt32)) &&& 252645135)) ((y1 &&& 858993459) + ((((y1).toUInt32 >>> ((2 : Int32).toUInt32 &&& Int32.toUInt32 31)).toInt32) &&& 858993459))) (p0 - ((((p0).toUInt32 >>> ((1 : Int32).toUInt32 &&& Int32.toUInt32 31)).toInt32) &&& 1431655765))) (iI T) = iI (pcn 12 T))) = true := by decide +kernel
theorem pcn_or : ∀ (k i T : Nat), i < k → T.testBit i = false → pcn k (T ||| 2 ^ i) = pcn k T + 1
  | 0, i, T, h, _ => absurd h (Nat.not_lt_zero i)
  | k + 1, 0, T, _, h2 => by
    have h3 : ¬ T % 2 = 1 := by
      rw [Nat.testBit_zero] at h2
      exact of_decide_eq_false h2
    have e1 : (T ||| 2 ^ 0) / 2 = T / 2 := by
      rw [Nat.or_div_two]
      exact Nat.or_zero (T / 2)
    have e2 : (T ||| 2 ^ 0) % 2 = 1 := Nat.or_mod_two_eq_one.mpr (Or.inr rfl)
    show (T ||| 2 ^ 0) % 2 + pcn k ((T ||| 2 ^ 0) / 2) = T % 2 + pcn k (T / 2) + 1
    rw [e1, e2]
    omega
  | k + 1, i + 1, T, h1, h2 => by
    have h3 : (T / 2).testBit i = false := by
      rw [← Nat.testBit_add_one]
      exact h2
    have p2 : 2 ^ (i + 1) = 2 * 2 ^ i := by rw [Nat.pow_succ, Nat.mul_comm]
    have e1 : (T ||| 2 ^ (i + 1)) / 2 = T / 2 ||| 2 ^ i := by rw [Nat.or_div_two, p2, Nat.mul_div_cancel_left _ (by omega)]
    have e2 : (T ||| 2 ^ (i + 1)) % 2 = T % 2 := by
      have z : ¬ 2 ^ (i + 1) % 2 = 1 := by
        rw [p2, Nat.mul_mod_right]
        omega
      by_cases w : T % 2 = 1
      · rw [w]
        exact Nat.or_mod_two_eq_one.mpr (Or.inl w)
      · have : ¬ (T ||| 2 ^ (i + 1)) % 2 = 1 := fun q => (Nat.or_mod_two_eq_one.mp q).elim w z
        omega
    have q := pcn_or k i (T / 2) (by omega) h3
    show (T ||| 2 ^ (i + 1)) % 2 + pcn k ((T ||| 2 ^ (i + 1)) / 2) = T % 2 + pcn k (T / 2) + 1
    rw [e1, e2, q]
    omega
theorem iI_or {T U : Nat} (hT : T < 2147483648) (hU : U < 2147483648) : iI T ||| iI U = iI ((T ||| U : Nat) : Int) := by
  apply Int32.toBitVec_inj.mp
  apply BitVec.eq_of_toNat_eq
  simp [iI, Int32.toBitVec_or, BitVec.toNat_or]
/-! ===== paint: the class's sums ===== -/
theorem set_f {i T : Nat} (hi : i < 12) (hT : T < 4096) : (T.testBit i = true → T ||| 2 ^ i = T) ∧ (T.testBit i = false → T < T ||| 2 ^ i ∧ pcn 12 (T ||| 2 ^ i) = pcn 12 T + 1) := by
  refine ⟨fun w => Nat.eq_of_testBit_eq fun j => ?_, fun w => ?_⟩
  · rw [Nat.testBit_or, Nat.testBit_two_pow]
    by_cases e : i = j
    · subst e
      simp [w]
    · rw [decide_eq_false e, Bool.or_false]
  · have q := pcn_or 12 i T hi w
    refine ⟨Nat.lt_of_le_of_ne Nat.left_le_or fun z => ?_, q⟩
    rw [← z] at q
    omega
theorem or_lt {i T n : Nat} (hi : i < n) (hT : T < 2 ^ n) : T ||| 2 ^ i < 2 ^ n := Nat.or_lt_two_pow hT (Nat.pow_lt_pow_right (by omega) hi)
theorem p12 {n : Nat} (hn : n ≤ 12) : 2 ^ n ≤ 4096 := Nat.pow_le_pow_right (n := 2) (by omega) hn
theorem sh_f {i : Nat} (hi : i < 12) : iI 1 <<< (iI i &&& iI 31) = iI ((2 ^ i : Nat) : Int) := of_decide_eq_true (List.all_eq_true.mp mor_all i (List.mem_range.mpr hi))
theorem v_bcn {N : Nat} {h : Hs} {T : Nat} (hT : T < 4096) : fJ6_bitCount_0f7a4 N h (iI T) = some (iI (pcn 12 T), h) := by
  have q := of_decide_eq_true (List.all_eq_true.mp bcn_all T (List.mem_range.mpr hT))
  simp only [] at q
  simp only [fJ6_bitCount_0f7a4, Option.bind_some]
  rw [q]
def ctf (fh fw fp vh vw vp : Nat → Int) (i j : Nat) : Int := if vh j ≤ fh i ∧ vw j ≤ fw i then (if fp i = vp j then 0 else fh i * fw i) + fh i * fw i - vh j * vw j else -1
theorem ctf_b {fh fw fp vh vw vp : Nat → Int} {i j : Nat} (a1 : 1 ≤ fh i ∧ fh i ≤ 99 ∧ 1 ≤ fw i ∧ fw i ≤ 99) (a2 : 1 ≤ vh j ∧ vh j ≤ 99 ∧ 1 ≤ vw j ∧ vw j ≤ 99) : -1 ≤ ctf fh fw fp vh vw vp i j ∧ ctf fh fw fp vh vw vp i j ≤ 19602 ∧ (vh j ≤ fh i ∧ vw j ≤ fw i → 0 ≤ ctf fh fw fp vh vw vp i j) := by
  have m1 : fh i * fw i ≤ 99 * 99 := Int.mul_le_mul a1.2.1 a1.2.2.2 (by omega) (by omega)
  have m2 : 1 * 1 ≤ vh j * vw j := Int.mul_le_mul a2.1 a2.2.2.1 (by omega) (by omega)
  have m3 : 1 * 1 ≤ fh i * fw i := Int.mul_le_mul a1.1 a1.2.2.1 (by omega) (by omega)
  unfold ctf
  by_cases w : vh j ≤ fh i ∧ vw j ≤ fw i
  · rw [if_pos w]
    have m4 : vh j * vw j ≤ fh i * fw i := Int.mul_le_mul w.1 w.2 (by omega) (by omega)
    by_cases q : fp i = vp j
    · rw [if_pos q]; omega
    · rw [if_neg q]; omega
  · rw [if_neg w]
    exact ⟨by omega, by omega, fun z => absurd z w⟩
def swt (ct : Nat → Nat → Int) (S : Nat → Int) (T i j : Nat) : Int := if T.testBit i = true ∨ ct i j < 0 then 1000000 else if ct i j + S (T ||| 2 ^ i) < 1000000 then ct i j + S (T ||| 2 ^ i) else 1000000
def lsb (ct : Nat → Nat → Int) (S : Nat → Int) (T j : Nat) : Nat → Int
  | 0 => 1000000
  | n + 1 => if swt ct S T n j < lsb ct S T j n then swt ct S T n j else lsb ct S T j n
def PF (h : Hs) (nf : Nat) (fA : Nat → Nat) (fh fw fp : Nat → Int) : Prop := ∀ i, i < nf → (aR h 10 i = some (fA i) ∧ 70 ≤ fA i ∧ fA i < sz h ∧ sh h (fA i) = (3, 0) ∧ gI h 300 (fA i) = iI (fh i) ∧ gI h 301 (fA i) = iI (fw i) ∧ gI h 302 (fA i) = iI (fp i)) ∧ 1 ≤ fh i ∧ fh i ≤ 99 ∧ 1 ≤ fw i ∧ fw i ≤ 99 ∧ 0 ≤ fp i ∧ fp i ≤ 9
def PV (h : Hs) (nv : Nat) (vA : Nat → Nat) (vh vw vp : Nat → Int) : Prop := ∀ i, i < nv → (aR h 11 i = some (vA i) ∧ 70 ≤ vA i ∧ vA i < sz h ∧ sh h (vA i) = (3, 0) ∧ gI h 300 (vA i) = iI (vh i) ∧ gI h 301 (vA i) = iI (vw i) ∧ gI h 302 (vA i) = iI (vp i)) ∧ 1 ≤ vh i ∧ vh i ≤ 99 ∧ 1 ≤ vw i ∧ vw i ≤ 99 ∧ 0 ≤ vp i ∧ vp i ≤ 9
theorem v_area {N : Nat} {h : Hs} {a : Nat} {x y : Int} (hs : sh h a = (3, 0)) (g0 : gI h 300 a = iI x) (g1 : gI h 301 a = iI y) : fX3_area N h a = some (iI (x * y), h) := by
  have cc : (sh h a).1 = 3 := by rw [hs]
  simp only [fX3_area]
  refine bst (oIv cc g0) ?_
  refine bst (oIv cc g1) ?_
  rw [iI_mul]
theorem v_swt {N : Nat} {h : Hs} (hS : Sk h) {nf nv : Nat} {fA vA : Nat → Nat} {fh fw fp vh vw vp : Nat → Int} (hf : nf ≤ 12) (pF : PF h nf fA fh fw fp) (pV : PV h nv vA vh vw vp) {T i j : Nat} (hT : T < 2 ^ nf) (hi : i < nf) (hj : j < nv) {S : Nat → Int} (hv : T.testBit i = false → aI h 13 (T ||| 2 ^ i) = iI (S (T ||| 2 ^ i)) ∧ 0 ≤ S (T ||| 2 ^ i) ∧ S (T ||| 2 ^ i) ≤ 1000000) : fX6_sumWith N h 9 (iI T) (iI i) (some (vA j)) = some (iI (swt (ctf fh fw fp vh vw vp) S T i j), h) := by
  obtain ⟨⟨f1, f2, f3, f4, f5, f6, f7⟩, f8⟩ := pF i hi
  obtain ⟨⟨w1, w2, w3, w4, w5, w6, w7⟩, w8⟩ := pV j hj
  have hp := p12 hf
  have cf : (sh h (fA i)).1 = 3 := by rw [f4]
  have cv : (sh h (vA j)).1 = 3 := by rw [w4]
  obtain ⟨s1, s2⟩ := set_f (i := i) (T := T) (by omega) (by omega)
  have ol := or_lt hi hT
  have cb := ctf_b (fh := fh) (fw := fw) (fp := fp) (vh := vh) (vw := vw) (vp := vp) (i := i) (j := j) ⟨f8.1, f8.2.1, f8.2.2.1, f8.2.2.2.1⟩ ⟨w8.1, w8.2.1, w8.2.2.1, w8.2.2.2.1⟩
  have eo : (some (iI (T : Int) ||| (iI 1 <<< (iI (i : Int) &&& iI 31))) : Option Int32) = some (iI ((T ||| 2 ^ i : Nat) : Int)) := by
    rw [sh_f (by omega), iI_or (by omega) (by have := Nat.pow_lt_pow_right (a := 2) (by omega) hi; omega)]
  have eq : iI ((T ||| 2 ^ i : Nat) : Int) = iI (T : Int) ↔ T ||| 2 ^ i = T := (iI_eq (by omega) (by omega) (by omega) (by omega)).trans (by omega)
  have lf := lQv (t := 26) (i := i) (ss_10 hS) (by omega) (by omega) f1
  have lh : iI (fh i) < iI (vh j) ↔ fh i < vh j := iI_lt (by omega) (by omega) (by omega) (by omega)
  have lw : iI (fw i) < iI (vw j) ↔ fw i < vw j := iI_lt (by omega) (by omega) (by omega) (by omega)
  have lp' : iI (fp i) = iI (vp j) ↔ fp i = vp j := iI_eq (by omega) (by omega) (by omega) (by omega)
  have sv : fX3_serves N h (fA i) (some (vA j)) = some (iI (if vh j ≤ fh i ∧ vw j ≤ fw i then 1 else 0), h) := by
    simp only [fX3_serves, fX3_serves_b26, fX3_serves_b27, lit]
    by_cases q1 : fh i < vh j
    · rw [if_neg (by omega)]
      refine bst (oIv cf f5) ?_
      refine bst (oIv cv w5) ?_
      refine ifp (lh.mpr q1) ?_
      refine bst (zc_i0) ?_
      rfl
    · by_cases q2 : fw i < vw j
      · rw [if_neg (by omega)]
        refine bst (oIv cf f5) ?_
        refine bst (oIv cv w5) ?_
        refine ifn (fun z => q1 (lh.mp z)) ?_
        refine bst (oIv cf f6) ?_
        refine bst (oIv cv w6) ?_
        refine ifp (lw.mpr q2) ?_
        refine bst (zc_i0) ?_
        rfl
      · rw [if_pos (by omega)]
        refine bst (oIv cf f5) ?_
        refine bst (oIv cv w5) ?_
        refine ifn (fun z => q1 (lh.mp z)) ?_
        refine bst (oIv cf f6) ?_
        refine bst (oIv cv w6) ?_
        refine ifn (fun z => q2 (lw.mp z)) ?_
        refine bst (zc_i1) ?_
        rfl
  have aF := v_area (N := N) f4 f5 f6
  have aV := v_area (N := N) w4 w5 w6
  have pr : vh j ≤ fh i ∧ vw j ≤ fw i → fX3_priceFor N h (fA i) (some (vA j)) = some (iI (ctf fh fw fp vh vw vp i j), h) := by
    intro q
    unfold ctf
    rw [if_pos q]
    simp only [fX3_priceFor, fX3_priceFor_b19, lit]
    by_cases q2 : fp i = vp j
    · rw [if_pos q2]
      refine bst (oIv cf f7) ?_
      refine bst (oIv cv w7) ?_
      refine ifp (lp'.mpr q2) ?_
      refine bst (rcv cf) ?_
      refine bst (aF) ?_
      refine bst (rcv cv) ?_
      refine bst (aV) ?_
      rw [iI_add, iI_sub]
    · rw [if_neg q2]
      refine bst (oIv cf f7) ?_
      refine bst (oIv cv w7) ?_
      refine ifn (fun z => q2 (lp'.mp z)) ?_
      refine bst (rcv cf) ?_
      refine bst (aF) ?_
      refine bst (rcv cf) ?_
      refine bst (aF) ?_
      refine bst (rcv cv) ?_
      refine bst (aV) ?_
      rw [iI_add, iI_sub]
  simp only [fX6_sumWith, fX6_sumWith_b26, lit]
  unfold swt
  by_cases w : T.testBit i = true
  · rw [if_pos (Or.inl w)]
    refine bst (eo) ?_
    refine ifp (eq.mpr (s1 w)) ?_
    rfl
  · have w' : T.testBit i = false := by cases hb : T.testBit i with
      | true => exact absurd hb w
      | false => rfl
    obtain ⟨v1, v2, v3⟩ := hv w'
    have ne : ¬ iI ((T ||| 2 ^ i : Nat) : Int) = iI (T : Int) := fun z => by have := eq.mp z; have := (s2 w').1; omega
    by_cases q : vh j ≤ fh i ∧ vw j ≤ fw i
    · have c0 := cb.2.2 q
      rw [if_pos q] at sv
      rw [if_neg (fun z => z.elim w (fun z => by omega))]
      have lv := lAv (ss_13 hS) (show T ||| 2 ^ i < 4096 by omega) (by omega) v1
      have lm : iI (ctf fh fw fp vh vw vp i j + S (T ||| 2 ^ i)) < iI 1000000 ↔ ctf fh fw fp vh vw vp i j + S (T ||| 2 ^ i) < 1000000 := iI_lt (by omega) (by omega) (by omega) (by omega)
      refine bst (eo) ?_
      refine ifn (ne) ?_
      refine bst (sR_600_9 hS) ?_
      refine bst (lf) ?_
      refine bst (rcv cf) ?_
      refine bst (sv) ?_
      refine ifn (n10) ?_
      refine bst (sR_600_9 hS) ?_
      refine bst (lf) ?_
      refine bst (rcv cf) ?_
      refine bst (pr q) ?_
      refine bst (sR_603_9 hS) ?_
      refine bst (lv) ?_
      rw [iI_add]
      by_cases m : ctf fh fw fp vh vw vp i j + S (T ||| 2 ^ i) < 1000000
      · rw [if_pos m, if_pos (lm.mpr m)]
      · rw [if_neg m, if_neg (fun z => m (lm.mp z))]
    · have c0 : ctf fh fw fp vh vw vp i j = -1 := by unfold ctf; rw [if_neg q]
      rw [if_neg q] at sv
      rw [if_pos (Or.inr (by omega))]
      refine bst (eo) ?_
      refine ifn (ne) ?_
      refine bst (sR_600_9 hS) ?_
      refine bst (lf) ?_
      refine bst (rcv cf) ?_
      refine bst (sv) ?_
      refine ifp (rfl) ?_
      rfl
/-! ===== paint: the class's least sum ===== -/
theorem PF.e {F A FR AQ : List Nat} {h h2 : Hs} {nf : Nat} {fA : Nat → Nat} {fh fw fp : Nat → Int} (hP : PF h nf fA fh fw fp) (hz : 70 ≤ sz h) (k : Ke F A FR AQ h h2) (hF : ∀ f ∈ [300, 301, 302], f ∉ F) (hQ : 10 ∉ AQ) : PF h2 nf fA fh fw fp := fun i hi => by
  obtain ⟨⟨f1, f2, f3, f4, f5, f6, f7⟩, f8⟩ := hP i hi
  have k6 := k.2.2.2.2.2
  exact ⟨⟨by rw [k.2.2.2.1 _ hQ (by omega)]; exact f1, f2, by omega, (k.2.2.2.2.1 _ f3).trans f4, (k.1 _ _ (hF 300 (by decide)) f3).trans f5, (k.1 _ _ (hF 301 (by decide)) f3).trans f6, (k.1 _ _ (hF 302 (by decide)) f3).trans f7⟩, f8⟩
theorem PV.e {F A FR AQ : List Nat} {h h2 : Hs} {nv : Nat} {vA : Nat → Nat} {vh vw vp : Nat → Int} (hP : PV h nv vA vh vw vp) (hz : 70 ≤ sz h) (k : Ke F A FR AQ h h2) (hF : ∀ f ∈ [300, 301, 302], f ∉ F) (hQ : 11 ∉ AQ) : PV h2 nv vA vh vw vp := fun i hi => by
  obtain ⟨⟨f1, f2, f3, f4, f5, f6, f7⟩, f8⟩ := hP i hi
  have k6 := k.2.2.2.2.2
  exact ⟨⟨by rw [k.2.2.2.1 _ hQ (by omega)]; exact f1, f2, by omega, (k.2.2.2.2.1 _ f3).trans f4, (k.1 _ _ (hF 300 (by decide)) f3).trans f5, (k.1 _ _ (hF 301 (by decide)) f3).trans f6, (k.1 _ _ (hF 302 (by decide)) f3).trans f7⟩, f8⟩
theorem swt_b {ct : Nat → Nat → Int} {S : Nat → Int} {T i j : Nat} (hv : T.testBit i = false → 0 ≤ S (T ||| 2 ^ i)) : 0 ≤ swt ct S T i j ∧ swt ct S T i j ≤ 1000000 := by
  unfold swt
  by_cases w : T.testBit i = true ∨ ct i j < 0
  · rw [if_pos w]; omega
  · rw [if_neg w]
    have w1 : T.testBit i = false := by cases hb : T.testBit i with
      | true => exact absurd (Or.inl hb) w
      | false => rfl
    have w2 : ¬ ct i j < 0 := fun z => w (Or.inr z)
    have := hv w1
    by_cases q : ct i j + S (T ||| 2 ^ i) < 1000000
    · rw [if_pos q]; omega
    · rw [if_neg q]; omega
theorem lsb_b {ct : Nat → Nat → Int} {S : Nat → Int} {T j : Nat} : ∀ n : Nat, (∀ i, i < n → T.testBit i = false → 0 ≤ S (T ||| 2 ^ i)) → 0 ≤ lsb ct S T j n ∧ lsb ct S T j n ≤ 1000000 := by
  intro n
  induction n with
  | zero => intro _; simp only [lsb]; omega
  | succ n ih =>
    intro hv
    have a1 := ih (fun i hi => hv i (by omega))
    have a2 := swt_b (ct := ct) (j := j) (hv n (by omega))
    simp only [lsb]
    by_cases q : swt ct S T n j < lsb ct S T j n
    · rw [if_pos q]; omega
    · rw [if_neg q]; omega
def bsm (ct : Nat → Nat → Int) (nf nv : Nat) : Nat → Nat → Int
  | 0, _ => 0
  | e + 1, T => lsb ct (bsm ct nf nv e) T (nv - (e + 1)) nf
theorem bsm_b (ct : Nat → Nat → Int) (nf nv : Nat) : ∀ e T : Nat, 0 ≤ bsm ct nf nv e T ∧ bsm ct nf nv e T ≤ 1000000 := by
  intro e
  induction e with
  | zero => intro T; simp only [bsm]; omega
  | succ e ih => intro T; exact lsb_b nf (fun i _ _ => (ih _).1)
theorem L_lsb {N : Nat} {h : Hs} (hS : Sk h) {nf nv : Nat} {fA vA : Nat → Nat} {fh fw fp vh vw vp : Nat → Int} (hf : nf ≤ 12) (g4 : gI h 604 9 = iI nf) (pF : PF h nf fA fh fw fp) (pV : PV h nv vA vh vw vp) {T j : Nat} (hT : T < 2 ^ nf) (hj : j < nv) {S : Nat → Int} (hv : ∀ i, i < nf → T.testBit i = false → aI h 13 (T ||| 2 ^ i) = iI (S (T ||| 2 ^ i)) ∧ 0 ≤ S (T ||| 2 ^ i) ∧ S (T ||| 2 ^ i) ≤ 1000000) : ∀ (e i fu : Nat), i + e = nf → e < fu → fX6_leastSumBehind_b6 N 9 fu h (iI T) (some (vA j)) (iI (lsb (ctf fh fw fp vh vw vp) S T j i)) (iI i) = some (iI (lsb (ctf fh fw fp vh vw vp) S T j nf), h) := by
  have o4 : oI 6 4 h (some 9) = some (iI nf) := oIv (by rw [ss_9 hS]) g4
  intro e
  induction e with
  | zero =>
    intro i fu hi hfu
    obtain ⟨fu, rfl⟩ : ∃ m, fu = m + 1 := ⟨fu - 1, by omega⟩
    have ei : i = nf := by omega
    subst ei
    show fX6_leastSumBehind_b6_body N (fX6_leastSumBehind_b6 N 9 fu) 9 h (iI T) (some (vA j)) (iI (lsb (ctf fh fw fp vh vw vp) S T j i)) (iI i) = _
    have a1 : iI (i : Int) ≤ iI (i : Int) := (iI_le (by omega) (by omega) (by omega) (by omega)).mpr (by omega)
    simp only [fX6_leastSumBehind_b6_body]
    refine bst (o4) ?_
    refine ifp (a1) ?_
    rfl
  | succ e ih =>
    intro i fu hi hfu
    obtain ⟨fu, rfl⟩ : ∃ m, fu = m + 1 := ⟨fu - 1, by omega⟩
    have hil : i < nf := by omega
    have sw := v_swt (N := N) hS hf pF pV hT hil hj (hv i hil)
    have q := ih (i + 1) fu (by omega) (by omega)
    show fX6_leastSumBehind_b6_body N (fX6_leastSumBehind_b6 N 9 fu) 9 h (iI T) (some (vA j)) (iI (lsb (ctf fh fw fp vh vw vp) S T j i)) (iI i) = _
    have a1 : ¬ iI (nf : Int) ≤ iI (i : Int) := fun z => by have := (iI_le (by omega) (by omega) (by omega) (by omega)).mp z; omega
    have b1 := swt_b (ct := ctf fh fw fp vh vw vp) (j := j) (fun z => (hv i hil z).2.1)
    have b2 := lsb_b (ct := ctf fh fw fp vh vw vp) (S := S) (T := T) (j := j) i (fun k hk z => (hv k (by omega) z).2.1)
    have lm : iI (swt (ctf fh fw fp vh vw vp) S T i j) < iI (lsb (ctf fh fw fp vh vw vp) S T j i) ↔ swt (ctf fh fw fp vh vw vp) S T i j < lsb (ctf fh fw fp vh vw vp) S T j i := iI_lt (by omega) (by omega) (by omega) (by omega)
    rw [← q]
    simp only [fX6_leastSumBehind_b6_body, lit, iI_add, Option.bind_some, lsb, Int.natCast_add, Int.natCast_one]
    refine bst (o4) ?_
    refine ifn (a1) ?_
    refine bst (rcv (by rw [ss_9 hS])) ?_
    refine bst (sw) ?_
    skip
    by_cases m : swt (ctf fh fw fp vh vw vp) S T i j < lsb (ctf fh fw fp vh vw vp) S T j i
    · rw [if_pos m, if_pos (lm.mpr m)]
    · rw [if_neg m, if_neg (fun z => m (lm.mp z))]
theorem L_sum {N : Nat} (hN : 100000000 ≤ N) {h0 : Hs} (hS0 : Sk h0) (hz : 70 ≤ sz h0) {nf nv : Nat} {fA vA : Nat → Nat} {fh fw fp vh vw vp : Nat → Int} (hf : nf ≤ 12) (hnv : nv ≤ 6) (g4 : gI h0 604 9 = iI nf) (g5 : gI h0 605 9 = iI nv) (pF : PF h0 nf fA fh fw fp) (pV : PV h0 nv vA vh vw vp) : ∀ (k fu : Nat) (h : Hs), k ≤ 2 ^ nf → k < fu → Ke [] [13] [] [] h0 h → sz h = sz h0 → (∀ W, k ≤ W → W < 2 ^ nf → pcn 12 W ≤ nv → aI h 13 W = iI (bsm (ctf fh fw fp vh vw vp) nf nv (nv - pcn 12 W) W)) → ∃ h', fX6_leastSum_b9 N 9 fu h (iI ((k : Int) - 1)) = some (iI (bsm (ctf fh fw fp vh vw vp) nf nv nv 0), h') ∧ Ke [] [13] [] [] h0 h' ∧ sz h' = sz h0 ∧ (∀ W, W < 2 ^ nf → pcn 12 W ≤ nv → aI h' 13 W = iI (bsm (ctf fh fw fp vh vw vp) nf nv (nv - pcn 12 W) W)) := by
  have hp := p12 hf
  have hp0 : 0 < 2 ^ nf := Nat.pow_pos (by omega)
  intro k
  induction k with
  | zero =>
    intro fu h hk hfu ke s hv
    obtain ⟨fu, rfl⟩ : ∃ m, fu = m + 1 := ⟨fu - 1, by omega⟩
    have hS := hS0.e hz ke (by decide)
    have v0 := hv 0 (by omega) hp0 (by show 0 ≤ nv; omega)
    have lv := lAv (ss_13 hS) (show 0 < 4096 by omega) (by omega) v0
    refine ⟨h, ?_, ke, s, fun W h1 h2 => hv W (by omega) h1 h2⟩
    show fX6_leastSum_b9_body N (fX6_leastSum_b9 N 9 fu) 9 h (iI (((0 : Nat) : Int) - 1)) = _
    have a1 : iI (((0 : Nat) : Int) - 1) < iI 0 := by decide
    simp only [fX6_leastSum_b9_body, lit]
    refine ifp (a1) ?_
    refine bst (sR_603_9 hS) ?_
    refine bst (lv) ?_
    rfl
  | succ k ih =>
    intro fu h hk hfu ke s hv
    obtain ⟨fu, rfl⟩ : ∃ m, fu = m + 1 := ⟨fu - 1, by omega⟩
    have hS := hS0.e hz ke (by decide)
    have ek : (((k + 1 : Nat) : Int) - 1) = (k : Int) := by omega
    rw [ek]
    have hkl : k < 2 ^ nf := by omega
    have bc := v_bcn (N := N) (h := h) (T := k) (by omega)
    have o5 : oI 6 5 h (some 9) = some (iI nv) := oIv (by rw [ss_9 hS]) ((ke.1 605 9 (by decide) (by omega)).trans g5)
    have a1 : ¬ iI (k : Int) < iI 0 := fun z => by have := (iI_lt (by omega) (by omega) (by omega) (by omega)).mp z; omega
    have pb : pcn 12 k ≤ 12 := by simp only [pcn]; omega
    have pe : iI (pcn 12 k : Int) = iI (nv : Int) ↔ pcn 12 k = nv := (iI_eq (by omega) (by omega) (by omega) (by omega)).trans (by omega)
    have pl : iI (nv : Int) ≤ iI (pcn 12 k : Int) ↔ nv ≤ pcn 12 k := (iI_le (by omega) (by omega) (by omega) (by omega)).trans (by omega)
    have stp : ∀ v : Int, (pcn 12 k ≤ nv → v = bsm (ctf fh fw fp vh vw vp) nf nv (nv - pcn 12 k) k) → ∃ h', fX6_leastSum_b9 N 9 fu (uA h 13 k (iI v)) (iI ((k : Int) - 1)) = some (iI (bsm (ctf fh fw fp vh vw vp) nf nv nv 0), h') ∧ Ke [] [13] [] [] h0 h' ∧ sz h' = sz h0 ∧ (∀ W, W < 2 ^ nf → pcn 12 W ≤ nv → aI h' 13 W = iI (bsm (ctf fh fw fp vh vw vp) nf nv (nv - pcn 12 W) W)) := by
      intro v hvv
      refine ih fu (uA h 13 k (iI v)) (by omega) (by omega) (ke.b 13 k _ (by decide)) s (fun W h1 h2 h3 => ?_)
      by_cases w : W = k
      · subst w
        rw [← hvv h3]
        simp [HR]
      · have := hv W (by omega) h2 h3
        simp [HR, w, this]
    have un : fX6_leastSum_b9 N 9 (fu + 1) h (iI k) = fX6_leastSum_b9_body N (fX6_leastSum_b9 N 9 fu) 9 h (iI k) := rfl
    rw [un]
    have st13 : ∀ v, sA h (some 13) (iI (k : Int)) v = some (uA h 13 k v) := fun v => sAv (ss_13 hS) (show k < 4096 by omega) (by omega)
    have em : iI (k : Int) + iI (-1) = iI ((k : Int) - 1) := by rw [iI_add]; rfl
    simp only [fX6_leastSum_b9_body, fX6_leastSum_b61, lit, iI_neg, em, Option.bind_some]
    by_cases w1 : pcn 12 k = nv
    · obtain ⟨h', q1, q2⟩ := stp 0 (fun _ => by rw [w1, Nat.sub_self]; rfl)
      refine ⟨h', ?_, q2⟩
      refine ifn (a1) ?_
      refine bst (bc) ?_
      refine bst (o5) ?_
      refine ifp (pe.mpr w1) ?_
      refine bst (sR_603_9 hS) ?_
      refine bst (st13 _) ?_
      exact q1
    · by_cases w2 : nv ≤ pcn 12 k
      · obtain ⟨h', q1, q2⟩ := ih fu h (by omega) (by omega) ke s (fun W h1 h2 h3 => by
          by_cases w : W = k
          · subst w; omega
          · exact hv W (by omega) h2 h3)
        refine ⟨h', ?_, q2⟩
        refine ifn (a1) ?_
        refine bst (bc) ?_
        refine bst (o5) ?_
        refine ifn (fun z => w1 (pe.mp z)) ?_
        refine bst (o5) ?_
        refine ifp (pl.mpr w2) ?_
        exact q1
      · have pV1 := pV.e hz ke (by decide) (by decide)
        have pF1 := pF.e hz ke (by decide) (by decide)
        have hj : pcn 12 k < nv := by omega
        obtain ⟨e, he⟩ : ∃ e, nv - pcn 12 k = e + 1 := ⟨nv - pcn 12 k - 1, by omega⟩
        have ll := L_lsb (N := N) hS hf ((ke.1 604 9 (by decide) (by omega)).trans g4) pF1 pV1 hkl hj (S := bsm (ctf fh fw fp vh vw vp) nf nv e) (fun i hi hb => by
          obtain ⟨-, s2⟩ := set_f (i := i) (T := k) (by omega) (by omega)
          obtain ⟨s3, s4⟩ := s2 hb
          have bb := bsm_b (ctf fh fw fp vh vw vp) nf nv e (k ||| 2 ^ i)
          have := hv (k ||| 2 ^ i) (by omega) (or_lt hi hkl) (by omega)
          rw [s4, show nv - (pcn 12 k + 1) = e by omega] at this
          exact ⟨this, bb⟩) nf 0 N (by omega) (by omega)
        have jj : nv - (e + 1) = pcn 12 k := by omega
        obtain ⟨h', q1, q2⟩ := stp (lsb (ctf fh fw fp vh vw vp) (bsm (ctf fh fw fp vh vw vp) nf nv e) k (pcn 12 k) nf) (fun _ => by rw [he]; simp only [bsm]; rw [jj])
        refine ⟨h', ?_, q2⟩
        have lw := lQv (t := 26) (ss_11 hS) (show pcn 12 k < 6 by omega) (by omega) (pV1 (pcn 12 k) hj).1.1
        have l2 : fX6_leastSumBehind N h 9 (iI k) (some (vA (pcn 12 k))) = some (iI (lsb (ctf fh fw fp vh vw vp) (bsm (ctf fh fw fp vh vw vp) nf nv e) k (pcn 12 k) nf), h) := by
          simp only [fX6_leastSumBehind, lit]
          exact ll
        refine ifn (a1) ?_
        refine bst (bc) ?_
        refine bst (o5) ?_
        refine ifn (fun z => w1 (pe.mp z)) ?_
        refine bst (o5) ?_
        refine ifn (fun z => w2 (pl.mp z)) ?_
        refine bst (sR_603_9 hS) ?_
        refine bst (sR_601_9 hS) ?_
        refine bst (lw) ?_
        refine bst (rcv (by rw [ss_9 hS])) ?_
        refine bst (l2) ?_
        refine bst (st13 _) ?_
        exact q1
theorem v_lsum {N : Nat} (hN : 100000000 ≤ N) {h : Hs} (hS : Sk h) (hz : 70 ≤ sz h) {nf nv : Nat} {fA vA : Nat → Nat} {fh fw fp vh vw vp : Nat → Int} (hf : nf ≤ 12) (hnv : nv ≤ 6) (g4 : gI h 604 9 = iI nf) (g5 : gI h 605 9 = iI nv) (pF : PF h nf fA fh fw fp) (pV : PV h nv vA vh vw vp) : ∃ h', fX6_leastSum N h 9 = some (iI (bsm (ctf fh fw fp vh vw vp) nf nv nv 0), h') ∧ Ke [] [13] [] [] h h' ∧ sz h' = sz h ∧ (∀ W, W < 2 ^ nf → pcn 12 W ≤ nv → aI h' 13 W = iI (bsm (ctf fh fw fp vh vw vp) nf nv (nv - pcn 12 W) W)) := by
  have hp := p12 hf
  obtain ⟨h', q1, q2⟩ := L_sum (N := N) hN hS hz hf hnv g4 g5 pF pV (2 ^ nf) N h (by omega) (by omega) Ke_rf rfl (fun W h1 h2 => by omega)
  refine ⟨h', ?_, q2⟩
  have o4 : oI 6 4 h (some 9) = some (iI nf) := oIv (by rw [ss_9 hS]) g4
  have es : iI 1 <<< (iI (nf : Int) &&& iI 31) = iI ((2 ^ nf : Nat) : Int) := by
    by_cases w : nf < 12
    · exact sh_f w
    · have : nf = 12 := by omega
      subst this
      decide
  simp only [fX6_leastSum, lit, Option.bind_some]
  refine bst (o4) ?_
  skip
  rw [es, iI_sub]
  exact q1
/-! ===== paint: the class gives ===== -/
def gfl (ct : Nat → Nat → Int) (S : Nat → Int) (T j : Nat) (v : Int) : Nat → Nat → Nat
  | 0, i => i
  | e + 1, i => if swt ct S T i j = v then i else gfl ct S T j v e (i + 1)
theorem gfl_p {ct : Nat → Nat → Int} {S : Nat → Int} {T j : Nat} {v : Int} : ∀ (e i f : Nat), i ≤ f → f ≤ i + e → swt ct S T f j = v → swt ct S T (gfl ct S T j v e i) j = v ∧ i ≤ gfl ct S T j v e i ∧ gfl ct S T j v e i ≤ i + e ∧ ∀ g, i ≤ g → g < gfl ct S T j v e i → swt ct S T g j ≠ v := by
  intro e
  induction e with
  | zero =>
    intro i f h1 h2 h3
    have : f = i := by omega
    subst this
    simp only [gfl]
    exact ⟨h3, by omega, by omega, fun g a b => by omega⟩
  | succ e ih =>
    intro i f h1 h2 h3
    simp only [gfl]
    by_cases w : swt ct S T i j = v
    · rw [if_pos w]
      exact ⟨w, by omega, by omega, fun g a b => by omega⟩
    · rw [if_neg w]
      have ne : f ≠ i := fun z => w (by rw [← z]; exact h3)
      obtain ⟨q1, q2, q3, q4⟩ := ih (i + 1) f (by omega) (by omega) h3
      refine ⟨q1, by omega, by omega, fun g a b => ?_⟩
      by_cases z : g = i
      · rw [z]; exact w
      · exact q4 g (by omega) b
theorem lsb_ex {ct : Nat → Nat → Int} {S : Nat → Int} {T j : Nat} : ∀ n : Nat, lsb ct S T j n < 1000000 → ∃ i, i < n ∧ swt ct S T i j = lsb ct S T j n := by
  intro n
  induction n with
  | zero => intro q; simp only [lsb] at q; omega
  | succ n ih =>
    intro q
    simp only [lsb] at q ⊢
    by_cases w : swt ct S T n j < lsb ct S T j n
    · rw [if_pos w]
      exact ⟨n, by omega, rfl⟩
    · rw [if_neg w] at q ⊢
      obtain ⟨i, h1, h2⟩ := ih q
      exact ⟨i, by omega, h2⟩
theorem swt_in {ct : Nat → Nat → Int} {S : Nat → Int} {T i j : Nat} (q : swt ct S T i j < 1000000) : T.testBit i = false ∧ 0 ≤ ct i j ∧ swt ct S T i j = ct i j + S (T ||| 2 ^ i) := by
  unfold swt at q ⊢
  by_cases w : T.testBit i = true ∨ ct i j < 0
  · rw [if_pos w] at q; omega
  · rw [if_neg w] at q ⊢
    have w1 : T.testBit i = false := by cases hb : T.testBit i with
      | true => exact absurd (Or.inl hb) w
      | false => rfl
    have w2 : ¬ ct i j < 0 := fun z => w (Or.inr z)
    by_cases m : ct i j + S (T ||| 2 ^ i) < 1000000
    · rw [if_pos m]
      exact ⟨w1, by omega, rfl⟩
    · rw [if_neg m] at q; omega
/-- the flat that want nv - (e + 1) gets -/
def gf1 (ct : Nat → Nat → Int) (nf nv e T : Nat) : Nat := gfl ct (bsm ct nf nv e) T (nv - (e + 1)) (bsm ct nf nv (e + 1) T) (nf - 1) 0
def gvs (ct : Nat → Nat → Int) (nf nv : Nat) : Nat → Nat → Nat → Nat
  | 0, _, _ => 0
  | e + 1, T, 0 => gf1 ct nf nv e T
  | e + 1, T, k + 1 => gvs ct nf nv e (T ||| 2 ^ gf1 ct nf nv e T) k
theorem gf1_p {ct : Nat → Nat → Int} {nf nv e T : Nat} (q : bsm ct nf nv (e + 1) T < 1000000) : gf1 ct nf nv e T < nf ∧ T.testBit (gf1 ct nf nv e T) = false ∧ 0 ≤ ct (gf1 ct nf nv e T) (nv - (e + 1)) ∧ bsm ct nf nv (e + 1) T = ct (gf1 ct nf nv e T) (nv - (e + 1)) + bsm ct nf nv e (T ||| 2 ^ gf1 ct nf nv e T) ∧ ∀ g, g < gf1 ct nf nv e T → swt ct (bsm ct nf nv e) T g (nv - (e + 1)) ≠ bsm ct nf nv (e + 1) T := by
  have q' : lsb ct (bsm ct nf nv e) T (nv - (e + 1)) nf < 1000000 := q
  obtain ⟨i, h1, h2⟩ := lsb_ex nf q'
  have h2' : swt ct (bsm ct nf nv e) T i (nv - (e + 1)) = bsm ct nf nv (e + 1) T := h2
  obtain ⟨p1, p2, p3, p4⟩ := gfl_p (nf - 1) 0 i (by omega) (by omega) h2'
  have p1' : swt ct (bsm ct nf nv e) T (gf1 ct nf nv e T) (nv - (e + 1)) = bsm ct nf nv (e + 1) T := p1
  obtain ⟨s1, s2, s3⟩ := swt_in (ct := ct) (S := bsm ct nf nv e) (T := T) (i := gf1 ct nf nv e T) (j := nv - (e + 1)) (by rw [p1']; exact q)
  refine ⟨by have : gf1 ct nf nv e T ≤ 0 + (nf - 1) := p3; omega, s1, s2, by rw [← p1']; exact s3, fun g hg => p4 g (by omega) hg⟩
theorem L_g14 {N : Nat} {h : Hs} (hS : Sk h) {nf nv : Nat} {fA vA : Nat → Nat} {fh fw fp vh vw vp : Nat → Int} (hf : nf ≤ 12) (hnv : nv ≤ 6) (g4 : gI h 604 9 = iI nf) (pF : PF h nf fA fh fw fp) (pV : PV h nv vA vh vw vp) {T j : Nat} (hT : T < 2 ^ nf) (hj : j < nv) {S : Nat → Int} {v : Int} (v0 : 0 ≤ v ∧ v ≤ 1000000) (h13 : aI h 13 T = iI v) (hv : ∀ i, i < nf → T.testBit i = false → aI h 13 (T ||| 2 ^ i) = iI (S (T ||| 2 ^ i)) ∧ 0 ≤ S (T ||| 2 ^ i) ∧ S (T ||| 2 ^ i) ≤ 1000000) (G : Hs → Int32 → Int32 → Option Hs) : ∀ (e i fu : Nat), i + e + 1 = nf → e < fu → fX6_give_b14 N G 9 fu h (iI T) (iI j) (iI i) = fX6_give_b51 N G 9 h (iI T) (iI j) (iI (gfl (ctf fh fw fp vh vw vp) S T j v e i)) := by
  have o4 : oI 6 4 h (some 9) = some (iI nf) := oIv (by rw [ss_9 hS]) g4
  have hp := p12 hf
  intro e
  induction e with
  | zero =>
    intro i fu hi hfu
    obtain ⟨fu, rfl⟩ : ∃ m, fu = m + 1 := ⟨fu - 1, by omega⟩
    show fX6_give_b14_body N G (fX6_give_b14 N G 9 fu) 9 h (iI T) (iI j) (iI i) = _
    have a1 : iI ((nf : Int) - 1) ≤ iI (i : Int) := (iI_le (by omega) (by omega) (by omega) (by omega)).mpr (by omega)
    simp only [fX6_give_b14_body, lit, gfl]
    refine bst o4 ?_
    rw [iI_sub]
    refine ifp (a1) ?_
    rfl
  | succ e ih =>
    intro i fu hi hfu
    obtain ⟨fu, rfl⟩ : ∃ m, fu = m + 1 := ⟨fu - 1, by omega⟩
    show fX6_give_b14_body N G (fX6_give_b14 N G 9 fu) 9 h (iI T) (iI j) (iI i) = _
    have a1 : ¬ iI ((nf : Int) - 1) ≤ iI (i : Int) := fun z => by have := (iI_le (by omega) (by omega) (by omega) (by omega)).mp z; omega
    have hil : i < nf := by omega
    have sw := v_swt (N := N) hS hf pF pV hT hil hj (hv i hil)
    have b1 := swt_b (ct := ctf fh fw fp vh vw vp) (j := j) (fun z => (hv i hil z).2.1)
    have lq := lQv (t := 26) (ss_11 hS) (show j < 6 by omega) (by omega) (pV j hj).1.1
    have lv := lAv (ss_13 hS) (show T < 4096 by omega) (by omega) h13
    have le : iI (swt (ctf fh fw fp vh vw vp) S T i j) = iI v ↔ swt (ctf fh fw fp vh vw vp) S T i j = v := iI_eq (by omega) (by omega) (by omega) (by omega)
    have q := ih (i + 1) fu (by omega) (by omega)
    simp only [Int.natCast_add, Int.natCast_one] at q
    simp only [fX6_give_b14_body, lit, iI_add, Option.bind_some, gfl]
    refine bst o4 ?_
    rw [iI_sub]
    by_cases m : swt (ctf fh fw fp vh vw vp) S T i j = v
    · rw [if_pos m]
      refine ifn (a1) ?_
      refine bst (sR_601_9 hS) ?_
      refine bst (lq) ?_
      refine bst (rcv (by rw [ss_9 hS])) ?_
      refine bst (sw) ?_
      refine bst (sR_603_9 hS) ?_
      refine bst (lv) ?_
      refine ifp (le.mpr m) ?_
      rfl
    · rw [if_neg m]
      refine ifn (a1) ?_
      refine bst (sR_601_9 hS) ?_
      refine bst (lq) ?_
      refine bst (rcv (by rw [ss_9 hS])) ?_
      refine bst (sw) ?_
      refine bst (sR_603_9 hS) ?_
      refine bst (lv) ?_
      refine ifn (fun z => m (le.mp z)) ?_
      exact q
theorem L_give {N : Nat} (hN : 100000000 ≤ N) {h0 : Hs} (hS0 : Sk h0) (hz : 70 ≤ sz h0) {nf nv : Nat} {fA vA : Nat → Nat} {fh fw fp vh vw vp : Nat → Int} (hf : nf ≤ 12) (hnv : nv ≤ 6) (g4 : gI h0 604 9 = iI nf) (g5 : gI h0 605 9 = iI nv) (pF : PF h0 nf fA fh fw fp) (pV : PV h0 nv vA vh vw vp) (hsm : ∀ W, W < 2 ^ nf → pcn 12 W ≤ nv → aI h0 13 W = iI (bsm (ctf fh fw fp vh vw vp) nf nv (nv - pcn 12 W) W)) : ∀ (e j T fu : Nat) (h : Hs), j + e = nv → e < fu → T < 2 ^ nf → pcn 12 T = j → bsm (ctf fh fw fp vh vw vp) nf nv e T < 1000000 → Ke [606] [12] [] [] h0 h → sz h = sz h0 → ∃ h', fX6_give_b4 N 9 fu h (iI T) (iI j) = some h' ∧ Ke [606] [12] [] [] h0 h' ∧ sz h' = sz h0 ∧ gI h' 606 9 = iI nv ∧ (∀ k, k < e → aI h' 12 (j + k) = iI (gvs (ctf fh fw fp vh vw vp) nf nv e T k)) ∧ (∀ k, k < j → aI h' 12 k = aI h 12 k) := by
  have hp := p12 hf
  intro e
  induction e with
  | zero =>
    intro j T fu h hj hfu hT hpc hb ke s
    obtain ⟨fu, rfl⟩ : ∃ m, fu = m + 1 := ⟨fu - 1, by omega⟩
    have hS := hS0.e hz ke (by decide)
    have o5 : oI 6 5 h (some 9) = some (iI nv) := oIv (by rw [ss_9 hS]) ((ke.1 605 9 (by decide) (by omega)).trans g5)
    have a1 : iI (nv : Int) ≤ iI (j : Int) := (iI_le (by omega) (by omega) (by omega) (by omega)).mpr (by omega)
    refine ⟨uI h 606 9 (iI nv), ?_, ke.u 606 9 _ (by decide), s, by simp [HR], fun k hk => by omega, fun k hk => rfl⟩
    show fX6_give_b4_body N (fX6_give_b4 N 9 fu) 9 h (iI T) (iI j) = _
    have zq : qI 6 6 h (some 9) (iI nv) = some (uI h 606 9 (iI nv)) := qIv (by rw [ss_9 hS])
    simp only [fX6_give_b4_body]
    refine bst (o5) ?_
    refine ifp (a1) ?_
    refine bst (o5) ?_
    refine bst (zq) ?_
    rfl
  | succ e ih =>
    intro j T fu h hj hfu hT hpc hb ke s
    obtain ⟨fu, rfl⟩ : ∃ m, fu = m + 1 := ⟨fu - 1, by omega⟩
    have hS := hS0.e hz ke (by decide)
    have o5 : oI 6 5 h (some 9) = some (iI nv) := oIv (by rw [ss_9 hS]) ((ke.1 605 9 (by decide) (by omega)).trans g5)
    have a1 : ¬ iI (nv : Int) ≤ iI (j : Int) := fun z => by have := (iI_le (by omega) (by omega) (by omega) (by omega)).mp z; omega
    have jj : nv - (e + 1) = j := by omega
    have bb := bsm_b (ctf fh fw fp vh vw vp) nf nv (e + 1) T
    obtain ⟨p1, p2, p3, p4, p5⟩ := gf1_p hb
    have h13 : aI h 13 T = iI (bsm (ctf fh fw fp vh vw vp) nf nv (e + 1) T) := by
      rw [ke.2.1 13 (by decide) (by omega), hsm T hT (by omega), show nv - pcn 12 T = e + 1 by omega]
    have q14 := L_g14 (N := N) hS hf hnv ((ke.1 604 9 (by decide) (by omega)).trans g4) (pF.e hz ke (by decide) (by decide)) (pV.e hz ke (by decide) (by decide)) hT (show j < nv by omega) (S := bsm (ctf fh fw fp vh vw vp) nf nv e) bb h13 (fun i hi hb => by
      obtain ⟨-, s2⟩ := set_f (i := i) (T := T) (by omega) (by omega)
      obtain ⟨s3, s4⟩ := s2 hb
      have b3 := bsm_b (ctf fh fw fp vh vw vp) nf nv e (T ||| 2 ^ i)
      refine ⟨?_, b3⟩
      rw [ke.2.1 13 (by decide) (by omega), hsm (T ||| 2 ^ i) (or_lt hi hT) (by omega), s4, show nv - (pcn 12 T + 1) = e by omega]) (fX6_give_b4 N 9 fu) (nf - 1) 0 N (by omega) (by omega)
    have eg : gfl (ctf fh fw fp vh vw vp) (bsm (ctf fh fw fp vh vw vp) nf nv e) T j (bsm (ctf fh fw fp vh vw vp) nf nv (e + 1) T) (nf - 1) 0 = gf1 (ctf fh fw fp vh vw vp) nf nv e T := by unfold gf1; rw [jj]
    rw [eg] at q14
    have e2 : ∀ k, gvs (ctf fh fw fp vh vw vp) nf nv (e + 1) T (k + 1) = gvs (ctf fh fw fp vh vw vp) nf nv e (T ||| 2 ^ gf1 (ctf fh fw fp vh vw vp) nf nv e T) k := fun k => rfl
    have e0 : gvs (ctf fh fw fp vh vw vp) nf nv (e + 1) T 0 = gf1 (ctf fh fw fp vh vw vp) nf nv e T := rfl
    have b4 := bsm_b (ctf fh fw fp vh vw vp) nf nv e (T ||| 2 ^ gf1 (ctf fh fw fp vh vw vp) nf nv e T)
    generalize gf1 (ctf fh fw fp vh vw vp) nf nv e T = f at *
    obtain ⟨-, s2⟩ := set_f (i := f) (T := T) (by omega) (by omega)
    obtain ⟨s3, s4⟩ := s2 p2
    obtain ⟨h', r1, r2, r3, r4, r5, r6⟩ := ih (j + 1) (T ||| 2 ^ f) fu (uA h 12 j (iI f)) (by omega) (by omega) (or_lt p1 hT) (by omega) (by omega) (ke.b 12 j _ (by decide)) s
    refine ⟨h', ?_, r2, r3, r4, fun k hk => ?_, fun k hk => ?_⟩
    · show fX6_give_b4_body N (fX6_give_b4 N 9 fu) 9 h (iI T) (iI j) = _
      simp only [fX6_give_b4_body]
      refine bst o5 (ifn a1 ?_)
      refine q14.trans ?_
      have st : sA h (some 12) (iI (j : Int)) (iI (f : Int)) = some (uA h 12 j (iI f)) := sAv (ss_12 hS) (show j < 6 by omega) (by omega)
      have eo : iI (T : Int) ||| (iI 1 <<< (iI (f : Int) &&& iI 31)) = iI ((T ||| 2 ^ f : Nat) : Int) := by
        rw [sh_f (by omega), iI_or (by omega) (by have := Nat.pow_lt_pow_right (a := 2) (by omega) p1; omega)]
      simp only [Int.natCast_add, Int.natCast_one] at r1
      simp only [fX6_give_b51, lit, iI_add, Option.bind_some, eo]
      refine bst (sR_602_9 hS) ?_
      refine bst (st) ?_
      exact r1
    · cases k with
      | zero =>
        have := r6 j (by omega)
        rw [Nat.add_zero, this, e0]
        simp [HR]
      | succ k =>
        have := r5 k (by omega)
        rw [e2, ← this]
        congr 1
        omega
    · rw [r6 k (by omega)]
      have : k ≠ j := by omega
      simp [HR, this]
/-! ===== paint: the class's answer; the reference's costs ===== -/
theorem v_paintC {N : Nat} (hN : 100000000 ≤ N) {h : Hs} (hS : Sk h) (hz : 70 ≤ sz h) {nf nv : Nat} {fA vA : Nat → Nat} {fh fw fp vh vw vp : Nat → Int} (hf : nf ≤ 12) (hnv : nv ≤ 6) (g4 : gI h 604 9 = iI nf) (g5 : gI h 605 9 = iI nv) (pF : PF h nf fA fh fw fp) (pV : PV h nv vA vh vw vp) : ∃ h1, fX11_paint N h 0 = some (iI (if nv = 0 ∨ 1000000 ≤ bsm (ctf fh fw fp vh vw vp) nf nv nv 0 then -2 else bsm (ctf fh fw fp vh vw vp) nf nv nv 0), h1) ∧ Ke [605, 606] [12, 13] [] [] h h1 ∧ sz h1 = sz h ∧ gI h1 605 9 = iI 0 ∧ (nv = 0 ∨ 1000000 ≤ bsm (ctf fh fw fp vh vw vp) nf nv nv 0 → gI h1 606 9 = gI h 606 9 ∧ ∀ k, aI h1 12 k = aI h 12 k) ∧ (¬ (nv = 0 ∨ 1000000 ≤ bsm (ctf fh fw fp vh vw vp) nf nv nv 0) → gI h1 606 9 = iI nv ∧ ∀ k, k < nv → aI h1 12 k = iI (gvs (ctf fh fw fp vh vw vp) nf nv nv 0 k)) := by
  have o5 : oI 6 5 h (some 9) = some (iI nv) := oIv (by rw [ss_9 hS]) g5
  have out : ∀ (a : Int) (h1 : Hs), fX6_leastPainting N h 9 = some (iI a, h1) → fX11_paint N h 0 = some (iI a, h1) := fun a h1 e => by
    simp only [fX11_paint]
    refine bst (sR_1105_0 hS) ?_
    refine bst (rcv (by rw [ss_9 hS])) ?_
    refine bst (e) ?_
    rfl
  have zq : ∀ hx : Hs, Sk hx → qI 6 5 hx (some 9) (iI 0) = some (uI hx 605 9 (iI 0)) := fun hx sx => qIv (by rw [ss_9 sx])
  have m0 : iI 1000000 ≤ iI 1000000 := by decide
  by_cases w : nv = 0
  · subst w
    rw [if_pos (Or.inl rfl)]
    refine ⟨uI h 605 9 (iI 0), out _ _ ?_, Ke_rf.u 605 9 _ (by decide), rfl, by simp [HR], fun _ => ⟨by simp [HR], fun k => rfl⟩, fun z => absurd (Or.inl rfl) z⟩
    simp only [fX6_leastPainting, fX6_leastPainting_b16, fX6_leastPainting_b27, fX6_leastPainting_b44, lit, iI_neg]
    refine bst (o5) ?_
    refine ifp (rfl) ?_
    refine ifp (m0) ?_
    refine bst (zq h hS) ?_
    refine ifp (m0) ?_
    rfl
  · obtain ⟨h2, e2, ke2, s2, sm⟩ := v_lsum (N := N) hN hS hz hf hnv g4 g5 pF pV
    have hS2 := hS.e hz ke2 (by decide)
    have n0 : ¬ iI (nv : Int) = iI 0 := fun z => by have := (iI_eq (by omega) (by omega) (by omega) (by omega)).mp z; omega
    have bb := bsm_b (ctf fh fw fp vh vw vp) nf nv nv 0
    have gg : bsm (ctf fh fw fp vh vw vp) nf nv nv 0 < 1000000 → ∃ h', fX6_give_b4 N 9 N h2 (iI ((0 : Nat) : Int)) (iI ((0 : Nat) : Int)) = some h' ∧ Ke [606] [12] [] [] h2 h' ∧ sz h' = sz h2 ∧ gI h' 606 9 = iI nv ∧ (∀ k, k < nv → aI h' 12 (0 + k) = iI (gvs (ctf fh fw fp vh vw vp) nf nv nv 0 k)) ∧ (∀ k, k < 0 → aI h' 12 k = aI h2 12 k) := fun q => L_give (N := N) hN hS2 (by omega) hf hnv ((ke2.1 604 9 (by decide) (by omega)).trans g4) ((ke2.1 605 9 (by decide) (by omega)).trans g5) (pF.e hz ke2 (by decide) (by decide)) (pV.e hz ke2 (by decide) (by decide)) sm nv 0 0 N h2 (by omega) (by omega) (Nat.pow_pos (by omega)) rfl q Ke_rf rfl
    generalize bsm (ctf fh fw fp vh vw vp) nf nv nv 0 = v at *
    have lm : iI 1000000 ≤ iI v ↔ 1000000 ≤ v := iI_le (by omega) (by omega) (by omega) (by omega)
    by_cases q : 1000000 ≤ v
    · rw [if_pos (Or.inr q)]
      refine ⟨uI h2 605 9 (iI 0), out _ _ ?_, (ke2.w (by decide) (by decide) (by decide) (by decide)).u 605 9 _ (by decide), s2, by simp [HR], fun _ => ⟨?_, fun k => ?_⟩, fun z => absurd (Or.inr q) z⟩
      · simp only [fX6_leastPainting, fX6_leastPainting_b16, fX6_leastPainting_b27, fX6_leastPainting_b44, lit, iI_neg]
        refine bst (o5) ?_
        refine ifn (n0) ?_
        refine bst (rcv (by rw [ss_9 hS])) ?_
        refine bst (e2) ?_
        refine ifp (lm.mpr q) ?_
        refine bst (zq h2 hS2) ?_
        refine ifp (lm.mpr q) ?_
        rfl
      · have := ke2.1 606 9 (by decide) (by omega)
        simp [HR, this]
      · show aI h2 12 k = aI h 12 k
        rw [ke2.2.1 12 (by decide) (by omega)]
    · have nq : ¬ (nv = 0 ∨ 1000000 ≤ v) := fun z => z.elim w q
      rw [if_neg nq]
      obtain ⟨h3, e3, ke3, s3, x1, x2, -⟩ := gg (by omega)
      have hS3 := hS2.e (by omega) ke3 (by decide)
      refine ⟨uI h3 605 9 (iI 0), out _ _ ?_, ((ke2.w (by decide) (by decide) (by decide) (by decide)).tr (ke3.w (by decide) (by decide) (by decide) (by decide))).u 605 9 _ (by decide), s3.trans s2, by simp [HR], fun z => absurd z nq, fun _ => ⟨?_, fun k hk => ?_⟩⟩
      · have eg : fX6_give N h2 9 = some h3 := by
          simp only [fX6_give, lit]
          exact e3
        simp only [fX6_leastPainting, fX6_leastPainting_b16, fX6_leastPainting_b27, fX6_leastPainting_b44, lit, iI_neg]
        refine bst (o5) ?_
        refine ifn (n0) ?_
        refine bst (rcv (by rw [ss_9 hS])) ?_
        refine bst (e2) ?_
        refine ifn (fun z => q (lm.mp z)) ?_
        refine bst (rcv (by rw [ss_9 hS2])) ?_
        refine bst (eg) ?_
        refine bst (zq h3 hS3) ?_
        refine ifn (fun z => q (lm.mp z)) ?_
        rfl
      · simp [HR, x1]
      · have := x2 k hk
        rw [Nat.zero_add] at this
        exact this
def QF (h : Hs) (a1 a2 n : Nat) (ht wd pt : Nat → Int) : Prop := ∀ i, i < n → aI h a1 i = iI (100 * ht i + wd i) ∧ aI h a2 i = iI (pt i) ∧ 1 ≤ ht i ∧ ht i ≤ 99 ∧ 1 ≤ wd i ∧ wd i ≤ 99 ∧ 0 ≤ pt i ∧ pt i ≤ 9
theorem QF.e {F A FR AQ : List Nat} {h h2 : Hs} {a1 a2 n : Nat} {ht wd pt : Nat → Int} (hQ : QF h a1 a2 n ht wd pt) (hz : 70 ≤ sz h) (k : Ke F A FR AQ h h2) (b1 : a1 < 70) (b2 : a2 < 70) (c1 : a1 ∉ A) (c2 : a2 ∉ A) : QF h2 a1 a2 n ht wd pt := fun i hi => by
  obtain ⟨q1, q2, q3⟩ := hQ i hi
  exact ⟨by rw [k.2.1 _ c1 (by omega)]; exact q1, by rw [k.2.1 _ c2 (by omega)]; exact q2, q3⟩
theorem pan_d {a b : Int} (h1 : 1 ≤ a ∧ a ≤ 99) (h2 : 1 ≤ b ∧ b ≤ 99) : iI (100 * a + b) / iI 100 = iI a ∧ iI (100 * a + b) - iI a * iI 100 = iI b := by
  have e1 := iI_dv (a := 100 * a + b) (b := 100) (by omega) (by omega) (by omega) (by omega)
  have e2 : (100 * a + b).tdiv 100 = a := by
    rw [Int.tdiv_eq_ediv_of_nonneg (by omega)]
    omega
  refine ⟨by rw [e1, e2], ?_⟩
  rw [iI_mul, iI_sub]
  congr 1
  omega
theorem v_area2 {N : Nat} {h : Hs} {a b : Int} (h1 : 1 ≤ a ∧ a ≤ 99) (h2 : 1 ≤ b ∧ b ≤ 99) : fX12_area N h (iI (100 * a + b)) = some (iI (a * b), h) := by
  obtain ⟨e1, e2⟩ := pan_d h1 h2
  simp only [fX12_area, lit]
  rw [e1, e2, iI_mul]
theorem v_cost {N : Nat} {h : Hs} (hS : Sk h) {nf nv : Nat} {fh fw fp vh vw vp : Nat → Int} (hf : nf ≤ 12) (hnv : nv ≤ 6) (qF : QF h 64 65 nf fh fw fp) (qV : QF h 66 67 nv vh vw vp) {i j : Nat} (hi : i < nf) (hj : j < nv) : fX12_cost N h 29 (iI i) (iI j) = some (iI (ctf fh fw fp vh vw vp i j), h) := by
  obtain ⟨f1, f2, f3, f4, f5, f6, f7, f8⟩ := qF i hi
  obtain ⟨w1, w2, w3, w4, w5, w6, w7, w8⟩ := qV j hj
  have l1 := lAv (ss_64 hS) (show i < 12 by omega) (by omega) f1
  have l2 := lAv (ss_65 hS) (show i < 12 by omega) (by omega) f2
  have l3 := lAv (ss_66 hS) (show j < 6 by omega) (by omega) w1
  have l4 := lAv (ss_67 hS) (show j < 6 by omega) (by omega) w2
  obtain ⟨d1, d2⟩ := pan_d ⟨f3, f4⟩ ⟨f5, f6⟩
  obtain ⟨d3, d4⟩ := pan_d ⟨w3, w4⟩ ⟨w5, w6⟩
  have aF := v_area2 (N := N) (h := h) ⟨f3, f4⟩ ⟨f5, f6⟩
  have aV := v_area2 (N := N) (h := h) ⟨w3, w4⟩ ⟨w5, w6⟩
  have lh : iI (fh i) < iI (vh j) ↔ fh i < vh j := iI_lt (by omega) (by omega) (by omega) (by omega)
  have lw : iI (vw j) ≤ iI (fw i) ↔ vw j ≤ fw i := iI_le (by omega) (by omega) (by omega) (by omega)
  have lp' : iI (fp i) = iI (vp j) ↔ fp i = vp j := iI_eq (by omega) (by omega) (by omega) (by omega)
  simp only [fX12_cost, fX12_cost_b42, fX12_cost_b72, lit, iI_neg]
  unfold ctf
  refine bst (sR_1257_29 hS) (bst l1 (bst (sR_1260_29 hS) (bst l3 ?_)))
  rw [d1, d3]
  by_cases q1 : fh i < vh j
  · have nq : ¬ (vh j ≤ fh i ∧ vw j ≤ fw i) := by omega
    rw [if_neg nq]
    refine ifp (lh.mpr q1) ?_
    rfl
  · refine ifn (fun z => q1 (lh.mp z)) (bst (sR_1257_29 hS) (bst l1 (bst (sR_1260_29 hS) (bst l3 ?_))))
    rw [d1, d3, d2, d4]
    by_cases q2 : vw j ≤ fw i
    · have yq : vh j ≤ fh i ∧ vw j ≤ fw i := by omega
      rw [if_pos yq]
      by_cases q3 : fp i = vp j
      · rw [if_pos q3]
        refine ifp (lw.mpr q2) ?_
        refine bst (sR_1258_29 hS) ?_
        refine bst (l2) ?_
        refine bst (sR_1261_29 hS) ?_
        refine bst (l4) ?_
        refine ifp (lp'.mpr q3) ?_
        refine bst (sR_1257_29 hS) ?_
        refine bst (l1) ?_
        refine bst (aF) ?_
        refine bst (sR_1260_29 hS) ?_
        refine bst (l3) ?_
        refine bst (aV) ?_
        rw [iI_add, iI_sub]
      · rw [if_neg q3]
        refine ifp (lw.mpr q2) ?_
        refine bst (sR_1258_29 hS) ?_
        refine bst (l2) ?_
        refine bst (sR_1261_29 hS) ?_
        refine bst (l4) ?_
        refine ifn (fun z => q3 (lp'.mp z)) ?_
        refine bst (sR_1257_29 hS) ?_
        refine bst (l1) ?_
        refine bst (aF) ?_
        refine bst (sR_1257_29 hS) ?_
        refine bst (l1) ?_
        refine bst (aF) ?_
        refine bst (sR_1260_29 hS) ?_
        refine bst (l3) ?_
        refine bst (aV) ?_
        rw [iI_add, iI_sub]
    · have nq : ¬ (vh j ≤ fh i ∧ vw j ≤ fw i) := by omega
      rw [if_neg nq]
      refine ifn (fun z => q2 (lw.mp z)) ?_
      rfl
/-! ===== paint: the reference's prefix ===== -/
theorem tb_or (T i f : Nat) : (T ||| 2 ^ i).testBit f = (T.testBit f || decide (i = f)) := by
  rw [Nat.testBit_or, Nat.testBit_two_pow]
def mkP (c : Nat → Nat) : Nat → Nat
  | 0 => 0
  | d + 1 => mkP c d ||| 2 ^ c d
theorem mkP_t (c : Nat → Nat) (f : Nat) : ∀ d : Nat, (mkP c d).testBit f = true ↔ ∃ k, k < d ∧ c k = f := by
  intro d
  induction d with
  | zero =>
    simp only [mkP, Nat.zero_testBit]
    exact ⟨(fun z => absurd z (by decide)), (fun ⟨k, hk, _⟩ => by omega)⟩
  | succ d ih =>
    simp only [mkP, tb_or, Bool.or_eq_true, decide_eq_true_eq]
    rw [ih]
    constructor
    · rintro (⟨k, hk, e⟩ | e)
      · exact ⟨k, by omega, e⟩
      · exact ⟨d, by omega, e⟩
    · rintro ⟨k, hk, e⟩
      by_cases w : k = d
      · subst w; exact Or.inr e
      · exact Or.inl ⟨k, by omega, e⟩
theorem mkP_e {c c' : Nat → Nat} : ∀ d : Nat, (∀ k, k < d → c k = c' k) → mkP c d = mkP c' d := by
  intro d
  induction d with
  | zero => intro _; rfl
  | succ d ih => intro q; simp only [mkP]; rw [ih (fun k hk => q k (by omega)), q d (by omega)]
def csP (ct : Nat → Nat → Int) (c : Nat → Nat) : Nat → Int
  | 0 => 0
  | d + 1 => csP ct c d + ct (c d) d
theorem csP_e {ct : Nat → Nat → Int} {c c' : Nat → Nat} : ∀ d : Nat, (∀ k, k < d → c k = c' k) → csP ct c d = csP ct c' d := by
  intro d
  induction d with
  | zero => intro _; rfl
  | succ d ih => intro q; simp only [csP]; rw [ih (fun k hk => q k (by omega)), q d (by omega)]
theorem L_tk {N : Nat} {h : Hs} (hS : Sk h) {c : Nat → Nat} {d : Nat} (hd : d < 6) (hc : ∀ k, k ≤ d → aI h 68 k = iI (c k) ∧ c k < 13) : ∀ (e k fu : Nat), k + e = d → e < fu → (∀ g, g < k → c g ≠ c d) → fX12_isTaken_b2 N 29 fu h (iI d) (iI k) = some (iI (b2 ((mkP c d).testBit (c d))), h) := by
  have ld := lAv (ss_68 hS) (show d < 6 by omega) (by omega) (hc d (by omega)).1
  intro e
  induction e with
  | zero =>
    intro k fu hk hfu hne
    obtain ⟨fu, rfl⟩ : ∃ m, fu = m + 1 := ⟨fu - 1, by omega⟩
    show fX12_isTaken_b2_body N (fX12_isTaken_b2 N 29 fu) 29 h (iI d) (iI k) = _
    have a1 : iI (d : Int) ≤ iI (k : Int) := (iI_le (by omega) (by omega) (by omega) (by omega)).mpr (by omega)
    have nt : (mkP c d).testBit (c d) = false := by
      cases hb : (mkP c d).testBit (c d) with
      | false => rfl
      | true =>
        obtain ⟨g, hg, e⟩ := (mkP_t c (c d) d).mp hb
        exact absurd e (hne g (by omega))
    rw [nt]
    simp only [fX12_isTaken_b2_body, lit]
    refine ifp (a1) ?_
    rfl
  | succ e ih =>
    intro k fu hk hfu hne
    obtain ⟨fu, rfl⟩ : ∃ m, fu = m + 1 := ⟨fu - 1, by omega⟩
    show fX12_isTaken_b2_body N (fX12_isTaken_b2 N 29 fu) 29 h (iI d) (iI k) = _
    have a1 : ¬ iI (d : Int) ≤ iI (k : Int) := fun z => by have := (iI_le (by omega) (by omega) (by omega) (by omega)).mp z; omega
    have lk := lAv (ss_68 hS) (show k < 6 by omega) (by omega) (hc k (by omega)).1
    have ck := (hc k (by omega)).2
    have cd := (hc d (by omega)).2
    have le : iI (c k : Int) = iI (c d : Int) ↔ c k = c d := (iI_eq (by omega) (by omega) (by omega) (by omega)).trans (by omega)
    by_cases w : c k = c d
    · have yt : (mkP c d).testBit (c d) = true := (mkP_t c (c d) d).mpr ⟨k, by omega, w⟩
      rw [yt]
      simp only [fX12_isTaken_b2_body, lit]
      refine ifn (a1) ?_
      refine bst (sR_1262_29 hS) ?_
      refine bst (lk) ?_
      refine bst (sR_1262_29 hS) ?_
      refine bst (ld) ?_
      refine ifp (le.mpr w) ?_
      rfl
    · have q := ih (k + 1) fu (by omega) (by omega) (fun g hg => by
        by_cases z : g = k
        · rw [z]; exact w
        · exact hne g (by omega))
      simp only [Int.natCast_add, Int.natCast_one] at q
      simp only [fX12_isTaken_b2_body, lit, iI_add, Option.bind_some]
      refine ifn (a1) ?_
      refine bst (sR_1262_29 hS) ?_
      refine bst (lk) ?_
      refine bst (sR_1262_29 hS) ?_
      refine bst (ld) ?_
      refine ifn (fun z => w (le.mp z)) ?_
      exact q
theorem L_ct {N : Nat} {h : Hs} (hS : Sk h) {nf nv : Nat} {fh fw fp vh vw vp : Nat → Int} (hf : nf ≤ 12) (hnv : nv ≤ 6) (qF : QF h 64 65 nf fh fw fp) (qV : QF h 66 67 nv vh vw vp) {c : Nat → Nat} {d : Nat} (hd : d ≤ nv) (hc : ∀ k, k < d → aI h 68 k = iI (c k) ∧ c k < nf) : ∀ (e k fu : Nat), k + e = d → e < fu → fX12_costTo_b4 N 29 fu h (iI d) (iI (csP (ctf fh fw fp vh vw vp) c k)) (iI k) = some (iI (csP (ctf fh fw fp vh vw vp) c d), h) := by
  intro e
  induction e with
  | zero =>
    intro k fu hk hfu
    obtain ⟨fu, rfl⟩ : ∃ m, fu = m + 1 := ⟨fu - 1, by omega⟩
    have : k = d := by omega
    subst this
    show fX12_costTo_b4_body N (fX12_costTo_b4 N 29 fu) 29 h (iI k) (iI (csP (ctf fh fw fp vh vw vp) c k)) (iI k) = _
    have a1 : iI (k : Int) ≤ iI (k : Int) := (iI_le (by omega) (by omega) (by omega) (by omega)).mpr (by omega)
    simp only [fX12_costTo_b4_body]
    refine ifp (a1) ?_
    rfl
  | succ e ih =>
    intro k fu hk hfu
    obtain ⟨fu, rfl⟩ : ∃ m, fu = m + 1 := ⟨fu - 1, by omega⟩
    show fX12_costTo_b4_body N (fX12_costTo_b4 N 29 fu) 29 h (iI d) (iI (csP (ctf fh fw fp vh vw vp) c k)) (iI k) = _
    have a1 : ¬ iI (d : Int) ≤ iI (k : Int) := fun z => by have := (iI_le (by omega) (by omega) (by omega) (by omega)).mp z; omega
    obtain ⟨hc1, hc2⟩ := hc k (by omega)
    have lk := lAv (ss_68 hS) (show k < 6 by omega) (by omega) hc1
    have co := v_cost (N := N) hS hf hnv qF qV hc2 (show k < nv by omega)
    have q := ih (k + 1) fu (by omega) (by omega)
    simp only [Int.natCast_add, Int.natCast_one, csP] at q
    simp only [fX12_costTo_b4_body, lit, iI_add, Option.bind_some]
    refine ifn a1 (bst (sR_1262_29 hS) (bst lk (bst (rcv (by rw [ss_29 hS])) (bst co ?_))))
    rw [iI_add]
    exact q
theorem v_tk {N : Nat} (hN : 100000000 ≤ N) {h : Hs} (hS : Sk h) {c : Nat → Nat} {d : Nat} (hd : d < 6) (hc : ∀ k, k ≤ d → aI h 68 k = iI (c k) ∧ c k < 13) : fX12_isTaken N h 29 (iI d) = some (iI (b2 ((mkP c d).testBit (c d))), h) := by
  simp only [fX12_isTaken, lit]
  exact L_tk hS hd hc d 0 N (by omega) (by omega) (fun g hg => by omega)
theorem v_ct {N : Nat} (hN : 100000000 ≤ N) {h : Hs} (hS : Sk h) {nf nv : Nat} {fh fw fp vh vw vp : Nat → Int} (hf : nf ≤ 12) (hnv : nv ≤ 6) (qF : QF h 64 65 nf fh fw fp) (qV : QF h 66 67 nv vh vw vp) {c : Nat → Nat} {d : Nat} (hd : d ≤ nv) (hc : ∀ k, k < d → aI h 68 k = iI (c k) ∧ c k < nf) : fX12_costTo N h 29 (iI d) = some (iI (csP (ctf fh fw fp vh vw vp) c d), h) := by
  simp only [fX12_costTo, lit]
  exact L_ct hS hf hnv qF qV hd hc d 0 N (by omega) (by omega)
/-! ===== paint: the best so far, candidate after candidate ===== -/
def sbt (s : Nat → Int) (P : Int) (gl : Nat → Nat → Nat) (r : Int × (Nat → Nat)) (i : Nat) : Int × (Nat → Nat) := if s i < 1000000 ∧ (r.1 < 0 ∨ P + s i < r.1) then (P + s i, gl i) else r
def fld (s : Nat → Int) (P : Int) (gl : Nat → Nat → Nat) : Nat → Nat → Int × (Nat → Nat) → Int × (Nat → Nat)
  | 0, _, r => r
  | n + 1, i, r => fld s P gl n (i + 1) (sbt s P gl r i)
theorem fld_A {s : Nat → Int} {P : Int} {gl : Nat → Nat → Nat} : ∀ (n i : Nat) (r : Int × (Nat → Nat)), (∀ k, i ≤ k → k < i + n → ¬ (s k < 1000000 ∧ (r.1 < 0 ∨ P + s k < r.1))) → fld s P gl n i r = r := by
  intro n
  induction n with
  | zero => intro i r _; rfl
  | succ n ih =>
    intro i r q
    have e : sbt s P gl r i = r := by unfold sbt; rw [if_neg (q i (by omega) (by omega))]
    simp only [fld, e]
    exact ih (i + 1) r (fun k h1 h2 => q k (by omega) (by omega))
theorem fld_B {s : Nat → Int} {P : Int} {gl : Nat → Nat → Nat} (hP : 0 ≤ P) (hs : ∀ k, 0 ≤ s k) : ∀ (n i f : Nat) (r : Int × (Nat → Nat)), i ≤ f → f < i + n → s f < 1000000 → (r.1 < 0 ∨ P + s f < r.1) → (∀ k, i ≤ k → k < i + n → s f ≤ s k) → (∀ k, i ≤ k → k < f → s k ≠ s f) → fld s P gl n i r = (P + s f, gl f) := by
  intro n
  induction n with
  | zero => intro i f r h1 h2; omega
  | succ n ih =>
    intro i f r h1 h2 h3 h4 h5 h6
    simp only [fld]
    by_cases w : f = i
    · subst w
      have e : sbt s P gl r f = (P + s f, gl f) := by unfold sbt; rw [if_pos ⟨h3, h4⟩]
      rw [e]
      refine fld_A n (f + 1) _ (fun k k1 k2 z => ?_)
      have a1 := h5 k (by omega) (by omega)
      have a2 := hs f
      rcases z.2 with z2 | z2
      · simp only at z2; omega
      · simp only at z2; omega
    · have a1 := h5 i (by omega) (by omega)
      have a2 := h6 i (by omega) (by omega)
      refine ih (i + 1) f _ (by omega) (by omega) h3 ?_ (fun k k1 k2 => h5 k (by omega) (by omega)) (fun k k1 k2 => h6 k (by omega) k2)
      unfold sbt
      by_cases z : s i < 1000000 ∧ (r.1 < 0 ∨ P + s i < r.1)
      · rw [if_pos z]
        right
        show P + s f < P + s i
        omega
      · rw [if_neg z]
        exact h4
theorem lsb_le {ct : Nat → Nat → Int} {S : Nat → Int} {T j : Nat} : ∀ n i : Nat, i < n → lsb ct S T j n ≤ swt ct S T i j := by
  intro n
  induction n with
  | zero => intro i hi; omega
  | succ n ih =>
    intro i hi
    simp only [lsb]
    by_cases w : i = n
    · subst w
      by_cases m : swt ct S T i j < lsb ct S T j i
      · rw [if_pos m]; omega
      · rw [if_neg m]; omega
    · have := ih i (by omega)
      by_cases m : swt ct S T n j < lsb ct S T j n
      · rw [if_pos m]; omega
      · rw [if_neg m]; omega
theorem swt_0 {ct : Nat → Nat → Int} {nf nv e T j : Nat} (k : Nat) : 0 ≤ swt ct (bsm ct nf nv e) T k j := (swt_b (fun _ => (bsm_b ct nf nv e _).1)).1
/-- all candidates of a want -/
theorem fld_all {ct : Nat → Nat → Int} {nf nv e T : Nat} {P : Int} (hP : 0 ≤ P) {gl : Nat → Nat → Nat} (r : Int × (Nat → Nat)) : fld (fun i => swt ct (bsm ct nf nv e) T i (nv - (e + 1))) P gl nf 0 r = if bsm ct nf nv (e + 1) T < 1000000 ∧ (r.1 < 0 ∨ P + bsm ct nf nv (e + 1) T < r.1) then (P + bsm ct nf nv (e + 1) T, gl (gf1 ct nf nv e T)) else r := by
  have le : ∀ k, k < nf → bsm ct nf nv (e + 1) T ≤ swt ct (bsm ct nf nv e) T k (nv - (e + 1)) := fun k hk => lsb_le nf k hk
  by_cases w : bsm ct nf nv (e + 1) T < 1000000 ∧ (r.1 < 0 ∨ P + bsm ct nf nv (e + 1) T < r.1)
  · rw [if_pos w]
    obtain ⟨p1, p2, p3, p4, p5⟩ := gf1_p w.1
    have es : swt ct (bsm ct nf nv e) T (gf1 ct nf nv e T) (nv - (e + 1)) = bsm ct nf nv (e + 1) T := by
      unfold swt
      rw [if_neg (fun z => z.elim (fun z => by rw [p2] at z; cases z) (fun z => by omega)), if_pos (by rw [← p4]; exact w.1), ← p4]
    have := fld_B (s := fun i => swt ct (bsm ct nf nv e) T i (nv - (e + 1))) (gl := gl) hP (fun k => swt_0 k) nf 0 (gf1 ct nf nv e T) r (by omega) (by omega) (by show swt _ _ _ _ _ < _; rw [es]; exact w.1) (by show r.1 < 0 ∨ P + swt _ _ _ _ _ < _; rw [es]; exact w.2) (fun k _ hk => by show swt _ _ _ _ _ ≤ swt _ _ _ _ _; rw [es]; exact le k (by omega)) (fun k _ hk => by show swt _ _ _ _ _ ≠ swt _ _ _ _ _; rw [es]; exact p5 k hk)
    rw [this]
    show (P + swt ct (bsm ct nf nv e) T (gf1 ct nf nv e T) (nv - (e + 1)), _) = _
    rw [es]
  · rw [if_neg w]
    refine fld_A nf 0 r (fun k _ hk z => w ?_)
    have a1 := le k (by omega)
    obtain ⟨z1, z2⟩ := z
    refine ⟨by omega, ?_⟩
    rcases z2 with z2 | z2
    · exact Or.inl z2
    · exact Or.inr (by omega)
/-- what can be served costs little -/
theorem bsm_s {ct : Nat → Nat → Int} {nf nv : Nat} (hc : ∀ i j, i < nf → j < nv → ct i j ≤ 19602) : ∀ e T : Nat, e ≤ nv → bsm ct nf nv e T < 1000000 → bsm ct nf nv e T ≤ 19602 * e := by
  intro e
  induction e with
  | zero => intro T _ _; simp only [bsm]; omega
  | succ e ih =>
    intro T he q
    obtain ⟨p1, p2, p3, p4, p5⟩ := gf1_p q
    have a1 := hc (gf1 ct nf nv e T) (nv - (e + 1)) p1 (by omega)
    have a2 := ih (T ||| 2 ^ gf1 ct nf nv e T) (by omega) (by omega)
    omega
