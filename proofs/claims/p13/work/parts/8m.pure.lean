/-! ===== play ===== -/
def okL (c : Int × Int × Int) : Prop := (c.1 = 115 ∨ c.1 = 116 ∨ c.1 = 117 ∨ c.1 = 119) ∧ (-9999 ≤ c.2.1 ∧ c.2.1 ≤ 9999) ∧ (-9999 ≤ c.2.2 ∧ c.2.2 ≤ 9999)
theorem prs_ok {bt : Nat → Int} {L : Nat} (hL : L ≤ 120) : ∀ (f p ln : Nat) (lc : Nat → Int × Int × Int), 4 * ln ≤ p → p ≤ 120 → (∀ k, k < ln → okL (lc k)) → ((prs (pkf bt L) L f p ln lc).1 = -1 ∨ (0 ≤ (prs (pkf bt L) L f p ln lc).1 ∧ (prs (pkf bt L) L f p ln lc).1 ≤ 200)) ∧ ((prs (pkf bt L) L f p ln lc).1 = -1 → 4 * (prs (pkf bt L) L f p ln lc).2.1 ≤ L) ∧ (∀ k, k < (prs (pkf bt L) L f p ln lc).2.1 → okL ((prs (pkf bt L) L f p ln lc).2.2 k)) := by
  intro f
  induction f with
  | zero =>
    intro p ln lc h4 hp hv
    refine ⟨Or.inr ⟨?_, ?_⟩, fun q => ?_, hv⟩
    · simp only [prs]; omega
    · simp only [prs]; omega
    · simp only [prs] at q; omega
  | succ f ih =>
    intro p ln lc h4 hp hv
    have rb := rdL_b bt L p
    have ep : prs (pkf bt L) L (f + 1) p ln lc = if (rdL (pkf bt L) p).1 then (if (rdL (pkf bt L) p).2.1 < L then prs (pkf bt L) L f (rdL (pkf bt L) p).2.1 (ln + 1) (updO lc ln (rdL (pkf bt L) p).2.2) else (-1, ln + 1, updO lc ln (rdL (pkf bt L) p).2.2)) else (((rdL (pkf bt L) p).2.1 : Int), ln, lc) := rfl
    rw [ep]
    generalize rdL (pkf bt L) p = R at *
    obtain ⟨ok, q, c⟩ := R
    simp only at *
    obtain ⟨rb1, rb2, rb3⟩ := rb
    cases ok with
    | false =>
      rw [if_neg (by decide)]
      exact ⟨Or.inr ⟨by simp only; omega, by simp only; omega⟩, fun z => by simp only at z; omega, hv⟩
    | true =>
      obtain ⟨x1, x2, x3, x4, x5, x6, x7⟩ := rb3 rfl
      have hv2 : ∀ k, k < ln + 1 → okL (updO lc ln c k) := fun k hk => by
        by_cases w : k = ln
        · subst w
          rw [updO_s]
          exact ⟨x3, ⟨x4, x5⟩, ⟨x6, x7⟩⟩
        · rw [updO_n _ _ w]
          exact hv k (by omega)
      rw [if_pos rfl]
      by_cases w : q < L
      · rw [if_pos w]
        exact ih q (ln + 1) (updO lc ln c) (by omega) (by omega) hv2
      · rw [if_neg w]
        exact ⟨Or.inl rfl, fun _ => by simp only; omega, hv2⟩
theorem L_run {N : Nat} (hN : 100000000 ≤ N) {nr nt nd : Nat} {rA tA dA rT : Nat → Nat} {wy gr hd ds : Nat → Int} {gn : Nat → Bool} {tl tw tg ls ms : Nat → Int} {bd : Int} (b1 : 0 ≤ bd) (b2' : bd ≤ 99999) {cn : Nat} (hcn : cn ≤ 30) {lc : Nat → Int × Int × Int} (hlc : ∀ k, k < cn → okL (lc k)) : ∀ (e k fu : Nat) (B : Int) (pa : Nat → Int) (dr td : Nat → Option Nat) (sr dn cw : Nat → Int) (x y u1 u2 u3 : Int32) (h : Hs), 0 ≤ B → B + 199980 * e ≤ 900000000 → PCl h nt nd nr tA dA rA rT tl tw tg ls ms ds wy gr hd gn bd pa dr td sr dn cw x y u1 u2 u3 → PLl B nt nd nr rT ls ms wy gr pa dr td sr dn cw → gI h 805 1 = iI cn → (∀ j, j < cn → aI h 3 j = iI (lc j).1 ∧ aI h 4 j = iI (lc j).2.1 ∧ aI h 5 j = iI (lc j).2.2) → k + e = cn → e < fu → ∃ (a : Int32) (pa' : Nat → Int) (dr' td' : Nat → Option Nat) (sr' dn' cw' : Nat → Int) (x' y' u1' u2' u3' : Int32) (h' : Hs), fX11_play_b39 N 0 fu h (iI k) = some (a, h') ∧ PCl h' nt nd nr tA dA rA rT tl tw tg ls ms ds wy gr hd gn bd pa' dr' td' sr' dn' cw' x' y' u1' u2' u3' ∧ PLl (B + 199980 * e) nt nd nr rT ls ms wy gr pa' dr' td' sr' dn' cw' ∧ Ke [908, 700, 701, 702, 406, 407, 907, 511, 512] [18] [405, 909] [] h h' ∧ sz h' = sz h ∧ (∀ (hm : Hs) (fu' : Nat), PMl hm nt nd nr tA dA rA rT tl tw tg ls ms ds wy gr hd gn bd pa dr td sr dn cw x y u1 u2 u3 → gI hm 1239 29 = iI cn → (∀ j, j < cn → aI hm 54 j = iI (lc j).1 ∧ aI hm 55 j = iI (lc j).2.1 ∧ aI hm 56 j = iI (lc j).2.2) → e < fu' → ∃ hm', fX12_play_b66 N 29 fu' hm (iI k) = some (a, hm') ∧ PMl hm' nt nd nr tA dA rA rT tl tw tg ls ms ds wy gr hd gn bd pa' dr' td' sr' dn' cw' x' y' u1' u2' u3' ∧ Ke [1221, 1222, 1223, 1224, 1225] [33, 36, 42, 43, 45] [] [] hm hm' ∧ sz hm' = sz hm) := by
  intro e
  induction e with
  | zero =>
    intro k fu B pa dr td sr dn cw x y u1 u2 u3 h hB0 hB hP hl g5 ga hk hf
    obtain ⟨fu, rfl⟩ : ∃ m, fu = m + 1 := ⟨fu - 1, by omega⟩
    have hS := hP.1.1
    have cc : (sh h 1).1 = 8 := by rw [ss_1 hS]
    have o5 : oI 8 5 h (some 1) = some (iI cn) := oIv cc g5
    have a1 : iI (cn : Int) ≤ iI (k : Int) := (iI_le (by omega) (by omega) (by omega) (by omega)).mpr (by omega)
    refine ⟨iI cn, pa, dr, td, sr, dn, cw, x, y, u1, u2, u3, h, ?_, hP, by simpa using hl, Ke_rf, rfl, fun hm fu' hPM g9 gm hf' => ?_⟩
    · show fX11_play_b39_body N (fX11_play_b39 N 0 fu) 0 h (iI k) = _
      simp only [fX11_play_b39_body]
      refine bst (sR_1103_0 hS) ?_
      refine bst (o5) ?_
      refine ifp (a1) ?_
      refine bst (sR_1103_0 hS) ?_
      refine bst (o5) ?_
      rfl
    · obtain ⟨fu', rfl⟩ : ∃ m, fu' = m + 1 := ⟨fu' - 1, by omega⟩
      have mS := hPM.1.1
      have o9 : oI 12 39 hm (some 29) = some (iI cn) := oIv (by rw [ss_29 mS]) g9
      refine ⟨hm, ?_, hPM, Ke_rf, rfl⟩
      show fX12_play_b66_body N (fX12_play_b66 N 29 fu') 29 hm (iI k) = _
      simp only [fX12_play_b66_body]
      refine bst (o9) ?_
      refine ifp (a1) ?_
      refine bst (o9) ?_
      rfl
  | succ e ih =>
    intro k fu B pa dr td sr dn cw x y u1 u2 u3 h hB0 hB hP hl g5 ga hk hf
    obtain ⟨fu, rfl⟩ : ∃ m, fu = m + 1 := ⟨fu - 1, by omega⟩
    have hS := hP.1.1
    have hz := hP.1.2.1
    have cc : (sh h 1).1 = 8 := by rw [ss_1 hS]
    have o5 : oI 8 5 h (some 1) = some (iI cn) := oIv cc g5
    have a1 : ¬ iI (cn : Int) ≤ iI (k : Int) := fun q => by have := (iI_le (by omega) (by omega) (by omega) (by omega)).mp q; omega
    have rc11 : rc 11 h (some 0) = some 0 := rcv (by rw [ss_0 hS])
    obtain ⟨l1, l2, l3⟩ := hlc k (by omega)
    obtain ⟨m1, m2, m3⟩ := ga k (by omega)
    obtain ⟨c, pa1, dr1, td1, sr1, dn1, cw1, x1, y1, v1, v2, v3, h1, hc, e1, hP1, hl1, ke1, s1, ref⟩ := v_ln hN b1 b2' hB0 (by omega) hP hl (k := k) (by omega) l1 l2 l3 m1 m2 m3
    have eB : B + 199980 * ((e + 1 : Nat) : Int) = B + 199980 + 199980 * e := by rw [Int.natCast_add, Int.natCast_one, Int.mul_add]; omega
    have un : fX11_play_b39 N 0 (fu + 1) h (iI k) = fX11_play_b39_body N (fX11_play_b39 N 0 fu) 0 h (iI k) := rfl
    have hlw : PLl (B + 199980 + 199980 * e) nt nd nr rT ls ms wy gr pa1 dr1 td1 sr1 dn1 cw1 := ⟨hl1.1, hl1.2.1, hl1.2.2.1, hl1.2.2.2.1, fun r hr hn => by have := hl1.2.2.2.2 r hr hn; omega⟩
    rw [eB]
    by_cases c0 : c = 0
    · subst c0
      obtain ⟨a, pa2, dr2, td2, sr2, dn2, cw2, x2, y2, z1, z2, z3, h2, t1, t2, t3, t4, t5, t6⟩ := ih (k + 1) fu (B + 199980) pa1 dr1 td1 sr1 dn1 cw1 x1 y1 v1 v2 v3 h1 (by omega) (by omega) hP1 hl1 (by rw [ke1.1 805 1 (by decide) (by omega)]; exact g5) (fun j hj => by rw [ke1.2.1 3 (by decide) (by omega), ke1.2.1 4 (by decide) (by omega), ke1.2.1 5 (by decide) (by omega)]; exact ga j hj) (by omega) (by omega)
      simp only [Int.natCast_add, Int.natCast_one] at t1
      refine ⟨a, pa2, dr2, td2, sr2, dn2, cw2, x2, y2, z1, z2, z3, h2, ?_, t2, t3, ke1.tr t4, t5.trans s1, fun hm fu' hPM g9 gm hf' => ?_⟩
      · rw [un, ← t1]
        simp only [fX11_play_b39_body, lit, iI_add, Option.bind_some]
        refine bst (sR_1103_0 hS) ?_
        refine bst (o5) ?_
        refine ifn (a1) ?_
        refine bst (rc11) ?_
        refine bst (e1) ?_
        refine ifp (rfl) ?_
        rfl
      · obtain ⟨fu', rfl⟩ : ∃ m, fu' = m + 1 := ⟨fu' - 1, by omega⟩
        obtain ⟨n1, n2, n3⟩ := gm k (by omega)
        obtain ⟨hm1, r1, r2, r3, r4⟩ := ref hm cn hPM g9 (by omega) hcn n1 n2 n3
        have mz := hPM.1.2.1
        obtain ⟨hm2, s1', s2', s3', s4'⟩ := t6 hm1 fu' r1 (by rw [r2.1 1239 29 (by decide) (by omega)]; exact g9) (fun j hj => by rw [r2.2.1 54 (by decide) (by omega), r2.2.1 55 (by decide) (by omega), r2.2.1 56 (by decide) (by omega)]; exact gm j hj) (by omega)
        simp only [Int.natCast_add, Int.natCast_one] at s1'
        refine ⟨hm2, ?_, s2', r2.tr s3', s4'.trans r3⟩
        have := r4 (fX12_play_b66 N 29 fu')
        unfold lnR at this
        rw [if_pos rfl] at this
        exact this.trans s1'
    · have stop : ∀ a : Int32, fX11_play_b39 N 0 (fu + 1) h (iI k) = some (a, h1) → (∀ g hm1, lnR c k g hm1 = some (a, hm1)) → ∃ (a : Int32) (pa' : Nat → Int) (dr' td' : Nat → Option Nat) (sr' dn' cw' : Nat → Int) (x' y' u1' u2' u3' : Int32) (h' : Hs), fX11_play_b39 N 0 (fu + 1) h (iI k) = some (a, h') ∧ PCl h' nt nd nr tA dA rA rT tl tw tg ls ms ds wy gr hd gn bd pa' dr' td' sr' dn' cw' x' y' u1' u2' u3' ∧ PLl (B + 199980 + 199980 * e) nt nd nr rT ls ms wy gr pa' dr' td' sr' dn' cw' ∧ Ke [908, 700, 701, 702, 406, 407, 907, 511, 512] [18] [405, 909] [] h h' ∧ sz h' = sz h ∧ (∀ (hm : Hs) (fu' : Nat), PMl hm nt nd nr tA dA rA rT tl tw tg ls ms ds wy gr hd gn bd pa dr td sr dn cw x y u1 u2 u3 → gI hm 1239 29 = iI cn → (∀ j, j < cn → aI hm 54 j = iI (lc j).1 ∧ aI hm 55 j = iI (lc j).2.1 ∧ aI hm 56 j = iI (lc j).2.2) → e + 1 < fu' → ∃ hm', fX12_play_b66 N 29 fu' hm (iI k) = some (a, hm') ∧ PMl hm' nt nd nr tA dA rA rT tl tw tg ls ms ds wy gr hd gn bd pa' dr' td' sr' dn' cw' x' y' u1' u2' u3' ∧ Ke [1221, 1222, 1223, 1224, 1225] [33, 36, 42, 43, 45] [] [] hm hm' ∧ sz hm' = sz hm) := by
        intro a ea el
        refine ⟨a, pa1, dr1, td1, sr1, dn1, cw1, x1, y1, v1, v2, v3, h1, ea, hP1, hlw, ke1, s1, fun hm fu' hPM g9 gm hf' => ?_⟩
        obtain ⟨fu', rfl⟩ : ∃ m, fu' = m + 1 := ⟨fu' - 1, by omega⟩
        obtain ⟨n1, n2, n3⟩ := gm k (by omega)
        obtain ⟨hm1, r1, r2, r3, r4⟩ := ref hm cn hPM g9 (by omega) hcn n1 n2 n3
        exact ⟨hm1, (r4 (fX12_play_b66 N 29 fu')).trans (el _ _), r1, r2, r3⟩
      have cne : ¬ iI c = iI 0 := fun z => c0 ((iI_eq (by omega) (by omega) (by omega) (by omega)).mp z)
      have c5 : iI c = iI (-5) ↔ c = -5 := iI_eq (by omega) (by omega) (by omega) (by omega)
      by_cases w5 : c = -5
      · refine stop (iI (-5)) ?_ (fun g hm1 => by unfold lnR; rw [if_neg c0, if_pos w5])
        rw [un]
        simp only [fX11_play_b39_body, fX11_play_b76, lit, iI_neg]
        refine bst (sR_1103_0 hS) ?_
        refine bst (o5) ?_
        refine ifn (a1) ?_
        refine bst (rc11) ?_
        refine bst (e1) ?_
        refine ifn (cne) ?_
        refine ifp (c5.mpr w5) ?_
        rfl
      · refine stop (iI (-1000 - (k : Int))) ?_ (fun g hm1 => by unfold lnR; rw [if_neg c0, if_neg w5])
        rw [un]
        simp only [fX11_play_b39_body, fX11_play_b76, lit, iI_neg]
        refine bst (sR_1103_0 hS) ?_
        refine bst (o5) ?_
        refine ifn (a1) ?_
        refine bst (rc11) ?_
        refine bst (e1) ?_
        refine ifn (cne) ?_
        refine ifn (fun z => w5 (c5.mp z)) ?_
        rw [iI_sub]
