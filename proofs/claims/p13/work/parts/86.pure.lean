/-! ===== snap ===== -/
theorem L_isClearo {N : Nat} {h : Hs} (hS : Sk h) {nt : Nat} {tA : Nat → Nat} {tl tw tg ls ms pa : Nat → Int} (hC : RTo h nt tA tl tw tg ls ms pa) {ex : Option Nat} (hex : ∀ k, ex = some k → k < nt) {l x w : Int} (l1 : 0 ≤ l) (l2 : l ≤ 15) (x1 : -1000 ≤ x) (x2 : x ≤ 1000) (w1 : 0 ≤ w) (w2 : w ≤ 1000) : ∀ (d i : Nat) (fu : Nat), i + d = nt → d < fu → fX5_isClear_b3 N 14 fu h (ex.map tA) (iI l) (iI x) (iI w) (iI i) = some (if hasB (metB tl tw pa ex l x w) i d then iI 0 else iI 1, h) := by
  obtain ⟨⟨c1, c2, c3⟩, c4, c5⟩ := hC
  have o9 : oI 5 7 h (some 14) = some (iI nt) := oIv (by rw [ss_14 hS]) c1
  intro d
  induction d with
  | zero =>
    intro i fu hi hf
    obtain ⟨fu, rfl⟩ : ∃ k, fu = k + 1 := ⟨fu - 1, by omega⟩
    show fX5_isClear_b3_body N (fX5_isClear_b3 N 14 fu) 14 h (ex.map tA) (iI l) (iI x) (iI w) (iI i) = _
    have a1 : iI (nt : Int) ≤ iI (i : Int) := (iI_le (by omega) (by omega) (by omega) (by omega)).mpr (by omega)
    simp only [fX5_isClear_b3_body, lit]
    refine bst (o9) ?_
    refine ifp (a1) ?_
    simp [hasB]
  | succ d ih =>
    intro i fu hi hf
    obtain ⟨fu, rfl⟩ : ∃ k, fu = k + 1 := ⟨fu - 1, by omega⟩
    show fX5_isClear_b3_body N (fX5_isClear_b3 N 14 fu) 14 h (ex.map tA) (iI l) (iI x) (iI w) (iI i) = _
    have a1 : ¬ iI (nt : Int) ≤ iI (i : Int) := fun q => by have := (iI_le (by omega) (by omega) (by omega) (by omega)).mp q; omega
    obtain ⟨⟨d1, d2, d3, d4⟩, ⟨g0, g1, g2, g3, g4, g5, g7⟩, -, bb⟩ := c4 i (by omega)
    have e := ih (i + 1) fu (by omega) (by omega)
    simp only [Int.natCast_add, Int.natCast_one] at e
    have oq : lQ 23 h (some 15) (iI i) = some (some (tA i)) := lQv (ss_15 hS) (by omega) (by omega) d1
    have o1 : oI 9 1 h (some (tA i)) = some (iI (tl i)) := oIv (by rw [d4]) g1
    have o2 : oI 9 2 h (some (tA i)) = some (iI (tw i)) := oIv (by rw [d4]) g2
    have o7 : oI 9 7 h (some (tA i)) = some (iI (pa i)) := oIv (by rw [d4]) g7
    have le : iI (tl i) = iI l ↔ tl i = l := iI_eq (by omega) (by omega) (by omega) (by omega)
    have ov := v_overlap (N := N) (h := h) (a := x) (b := w) (c := pa i) (d := tw i) (by omega) (by omega) (by omega) (by omega) (by omega) (by omega) (by omega) (by omega)
    have exi : some (tA i) = ex.map tA ↔ ex = some i := by
      constructor
      · intro q
        cases hx : ex with
        | none => rw [hx] at q; cases q
        | some k =>
          rw [hx] at q
          have q2 : tA i = tA k := Option.some.inj q
          rw [c5 i k (by omega) (hex k hx) q2]
      · intro q
        rw [q]
        rfl
    simp only [fX5_isClear_b3_body, fX5_isClear_b40, fX5_isClear_b41, fX5_isClear_b69, lit, iI_add, Option.bind_some]
    by_cases u1 : ex = some i
    · have mb : metB tl tw pa ex l x w i = false := decide_eq_false (fun q => q.1 u1)
      simp only [hasB, mb, Bool.false_or]
      refine bst (o9) ?_
      refine ifn (a1) ?_
      refine bst (sR_500_14 hS) ?_
      refine bst (oq) ?_
      refine ifp (exi.mpr u1) ?_
      refine ifp (trivial) ?_
      exact e
    · by_cases u2 : tl i = l
      · by_cases u3 : x < pa i + tw i ∧ pa i < x + w
        · have mb : metB tl tw pa ex l x w i = true := decide_eq_true ⟨u1, u2, u3⟩
          rw [if_pos u3] at ov
          simp only [hasB, mb, Bool.true_or, if_true]
          refine bst (o9) ?_
          refine ifn (a1) ?_
          refine bst (sR_500_14 hS) ?_
          refine bst (oq) ?_
          refine ifn (fun q => u1 (exi.mp q)) ?_
          refine bst (o1) ?_
          refine ifp (le.mpr u2) ?_
          refine ifn (n10) ?_
          refine bst (o7) ?_
          refine bst (o2) ?_
          refine bst (ov) ?_
          refine ifn (n10) ?_
          rfl
        · have mb : metB tl tw pa ex l x w i = false := decide_eq_false (fun q => u3 q.2.2)
          rw [if_neg u3] at ov
          simp only [hasB, mb, Bool.false_or]
          refine bst (o9) ?_
          refine ifn (a1) ?_
          refine bst (sR_500_14 hS) ?_
          refine bst (oq) ?_
          refine ifn (fun q => u1 (exi.mp q)) ?_
          refine bst (o1) ?_
          refine ifp (le.mpr u2) ?_
          refine ifn (n10) ?_
          refine bst (o7) ?_
          refine bst (o2) ?_
          refine bst (ov) ?_
          refine ifp (rfl) ?_
          exact e
      · have mb : metB tl tw pa ex l x w i = false := decide_eq_false (fun q => u2 q.2.1)
        simp only [hasB, mb, Bool.false_or]
        refine bst (o9) ?_
        refine ifn (a1) ?_
        refine bst (sR_500_14 hS) ?_
        refine bst (oq) ?_
        refine ifn (fun q => u1 (exi.mp q)) ?_
        refine bst (o1) ?_
        refine ifn (fun q => u2 (le.mp q)) ?_
        refine ifp (trivial) ?_
        exact e
theorem v_isClearo {N : Nat} (hN : 100000000 ≤ N) {h : Hs} (hS : Sk h) {nt : Nat} {tA : Nat → Nat} {tl tw tg ls ms pa : Nat → Int} (hC : RTo h nt tA tl tw tg ls ms pa) {ex : Option Nat} (hex : ∀ k, ex = some k → k < nt) {l x w : Int} (l1 : 0 ≤ l) (l2 : l ≤ 15) (x1 : -1000 ≤ x) (x2 : x ≤ 1000) (w1 : 0 ≤ w) (w2 : w ≤ 1000) : fX5_isClear N h 14 (ex.map tA) (iI l) (iI x) (iI w) = some (if hasB (metB tl tw pa ex l x w) 0 nt then iI 0 else iI 1, h) := by
  have c3 := hC.1.2.2
  exact L_isClearo hS hC hex l1 l2 x1 x2 w1 w2 nt 0 N (by omega) (by omega)
theorem hasB_iff {p : Nat → Bool} : ∀ (d i : Nat), hasB p i d = true ↔ ∃ k, i ≤ k ∧ k < i + d ∧ p k = true
  | 0, i => by simp [hasB]; omega
  | d + 1, i => by
    rw [hasB, Bool.or_eq_true, hasB_iff d (i + 1)]
    constructor
    · rintro (q | ⟨k, h1, h2, h3⟩)
      · exact ⟨i, by omega, by omega, q⟩
      · exact ⟨k, by omega, by omega, h3⟩
    · rintro ⟨k, h1, h2, h3⟩
      by_cases e : k = i
      · subst e; exact Or.inl h3
      · exact Or.inr ⟨k, by omega, by omega, h3⟩
theorem hasB_congr {p q : Nat → Bool} : ∀ (d i : Nat), (∀ k, i ≤ k → k < i + d → p k = q k) → hasB p i d = hasB q i d
  | 0, _, _ => rfl
  | d + 1, i, e => by rw [hasB, hasB, e i (by omega) (by omega), hasB_congr d (i + 1) (fun k h1 h2 => e k (by omega) (by omega))]
def canF (tl tw pa : Nat → Int) (nt : Nat) (cc : Nat → Nat) (cp : Nat → Int) (dd : Int) (t : Nat) (x : Int) : Bool := !(hasB (fun k => decide (cp (5 * (tl t).toNat + k) = x)) 0 (cc (tl t).toNat)) && !(hasB (metB tl tw pa (some t) (tl t) (x + dd) (tw t)) 0 nt)
def fallN (can : Int → Bool) (dd : Int) : Nat → Int → Nat
  | 0, _ => 0
  | f + 1, x => if can x then fallN can dd f (x + dd) + 1 else 0
theorem fallN_le (can : Int → Bool) (dd : Int) : ∀ (f : Nat) (x : Int), fallN can dd f x ≤ f
  | 0, _ => Nat.le_refl 0
  | f + 1, x => by
    rw [fallN]
    have := fallN_le can dd f (x + dd)
    split <;> omega
theorem metB_upd {tl tw pa : Nat → Int} {t : Nat} {x l y w : Int} (k : Nat) : metB tl tw (updO pa t x) (some t) l y w k = metB tl tw pa (some t) l y w k := by
  unfold metB
  by_cases e : k = t
  · subst e; simp
  · rw [updO_n _ _ e]
def ICp (h : Hs) (cc : Nat → Nat) (cp : Nat → Int) : Prop := ∀ l, l < 16 → aI h 21 l = iI (cc l) ∧ aI h 46 l = iI (cc l) ∧ cc l ≤ 5 ∧ ∀ k, k < cc l → aI h 20 (5 * l + k) = iI (cp (5 * l + k)) ∧ aI h 47 (5 * l + k) = iI (cp (5 * l + k)) ∧ 0 ≤ cp (5 * l + k) ∧ cp (5 * l + k) ≤ 99
theorem ICp.e {F A FR AQ : List Nat} {h h2 : Hs} {cc : Nat → Nat} {cp : Nat → Int} (c1 : ICp h cc cp) (hz : 70 ≤ sz h) (k : Ke F A FR AQ h h2) (hA : ∀ a ∈ [20, 21, 46, 47], a ∉ A) : ICp h2 cc cp := fun i hi => by
  rw [k.2.1 _ (hA 20 (by decide)) (by omega), k.2.1 _ (hA 21 (by decide)) (by omega), k.2.1 _ (hA 46 (by decide)) (by omega), k.2.1 _ (hA 47 (by decide)) (by omega)]
  exact c1 i hi
theorem v_canFall {N : Nat} (hN : 100000000 ≤ N) {h : Hs} (hS : Sk h) {nt : Nat} {tA : Nat → Nat} {tl tw tg ls ms pa : Nat → Int} {x : Int} {t : Nat} (ht : t < nt) (hT : RTo h nt tA tl tw tg ls ms (updO pa t x)) {cc : Nat → Nat} {cp : Nat → Int} (hK : ICp h cc cp) {dd : Int} (hd : dd = 1 ∨ dd = -1) : fX5_canFall N h 14 (some (tA t)) (iI dd) = some (if canF tl tw pa nt cc cp dd t x then iI 1 else iI 0, h) := by
  obtain ⟨⟨d1, d2, d3, d4⟩, ⟨g0, g1, g2, g3, g4, g5, g7⟩, -, bb⟩ := hT.2.1 t ht
  rw [updO_s] at g7 bb
  obtain ⟨k1, k2, k3, k4⟩ := hK (tl t).toNat (by omega)
  have el : iI (((tl t).toNat : Nat) : Int) = iI (tl t) := by congr 1; omega
  have hc := L_isCatch (N := N) hS (l := (tl t).toNat) (by omega) k1 k3 (fun k hk => ⟨(k4 k hk).1, (k4 k hk).2.2⟩) (x := x) (by omega) (cc (tl t).toNat) 0 N (by omega) (by omega)
  rw [el] at hc
  have ic : fX5_isCatch N h 14 (iI (tl t)) (iI x) = some (if hasB (fun k => decide (cp (5 * (tl t).toNat + k) = x)) 0 (cc (tl t).toNat) then iI 1 else iI 0, h) := hc
  have cl := v_isClearo hN hS hT (ex := some t) (fun k hk => by cases hk; exact ht) (l := tl t) (x := x + dd) (w := tw t) (by omega) (by omega) (by omega) (by omega) (by omega) (by omega)
  rw [hasB_congr nt 0 (fun k _ _ => metB_upd k)] at cl
  have cl' : fX5_isClear N h 14 (some (tA t)) (iI (tl t)) (iI (x + dd)) (iI (tw t)) = some (if hasB (metB tl tw pa (some t) (tl t) (x + dd) (tw t)) 0 nt then iI 0 else iI 1, h) := cl
  have o1 : oI 9 1 h (some (tA t)) = some (iI (tl t)) := oIv (by rw [d4]) g1
  have o7 : oI 9 7 h (some (tA t)) = some (iI x) := oIv (by rw [d4]) g7
  have o2 : oI 9 2 h (some (tA t)) = some (iI (tw t)) := oIv (by rw [d4]) g2
  have rc5 : rc 5 h (some 14) = some 14 := rcv (by rw [ss_14 hS])
  have ea : iI x + iI dd = iI (x + dd) := by rw [iI_add]
  simp only [fX5_canFall, fX5_canFall_b41, fX5_canFall_b42, lit]
  obtain ⟨q1, hc1⟩ : ∃ b, hasB (fun k => decide (cp (5 * (tl t).toNat + k) = x)) 0 (cc (tl t).toNat) = b := ⟨_, rfl⟩
  obtain ⟨q2, hc2⟩ : ∃ b, hasB (metB tl tw pa (some t) (tl t) (x + dd) (tw t)) 0 nt = b := ⟨_, rfl⟩
  have hcf : canF tl tw pa nt cc cp dd t x = (!q1 && !q2) := by rw [canF, hc1, hc2]
  rw [hcf]
  rw [hc1] at ic
  rw [hc2] at cl'
  cases q1 with
  | true =>
    refine bst (o1) ?_
    refine bst (o7) ?_
    refine bst (rc5) ?_
    refine bst (ic) ?_
    refine ifn (n10) ?_
    refine bst (zc_i0) ?_
    rfl
  | false =>
    cases q2 with
    | true =>
      refine bst (o1) ?_
      refine bst (o7) ?_
      refine bst (rc5) ?_
      refine bst (ic) ?_
      refine ifp (rfl) ?_
      refine bst (o1) ?_
      refine bst (o7) ?_
      refine bst (o2) ?_
      refine bst (rc5) ?_
      rw [ea]
      refine bst (cl') ?_
      refine ifp (rfl) ?_
      refine bst (zc_i0) ?_
      rfl
    | false =>
      refine bst (o1) ?_
      refine bst (o7) ?_
      refine bst (rc5) ?_
      refine bst (ic) ?_
      refine ifp (rfl) ?_
      refine bst (o1) ?_
      refine bst (o7) ?_
      refine bst (o2) ?_
      refine bst (rc5) ?_
      rw [ea]
      refine bst (cl') ?_
      refine ifn (n10) ?_
      refine bst (zc_i1) ?_
      rfl
theorem L_fall {N : Nat} (hN : 100000000 ≤ N) {nt : Nat} {tA : Nat → Nat} {tl tw tg ls ms pa : Nat → Int} {t : Nat} (ht : t < nt) {cc : Nat → Nat} {cp : Nat → Int} {dd : Int} (hd : dd = 1 ∨ dd = -1) {most : Int} (hm : most ≤ 1000) : ∀ (f : Nat) (x c : Int) (fu : Nat) (h : Hs), Sk h → 70 ≤ sz h → RTo h nt tA tl tw tg ls ms (updO pa t x) → ICp h cc cp → 0 ≤ c → most - c = f → ls t ≤ x + dd * f → x + dd * f ≤ ms t → f < fu → ∃ h', fX5_fall_b3 N 14 fu h (some (tA t)) (iI dd) (iI most) (iI c) = some (iI (c + fallN (canF tl tw pa nt cc cp dd t) dd f x), h') ∧ Ke [907] [] [] [] h h' ∧ sz h' = sz h ∧ RTo h' nt tA tl tw tg ls ms (updO pa t (x + dd * fallN (canF tl tw pa nt cc cp dd t) dd f x)) := by
  intro f
  induction f with
  | zero =>
    intro x c fu h hS hz hT hK c0 hc b1 b2 hf
    obtain ⟨fu, rfl⟩ : ∃ m, fu = m + 1 := ⟨fu - 1, by omega⟩
    have a1 : iI most ≤ iI c := (iI_le (by omega) (by omega) (by omega) (by omega)).mpr (by omega)
    refine ⟨h, ?_, Ke_rf, rfl, by simpa [fallN] using hT⟩
    show fX5_fall_b3_body N (fX5_fall_b3 N 14 fu) 14 h (some (tA t)) (iI dd) (iI most) (iI c) = _
    simp only [fX5_fall_b3_body, fX5_fall_b34]
    refine ifp (a1) ?_
    simp [fallN]
  | succ f ih =>
    intro x c fu h hS hz hT hK c0 hc b1 b2 hf
    obtain ⟨fu, rfl⟩ : ∃ m, fu = m + 1 := ⟨fu - 1, by omega⟩
    have a1 : ¬ iI most ≤ iI c := fun q => by have := (iI_le (by omega) (by omega) (by omega) (by omega)).mp q; omega
    have rc5 : rc 5 h (some 14) = some 14 := rcv (by rw [ss_14 hS])
    have cf := v_canFall hN hS ht hT hK hd
    obtain ⟨⟨d1, d2, d3, d4⟩, ⟨g0, g1, g2, g3, g4, g5, g7⟩, -, bb⟩ := hT.2.1 t ht
    rw [updO_s] at g7 bb
    cases hcf : canF tl tw pa nt cc cp dd t x with
    | false =>
      rw [hcf] at cf
      have e0 : fallN (canF tl tw pa nt cc cp dd t) dd (f + 1) x = 0 := by simp [fallN, hcf]
      rw [e0]
      refine ⟨h, ?_, Ke_rf, rfl, by simpa using hT⟩
      show fX5_fall_b3_body N (fX5_fall_b3 N 14 fu) 14 h (some (tA t)) (iI dd) (iI most) (iI c) = _
      simp only [fX5_fall_b3_body, fX5_fall_b34, lit]
      refine ifn (a1) ?_
      refine bst (rc5) ?_
      refine bst (cf) ?_
      refine ifp (rfl) ?_
      simp
    | true =>
      rw [hcf] at cf
      have e0 : fallN (canF tl tw pa nt cc cp dd t) dd (f + 1) x = fallN (canF tl tw pa nt cc cp dd t) dd f (x + dd) + 1 := by simp [fallN, hcf]
      rw [e0]
      obtain ⟨h1, eh1⟩ : ∃ h1, h1 = uI h 907 (tA t) (iI (x + dd)) := ⟨_, rfl⟩
      have ke1 : Ke [907] [] [] [] h h1 := by rw [eh1]; exact Ke_rf.u 907 _ _ (by decide)
      have s1 : sz h1 = sz h := by rw [eh1]; rfl
      have ef : x + dd * ((f + 1 : Nat) : Int) = x + dd + dd * f := by rw [Int.natCast_add, Int.natCast_one, Int.mul_add, Int.mul_one]; omega
      rw [ef] at b1 b2
      have hb1 : ls t ≤ x + dd ∧ x + dd ≤ ms t := by
        rcases hd with rfl | rfl <;> omega
      have hT1 : RTo h1 nt tA tl tw tg ls ms (updO pa t (x + dd)) := hT.mv hz ke1 (by decide) (by decide) (fun i hi => by
        by_cases e : i = t
        · subst e
          rw [updO_s, eh1]
          simp [HR]
        · have na : ¬ tA i = tA t := fun q => e (hT.2.2 i t hi ht q)
          have g := (hT.2.1 i hi).2.1.2.2.2.2.2.2
          rw [updO_n _ _ e] at g ⊢
          rw [eh1]
          simp [HR, na, g]) (fun i hi => by
        by_cases e : i = t
        · subst e
          rw [updO_s]
          exact hb1
        · have b := (hT.2.1 i hi).2.2.2
          rw [updO_n _ _ e] at b ⊢
          omega)
      obtain ⟨h', r1, r2, r3, r4⟩ := ih (x + dd) (c + 1) fu h1 (hS.e hz ke1 (by decide)) (by omega) hT1 (hK.e hz ke1 (by decide)) (by omega) (by omega) b1 b2 (by omega)
      have ea : iI x + iI dd = iI (x + dd) := by rw [iI_add]
      refine ⟨h', ?_, ke1.tr r2, r3.trans s1, ?_⟩
      · show fX5_fall_b3_body N (fX5_fall_b3 N 14 fu) 14 h (some (tA t)) (iI dd) (iI most) (iI c) = _
        simp only [fX5_fall_b3_body, lit, Option.bind_some]
        refine ifn (a1) ?_
        refine bst (rc5) ?_
        refine bst (cf) ?_
        refine ifn (n10) ?_
        refine bst (oIv (by rw [d4]) g7) ?_
        refine bst (qIv (by rw [d4])) ?_
        rw [ea, ← eh1, iI_add, r1]
        congr 3
        rw [Int.natCast_add, Int.natCast_one]
        omega
      · have e9 : x + dd * ((fallN (canF tl tw pa nt cc cp dd t) dd f (x + dd) + 1 : Nat) : Int) = x + dd + dd * (fallN (canF tl tw pa nt cc cp dd t) dd f (x + dd) : Nat) := by rw [Int.natCast_add, Int.natCast_one, Int.mul_add, Int.mul_one]; omega
        rw [e9]
        exact r4
theorem L_fallM {N : Nat} (hN : 100000000 ≤ N) {nt : Nat} {tl tw tg ls ms pa : Nat → Int} (hb : ∀ i, i < nt → 0 ≤ pa i ∧ pa i ≤ 100) {t r : Nat} (ht : t < nt) (hr : r < 40) {cc : Nat → Nat} {cp : Nat → Int} {wr dd : Int} (hd : dd = 1 ∨ dd = -1) (hw : dd = -wr) {most : Int} (hm : most ≤ 1000) : ∀ (f : Nat) (x c : Int) (fu : Nat) (h : Hs), Sk h → 70 ≤ sz h → RTq h nt tl tw tg ls ms → (∀ i, i < nt → aI h 33 i = iI (updO pa t x i)) → aI h 40 r = iI wr → ICp h cc cp → 0 ≤ c → most - c = f → 0 ≤ x → x ≤ 100 → 0 ≤ x + dd * f → x + dd * f ≤ 100 → f < fu → ∃ h', fX12_snap_b107 N 29 fu h (iI r) (iI t) (iI most) (iI c) = some (iI (c + fallN (canF tl tw pa nt cc cp dd t) dd f x), h') ∧ Ke [] [33] [] [] h h' ∧ sz h' = sz h ∧ (∀ i, i < nt → aI h' 33 i = iI (updO pa t (x + dd * fallN (canF tl tw pa nt cc cp dd t) dd f x) i)) := by
  intro f
  induction f with
  | zero =>
    intro x c fu h hS hz hT hP h40 hK c0 hc x1 x2 b1 b2 hf
    obtain ⟨fu, rfl⟩ : ∃ m, fu = m + 1 := ⟨fu - 1, by omega⟩
    have a1 : iI most ≤ iI c := (iI_le (by omega) (by omega) (by omega) (by omega)).mpr (by omega)
    refine ⟨h, ?_, Ke_rf, rfl, by simpa [fallN] using hP⟩
    show fX12_snap_b107_body N (fX12_snap_b107 N 29 fu) 29 h (iI r) (iI t) (iI most) (iI c) = _
    simp only [fX12_snap_b107_body, fX12_snap_b174]
    refine ifp (a1) ?_
    simp [fallN]
  | succ f ih =>
    intro x c fu h hS hz hT hP h40 hK c0 hc x1 x2 b1 b2 hf
    obtain ⟨fu, rfl⟩ : ∃ m, fu = m + 1 := ⟨fu - 1, by omega⟩
    have a1 : ¬ iI most ≤ iI c := fun q => by have := (iI_le (by omega) (by omega) (by omega) (by omega)).mp q; omega
    have ct := hT.1.2
    have rc12 : rc 12 h (some 29) = some 29 := rcv (by rw [ss_29 hS])
    obtain ⟨⟨g0, g1, g2, g4, g5⟩, bb⟩ := hT.2 t ht
    have g3 := hP t ht
    rw [updO_s] at g3
    obtain ⟨k1, k2, k3, k4⟩ := hK (tl t).toNat (by omega)
    have el : iI (((tl t).toNat : Nat) : Int) = iI (tl t) := by congr 1; omega
    have hcc := L_isCaught (N := N) hS (l := (tl t).toNat) (by omega) k2 k3 (fun k hk => ⟨(k4 k hk).2.1, (k4 k hk).2.2⟩) (x := x) (by omega) (cc (tl t).toNat) 0 N (by omega) (by omega)
    rw [el] at hcc
    have ic : fX12_isCaught N h 29 (iI (tl t)) (iI x) = some (if hasB (fun k => decide (cp (5 * (tl t).toNat + k) = x)) 0 (cc (tl t).toNat) then iI 1 else iI 0, h) := hcc
    have l0 := lAv (ss_30 hS) (show t < 40 by omega) (by omega) g0
    have l3 := lAv (ss_33 hS) (show t < 40 by omega) (by omega) g3
    have l40 := lAv (ss_40 hS) hr (by omega) h40
    have ea : iI x - iI wr = iI (x + dd) := by rw [iI_sub, hw]; congr 1
    have hbu : ∀ i, i < nt → 0 ≤ updO pa t x i ∧ updO pa t x i ≤ 100 := fun i hi => by
      by_cases e : i = t
      · subst e; rw [updO_s]; exact ⟨x1, x2⟩
      · rw [updO_n _ _ e]; exact hb i hi
    have ot := v_other (N := N) hN hS hT hP hbu (x := x + dd) (by omega) (by omega) ht
    have met : (∃ o, o < nt ∧ o ≠ t ∧ HitX tl tw (updO pa t x) (x + dd) t o) ↔ hasB (metB tl tw pa (some t) (tl t) (x + dd) (tw t)) 0 nt = true := by
      rw [hasB_iff]
      constructor
      · rintro ⟨o, h1, h2, h3, h4⟩
        rw [updO_n _ _ h2] at h4
        exact ⟨o, by omega, by omega, decide_eq_true ⟨fun q => h2 (Option.some.inj q).symm, h3.symm, h4⟩⟩
      · rintro ⟨o, h1, h2, h3⟩
        obtain ⟨q1, q2, q3⟩ := of_decide_eq_true h3
        have ne : o ≠ t := fun q => q1 (by rw [q])
        refine ⟨o, by omega, ne, q2.symm, ?_⟩
        rw [updO_n _ _ ne]
        exact q3
    have stay : fallN (canF tl tw pa nt cc cp dd t) dd (f + 1) x = 0 → fX12_snap_b107 N 29 (fu + 1) h (iI r) (iI t) (iI most) (iI c) = some (iI c, h) → ∃ h', fX12_snap_b107 N 29 (fu + 1) h (iI r) (iI t) (iI most) (iI c) = some (iI (c + fallN (canF tl tw pa nt cc cp dd t) dd (f + 1) x), h') ∧ Ke [] [33] [] [] h h' ∧ sz h' = sz h ∧ (∀ i, i < nt → aI h' 33 i = iI (updO pa t (x + dd * fallN (canF tl tw pa nt cc cp dd t) dd (f + 1) x) i)) := by
      intro e0 e1
      rw [e0, e1]
      exact ⟨h, by simp, Ke_rf, rfl, by simpa using hP⟩
    cases hc1 : hasB (fun k => decide (cp (5 * (tl t).toNat + k) = x)) 0 (cc (tl t).toNat) with
    | true =>
      rw [hc1] at ic
      refine stay (by simp [fallN, canF, hc1]) ?_
      show fX12_snap_b107_body N (fX12_snap_b107 N 29 fu) 29 h (iI r) (iI t) (iI most) (iI c) = _
      simp only [fX12_snap_b107_body, fX12_snap_b174, lit]
      refine ifn (a1) ?_
      refine bst (sR_1202_29 hS) ?_
      refine bst (l0) ?_
      refine bst (sR_1205_29 hS) ?_
      refine bst (l3) ?_
      refine bst (rc12) ?_
      refine bst (ic) ?_
      refine ifn (n10) ?_
      rfl
    | false =>
      rw [hc1] at ic
      rcases ot with ⟨o0, e1, e2, e3, e4, e5⟩ | ⟨e1, e2⟩
      · have hc2 := met.mp ⟨o0, e1, e2, e3⟩
        have w0 : iI 0 ≤ iI (o0 : Int) := (iI_le (by omega) (by omega) (by omega) (by omega)).mpr (by omega)
        refine stay (by simp [fallN, canF, hc2]) ?_
        show fX12_snap_b107_body N (fX12_snap_b107 N 29 fu) 29 h (iI r) (iI t) (iI most) (iI c) = _
        simp only [fX12_snap_b107_body, fX12_snap_b174, lit]
        refine ifn (a1) ?_
        refine bst (sR_1202_29 hS) ?_
        refine bst (l0) ?_
        refine bst (sR_1205_29 hS) ?_
        refine bst (l3) ?_
        refine bst (rc12) ?_
        refine bst (ic) ?_
        refine ifp (rfl) ?_
        refine bst (sR_1205_29 hS) ?_
        refine bst (l3) ?_
        refine bst (sR_1214_29 hS) ?_
        refine bst (l40) ?_
        refine bst (rc12) ?_
        rw [ea]
        refine bst (e5) ?_
        refine ifp (w0) ?_
        rfl
      · have hc2 : hasB (metB tl tw pa (some t) (tl t) (x + dd) (tw t)) 0 nt = false := by
          cases hx : hasB (metB tl tw pa (some t) (tl t) (x + dd) (tw t)) 0 nt with
          | false => rfl
          | true =>
            obtain ⟨o, q1, q2, q3⟩ := met.mpr hx
            exact absurd q3 (e1 o q1 q2)
        have hcf : canF tl tw pa nt cc cp dd t x = true := by simp [canF, hc1, hc2]
        have e0 : fallN (canF tl tw pa nt cc cp dd t) dd (f + 1) x = fallN (canF tl tw pa nt cc cp dd t) dd f (x + dd) + 1 := by simp [fallN, hcf]
        rw [e0]
        have w0 : ¬ iI 0 ≤ iI (-1) := by decide
        obtain ⟨h1, eh1⟩ : ∃ h1, h1 = uA h 33 t (iI (x + dd)) := ⟨_, rfl⟩
        have ke1 : Ke [] [33] [] [] h h1 := by rw [eh1]; exact Ke_rf.b 33 _ _ (by decide)
        have s1 : sz h1 = sz h := by rw [eh1]; rfl
        have ef : x + dd * ((f + 1 : Nat) : Int) = x + dd + dd * f := by rw [Int.natCast_add, Int.natCast_one, Int.mul_add, Int.mul_one]; omega
        rw [ef] at b1 b2
        obtain ⟨h', r1, r2, r3, r4⟩ := ih (x + dd) (c + 1) fu h1 (hS.e hz ke1 (by decide)) (by omega) (hT.e hz ke1 (by decide) (by decide)) (fun i hi => by
          by_cases e : i = t
          · subst e
            rw [updO_s, eh1]
            simp [HR]
          · have g := hP i hi
            rw [updO_n _ _ e] at g ⊢
            rw [eh1]
            simp [HR, e, g]) (by rw [ke1.2.1 40 (by decide) (by omega)]; exact h40) (hK.e hz ke1 (by decide)) (by omega) (by omega) (by rcases hd with rfl | rfl <;> omega) (by rcases hd with rfl | rfl <;> omega) b1 b2 (by omega)
        refine ⟨h', ?_, ke1.tr r2, r3.trans s1, ?_⟩
        · show fX12_snap_b107_body N (fX12_snap_b107 N 29 fu) 29 h (iI r) (iI t) (iI most) (iI c) = _
          simp only [fX12_snap_b107_body, lit, Option.bind_some]
          refine ifn (a1) ?_
          refine bst (sR_1202_29 hS) ?_
          refine bst (l0) ?_
          refine bst (sR_1205_29 hS) ?_
          refine bst (l3) ?_
          refine bst (rc12) ?_
          refine bst (ic) ?_
          refine ifp (rfl) ?_
          refine bst (sR_1205_29 hS) ?_
          refine bst (l3) ?_
          refine bst (sR_1214_29 hS) ?_
          refine bst (l40) ?_
          refine bst (rc12) ?_
          rw [ea]
          refine bst (e2) ?_
          refine ifn (w0) ?_
          refine bst (sR_1205_29 hS) ?_
          refine bst (l3) ?_
          refine bst (sR_1214_29 hS) ?_
          refine bst (l40) ?_
          refine bst (sAv (ss_33 hS) (by omega) (by omega)) ?_
          rw [ea, ← eh1, iI_add, r1]
          congr 3
          rw [Int.natCast_add, Int.natCast_one]
          omega
        · have e9 : x + dd * ((fallN (canF tl tw pa nt cc cp dd t) dd f (x + dd) + 1 : Nat) : Int) = x + dd + dd * (fallN (canF tl tw pa nt cc cp dd t) dd f (x + dd) : Nat) := by rw [Int.natCast_add, Int.natCast_one, Int.mul_add, Int.mul_one]; omega
          rw [e9]
          exact r4
