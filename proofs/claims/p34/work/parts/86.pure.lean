/-! ===== snap ===== -/
theorem L_isClearo {N : Nat} {h : Hs} (hS : Sk h) {nt : Nat} {tA : Nat → Nat} {tl tw tg ls ms pa : Nat → Int} (hC : RTo h nt tA tl tw tg ls ms pa) {ex : Option Nat} (hex : ∀ k, ex = some k → k < nt) {l x w : Int} (l1 : 0 ≤ l) (l2 : l ≤ 15) (x1 : -1000 ≤ x) (x2 : x ≤ 1000) (w1 : 0 ≤ w) (w2 : w ≤ 1000) : ∀ (d i : Nat) (fu : Nat), i + d = nt → d < fu → fX5_isClear_b3 N 14 fu h (ex.map tA) (iI l) (iI x) (iI w) (iI i) = some (if hasB (metB tl tw pa ex l x w) i d then iI 0 else iI 1, h) := by
  obtain ⟨⟨c1, c2, c3⟩, c4, c5⟩ := hC
  have o9 : oI 5 7 h (some 14) = some (iI nt) := oIv (by rw [ss_14 hS]) c1
  intro d
  induction d with
  | zero =>
    intro i fu hi hf
    obtain ⟨fu, rfl⟩ : ∃ k, fu = k + 1 := ⟨fu - 1, by omega⟩
    show fX5_isClear_b3_body N (fX5_isClear_b3 N 14 fu) 14 h (ex.map tA) (iI l) (iI x) (iI w) (iI i) = _
    have a1 : iI (nt : Int) ≤ iI (i : Int) := (iI_le (by omega) (by omega) (by omega) (by omega)).mpr (by omega)
    simp only [fX5_isClear_b3_body, lit]
    refine bst (o9) ?_
    refine ifp (a1) ?_
    simp [hasB]
  | succ d ih =>
    intro i fu hi hf
    obtain ⟨fu, rfl⟩ : ∃ k, fu = k + 1 := ⟨fu - 1, by omega⟩
    show fX5_isClear_b3_body N (fX5_isClear_b3 N 14 fu) 14 h (ex.map tA) (iI l) (iI x) (iI w) (iI i) = _
    have a1 : ¬ iI (nt : Int) ≤ iI (i : Int) := fun q => by have := (iI_le (by omega) (by omega) (by omega) (by omega)).mp q; omega
    obtain ⟨⟨d1, d2, d3, d4⟩, ⟨g0, g1, g2, g3, g4, g5, g7⟩, -, bb⟩ := c4 i (by omega)
    have e := ih (i + 1) fu (by omega) (by omega)
    simp only [Int.natCast_add, Int.natCast_one] at e
    have oq : lQ 23 h (some 15) (iI i) = some (some (tA i)) := lQv (ss_15 hS) (by omega) (by omega) d1
    have o1 : oI 9 1 h (some (tA i)) = some (iI (tl i)) := oIv (by rw [d4]) g1
    have o2 : oI 9 2 h (some (tA i)) = some (iI (tw i)) := oIv (by rw [d4]) g2
    have o7 : oI 9 7 h (some (tA i)) = some (iI (pa i)) := oIv (by rw [d4]) g7
    have le : iI (tl i) = iI l ↔ tl i = l := iI_eq (by omega) (by omega) (by omega) (by omega)
    have ov := v_overlap (N := N) (h := h) (a := x) (b := w) (c := pa i) (d := tw i) (by omega) (by omega) (by omega) (by omega) (by omega) (by omega) (by omega) (by omega)
    have exi : some (tA i) = ex.map tA ↔ ex = some i := by
      constructor
      · intro q
        cases hx : ex with
        | none => rw [hx] at q; cases q
        | some k =>
          rw [hx] at q
          have q2 : tA i = tA k := Option.some.inj q
          rw [c5 i k (by omega) (hex k hx) q2]
      · intro q
        rw [q]
        rfl
    simp only [fX5_isClear_b3_body, fX5_isClear_b40, fX5_isClear_b41, fX5_isClear_b69, lit, iI_add, Option.bind_some]
    by_cases u1 : ex = some i
    · have mb : metB tl tw pa ex l x w i = false := decide_eq_false (fun q => q.1 u1)
      simp only [hasB, mb, Bool.false_or]
      refine bst (o9) ?_
      refine ifn (a1) ?_
      refine bst (sR_500_14 hS) ?_
      refine bst (oq) ?_
      refine ifp (exi.mpr u1) ?_
      refine ifp (trivial) ?_
      exact e
    · by_cases u2 : tl i = l
      · by_cases u3 : x < pa i + tw i ∧ pa i < x + w
        · have mb : metB tl tw pa ex l x w i = true := decide_eq_true ⟨u1, u2, u3⟩
          rw [if_pos u3] at ov
          simp only [hasB, mb, Bool.true_or, if_true]
          refine bst (o9) ?_
          refine ifn (a1) ?_
          refine bst (sR_500_14 hS) ?_
          refine bst (oq) ?_
          refine ifn (fun q => u1 (exi.mp q)) ?_
          refine bst (o1) ?_
          refine ifp (le.mpr u2) ?_
          refine ifn (n10) ?_
          refine bst (o7) ?_
          refine bst (o2) ?_
          refine bst (ov) ?_
          refine ifn (n10) ?_
          rfl
        · have mb : metB tl tw pa ex l x w i = false := decide_eq_false (fun q => u3 q.2.2)
          rw [if_neg u3] at ov
          simp only [hasB, mb, Bool.false_or]
          refine bst (o9) ?_
          refine ifn (a1) ?_
          refine bst (sR_500_14 hS) ?_
          refine bst (oq) ?_
          refine ifn (fun q => u1 (exi.mp q)) ?_
          refine bst (o1) ?_
          refine ifp (le.mpr u2) ?_
          refine ifn (n10) ?_
          refine bst (o7) ?_
          refine bst (o2) ?_
          refine bst (ov) ?_
          refine ifp (rfl) ?_
          exact e
      · have mb : metB tl tw pa ex l x w i = false := decide_eq_false (fun q => u2 q.2.1)
        simp only [hasB, mb, Bool.false_or]
        refine bst (o9) ?_
        refine ifn (a1) ?_
        refine bst (sR_500_14 hS) ?_
        refine bst (oq) ?_
        refine ifn (fun q => u1 (exi.mp q)) ?_
        refine bst (o1) ?_
        refine ifn (fun q => u2 (le.mp q)) ?_
        refine ifp (trivial) ?_
        exact e
theorem v_isClearo {N : Nat} (hN : 100000000 ≤ N) {h : Hs} (hS : Sk h) {nt : Nat} {tA : Nat → Nat} {tl tw tg ls ms pa : Nat → Int} (hC : RTo h nt tA tl tw tg ls ms pa) {ex : Option Nat} (hex : ∀ k, ex = some k → k < nt) {l x w : Int} (l1 : 0 ≤ l) (l2 : l ≤ 15) (x1 : -1000 ≤ x) (x2 : x ≤ 1000) (w1 : 0 ≤ w) (w2 : w ≤ 1000) : fX5_isClear N h 14 (ex.map tA) (iI l) (iI x) (iI w) = some (if hasB (metB tl tw pa ex l x w) 0 nt then iI 0 else iI 1, h) := by
  have c3 := hC.1.2.2
  exact L_isClearo hS hC hex l1 l2 x1 x2 w1 w2 nt 0 N (by omega) (by omega)
theorem hasB_iff {p : Nat → Bool} : ∀ (d i : Nat), hasB p i d = true ↔ ∃ k, i ≤ k ∧ k < i + d ∧ p k = true
  | 0, i => by simp [hasB]; omega
  | d + 1, i => by
    rw [hasB, Bool.or_eq_true, hasB_iff d (i + 1)]
    constructor
    · rintro (q | ⟨k, h1, h2, h3⟩)
      · exact ⟨i, by omega, by omega, q⟩
      · exact ⟨k, by omega, by omega, h3⟩
    · rintro ⟨k, h1, h2, h3⟩
      by_cases e : k = i
      · subst e; exact Or.inl h3
      · exact Or.inr ⟨k, by omega, by omega, h3⟩
theorem hasB_congr {p q : Nat → Bool} : ∀ (d i : Nat), (∀ k, i ≤ k → k < i + d → p k = q k) → hasB p i d = hasB q i d
  | 0, _, _ => rfl
  | d + 1, i, e => by rw [hasB, hasB, e i (by omega) (by omega), hasB_congr d (i + 1) (fun k h1 h2 => e k (by omega) (by omega))]
def canF (tl tw pa : Nat → Int) (nt : Nat) (cc : Nat → Nat) (cp : Nat → Int) (dd : Int) (t : Nat) (x : Int) : Bool := !(hasB (fun k => decide (cp (5 * (tl t).toNat + k) = x)) 0 (cc (tl t).toNat)) && !(hasB (metB tl tw pa (some t) (tl t) (x + dd) (tw t)) 0 nt)
def fallN (can : Int → Bool) (dd : Int) : Nat → Int → Nat
  | 0, _ => 0
  | f + 1, x => if can x then fallN can dd f (x + dd) + 1 else 0
theorem fallN_le (can : Int → Bool) (dd : Int) : ∀ (f : Nat) (x : Int), fallN can dd f x ≤ f
  | 0, _ => Nat.le_refl 0
  | f + 1, x => by
    rw [fallN]
    have := fallN_le can dd f (x + dd)
    split <;> omega
theorem metB_upd {tl tw pa : Nat → Int} {t : Nat} {x l y w : Int} (k : Nat) : metB tl tw (updO pa t x) (some t) l y w k = metB tl tw pa (some t) l y w k := by
  unfold metB
  by_cases e : k = t
  · subst e; simp
  · rw [updO_n _ _ e]
def ICp (h : Hs) (cc : Nat → Nat) (cp : Nat → Int) : Prop := ∀ l, l < 16 → aI h 21 l = iI (cc l) ∧ aI h 46 l = iI (cc l) ∧ cc l ≤ 5 ∧ ∀ k, k < cc l → aI h 20 (5 * l + k) = iI (cp (5 * l + k)) ∧ aI h 47 (5 * l + k) = iI (cp (5 * l + k)) ∧ 0 ≤ cp (5 * l + k) ∧ cp (5 * l + k) ≤ 99
theorem ICp.e {F A FR AQ : List Nat} {h h2 : Hs} {cc : Nat → Nat} {cp : Nat → Int} (c1 : ICp h cc cp) (hz : 70 ≤ sz h) (k : Ke F A FR AQ h h2) (hA : ∀ a ∈ [20, 21, 46, 47], a ∉ A) : ICp h2 cc cp := fun i hi => by
  rw [k.2.1 _ (hA 20 (by decide)) (by omega), k.2.1 _ (hA 21 (by decide)) (by omega), k.2.1 _ (hA 46 (by decide)) (by omega), k.2.1 _ (hA 47 (by decide)) (by omega)]
  exact c1 i hi
theorem v_canFall {N : Nat} (hN : 100000000 ≤ N) {h : Hs} (hS : Sk h) {nt : Nat} {tA : Nat → Nat} {tl tw tg ls ms pa : Nat → Int} {x : Int} {t : Nat} (ht : t < nt) (hT : RTo h nt tA tl tw tg ls ms (updO pa t x)) {cc : Nat → Nat} {cp : Nat → Int} (hK : ICp h cc cp) {dd : Int} (hd : dd = 1 ∨ dd = -1) : fX5_canFall N h 14 (some (tA t)) (iI dd) = some (if canF tl tw pa nt cc cp dd t x then iI 1 else iI 0, h) := by
  obtain ⟨⟨d1, d2, d3, d4⟩, ⟨g0, g1, g2, g3, g4, g5, g7⟩, -, bb⟩ := hT.2.1 t ht
  rw [updO_s] at g7 bb
  obtain ⟨k1, k2, k3, k4⟩ := hK (tl t).toNat (by omega)
  have el : iI (((tl t).toNat : Nat) : Int) = iI (tl t) := by congr 1; omega
  have hc := L_isCatch (N := N) hS (l := (tl t).toNat) (by omega) k1 k3 (fun k hk => ⟨(k4 k hk).1, (k4 k hk).2.2⟩) (x := x) (by omega) (cc (tl t).toNat) 0 N (by omega) (by omega)
  rw [el] at hc
  have ic : fX5_isCatch N h 14 (iI (tl t)) (iI x) = some (if hasB (fun k => decide (cp (5 * (tl t).toNat + k) = x)) 0 (cc (tl t).toNat) then iI 1 else iI 0, h) := hc
  have cl := v_isClearo hN hS hT (ex := some t) (fun k hk => by cases hk; exact ht) (l := tl t) (x := x + dd) (w := tw t) (by omega) (by omega) (by omega) (by omega) (by omega) (by omega)
  rw [hasB_congr nt 0 (fun k _ _ => metB_upd k)] at cl
  have cl' : fX5_isClear N h 14 (some (tA t)) (iI (tl t)) (iI (x + dd)) (iI (tw t)) = some (if hasB (metB tl tw pa (some t) (tl t) (x + dd) (tw t)) 0 nt then iI 0 else iI 1, h) := cl
  have o1 : oI 9 1 h (some (tA t)) = some (iI (tl t)) := oIv (by rw [d4]) g1
  have o7 : oI 9 7 h (some (tA t)) = some (iI x) := oIv (by rw [d4]) g7
  have o2 : oI 9 2 h (some (tA t)) = some (iI (tw t)) := oIv (by rw [d4]) g2
  have rc5 : rc 5 h (some 14) = some 14 := rcv (by rw [ss_14 hS])
  have ea : iI x + iI dd = iI (x + dd) := by rw [iI_add]
  simp only [fX5_canFall, fX5_canFall_b41, fX5_canFall_b42, lit]
  obtain ⟨q1, hc1⟩ : ∃ b, hasB (fun k => decide (cp (5 * (tl t).toNat + k) = x)) 0 (cc (tl t).toNat) = b := ⟨_, rfl⟩
  obtain ⟨q2, hc2⟩ : ∃ b, hasB (metB tl tw pa (some t) (tl t) (x + dd) (tw t)) 0 nt = b := ⟨_, rfl⟩
  have hcf : canF tl tw pa nt cc cp dd t x = (!q1 && !q2) := by rw [canF, hc1, hc2]
  rw [hcf]
  rw [hc1] at ic
  rw [hc2] at cl'
  cases q1 with
  | true =>
    refine bst (o1) ?_
    refine bst (o7) ?_
    refine bst (rc5) ?_
    refine bst (ic) ?_
    refine ifn (n10) ?_
    refine bst (zc_i0) ?_
    rfl
  | false =>
    cases q2 with
    | true =>
      refine bst (o1) ?_
      refine bst (o7) ?_
      refine bst (rc5) ?_
      refine bst (ic) ?_
      refine ifp (rfl) ?_
      refine bst (o1) ?_
      refine bst (o7) ?_
      refine bst (o2) ?_
      refine bst (rc5) ?_
      rw [ea]
      refine bst (cl') ?_
      refine ifp (rfl) ?_
      refine bst (zc_i0) ?_
      rfl
    | false =>
      refine bst (o1) ?_
      refine bst (o7) ?_
      refine bst (rc5) ?_
      refine bst (ic) ?_
      refine ifp (rfl) ?_
      refine bst (o1) ?_
      refine bst (o7) ?_
      refine bst (o2) ?_
      refine bst (rc5) ?_
      rw [ea]
      refine bst (cl') ?_
      refine ifn (n10) ?_
      refine bst (zc_i1) ?_
      rfl
theorem L_fall {N : Nat} (hN : 100000000 ≤ N) {nt : Nat} {tA : Nat → Nat} {tl tw tg ls ms pa : Nat → Int} {t : Nat} (ht : t < nt) {cc : Nat → Nat} {cp : Nat → Int} {dd : Int} (hd : dd = 1 ∨ dd = -1) {most : Int} (hm : most ≤ 1000) : ∀ (f : Nat) (x c : Int) (fu : Nat) (h : Hs), Sk h → 70 ≤ sz h → RTo h nt tA tl tw tg ls ms (updO pa t x) → ICp h cc cp → 0 ≤ c → most - c = f → ls t ≤ x + dd * f → x + dd * f ≤ ms t → f < fu → ∃ h', fX5_fall_b3 N 14 fu h (some (tA t)) (iI dd) (iI most) (iI c) = some (iI (c + fallN (canF tl tw pa nt cc cp dd t) dd f x), h') ∧ Ke [907] [] [] [] h h' ∧ sz h' = sz h ∧ RTo h' nt tA tl tw tg ls ms (updO pa t (x + dd * fallN (canF tl tw pa nt cc cp dd t) dd f x)) := by
  intro f
  induction f with
  | zero =>
    intro x c fu h hS hz hT hK c0 hc b1 b2 hf
    obtain ⟨fu, rfl⟩ : ∃ m, fu = m + 1 := ⟨fu - 1, by omega⟩
    have a1 : iI most ≤ iI c := (iI_le (by omega) (by omega) (by omega) (by omega)).mpr (by omega)
    refine ⟨h, ?_, Ke_rf, rfl, by simpa [fallN] using hT⟩
    show fX5_fall_b3_body N (fX5_fall_b3 N 14 fu) 14 h (some (tA t)) (iI dd) (iI most) (iI c) = _
    simp only [fX5_fall_b3_body, fX5_fall_b34]
    refine ifp (a1) ?_
    simp [fallN]
  | succ f ih =>
    intro x c fu h hS hz hT hK c0 hc b1 b2 hf
    obtain ⟨fu, rfl⟩ : ∃ m, fu = m + 1 := ⟨fu - 1, by omega⟩
    have a1 : ¬ iI most ≤ iI c := fun q => by have := (iI_le (by omega) (by omega) (by omega) (by omega)).mp q; omega
    have rc5 : rc 5 h (some 14) = some 14 := rcv (by rw [ss_14 hS])
    have cf := v_canFall hN hS ht hT hK hd
    obtain ⟨⟨d1, d2, d3, d4⟩, ⟨g0, g1, g2, g3, g4, g5, g7⟩, -, bb⟩ := hT.2.1 t ht
    rw [updO_s] at g7 bb
    cases hcf : canF tl tw pa nt cc cp dd t x with
    | false =>
      rw [hcf] at cf
      have e0 : fallN (canF tl tw pa nt cc cp dd t) dd (f + 1) x = 0 := by simp [fallN, hcf]
      rw [e0]
      refine ⟨h, ?_, Ke_rf, rfl, by simpa using hT⟩
      show fX5_fall_b3_body N (fX5_fall_b3 N 14 fu) 14 h (some (tA t)) (iI dd) (iI most) (iI c) = _
      simp only [fX5_fall_b3_body, fX5_fall_b34, lit]
      refine ifn (a1) ?_
      refine bst (rc5) ?_
      refine bst (cf) ?_
      refine ifp (rfl) ?_
      simp
    | true =>
      rw [hcf] at cf
      have e0 : fallN (canF tl tw pa nt cc cp dd t) dd (f + 1) x = fallN (canF tl tw pa nt cc cp dd t) dd f (x + dd) + 1 := by simp [fallN, hcf]
      rw [e0]
      obtain ⟨h1, eh1⟩ : ∃ h1, h1 = uI h 907 (tA t) (iI (x + dd)) := ⟨_, rfl⟩
      have ke1 : Ke [907] [] [] [] h h1 := by rw [eh1]; exact Ke_rf.u 907 _ _ (by decide)
      have s1 : sz h1 = sz h := by rw [eh1]; rfl
      have ef : x + dd * ((f + 1 : Nat) : Int) = x + dd + dd * f := by rw [Int.natCast_add, Int.natCast_one, Int.mul_add, Int.mul_one]; omega
      rw [ef] at b1 b2
      have hb1 : ls t ≤ x + dd ∧ x + dd ≤ ms t := by
        rcases hd with rfl | rfl <;> omega
      have hT1 : RTo h1 nt tA tl tw tg ls ms (updO pa t (x + dd)) := hT.mv hz ke1 (by decide) (by decide) (fun i hi => by
        by_cases e : i = t
        · subst e
          rw [updO_s, eh1]
          simp [HR]
        · have na : ¬ tA i = tA t := fun q => e (hT.2.2 i t hi ht q)
          have g := (hT.2.1 i hi).2.1.2.2.2.2.2.2
          rw [updO_n _ _ e] at g ⊢
          rw [eh1]
          simp [HR, na, g]) (fun i hi => by
        by_cases e : i = t
        · subst e
          rw [updO_s]
          exact hb1
        · have b := (hT.2.1 i hi).2.2.2
          rw [updO_n _ _ e] at b ⊢
          omega)
      obtain ⟨h', r1, r2, r3, r4⟩ := ih (x + dd) (c + 1) fu h1 (hS.e hz ke1 (by decide)) (by omega) hT1 (hK.e hz ke1 (by decide)) (by omega) (by omega) b1 b2 (by omega)
      have ea : iI x + iI dd = iI (x + dd) := by rw [iI_add]
      refine ⟨h', ?_, ke1.tr r2, r3.trans s1, ?_⟩
      · show fX5_fall_b3_body N (fX5_fall_b3 N 14 fu) 14 h (some (tA t)) (iI dd) (iI most) (iI c) = _
        simp only [fX5_fall_b3_body, lit, Option.bind_some]
        refine ifn (a1) ?_
        refine bst (rc5) ?_
        refine bst (cf) ?_
        refine ifn (n10) ?_
        refine bst (oIv (by rw [d4]) g7) ?_
        refine bst (qIv (by rw [d4])) ?_
        rw [ea, ← eh1, iI_add, r1]
        congr 3
        rw [Int.natCast_add, Int.natCast_one]
        omega
      · have e9 : x + dd * ((fallN (canF tl tw pa nt cc cp dd t) dd f (x + dd) + 1 : Nat) : Int) = x + dd + dd * (fallN (canF tl tw pa nt cc cp dd t) dd f (x + dd) : Nat) := by rw [Int.natCast_add, Int.natCast_one, Int.mul_add, Int.mul_one]; omega
        rw [e9]
        exact r4
theorem L_fallM {N : Nat} (hN : 100000000 ≤ N) {nt : Nat} {tl tw tg ls ms pa : Nat → Int} (hb : ∀ i, i < nt → 0 ≤ pa i ∧ pa i ≤ 100) {t r : Nat} (ht : t < nt) (hr : r < 40) {cc : Nat → Nat} {cp : Nat → Int} {wr dd : Int} (hd : dd = 1 ∨ dd = -1) (hw : dd = -wr) {most : Int} (hm : most ≤ 1000) : ∀ (f : Nat) (x c : Int) (fu : Nat) (h : Hs), Sk h → 70 ≤ sz h → RTq h nt tl tw tg ls ms → (∀ i, i < nt → aI h 33 i = iI (updO pa t x i)) → aI h 40 r = iI wr → ICp h cc cp → 0 ≤ c → most - c = f → 0 ≤ x → x ≤ 100 → 0 ≤ x + dd * f → x + dd * f ≤ 100 → f < fu → ∃ h', fX12_snap_b107 N 29 fu h (iI r) (iI t) (iI most) (iI c) = some (iI (c + fallN (canF tl tw pa nt cc cp dd t) dd f x), h') ∧ Ke [] [33] [] [] h h' ∧ sz h' = sz h ∧ (∀ i, i < nt → aI h' 33 i = iI (updO pa t (x + dd * fallN (canF tl tw pa nt cc cp dd t) dd f x) i)) := by
  intro f
  induction f with
  | zero =>
    intro x c fu h hS hz hT hP h40 hK c0 hc x1 x2 b1 b2 hf
    obtain ⟨fu, rfl⟩ : ∃ m, fu = m + 1 := ⟨fu - 1, by omega⟩
    have a1 : iI most ≤ iI c := (iI_le (by omega) (by omega) (by omega) (by omega)).mpr (by omega)
    refine ⟨h, ?_, Ke_rf, rfl, by simpa [fallN] using hP⟩
    show fX12_snap_b107_body N (fX12_snap_b107 N 29 fu) 29 h (iI r) (iI t) (iI most) (iI c) = _
    simp only [fX12_snap_b107_body, fX12_snap_b174]
    refine ifp (a1) ?_
    simp [fallN]
  | succ f ih =>
    intro x c fu h hS hz hT hP h40 hK c0 hc x1 x2 b1 b2 hf
    obtain ⟨fu, rfl⟩ : ∃ m, fu = m + 1 := ⟨fu - 1, by omega⟩
    have a1 : ¬ iI most ≤ iI c := fun q => by have := (iI_le (by omega) (by omega) (by omega) (by omega)).mp q; omega
    have ct := hT.1.2
    have rc12 : rc 12 h (some 29) = some 29 := rcv (by rw [ss_29 hS])
    obtain ⟨⟨g0, g1, g2, g4, g5⟩, bb⟩ := hT.2 t ht
    have g3 := hP t ht
    rw [updO_s] at g3
    obtain ⟨k1, k2, k3, k4⟩ := hK (tl t).toNat (by omega)
    have el : iI (((tl t).toNat : Nat) : Int) = iI (tl t) := by congr 1; omega
    have hcc := L_isCaught (N := N) hS (l := (tl t).toNat) (by omega) k2 k3 (fun k hk => ⟨(k4 k hk).2.1, (k4 k hk).2.2⟩) (x := x) (by omega) (cc (tl t).toNat) 0 N (by omega) (by omega)
    rw [el] at hcc
    have ic : fX12_isCaught N h 29 (iI (tl t)) (iI x) = some (if hasB (fun k => decide (cp (5 * (tl t).toNat + k) = x)) 0 (cc (tl t).toNat) then iI 1 else iI 0, h) := hcc
    have l0 := lAv (ss_30 hS) (show t < 40 by omega) (by omega) g0
    have l3 := lAv (ss_33 hS) (show t < 40 by omega) (by omega) g3
    have l40 := lAv (ss_40 hS) hr (by omega) h40
    have ea : iI x - iI wr = iI (x + dd) := by rw [iI_sub, hw]; congr 1
    have hbu : ∀ i, i < nt → 0 ≤ updO pa t x i ∧ updO pa t x i ≤ 100 := fun i hi => by
      by_cases e : i = t
      · subst e; rw [updO_s]; exact ⟨x1, x2⟩
      · rw [updO_n _ _ e]; exact hb i hi
    have ot := v_other (N := N) hN hS hT hP hbu (x := x + dd) (by omega) (by omega) ht
    have met : (∃ o, o < nt ∧ o ≠ t ∧ HitX tl tw (updO pa t x) (x + dd) t o) ↔ hasB (metB tl tw pa (some t) (tl t) (x + dd) (tw t)) 0 nt = true := by
      rw [hasB_iff]
      constructor
      · rintro ⟨o, h1, h2, h3, h4⟩
        rw [updO_n _ _ h2] at h4
        exact ⟨o, by omega, by omega, decide_eq_true ⟨fun q => h2 (Option.some.inj q).symm, h3.symm, h4⟩⟩
      · rintro ⟨o, h1, h2, h3⟩
        obtain ⟨q1, q2, q3⟩ := of_decide_eq_true h3
        have ne : o ≠ t := fun q => q1 (by rw [q])
        refine ⟨o, by omega, ne, q2.symm, ?_⟩
        rw [updO_n _ _ ne]
        exact q3
    have stay : fallN (canF tl tw pa nt cc cp dd t) dd (f + 1) x = 0 → fX12_snap_b107 N 29 (fu + 1) h (iI r) (iI t) (iI most) (iI c) = some (iI c, h) → ∃ h', fX12_snap_b107 N 29 (fu + 1) h (iI r) (iI t) (iI most) (iI c) = some (iI (c + fallN (canF tl tw pa nt cc cp dd t) dd (f + 1) x), h') ∧ Ke [] [33] [] [] h h' ∧ sz h' = sz h ∧ (∀ i, i < nt → aI h' 33 i = iI (updO pa t (x + dd * fallN (canF tl tw pa nt cc cp dd t) dd (f + 1) x) i)) := by
      intro e0 e1
      rw [e0, e1]
      exact ⟨h, by simp, Ke_rf, rfl, by simpa using hP⟩
    cases hc1 : hasB (fun k => decide (cp (5 * (tl t).toNat + k) = x)) 0 (cc (tl t).toNat) with
    | true =>
      rw [hc1] at ic
      refine stay (by simp [fallN, canF, hc1]) ?_
      show fX12_snap_b107_body N (fX12_snap_b107 N 29 fu) 29 h (iI r) (iI t) (iI most) (iI c) = _
      simp only [fX12_snap_b107_body, fX12_snap_b174, lit]
      refine ifn (a1) ?_
      refine bst (sR_1202_29 hS) ?_
      refine bst (l0) ?_
      refine bst (sR_1205_29 hS) ?_
      refine bst (l3) ?_
      refine bst (rc12) ?_
      refine bst (ic) ?_
      refine ifn (n10) ?_
      rfl
    | false =>
      rw [hc1] at ic
      rcases ot with ⟨o0, e1, e2, e3, e4, e5⟩ | ⟨e1, e2⟩
      · have hc2 := met.mp ⟨o0, e1, e2, e3⟩
        have w0 : iI 0 ≤ iI (o0 : Int) := (iI_le (by omega) (by omega) (by omega) (by omega)).mpr (by omega)
        refine stay (by simp [fallN, canF, hc2]) ?_
        show fX12_snap_b107_body N (fX12_snap_b107 N 29 fu) 29 h (iI r) (iI t) (iI most) (iI c) = _
        simp only [fX12_snap_b107_body, fX12_snap_b174, lit]
        refine ifn (a1) ?_
        refine bst (sR_1202_29 hS) ?_
        refine bst (l0) ?_
        refine bst (sR_1205_29 hS) ?_
        refine bst (l3) ?_
        refine bst (rc12) ?_
        refine bst (ic) ?_
        refine ifp (rfl) ?_
        refine bst (sR_1205_29 hS) ?_
        refine bst (l3) ?_
        refine bst (sR_1214_29 hS) ?_
        refine bst (l40) ?_
        refine bst (rc12) ?_
        rw [ea]
        refine bst (e5) ?_
        refine ifp (w0) ?_
        rfl
      · have hc2 : hasB (metB tl tw pa (some t) (tl t) (x + dd) (tw t)) 0 nt = false := by
          cases hx : hasB (metB tl tw pa (some t) (tl t) (x + dd) (tw t)) 0 nt with
          | false => rfl
          | true =>
            obtain ⟨o, q1, q2, q3⟩ := met.mpr hx
            exact absurd q3 (e1 o q1 q2)
        have hcf : canF tl tw pa nt cc cp dd t x = true := by simp [canF, hc1, hc2]
        have e0 : fallN (canF tl tw pa nt cc cp dd t) dd (f + 1) x = fallN (canF tl tw pa nt cc cp dd t) dd f (x + dd) + 1 := by simp [fallN, hcf]
        rw [e0]
        have w0 : ¬ iI 0 ≤ iI (-1) := by decide
        obtain ⟨h1, eh1⟩ : ∃ h1, h1 = uA h 33 t (iI (x + dd)) := ⟨_, rfl⟩
        have ke1 : Ke [] [33] [] [] h h1 := by rw [eh1]; exact Ke_rf.b 33 _ _ (by decide)
        have s1 : sz h1 = sz h := by rw [eh1]; rfl
        have ef : x + dd * ((f + 1 : Nat) : Int) = x + dd + dd * f := by rw [Int.natCast_add, Int.natCast_one, Int.mul_add, Int.mul_one]; omega
        rw [ef] at b1 b2
        obtain ⟨h', r1, r2, r3, r4⟩ := ih (x + dd) (c + 1) fu h1 (hS.e hz ke1 (by decide)) (by omega) (hT.e hz ke1 (by decide) (by decide)) (fun i hi => by
          by_cases e : i = t
          · subst e
            rw [updO_s, eh1]
            simp [HR]
          · have g := hP i hi
            rw [updO_n _ _ e] at g ⊢
            rw [eh1]
            simp [HR, e, g]) (by rw [ke1.2.1 40 (by decide) (by omega)]; exact h40) (hK.e hz ke1 (by decide)) (by omega) (by omega) (by rcases hd with rfl | rfl <;> omega) (by rcases hd with rfl | rfl <;> omega) b1 b2 (by omega)
        refine ⟨h', ?_, ke1.tr r2, r3.trans s1, ?_⟩
        · show fX12_snap_b107_body N (fX12_snap_b107 N 29 fu) 29 h (iI r) (iI t) (iI most) (iI c) = _
          simp only [fX12_snap_b107_body, lit, Option.bind_some]
          refine ifn (a1) ?_
          refine bst (sR_1202_29 hS) ?_
          refine bst (l0) ?_
          refine bst (sR_1205_29 hS) ?_
          refine bst (l3) ?_
          refine bst (rc12) ?_
          refine bst (ic) ?_
          refine ifp (rfl) ?_
          refine bst (sR_1205_29 hS) ?_
          refine bst (l3) ?_
          refine bst (sR_1214_29 hS) ?_
          refine bst (l40) ?_
          refine bst (rc12) ?_
          rw [ea]
          refine bst (e2) ?_
          refine ifn (w0) ?_
          refine bst (sR_1205_29 hS) ?_
          refine bst (l3) ?_
          refine bst (sR_1214_29 hS) ?_
          refine bst (l40) ?_
          refine bst (sAv (ss_33 hS) (by omega) (by omega)) ?_
          rw [ea, ← eh1, iI_add, r1]
          congr 3
          rw [Int.natCast_add, Int.natCast_one]
          omega
        · have e9 : x + dd * ((fallN (canF tl tw pa nt cc cp dd t) dd f (x + dd) + 1 : Nat) : Int) = x + dd + dd * (fallN (canF tl tw pa nt cc cp dd t) dd f (x + dd) : Nat) := by rw [Int.natCast_add, Int.natCast_one, Int.mul_add, Int.mul_one]; omega
          rw [e9]
          exact r4
/-! ===== snap: class beside reference ===== -/
theorem sZv {h : Hs} {a n i : Nat} {v : Int} (hs : sh h a = (21, n)) (hi : i < n) (hn : n < 5000) (hv : v = 0 ∨ v = 1) : sZ h (some a) (iI i) (iI v) = some (uA h a i (iI v)) := by
  have e1 : ixb (iI (i : Int)) n = true := ixb_i (by omega) (by omega) (by omega)
  have e2 : (iI (i : Int)).toNatClampNeg = i := by rw [iI_cl (by omega) (by omega)]; simp
  have e : vp_nar .boolean (iI v) = iI v := by
    rcases hv with rfl | rfl <;> decide
  simp [sZ, hs, e1, e2, e]
theorem t_snap {N : Nat} (hN : 100000000 ≤ N) {h : Hs} (hS : Sk h) (hz : 70 ≤ sz h) {nr nt nd : Nat} {rA tA dA rT : Nat → Nat} {wy gr hd ds : Nat → Int} {gn : Nat → Bool} {tl tw tg ls ms pa : Nat → Int} {dr td : Nat → Option Nat} {sr dn : Nat → Int} {cc : Nat → Nat} {cp : Nat → Int} (hT : RTh h nt tA tl tw tg ls ms pa) (hnd : nd ≤ 20) (hR : RRo h nr nt rA tA rT wy gr hd gn) (hI : RTi h nt nd nr tA dA rA rT dr td sr dn) (hK : ICp h cc cp) (hB : ICan h) (hG : ∀ r, nr ≤ r → r < 40 → aI h 44 r = iI 0) (hdn : ∀ r, r < nr → dr r ≠ none → -1000000000 ≤ dn r ∧ dn r ≤ 1000000000) (hsl : ∀ r, r < nr → dr r ≠ none → ls (rT r) ≤ sr r ∧ sr r ≤ ms (rT r)) (hA : ∀ r, r < nr → dr r ≠ none → pa (rT r) = sr r + wy r * (dn r).tdiv (100 * gr r)) (p : Int32) : ∃ a h1 h2 pa' gn' dr' td', fX11_snap N h 0 p = some (a, h1) ∧ fX12_snap N h1 29 p = some (a, h2) ∧ RTh h2 nt tA tl tw tg ls ms pa' ∧ RRo h2 nr nt rA tA rT wy gr hd gn' ∧ RTi h2 nt nd nr tA dA rA rT dr' td' sr dn ∧ ICn h h2 ∧ (∀ r, nr ≤ r → r < 40 → aI h2 44 r = iI 0) ∧ (∀ r, r < nr → dr' r ≠ none → dr r ≠ none ∧ pa' (rT r) = pa (rT r)) ∧ Ke [407, 408, 907, 1106, 1243] [33, 42, 44] [405, 909] [] h h2 ∧ sz h2 = sz h := by
  obtain ⟨z, y1, y2, rfl⟩ := iI_ex p
  obtain ⟨hC, hM, hL⟩ := RTi_iff.mp hI
  have hB0 := hB
  obtain ⟨c, k1, k2, k3⟩ := hB
  have ct := hT.1.2.2
  have cr := hR.1.2.2
  have rc5 : rc 5 h (some 14) = some 14 := rcv (by rw [ss_14 hS])
  have rc11 : rc 11 h (some 0) = some 0 := rcv (by rw [ss_0 hS])
  have rc12 : rc 12 h (some 29) = some 29 := rcv (by rw [ss_29 hS])
  have ir := v_isRope (N := N) hS hR.1.2.1 cr y1 y2
  have no : ∀ v : Int, v = -1 ∨ v = -2 → fX5_breakRope N h 14 (iI z) = some (iI v, h) → fX11_snap N h 0 (iI z) = some (iI v, h) := by
    intro v hv e
    have dd := v_deed (N := N) hS (r := iI v) (z := 0) (Or.inl rfl)
    rw [if_neg (by decide)] at dd
    have l0 : iI v < iI 0 := (iI_lt (by omega) (by omega) (by omega) (by omega)).mpr (by omega)
    simp only [fX11_snap, fX11_snap_b20, lit]
    refine bst (sR_1100_0 hS) ?_
    refine bst (rc5) ?_
    refine bst (e) ?_
    refine ifp (l0) ?_
    refine bst (rc11) ?_
    refine bst (dd) ?_
    rfl
  by_cases w : 0 ≤ z ∧ z ≤ (nr : Int) - 1
  · obtain ⟨r, rfl⟩ : ∃ i : Nat, z = i := ⟨z.toNat, by omega⟩
    have hr : r < nr := by omega
    rw [if_pos w] at ir
    have ry := v_ropeY (N := N) hS hR hr
    obtain ⟨⟨d1, d2, d3, d4⟩, ⟨f0, f1, f2, f3, f4, f8⟩, ⟨m0, m1, m2, m3, m4⟩, q1, q2, q3, q4, q5⟩ := hR.2.1 r hr
    obtain ⟨x1, x2⟩ := hM r hr
    obtain ⟨v1, v2⟩ := hC.1 r hr
    cases hdr : dr r with
    | none =>
      rw [hdr] at x1 v1
      simp only [od] at x1
      refine ⟨iI (-2), h, h, pa, gn, dr, td, no (-2) (by omega) ?_, ?_, hT, hR, hI, hB0.n, hG, fun r _ hn => ⟨hn, rfl⟩, Ke_rf, rfl⟩
      · simp only [fX5_breakRope, lit, iI_neg]
        refine bst (rc5) ?_
        refine bst (ry) ?_
        refine ifn (fun q => by cases q) ?_
        refine bst (oRv (by rw [d4]) v1) ?_
        refine ifp (rfl) ?_
        rfl
      · have w0 : ¬ iI 0 ≤ iI (-1) := by decide
        simp only [fX12_snap, lit, iI_neg]
        refine bst (rc12) ?_
        refine bst (ir) ?_
        refine ifn (n10) ?_
        refine bst (sR_1216_29 hS) ?_
        refine bst (lAv (ss_42 hS) (by omega) (by omega) x1) ?_
        refine ifn (w0) ?_
        rfl
    | some e0 =>
      have hne : dr r ≠ none := by rw [hdr]; exact fun q => by cases q
      obtain ⟨hel, htr⟩ := hL.1 r e0 hr hdr
      obtain ⟨x3, x4⟩ := x2 hne
      obtain ⟨v3, v4⟩ := v2 hne
      rw [hdr] at x1 v1
      simp only [od] at x1
      obtain ⟨t, et⟩ : ∃ t, t = rT r := ⟨_, rfl⟩
      have ht : t < nt := by rw [et]; exact q1
      obtain ⟨⟨t1, t2, t3, t4⟩, ⟨g0, g1, g2, g3, g4, g5, g7⟩, ⟨a0, a1, a2, a3, a4, a5⟩, bb⟩ := hT.2.1 t ht
      have nb := hdn r hr hne
      have sb := hsl r hr hne
      have hAr := hA r hr hne
      rw [← et] at sb hAr x4 f1 m0 htr
      obtain ⟨M, hM0, hMd⟩ : ∃ M : Int, 0 ≤ M ∧ ((dn r ≤ 0 ∧ M = 0) ∨ (0 < dn r ∧ pa t = sr r + wy r * M)) := by
        by_cases q : dn r ≤ 0
        · exact ⟨0, by omega, Or.inl ⟨q, rfl⟩⟩
        · refine ⟨(dn r).tdiv (100 * gr r), ?_, Or.inr ⟨by omega, hAr⟩⟩
          rw [Int.tdiv_eq_ediv_of_nonneg (by omega)]
          exact Int.ediv_nonneg (by omega) (by omega)
      have hMb : M ≤ 100 := by
        rcases hMd with ⟨_, q⟩ | ⟨_, q⟩
        · omega
        · rcases q2 with q2 | q2 <;> rw [q2] at q <;> omega
      have hend : ls t ≤ pa t + -wy r * M ∧ pa t + -wy r * M ≤ ms t := by
        rcases hMd with ⟨_, q⟩ | ⟨_, q⟩
        · rw [q, Int.mul_zero]; omega
        · rw [Int.neg_mul]; omega
      have hdd : -wy r = 1 ∨ -wy r = -1 := by omega
      have eM : ((M.toNat : Nat) : Int) = M := by omega
      have epa : updO pa t (pa t) = pa := by
        funext j
        by_cases e : j = t
        · rw [e, updO_s]
        · rw [updO_n _ _ e]
      -- the class
      have vl := v_loosen (N := N) (dA := dA) hR hT hr
      rw [← et] at vl
      have hCl := hC.loose hL hT.2.2 hR.2.2 hr q1 (iI 0)
      rw [← et] at hCl
      have ke1 : Ke [407] [] [405, 909] [] h (uR (uI (uR h 405 (rA r) none) 407 (rA r) (iI 0)) 909 (tA t) none) := ((Ke_rf.r 405 _ _ (by decide)).u 407 _ _ (by decide)).r 909 _ _ (by decide)
      have sz1 : sz (uR (uI (uR h 405 (rA r) none) 407 (rA r) (iI 0)) 909 (tA t) none) = sz h := rfl
      have sh1 : ∀ a, sh (uR (uI (uR h 405 (rA r) none) 407 (rA r) (iI 0)) 909 (tA t) none) a = sh h a := fun _ => rfl
      generalize uR (uI (uR h 405 (rA r) none) 407 (rA r) (iI 0)) 909 (tA t) none = h1 at vl hCl ke1 sz1 sh1
      obtain ⟨h2, eh2⟩ : ∃ h2, h2 = uI h1 408 (rA r) (iI 1) := ⟨_, rfl⟩
      have ke2 : Ke [408] [] [] [] h1 h2 := by rw [eh2]; exact Ke_rf.u 408 _ _ (by decide)
      have sz2 : sz h2 = sz h := by rw [eh2]; exact sz1
      have sh2 : ∀ a, sh h2 a = sh h a := fun a => by rw [eh2]; exact sh1 a
      have ke12 : Ke [407, 408] [] [405, 909] [] h h2 := (ke1.w (by decide) (by decide) (by decide) (by decide)).tr (ke2.w (by decide) (by decide) (by decide) (by decide))
      have hS2 := hS.e hz ke12 (by decide)
      have hTo2 : RTo h2 nt tA tl tw tg ls ms (updO pa t (pa t)) := by rw [epa]; exact hT.o.e hz ke12 (by decide) (by decide)
      obtain ⟨h3, r1, ke3, sz3, hTo3⟩ := L_fall (N := N) hN ht (dd := -wy r) hdd (most := M) (by omega) M.toNat (pa t) 0 N h2 hS2 (by omega) hTo2 (hK.e hz ke12 (by decide)) (by omega) (by omega) (by rw [eM]; exact hend.1) (by rw [eM]; exact hend.2) (by omega)
      obtain ⟨K, eK⟩ : ∃ K : Nat, K = fallN (canF tl tw pa nt cc cp (-wy r) t) (-wy r) M.toNat (pa t) := ⟨_, rfl⟩
      have hKb : K ≤ M.toNat := by rw [eK]; exact fallN_le _ _ _ _
      rw [← eK, Int.zero_add] at r1
      rw [← eK] at hTo3
      have hz3 : 70 ≤ sz h3 := by omega
      have ke13 : Ke [407, 408, 907] [] [405, 909] [] h h3 := (ke12.w (by decide) (by decide) (by decide) (by decide)).tr (ke3.w (by decide) (by decide) (by decide) (by decide))
      have hS3 := hS.e hz ke13 (by decide)
      have b48 : ∀ u0 : Int32, u0 = iI M → fX5_breakRope_b48 N 14 h (some (rA r)) u0 = some (iI K, h3) := by
        intro u0 hu0
        have rc4 : rc 4 h (some (rA r)) = some (rA r) := rcv (by rw [d4])
        have z8 : qZ 4 8 h1 (some (rA r)) (iI 1) = some h2 := by rw [eh2]; exact qZv (by rw [sh1, d4]) (by omega)
        have o1 : oR 4 1 h2 (some (rA r)) = some (some (tA t)) := oRv (by rw [sh2, d4]) (by rw [ke12.2.2.1 401 _ (by decide) d3]; exact f1)
        have o2 : oI 4 2 h2 (some (rA r)) = some (iI (wy r)) := oIv (by rw [sh2, d4]) (by rw [ke12.1 402 _ (by decide) d3]; exact f2)
        have fl : fX5_fall N h2 14 (some (tA t)) (iI (-wy r)) (iI M) = some (iI K, h3) := r1
        rw [hu0]
        simp only [fX5_breakRope_b48, lit]
        refine bst (rc4) ?_
        refine bst (vl) ?_
        refine bst (z8) ?_
        refine bst (o1) ?_
        refine bst (o2) ?_
        refine bst (rcv (by rw [ss_14 hS2])) ?_
        rw [iI_neg]
        refine bst (fl) ?_
        rfl
      have br : fX5_breakRope N h 14 (iI (r : Int)) = some (iI K, h3) := by
        have o7 : oI 4 7 h (some (rA r)) = some (iI (dn r)) := oIv (by rw [d4]) v4
        have ld : iI (dn r) ≤ iI 0 ↔ dn r ≤ 0 := iI_le (by omega) (by omega) (by omega) (by omega)
        have o5 : oR 4 5 h (some (rA r)) = some (some (dA e0)) := oRv (by rw [d4]) v1
        simp only [fX5_breakRope, lit, iI_neg]
        rcases hMd with ⟨q, q'⟩ | ⟨q, q'⟩
        · skip
          refine bst (rc5) ?_
          refine bst (ry) ?_
          refine ifn (fun q => by cases q) ?_
          refine bst (o5) ?_
          refine ifn (fun q => by cases q) ?_
          refine bst (o7) ?_
          refine ifp (ld.mpr q) ?_
          exact b48 _ (by rw [q'])
        · have ab : (if iI 0 ≤ iI (pa t) - iI (sr r) then iI (pa t) - iI (sr r) else iI 0 - (iI (pa t) - iI (sr r))) = iI M := by
            rw [iI_sub]
            by_cases v : 0 ≤ pa t - sr r
            · rw [if_pos ((iI_le (by omega) (by omega) (by omega) (by omega)).mpr v)]
              congr 1
              rcases q2 with q2 | q2 <;> rw [q2] at q' <;> omega
            · rw [if_neg (fun s => v ((iI_le (by omega) (by omega) (by omega) (by omega)).mp s)), iI_sub]
              congr 1
              rcases q2 with q2 | q2 <;> rw [q2] at q' <;> omega
          refine bst (rc5) ?_
          refine bst (ry) ?_
          refine ifn (fun q => by cases q) ?_
          refine bst (o5) ?_
          refine ifn (fun q => by cases q) ?_
          refine bst (o7) ?_
          refine ifn (fun s => by have := ld.mp s; omega) ?_
          refine bst (oRv (by rw [d4]) f1) ?_
          refine bst (oIv (by rw [t4]) g7) ?_
          refine bst (oIv (by rw [d4]) v3) ?_
          exact b48 _ ab
      obtain ⟨h4, eh4⟩ : ∃ h4, h4 = uI h3 1106 0 (iI 0) := ⟨_, rfl⟩
      have ke4 : Ke [1106] [] [] [] h3 h4 := by rw [eh4]; exact Ke_rf.u 1106 _ _ (by decide)
      have sz4 : sz h4 = sz h := by rw [eh4]; exact sz3.trans sz2
      have ke14 : Ke [407, 408, 907, 1106] [] [405, 909] [] h h4 := (ke13.w (by decide) (by decide) (by decide) (by decide)).tr (ke4.w (by decide) (by decide) (by decide) (by decide))
      have hS4 := hS.e hz ke14 (by decide)
      have hz4 : 70 ≤ sz h4 := by omega
      have cl : fX11_snap N h 0 (iI (r : Int)) = some (iI K, h4) := by
        have dd := v_deed (N := N) hS3 (r := iI K) (z := 1) (Or.inr rfl)
        rw [if_pos rfl, ← eh4] at dd
        have l0 : ¬ iI (K : Int) < iI 0 := fun s => by have := (iI_lt (by omega) (by omega) (by omega) (by omega)).mp s; omega
        simp only [fX11_snap, fX11_snap_b20, lit]
        refine bst (sR_1100_0 hS) ?_
        refine bst (rc5) ?_
        refine bst (br) ?_
        refine ifn (l0) ?_
        refine bst (rcv (by rw [ss_0 hS3])) ?_
        refine bst (dd) ?_
        rfl
      -- the reference
      have ka : ∀ a, a < 70 → aI h4 a = aI h a := fun a ha => ke14.2.1 a (by simp) (by omega)
      obtain ⟨h5, eh5⟩ : ∃ h5, h5 = uI (uA (uA h4 42 r (iI (-1))) 44 r (iI 1)) 1243 29 (iI 0) := ⟨_, rfl⟩
      have ke5 : Ke [1243] [42, 44] [] [] h4 h5 := by rw [eh5]; exact ((Ke_rf.b 42 _ _ (by decide)).b 44 _ _ (by decide)).u 1243 _ _ (by decide)
      have sz5 : sz h5 = sz h := by rw [eh5]; exact sz4
      have hS5 := hS4.e hz4 ke5 (by decide)
      have kb : ∀ a, a < 70 → a ∉ [42, 44] → aI h5 a = aI h a := fun a ha hn => by rw [ke5.2.1 a hn (by omega), ka a ha]
      have ke15 : Ke [407, 408, 907, 1106, 1243] [42, 44] [405, 909] [] h h5 := (ke14.w (by decide) (by decide) (by decide) (by decide)).tr (ke5.w (by decide) (by decide) (by decide) (by decide))
      obtain ⟨h6, r2, ke6, sz6, hP6⟩ := L_fallM (N := N) hN (fun i hi => (show 0 ≤ pa i ∧ pa i ≤ 100 by have := (hT.2.1 i hi).2.2.2; omega)) ht (show r < 40 by omega) (dd := -wy r) (wr := wy r) hdd rfl (most := M) (by omega) M.toNat (pa t) 0 N h5 hS5 (by omega) (hT.q.e hz ke15 (by decide) (by decide)) (fun i hi => by rw [epa, kb 33 (by decide) (by decide)]; exact (hT.2.1 i hi).2.2.1.2.2.2.1) (by rw [kb 40 (by decide) (by decide)]; exact m2) (hK.e hz ke15 (by decide)) (by omega) (by omega) (by omega) (by omega) (by rw [eM]; omega) (by rw [eM]; omega) (by omega)
      rw [← eK, Int.zero_add] at r2
      rw [← eK] at hP6
      have ke16 : Ke [407, 408, 907, 1106, 1243] [33, 42, 44] [405, 909] [] h h6 := (ke15.w (by decide) (by decide) (by decide) (by decide)).tr (ke6.w (by decide) (by decide) (by decide) (by decide))
      have rf : fX12_snap N h4 29 (iI (r : Int)) = some (iI K, h6) := by
        have ir4 := v_isRope (N := N) hS4 (by rw [ke14.1 1211 29 (by decide) (by omega)]; exact hR.1.2.1) cr (z := r) (by omega) (by omega)
        rw [if_pos w] at ir4
        have b85 : ∀ u : Int32, u = iI M → fX12_snap_b85 N 29 h4 (iI (r : Int)) (iI (t : Int)) u = some (iI K, h6) := by
          intro u hu
          have s42 : sA h4 (some 42) (iI (r : Int)) (iI (-1)) = some (uA h4 42 r (iI (-1))) := sAv (ss_42 hS4) (by omega) (by omega)
          have hSx : Sk (uA h4 42 r (iI (-1))) := hS4.e hz4 (F := []) (A := [42]) (FR := []) (AQ := []) (Ke_rf.b 42 _ _ (by decide)) (by decide)
          have s44 : sZ (uA h4 42 r (iI (-1))) (some 44) (iI (r : Int)) (iI 1) = some (uA (uA h4 42 r (iI (-1))) 44 r (iI 1)) := sZv (ss_44 hSx) (by omega) (by omega) (by omega)
          have z43 : qZ 12 43 (uA (uA h4 42 r (iI (-1))) 44 r (iI 1)) (some 29) (iI 0) = some h5 := by rw [eh5]; exact qZv (by rw [sh_uA, sh_uA, ss_29 hS4]) (by omega)
          rw [hu]
          simp only [fX12_snap_b85, lit, iI_neg]
          refine bst (sR_1216_29 hS4) ?_
          refine bst (s42) ?_
          refine bst (sR_1218_29 hSx) ?_
          refine bst (s44) ?_
          refine bst (z43) ?_
          exact r2
        have l42 := lAv (ss_42 hS4) (show r < 40 by omega) (by omega) (v := iI (e0 : Int)) (by rw [ka 42 (by decide)]; exact x1)
        have l38 := lAv (ss_38 hS4) (show r < 40 by omega) (by omega) (v := iI (t : Int)) (by rw [ka 38 (by decide)]; exact m0)
        have l33 := lAv (ss_33 hS4) (show t < 40 by omega) (by omega) (v := iI (pa t)) (by rw [ka 33 (by decide)]; exact a3)
        have l36 := lAv (ss_36 hS4) (show t < 40 by omega) (by omega) (v := iI (sr r)) (by rw [ka 36 (by decide)]; exact x4)
        have l43 := lAv (ss_43 hS4) (show r < 40 by omega) (by omega) (v := iI (dn r)) (by rw [ka 43 (by decide)]; exact x3)
        have w2 : iI 0 ≤ iI (e0 : Int) := (iI_le (by omega) (by omega) (by omega) (by omega)).mpr (by omega)
        have ld : iI 0 < iI (dn r) ↔ 0 < dn r := iI_lt (by omega) (by omega) (by omega) (by omega)
        have b73 : ∀ u : Int32, (0 < dn r → u = iI M) → fX12_snap_b73 N 29 h4 (iI (r : Int)) (iI (t : Int)) u = some (iI K, h6) := by
          intro u hu
          simp only [fX12_snap_b73, lit]
          by_cases v : 0 < dn r
          · skip
            refine bst (sR_1217_29 hS4) ?_
            refine bst (l43) ?_
            refine ifp (ld.mpr v) ?_
            exact b85 _ (hu v)
          · have : M = 0 := by omega
            refine bst (sR_1217_29 hS4) ?_
            refine bst (l43) ?_
            refine ifn (fun s => v (ld.mp s)) ?_
            exact b85 _ (by rw [this])
        have lv : iI (sr r) ≤ iI (pa t) ↔ sr r ≤ pa t := iI_le (by omega) (by omega) (by omega) (by omega)
        simp only [fX12_snap, lit]
        by_cases v : sr r ≤ pa t
        · have e9 : 0 < dn r → iI (pa t) - iI (sr r) = iI M := fun q => by
            rw [iI_sub]
            congr 1
            rcases hMd with ⟨q0, _⟩ | ⟨_, q'⟩
            · omega
            · rcases q2 with q2 | q2 <;> rw [q2] at q' <;> omega
          refine bst (rcv (by rw [ss_29 hS4])) ?_
          refine bst (ir4) ?_
          refine ifn (n10) ?_
          refine bst (sR_1216_29 hS4) ?_
          refine bst (l42) ?_
          refine ifp (w2) ?_
          refine bst (sR_1212_29 hS4) ?_
          refine bst (l38) ?_
          refine bst (sR_1205_29 hS4) ?_
          refine bst (l33) ?_
          refine bst (sR_1208_29 hS4) ?_
          refine bst (l36) ?_
          refine ifp (lv.mpr v) ?_
          refine bst (sR_1205_29 hS4) ?_
          refine bst (l33) ?_
          refine bst (sR_1208_29 hS4) ?_
          refine bst (l36) ?_
          exact b73 _ e9
        · have e9 : 0 < dn r → iI (sr r) - iI (pa t) = iI M := fun q => by
            rw [iI_sub]
            congr 1
            rcases hMd with ⟨q0, _⟩ | ⟨_, q'⟩
            · omega
            · rcases q2 with q2 | q2 <;> rw [q2] at q' <;> omega
          refine bst (rcv (by rw [ss_29 hS4])) ?_
          refine bst (ir4) ?_
          refine ifn (n10) ?_
          refine bst (sR_1216_29 hS4) ?_
          refine bst (l42) ?_
          refine ifp (w2) ?_
          refine bst (sR_1212_29 hS4) ?_
          refine bst (l38) ?_
          refine bst (sR_1205_29 hS4) ?_
          refine bst (l33) ?_
          refine bst (sR_1208_29 hS4) ?_
          refine bst (l36) ?_
          refine ifn (fun s => v (lv.mp s)) ?_
          refine bst (sR_1208_29 hS4) ?_
          refine bst (l36) ?_
          refine bst (sR_1205_29 hS4) ?_
          refine bst (l33) ?_
          exact b73 _ e9
      have ke36 : Ke [1106, 1243] [33, 42, 44] [] [] h3 h6 := (ke4.w (by decide) (by decide) (by decide) (by decide)).tr ((ke5.w (by decide) (by decide) (by decide) (by decide)).tr (ke6.w (by decide) (by decide) (by decide) (by decide)))
      have hM5 : RTm h5 nr rT (updO dr r none) sr dn := by
        have := (hM.e hz ke14 (by decide)).loose hr
        refine this.e (by show 70 ≤ sz h4; omega) (F := [1243]) (A := [44]) (FR := []) (AQ := []) (by rw [eh5]; exact (Ke_rf.b 44 _ _ (by decide)).u 1243 _ _ (by decide)) (by decide)
      refine ⟨iI K, h4, h6, updO pa t (pa t + -wy r * K), updO gn r true, updO dr r none, updO td t none, cl, rf, ?_, ?_, ?_, ?_, ?_, ?_, ke16, by omega⟩
      · refine RTh_of (hTo3.e (by omega) ke36 (by decide) (by decide)) (by rw [ke16.1 1201 29 (by decide) (by omega)]; exact hT.1.2.1) (fun i hi => ?_)
        obtain ⟨-, -, ⟨z0, z1, z2, z3, z4, z5⟩, -⟩ := hT.2.1 i hi
        rw [ke16.2.1 30 (by decide) (by omega), ke16.2.1 31 (by decide) (by omega), ke16.2.1 32 (by decide) (by omega), ke16.2.1 34 (by decide) (by omega), ke16.2.1 35 (by decide) (by omega), hP6 i hi]
        exact ⟨z0, z1, z2, rfl, z4, z5⟩
      · refine ⟨⟨by rw [ke16.1 509 14 (by decide) (by omega)]; exact hR.1.1, by rw [ke16.1 1211 29 (by decide) (by omega)]; exact hR.1.2.1, cr⟩, fun s hs => ?_, hR.2.2⟩
        obtain ⟨⟨e1, e2, e3, e4⟩, ⟨w0, w1, w2, w3, w4, w8⟩, ⟨u0, u1, u2, u3, u4⟩, uu⟩ := hR.2.1 s hs
        refine ⟨⟨by rw [ke16.2.2.2.1 17 (by decide) (by omega)]; exact e1, e2, by omega, by rw [ke16.2.2.2.2.1 _ e3]; exact e4⟩, ⟨by rw [ke16.1 400 _ (by decide) e3]; exact w0, by rw [ke16.2.2.1 401 _ (by decide) e3]; exact w1, by rw [ke16.1 402 _ (by decide) e3]; exact w2, by rw [ke16.1 403 _ (by decide) e3]; exact w3, by rw [ke16.1 404 _ (by decide) e3]; exact w4, ?_⟩, ⟨by rw [ke16.2.1 38 (by decide) (by omega)]; exact u0, by rw [ke16.2.1 39 (by decide) (by omega)]; exact u1, by rw [ke16.2.1 40 (by decide) (by omega)]; exact u2, by rw [ke16.2.1 41 (by decide) (by omega)]; exact u3, ?_⟩, uu⟩
        · rw [ke36.1 408 _ (by decide) (by omega), ke3.1 408 _ (by decide) (by omega), eh2]
          by_cases e : s = r
          · subst e
            rw [updO_s]
            simp [HR, b2]
          · have na : ¬ rA s = rA r := fun q => e (hR.2.2 s r hs hr q)
            rw [updO_n _ _ e]
            have : gI h1 408 (rA s) = gI h 408 (rA s) := ke1.1 408 _ (by decide) e3
            simp [HR, na, this, w8]
        · rw [ke6.2.1 44 (by decide) (by omega), eh5]
          by_cases e : s = r
          · subst e
            rw [updO_s]
            simp [HR, b2]
          · rw [updO_n _ _ e]
            simp [HR, e, ka 44 (by decide), u4]
      · refine RTi_iff.mpr ⟨?_, hM5.e (by omega) ke6 (by decide), ?_⟩
        · have ke_1 : Ke [408, 907, 1106, 1243] [33, 42, 44] [] [] h1 h6 := (ke2.w (by decide) (by decide) (by decide) (by decide)).tr ((ke3.w (by decide) (by decide) (by decide) (by decide)).tr (ke36.w (by decide) (by decide) (by decide) (by decide)))
          exact hCl.e (fun i hi => by have := hT.lt i hi; omega) (fun s hs => by have := hR.lt s hs; omega) ke_1 (by decide) (by decide)
        · have := hL.loose hr hdr
          rw [← et] at this
          exact this
      · refine ⟨0, ?_, ?_, Or.inl rfl⟩
        · rw [ke6.1 1106 0 (by decide) (by omega), ke5.1 1106 0 (by decide) (by omega), eh4]
          simp [HR]
        · rw [ke6.1 1243 29 (by decide) (by omega), eh5]
          simp [HR]
      · intro s s1 s2
        have e : ¬ s = r := by omega
        rw [ke6.2.1 44 (by decide) (by omega), eh5]
        simp [HR, e, ka 44 (by decide), hG s s1 s2]
      · intro s hs hn
        by_cases e : s = r
        · subst e
          rw [updO_s] at hn
          exact absurd rfl hn
        · rw [updO_n _ _ e] at hn
          refine ⟨hn, ?_⟩
          obtain ⟨d0, hd0⟩ := Option.ne_none_iff_exists'.mp hn
          have hts := (hL.1 s d0 hs hd0).2
          have ne : rT s ≠ t := fun q => by
            rw [q, htr] at hts
            exact e (Option.some.inj hts).symm
          rw [updO_n _ _ ne]
  · rw [if_neg w] at ir
    have rn := v_ropeN (N := N) hS hR y1 y2 w
    refine ⟨iI (-1), h, h, pa, gn, dr, td, no (-1) (by omega) ?_, ?_, hT, hR, hI, hB0.n, hG, fun r _ hn => ⟨hn, rfl⟩, Ke_rf, rfl⟩
    · simp only [fX5_breakRope, lit, iI_neg]
      refine bst (rc5) ?_
      refine bst (rn) ?_
      refine ifp (rfl) ?_
      rfl
    · simp only [fX12_snap, lit, iI_neg]
      refine bst (rc12) ?_
      refine bst (ir) ?_
      refine ifp (rfl) ?_
      rfl
/-! ===== change: what is found, and the class ===== -/
def fsm (p : Nat → Bool) (i : Nat) : Nat → Int
  | 0 => -1
  | d + 1 => if p i then (i : Int) else fsm p (i + 1) d
theorem fsm_y (p : Nat → Bool) {i d : Nat} (h : p i = true) : fsm p i (d + 1) = i := by
  simp only [fsm, h, if_true]
theorem fsm_n (p : Nat → Bool) {i d : Nat} (h : p i = false) : fsm p i (d + 1) = fsm p (i + 1) d := by
  simp [fsm, h]
theorem fsm_b (p : Nat → Bool) : ∀ (d i : Nat), -1 ≤ fsm p i d ∧ fsm p i d < i + d
  | 0, i => by simp only [fsm]; omega
  | d + 1, i => by
    have := fsm_b p d (i + 1)
    rw [fsm]
    split <;> omega
def fdr (pa wy gr ds : Nat → Int) (rT : Nat → Nat) (nd : Nat) (gl n : Int) (r : Nat) : Int := fsm (fun d => decide (pa (rT r) + wy r * (ds d * n).tdiv (100 * gr r) = gl)) 0 nd
def srv (pa wy gr ds hd tg : Nat → Int) (rT : Nat → Nat) (gn : Nat → Bool) (nd : Nat) (gl n : Int) (i r : Nat) : Bool := decide (rT r = i ∧ gn r = false ∧ 0 ≤ hd r - ldv (tg (rT r)) (gr r) ∧ 0 ≤ fdr pa wy gr ds rT nd gl n r)
theorem pl_bd {a b w g : Int} (a1 : 1 ≤ a) (a2 : a ≤ 20) (b1 : -9999 ≤ b) (b2 : b ≤ 9999) (hw : w = 1 ∨ w = -1) : -200000 ≤ a * b ∧ a * b ≤ 200000 ∧ -200000 ≤ w * (a * b).tdiv (100 * g) ∧ w * (a * b).tdiv (100 * g) ≤ 200000 := by
  have h1 : a * b ≤ a * 9999 := Int.mul_le_mul_of_nonneg_left b2 (by omega)
  have h2 : a * (-9999) ≤ a * b := Int.mul_le_mul_of_nonneg_left b1 (by omega)
  generalize a * b = x at *
  have h3 := td_abs x (100 * g)
  generalize x.tdiv (100 * g) = y at *
  rcases hw with rfl | rfl <;> omega
theorem L_fdC {N : Nat} {h : Hs} (hS : Sk h) {nr nt nd : Nat} {rA tA dA rT : Nat → Nat} {wy gr hd ds : Nat → Int} {gn : Nat → Bool} {tl tw tg ls ms pa : Nat → Int} (hT : RTh h nt tA tl tw tg ls ms pa) (hD : RDr h nd dA ds) (hR : RRo h nr nt rA tA rT wy gr hd gn) {gl n : Int} (g1 : -1 ≤ gl) (g2 : gl ≤ 100) (n1 : -9999 ≤ n) (n2 : n ≤ 9999) {r : Nat} (hr : r < nr) : ∀ (e i fu : Nat), i + e = nd → e < fu → fX1_findDrum_b3 N 25 fu h (some (rA r)) (iI gl) (iI n) (iI i) = some (iI (fsm (fun d => decide (pa (rT r) + wy r * (ds d * n).tdiv (100 * gr r) = gl)) i e), h) := by
  have c3 := hD.1.2.2
  have o8 : oI 5 8 h (some 14) = some (iI nd) := oIv (by rw [ss_14 hS]) hD.1.1
  obtain ⟨⟨-, -, -, d4⟩, ⟨f0, f1, f2, f3, f4, f8⟩, -, q1, q2, q3, q4, q5⟩ := hR.2.1 r hr
  obtain ⟨⟨-, -, -, t4⟩, ⟨-, -, -, -, -, -, g7⟩, -, bb⟩ := hT.2.1 (rT r) q1
  intro e
  induction e with
  | zero =>
    intro i fu hi hf
    obtain ⟨fu, rfl⟩ : ∃ m, fu = m + 1 := ⟨fu - 1, by omega⟩
    show fX1_findDrum_b3_body N (fX1_findDrum_b3 N 25 fu) 25 h (some (rA r)) (iI gl) (iI n) (iI i) = _
    have a1 : iI (nd : Int) ≤ iI (i : Int) := (iI_le (by omega) (by omega) (by omega) (by omega)).mpr (by omega)
    simp only [fX1_findDrum_b3_body, lit, iI_neg]
    refine bst (sR_100_25 hS) ?_
    refine bst (o8) ?_
    refine ifp (a1) ?_
    rfl
  | succ e ih =>
    intro i fu hi hf
    obtain ⟨fu, rfl⟩ : ∃ m, fu = m + 1 := ⟨fu - 1, by omega⟩
    show fX1_findDrum_b3_body N (fX1_findDrum_b3 N 25 fu) 25 h (some (rA r)) (iI gl) (iI n) (iI i) = _
    have a1 : ¬ iI (nd : Int) ≤ iI (i : Int) := fun q => by have := (iI_le (by omega) (by omega) (by omega) (by omega)).mp q; omega
    obtain ⟨⟨e1, -, -, e4⟩, ⟨-, e2⟩, -, e5, e6⟩ := hD.2.1 i (by omega)
    obtain ⟨p1, p2, p3, p4⟩ := pl_bd (g := gr r) e5 e6 n1 n2 q2
    have q := ih (i + 1) fu (by omega) (by omega)
    simp only [Int.natCast_add, Int.natCast_one] at q
    have lq : lQ 24 h (some 16) (iI i) = some (some (dA i)) := lQv (ss_16 hS) (by omega) (by omega) e1
    have pf := v_placeFrom (N := N) hR hr (p := pa (rT r)) (q := ds i * n) (by omega) (by omega)
    have rc4 : rc 4 h (some (rA r)) = some (rA r) := rcv (by rw [d4])
    have le : iI (pa (rT r) + wy r * (ds i * n).tdiv (100 * gr r)) = iI gl ↔ pa (rT r) + wy r * (ds i * n).tdiv (100 * gr r) = gl := iI_eq (by omega) (by omega) (by omega) (by omega)
    have em : iI (ds i) * iI n = iI (ds i * n) := by rw [iI_mul]
    simp only [fX1_findDrum_b3_body, lit, iI_add, Option.bind_some]
    by_cases w : pa (rT r) + wy r * (ds i * n).tdiv (100 * gr r) = gl
    · rw [fsm_y _ (decide_eq_true w)]
      refine bst (sR_100_25 hS) ?_
      refine bst (o8) ?_
      refine ifn (a1) ?_
      refine bst (oRv (by rw [d4]) f1) ?_
      refine bst (oIv (by rw [t4]) g7) ?_
      refine bst (sR_100_25 hS) ?_
      refine bst (sR_501_14 hS) ?_
      refine bst (lq) ?_
      refine bst (oIv (by rw [e4]) e2) ?_
      refine bst (rc4) ?_
      rw [em]
      refine bst (pf) ?_
      refine ifp (le.mpr w) ?_
      rfl
    · rw [fsm_n _ (decide_eq_false w)]
      refine bst (sR_100_25 hS) ?_
      refine bst (o8) ?_
      refine ifn (a1) ?_
      refine bst (oRv (by rw [d4]) f1) ?_
      refine bst (oIv (by rw [t4]) g7) ?_
      refine bst (sR_100_25 hS) ?_
      refine bst (sR_501_14 hS) ?_
      refine bst (lq) ?_
      refine bst (oIv (by rw [e4]) e2) ?_
      refine bst (rc4) ?_
      rw [em]
      refine bst (pf) ?_
      refine ifn (fun z => w (le.mp z)) ?_
      exact q
/-- what findTie leaves of thing i: the rope f, or none -/
def ftH (h : Hs) (a b i : Nat) (f d : Int) : Hs := uA (uA h a i (iI f)) b i (iI d)
theorem L_ftC {N : Nat} (hN : 100000000 ≤ N) {h : Hs} (hS : Sk h) (hz : 70 ≤ sz h) {nr nt nd : Nat} {rA tA dA rT : Nat → Nat} {wy gr hd ds : Nat → Int} {gn : Nat → Bool} {tl tw tg ls ms pa : Nat → Int} (hT : RTh h nt tA tl tw tg ls ms pa) (hD : RDr h nd dA ds) (hR : RRo h nr nt rA tA rT wy gr hd gn) {gl n : Int} (g1 : -1 ≤ gl) (g2 : gl ≤ 100) (n1 : -9999 ≤ n) (n2 : n ≤ 9999) {i : Nat} (hi : i < nt) : ∀ (e j fu : Nat), j + e = nr → e < fu → fX1_findTie_b3 N 25 fu h (some (tA i)) (iI gl) (iI n) (iI j) = some (if fsm (srv pa wy gr ds hd tg rT gn nd gl n i) j e < 0 then (iI 0, ftH h 26 27 i (-2) (-2)) else (iI 1, ftH h 26 27 i (fsm (srv pa wy gr ds hd tg rT gn nd gl n i) j e) (fdr pa wy gr ds rT nd gl n (fsm (srv pa wy gr ds hd tg rT gn nd gl n i) j e).toNat))) := by
  have c3 := hR.1.2.2
  have ct := hT.1.2.2
  have cd := hD.1.2.2
  have o9 : oI 5 9 h (some 14) = some (iI nr) := oIv (by rw [ss_14 hS]) hR.1.1
  obtain ⟨⟨t1, t2, t3, t4⟩, ⟨g0, -⟩, -, -⟩ := hT.2.1 i hi
  have o0 : oI 9 0 h (some (tA i)) = some (iI i) := oIv (by rw [t4]) g0
  have put : ∀ f d : Int, ((oI 9 0 h (some (tA i))).bind fun v4 => (sA h (some 26) v4 (iI f)).bind fun h5 => (oR 1 2 h5 (some 25)).bind fun o6 => (oI 9 0 h5 (some (tA i))).bind fun v7 => (sA h5 o6 v7 (iI d)).bind fun h8 => some h8) = some (ftH h 26 27 i f d) := by
    intro f d
    have ke : Ke [] [26] [] [] h (uA h 26 i (iI f)) := Ke_rf.b 26 _ _ (by decide)
    have hS1 := hS.e hz ke (by decide)
    have o01 : oI 9 0 (uA h 26 i (iI f)) (some (tA i)) = some (iI i) := oIv (by rw [sh_uA, t4]) g0
    refine bst (o0) ?_
    refine bst (sAv (ss_26 hS) (by omega) (by omega)) ?_
    refine bst (sR_102_25 hS1) ?_
    refine bst (o01) ?_
    refine bst (sAv (ss_27 hS1) (by omega) (by omega)) ?_
    rfl
  have put2 : ∀ (f d : Int) (v : Int32), ((oI 9 0 h (some (tA i))).bind fun v4 => (sA h (some 26) v4 (iI f)).bind fun h5 => (oR 1 2 h5 (some 25)).bind fun o6 => (oI 9 0 h5 (some (tA i))).bind fun v7 => (sA h5 o6 v7 (iI d)).bind fun h8 => some (v, h8)) = some (v, ftH h 26 27 i f d) := by
    intro f d v
    have ke : Ke [] [26] [] [] h (uA h 26 i (iI f)) := Ke_rf.b 26 _ _ (by decide)
    have hS1 := hS.e hz ke (by decide)
    have o01 : oI 9 0 (uA h 26 i (iI f)) (some (tA i)) = some (iI i) := oIv (by rw [sh_uA, t4]) g0
    refine bst (o0) ?_
    refine bst (sAv (ss_26 hS) (by omega) (by omega)) ?_
    refine bst (sR_102_25 hS1) ?_
    refine bst (o01) ?_
    refine bst (sAv (ss_27 hS1) (by omega) (by omega)) ?_
    rfl
  intro e
  induction e with
  | zero =>
    intro j fu hj hf
    obtain ⟨fu, rfl⟩ : ∃ m, fu = m + 1 := ⟨fu - 1, by omega⟩
    show fX1_findTie_b3_body N (fX1_findTie_b3 N 25 fu) 25 h (some (tA i)) (iI gl) (iI n) (iI j) = _
    have a1 : iI (nr : Int) ≤ iI (j : Int) := (iI_le (by omega) (by omega) (by omega) (by omega)).mpr (by omega)
    rw [if_pos (show fsm (srv pa wy gr ds hd tg rT gn nd gl n i) j 0 < 0 by simp [fsm])]
    simp only [fX1_findTie_b3_body, lit, iI_neg]
    refine bst (sR_100_25 hS) ?_
    refine bst (o9) ?_
    refine ifp (a1) ?_
    refine bst (sR_101_25 hS) ?_
    exact put2 (-2) (-2) (iI 0)
  | succ e ih =>
    intro j fu hj hf
    obtain ⟨fu, rfl⟩ : ∃ m, fu = m + 1 := ⟨fu - 1, by omega⟩
    have a1 : ¬ iI (nr : Int) ≤ iI (j : Int) := fun q => by have := (iI_le (by omega) (by omega) (by omega) (by omega)).mp q; omega
    obtain ⟨⟨d1, -, -, d4⟩, ⟨f0, f1, f2, f3, f4, f8⟩, -, q1, q2, q3, q4, q5⟩ := hR.2.1 j (by omega)
    obtain ⟨-, -, -, bb⟩ := hT.2.1 (rT j) q1
    have q := ih (j + 1) fu (by omega) (by omega)
    simp only [Int.natCast_add, Int.natCast_one] at q
    have lq : lQ 25 h (some 17) (iI j) = some (some (rA j)) := lQv (ss_17 hS) (by omega) (by omega) d1
    have o1 : oR 4 1 h (some (rA j)) = some (some (tA (rT j))) := oRv (by rw [d4]) f1
    have o8 : oI 4 8 h (some (rA j)) = some (iI (b2 (gn j))) := oIv (by rw [d4]) f8
    have rc4 : rc 4 h (some (rA j)) = some (rA j) := rcv (by rw [d4])
    have rc1 : rc 1 h (some 25) = some 25 := rcv (by rw [ss_25 hS])
    have lb := ldv_b (g := tg (rT j)) (r := gr j) (by omega) (by omega)
    have sp := v_spare (N := N) hR hT (r := j) (by omega)
    have fd := L_fdC (N := N) hS hT hD hR g1 g2 n1 n2 (r := j) (by omega) nd 0 N (by omega) (by omega)
    have fd' : fX1_findDrum N h 25 (some (rA j)) (iI gl) (iI n) = some (iI (fdr pa wy gr ds rT nd gl n j), h) := fd
    have fb := fsm_b (fun d => decide (pa (rT j) + wy j * (ds d * n).tdiv (100 * gr j) = gl)) nd 0
    have fb' : -1 ≤ fdr pa wy gr ds rT nd gl n j ∧ fdr pa wy gr ds rT nd gl n j < 20 := by
      unfold fdr
      omega
    have nx : fX1_findTie_b76 N (fX1_findTie_b3 N 25 fu) 25 h (some (tA i)) (iI gl) (iI n) (iI j) (iI (-1)) = fX1_findTie_b3 N 25 fu h (some (tA i)) (iI gl) (iI n) (iI ((j : Int) + 1)) := by
      simp only [fX1_findTie_b76, lit, iI_add, Option.bind_some]
      refine ifp ((by decide)) ?_
      rfl
    have skip : fsm (srv pa wy gr ds hd tg rT gn nd gl n i) j (e + 1) = fsm (srv pa wy gr ds hd tg rT gn nd gl n i) (j + 1) e → fX1_findTie_b3 N 25 (fu + 1) h (some (tA i)) (iI gl) (iI n) (iI j) = fX1_findTie_b3 N 25 fu h (some (tA i)) (iI gl) (iI n) (iI ((j : Int) + 1)) → fX1_findTie_b3 N 25 (fu + 1) h (some (tA i)) (iI gl) (iI n) (iI j) = some (if fsm (srv pa wy gr ds hd tg rT gn nd gl n i) j (e + 1) < 0 then (iI 0, ftH h 26 27 i (-2) (-2)) else (iI 1, ftH h 26 27 i (fsm (srv pa wy gr ds hd tg rT gn nd gl n i) j (e + 1)) (fdr pa wy gr ds rT nd gl n (fsm (srv pa wy gr ds hd tg rT gn nd gl n i) j (e + 1)).toNat))) := by
      intro e1 e2
      rw [e1, e2]
      exact q
    have eT : some (tA (rT j)) = some (tA i) ↔ rT j = i := by
      constructor
      · intro s
        exact hT.2.2 _ _ q1 hi (Option.some.inj s)
      · intro s
        rw [s]
    by_cases w1 : rT j = i
    · cases w2 : gn j with
      | true =>
        refine skip (fsm_n _ (decide_eq_false (fun s => by rw [w2] at s; cases s.2.1))) ?_
        rw [w2] at o8
        have o8' : oI 4 8 h (some (rA j)) = some (iI 1) := o8
        show fX1_findTie_b3_body N (fX1_findTie_b3 N 25 fu) 25 h (some (tA i)) (iI gl) (iI n) (iI j) = _
        simp only [fX1_findTie_b3_body, fX1_findTie_b56, fX1_findTie_b57, lit, iI_neg]
        refine bst (sR_100_25 hS) ?_
        refine bst (o9) ?_
        refine ifn (a1) ?_
        refine bst (sR_100_25 hS) ?_
        refine bst (sR_502_14 hS) ?_
        refine bst (lq) ?_
        refine bst (o1) ?_
        refine ifp (eT.mpr w1) ?_
        refine bst (o8') ?_
        refine ifn (n10) ?_
        refine ifp (trivial) ?_
        exact nx
      | false =>
        rw [w2] at o8
        have o8' : oI 4 8 h (some (rA j)) = some (iI 0) := o8
        have ls : iI (hd j - ldv (tg (rT j)) (gr j)) < iI 0 ↔ hd j - ldv (tg (rT j)) (gr j) < 0 := iI_lt (by omega) (by omega) (by omega) (by omega)
        by_cases w3 : hd j - ldv (tg (rT j)) (gr j) < 0
        · refine skip (fsm_n _ (decide_eq_false (fun s => by omega))) ?_
          show fX1_findTie_b3_body N (fX1_findTie_b3 N 25 fu) 25 h (some (tA i)) (iI gl) (iI n) (iI j) = _
          simp only [fX1_findTie_b3_body, fX1_findTie_b56, fX1_findTie_b57, lit, iI_neg]
          refine bst (sR_100_25 hS) ?_
          refine bst (o9) ?_
          refine ifn (a1) ?_
          refine bst (sR_100_25 hS) ?_
          refine bst (sR_502_14 hS) ?_
          refine bst (lq) ?_
          refine bst (o1) ?_
          refine ifp (eT.mpr w1) ?_
          refine bst (o8') ?_
          refine ifp (rfl) ?_
          refine bst (rc4) ?_
          refine bst (sp) ?_
          refine ifp (ls.mpr w3) ?_
          refine ifp (trivial) ?_
          exact nx
        · by_cases w4 : fdr pa wy gr ds rT nd gl n j < 0
          · refine skip (fsm_n _ (decide_eq_false (fun s => by omega))) ?_
            have e9 : fdr pa wy gr ds rT nd gl n j = -1 := by omega
            rw [e9] at fd'
            show fX1_findTie_b3_body N (fX1_findTie_b3 N 25 fu) 25 h (some (tA i)) (iI gl) (iI n) (iI j) = _
            simp only [fX1_findTie_b3_body, fX1_findTie_b56, fX1_findTie_b57, lit, iI_neg]
            refine bst (sR_100_25 hS) ?_
            refine bst (o9) ?_
            refine ifn (a1) ?_
            refine bst (sR_100_25 hS) ?_
            refine bst (sR_502_14 hS) ?_
            refine bst (lq) ?_
            refine bst (o1) ?_
            refine ifp (eT.mpr w1) ?_
            refine bst (o8') ?_
            refine ifp (rfl) ?_
            refine bst (rc4) ?_
            refine bst (sp) ?_
            refine ifn (fun s => w3 (ls.mp s)) ?_
            refine ifn (n10) ?_
            refine bst (rc1) ?_
            refine bst (fd') ?_
            exact nx
          · have hy : srv pa wy gr ds hd tg rT gn nd gl n i j = true := decide_eq_true ⟨w1, w2, by omega, by omega⟩
            rw [fsm_y _ hy, if_neg (by omega), Int.toNat_natCast]
            have ld : ¬ iI (fdr pa wy gr ds rT nd gl n j) < iI 0 := fun s => by have := (iI_lt (by omega) (by omega) (by omega) (by omega)).mp s; omega
            show fX1_findTie_b3_body N (fX1_findTie_b3 N 25 fu) 25 h (some (tA i)) (iI gl) (iI n) (iI j) = _
            simp only [fX1_findTie_b3_body, fX1_findTie_b57, fX1_findTie_b76, lit]
            refine bst (sR_100_25 hS) ?_
            refine bst (o9) ?_
            refine ifn (a1) ?_
            refine bst (sR_100_25 hS) ?_
            refine bst (sR_502_14 hS) ?_
            refine bst (lq) ?_
            refine bst (o1) ?_
            refine ifp (eT.mpr w1) ?_
            refine bst (o8') ?_
            refine ifp (rfl) ?_
            refine bst (rc4) ?_
            refine bst (sp) ?_
            refine ifn (fun s => w3 (ls.mp s)) ?_
            refine ifn (n10) ?_
            refine bst (rc1) ?_
            refine bst (fd') ?_
            refine ifn (ld) ?_
            refine bst (sR_101_25 hS) ?_
            exact put2 _ _ (iI 1)
    · refine skip (fsm_n _ (decide_eq_false (fun s => w1 s.1))) ?_
      show fX1_findTie_b3_body N (fX1_findTie_b3 N 25 fu) 25 h (some (tA i)) (iI gl) (iI n) (iI j) = _
      simp only [fX1_findTie_b3_body, fX1_findTie_b56, fX1_findTie_b57, lit, iI_neg]
      refine bst (sR_100_25 hS) ?_
      refine bst (o9) ?_
      refine ifn (a1) ?_
      refine bst (sR_100_25 hS) ?_
      refine bst (sR_502_14 hS) ?_
      refine bst (lq) ?_
      refine bst (o1) ?_
      refine ifn (fun s => w1 (eT.mp s)) ?_
      refine ifp (trivial) ?_
      exact nx
/-! ===== change: the class's plan ===== -/
theorem hasB_z (p : Nat → Bool) : ∀ (d i : Nat), hasB p i (d + 1) = (hasB p i d || p (i + d))
  | 0, i => by simp [hasB]
  | d + 1, i => by
    rw [hasB, hasB_z p d (i + 1), hasB, Bool.or_assoc, show i + 1 + d = i + (d + 1) by omega]
theorem cntB_z (p : Nat → Bool) : ∀ (d i : Nat), cntB p i (d + 1) = cntB p i d + (if p (i + d) then 1 else 0)
  | 0, i => by simp [cntB]
  | d + 1, i => by
    rw [cntB, cntB_z p d (i + 1), cntB, show i + 1 + d = i + (d + 1) by omega]
    omega
theorem hasB_mo {p : Nat → Bool} {i k : Nat} (h : hasB p 0 i = true) (hk : i ≤ k) : hasB p 0 k = true := by
  obtain ⟨j, h1, h2, h3⟩ := (hasB_iff i 0).mp h
  exact (hasB_iff k 0).mpr ⟨j, h1, by omega, h3⟩
def bdf (mv : Nat → Bool) (ft : Nat → Int) (i : Nat) : Bool := mv i && decide (ft i < 0)
def crf (mv : Nat → Bool) (ft fv : Nat → Int) (i : Nat) : Int := if hasB (bdf mv ft) 0 i then -1 else if mv i then (if ft i < 0 then -2 else fv i) else -1
theorem L_planC {N : Nat} {h0 : Hs} (hS0 : Sk h0) (hz : 70 ≤ sz h0) {nt : Nat} {tA sA : Nat → Nat} {tl tw tg ls ms pa : Nat → Int} {sc : Nat → Nat → Int} (hT0 : RTh h0 nt tA tl tw tg ls ms pa) (hC0 : RSc h0 nt tA sA ls ms sc) {s : Nat} (hs : s < 10) {n : Int} {mv : Nat → Bool} {ft fd : Nat → Int} (hmv : ∀ i, mv i = decide (sc i s ≠ -1 ∧ sc i s ≠ pa i)) (hFT : ∀ i h, i < nt → Ke [105] [26, 27] [] [] h0 h → fX1_findTie N h 25 (some (tA i)) (iI (sc i s)) (iI n) = some (if ft i < 0 then (iI 0, ftH h 26 27 i (-2) (-2)) else (iI 1, ftH h 26 27 i (ft i) (fd i)))) : ∀ (e i : Nat) (c : Int) (fu : Nat) (h : Hs), Ke [105] [26, 27] [] [] h0 h → sz h = sz h0 → i + e = nt → e < fu → gI h 105 25 = iI (b2 (!hasB (bdf mv ft) 0 i)) → (∀ k, k < 40 → aI h 26 k = iI (if k < i then crf mv ft ft k else -1) ∧ aI h 27 k = iI (if k < i then crf mv ft fd k else -1)) → (hasB (bdf mv ft) 0 i = false → c = cntB mv 0 i) → ∃ (c' : Int) (h' : Hs), fX1_plan_b54 N 25 fu h (iI s) (iI n) (iI c) (iI i) = fX1_plan_b132 N 25 h' (iI c') ∧ (hasB (bdf mv ft) 0 nt = false → c' = cntB mv 0 nt) ∧ Ke [105] [26, 27] [] [] h0 h' ∧ sz h' = sz h0 ∧ gI h' 105 25 = iI (b2 (!hasB (bdf mv ft) 0 nt)) ∧ (∀ k, k < 40 → aI h' 26 k = iI (if k < nt then crf mv ft ft k else -1) ∧ aI h' 27 k = iI (if k < nt then crf mv ft fd k else -1)) := by
  have ct := hT0.1.2.2
  intro e
  induction e with
  | zero =>
    intro i c fu h ke sz0 hi hf g5 ga gc
    obtain ⟨fu, rfl⟩ : ∃ m, fu = m + 1 := ⟨fu - 1, by omega⟩
    have ei : i = nt := by omega
    subst ei
    have hS := hS0.e hz ke (by decide)
    have hT := hT0.e hz ke (by decide) (by decide) (by decide)
    have o7 : oI 5 7 h (some 14) = some (iI i) := oIv (by rw [ss_14 hS]) hT.1.1
    refine ⟨c, h, ?_, gc, ke, sz0, g5, ga⟩
    show fX1_plan_b54_body N (fX1_plan_b54 N 25 fu) 25 h (iI s) (iI n) (iI c) (iI i) = _
    simp only [fX1_plan_b54_body]
    refine bst (sR_100_25 hS) ?_
    refine bst (o7) ?_
    refine ifp (Int32.le_refl _) ?_
    rfl
  | succ e ih =>
    intro i c fu h ke sz0 hi hf g5 ga gc
    obtain ⟨fu, rfl⟩ : ∃ m, fu = m + 1 := ⟨fu - 1, by omega⟩
    have hS := hS0.e hz ke (by decide)
    have hT := hT0.e hz ke (by decide) (by decide) (by decide)
    have o7 : oI 5 7 h (some 14) = some (iI nt) := oIv (by rw [ss_14 hS]) hT.1.1
    have a1 : ¬ iI (nt : Int) ≤ iI (i : Int) := fun q => by have := (iI_le (by omega) (by omega) (by omega) (by omega)).mp q; omega
    have o5 : oI 1 5 h (some 25) = some (iI (b2 (!hasB (bdf mv ft) 0 i))) := oIv (by rw [ss_25 hS]) g5
    cases hb : hasB (bdf mv ft) 0 i with
    | true =>
      have hbn := hasB_mo hb (show i ≤ nt by omega)
      rw [hb] at o5
      have o5' : oI 1 5 h (some 25) = some (iI 0) := o5
      refine ⟨c, h, ?_, (fun q => by rw [hbn] at q; cases q), ke, sz0, by rw [g5, hb, hbn], fun k hk => ?_⟩
      · show fX1_plan_b54_body N (fX1_plan_b54 N 25 fu) 25 h (iI s) (iI n) (iI c) (iI i) = _
        simp only [fX1_plan_b54_body, lit]
        refine bst (sR_100_25 hS) ?_
        refine bst (o7) ?_
        refine ifn (a1) ?_
        refine bst (o5') ?_
        refine ifp (rfl) ?_
        rfl
      · obtain ⟨z1, z2⟩ := ga k hk
        rw [z1, z2]
        by_cases w1 : k < i
        · rw [if_pos w1, if_pos w1, if_pos (show k < nt by omega), if_pos (show k < nt by omega)]
          exact ⟨rfl, rfl⟩
        · rw [if_neg w1, if_neg w1]
          have hk2 := hasB_mo hb (show i ≤ k by omega)
          by_cases w2 : k < nt
          · rw [if_pos w2, if_pos w2]
            simp [crf, hk2]
          · rw [if_neg w2, if_neg w2]
            exact ⟨rfl, rfl⟩
    | false =>
      rw [hb] at o5
      have o5' : oI 1 5 h (some 25) = some (iI 1) := o5
      have ec := gc hb
      obtain ⟨⟨d1, d2, d3, d4⟩, ⟨-, -, -, -, -, -, g7⟩, -, bb⟩ := hT.2.1 i (by omega)
      have hC := hC0.e hz hT0.lt ke (by decide) (by decide) (fun k hk => by
        have := (hC0.1 k hk).1.2.1
        simp only [List.mem_cons, List.not_mem_nil, or_false]
        omega)
      obtain ⟨⟨x1, x2, x3, x4⟩, x5⟩ := hC.1 i (by omega)
      obtain ⟨x6, -, x7⟩ := x5 s hs
      have lq : lQ 23 h (some 15) (iI i) = some (some (tA i)) := lQv (ss_15 hS) (by omega) (by omega) d1
      have ls' : lA 20 h (some (sA i)) (iI s) = some (iI (sc i s)) := lAv x4 hs (by omega) x6
      have l1 : iI (sc i s) = iI (-1) ↔ sc i s = -1 := iI_eq (by omega) (by omega) (by omega) (by omega)
      have l2 : iI (sc i s) = iI (pa i) ↔ sc i s = pa i := iI_eq (by omega) (by omega) (by omega) (by omega)
      have o9 : oI 9 7 h (some (tA i)) = some (iI (pa i)) := oIv (by rw [d4]) g7
      have hz' : ∀ p : Nat → Bool, hasB p 0 (i + 1) = (hasB p 0 i || p i) := fun p => by rw [hasB_z, Nat.zero_add]
      have cz' : cntB mv 0 (i + 1) = cntB mv 0 i + (if mv i then 1 else 0) := by rw [cntB_z, Nat.zero_add]
      cases hm : mv i with
      | false =>
        have hbi : bdf mv ft i = false := by simp [bdf, hm]
        have hb1 : hasB (bdf mv ft) 0 (i + 1) = false := by rw [hz', hb, hbi]; rfl
        have cr0 : ∀ fv, crf mv ft fv i = -1 := fun fv => by simp [crf, hb, hm]
        obtain ⟨c', h', r1, r2⟩ := ih (i + 1) c fu h ke sz0 (by omega) (by omega) (by rw [hb1, ← hb]; exact g5) (fun k hk => by
          obtain ⟨z1, z2⟩ := ga k hk
          rw [z1, z2]
          by_cases w1 : k < i
          · rw [if_pos w1, if_pos w1, if_pos (show k < i + 1 by omega), if_pos (show k < i + 1 by omega)]
            exact ⟨rfl, rfl⟩
          · rw [if_neg w1, if_neg w1]
            by_cases w2 : k = i
            · subst w2
              rw [if_pos (Nat.lt_succ_self k), if_pos (Nat.lt_succ_self k), cr0, cr0]
              exact ⟨rfl, rfl⟩
            · rw [if_neg (by omega), if_neg (by omega)]
              exact ⟨rfl, rfl⟩) (fun _ => by rw [cz', hm, ec]; simp)
        simp only [Int.natCast_add, Int.natCast_one] at r1
        refine ⟨c', h', ?_, r2⟩
        rw [← r1]
        show fX1_plan_b54_body N (fX1_plan_b54 N 25 fu) 25 h (iI s) (iI n) (iI c) (iI i) = _
        simp only [fX1_plan_b54_body, fX1_plan_b126, lit, iI_neg, iI_add, Option.bind_some]
        by_cases w1 : sc i s = -1
        · skip
          refine bst (sR_100_25 hS) ?_
          refine bst (o7) ?_
          refine ifn (a1) ?_
          refine bst (o5') ?_
          refine ifn (n10) ?_
          refine bst (sR_100_25 hS) ?_
          refine bst (sR_500_14 hS) ?_
          refine bst (lq) ?_
          refine bst (oRv (by rw [d4]) x1) ?_
          refine bst (ls') ?_
          refine ifp (l1.mpr w1) ?_
          rfl
        · have w2 : sc i s = pa i := by
            rw [hmv] at hm
            exact Decidable.not_not.mp fun q => (of_decide_eq_false hm) ⟨w1, q⟩
          refine bst (sR_100_25 hS) ?_
          refine bst (o7) ?_
          refine ifn (a1) ?_
          refine bst (o5') ?_
          refine ifn (n10) ?_
          refine bst (sR_100_25 hS) ?_
          refine bst (sR_500_14 hS) ?_
          refine bst (lq) ?_
          refine bst (oRv (by rw [d4]) x1) ?_
          refine bst (ls') ?_
          refine ifn (fun q => w1 (l1.mp q)) ?_
          refine bst (o9) ?_
          refine ifp (l2.mpr w2) ?_
          rfl
      | true =>
        have hm2 := hm
        rw [hmv] at hm2
        obtain ⟨w1, w2⟩ := of_decide_eq_true hm2
        have fT := hFT i h (by omega) ke
        have rc1 : rc 1 h (some 25) = some 25 := rcv (by rw [ss_25 hS])
        obtain ⟨f1, f2, f3, ef, hv1, hv2, hv3⟩ : ∃ f1 f2 f3 : Int, fX1_findTie N h 25 (some (tA i)) (iI (sc i s)) (iI n) = some (iI f3, ftH h 26 27 i f1 f2) ∧ f1 = crf mv ft ft i ∧ f2 = crf mv ft fd i ∧ f3 = b2 (!hasB (bdf mv ft) 0 (i + 1)) := by
          by_cases w3 : ft i < 0
          · have hbi : bdf mv ft i = true := by simp [bdf, hm, w3]
            rw [if_pos w3] at fT
            exact ⟨-2, -2, 0, fT, by simp [crf, hb, hm, w3], by simp [crf, hb, hm, w3], by rw [hz', hb, hbi]; rfl⟩
          · have hbi : bdf mv ft i = false := by simp [bdf, hm, w3]
            rw [if_neg w3] at fT
            exact ⟨ft i, fd i, 1, fT, by simp [crf, hb, hm, w3], by simp [crf, hb, hm, w3], by rw [hz', hb, hbi]; rfl⟩
        have hb01 : f3 = 0 ∨ f3 = 1 := by
          rw [hv3]
          cases hasB (bdf mv ft) 0 (i + 1)
          · exact Or.inr rfl
          · exact Or.inl rfl
        obtain ⟨h2, eh2⟩ : ∃ h2, h2 = uI (ftH h 26 27 i f1 f2) 105 25 (iI f3) := ⟨_, rfl⟩
        have ke2 : Ke [105] [26, 27] [] [] h h2 := by rw [eh2]; exact ((Ke_rf.b 26 _ _ (by decide)).b 27 _ _ (by decide)).u 105 _ _ (by decide)
        obtain ⟨c', h', r1, r2⟩ := ih (i + 1) (c + 1) fu h2 (ke.tr ke2) (by rw [eh2]; exact sz0) (by omega) (by omega) (by rw [eh2, ← hv3]; simp [HR]) (fun k hk => by
          obtain ⟨z1, z2⟩ := ga k hk
          by_cases w3 : k = i
          · subst w3
            rw [if_pos (Nat.lt_succ_self k), if_pos (Nat.lt_succ_self k), eh2, ← hv1, ← hv2]
            simp [ftH, HR]
          · have y1 : aI h2 26 k = aI h 26 k := by rw [eh2]; simp [ftH, HR, w3]
            have y2 : aI h2 27 k = aI h 27 k := by rw [eh2]; simp [ftH, HR, w3]
            rw [y1, y2, z1, z2]
            by_cases w4 : k < i
            · rw [if_pos w4, if_pos w4, if_pos (show k < i + 1 by omega), if_pos (show k < i + 1 by omega)]
              exact ⟨rfl, rfl⟩
            · rw [if_neg w4, if_neg w4, if_neg (by omega), if_neg (by omega)]
              exact ⟨rfl, rfl⟩) (fun _ => by rw [cz', hm, ec]; simp)
        simp only [Int.natCast_add, Int.natCast_one] at r1
        refine ⟨c', h', ?_, r2⟩
        rw [← r1]
        show fX1_plan_b54_body N (fX1_plan_b54 N 25 fu) 25 h (iI s) (iI n) (iI c) (iI i) = _
        have z5 : qZ 1 5 (ftH h 26 27 i f1 f2) (some 25) (iI f3) = some h2 := by
          rw [eh2]
          exact qZv (by show (sh h 25).1 = 1; rw [ss_25 hS]) hb01
        simp only [fX1_plan_b54_body, fX1_plan_b126, lit, iI_neg, iI_add, Option.bind_some]
        refine bst (sR_100_25 hS) ?_
        refine bst (o7) ?_
        refine ifn (a1) ?_
        refine bst (o5') ?_
        refine ifn (n10) ?_
        refine bst (sR_100_25 hS) ?_
        refine bst (sR_500_14 hS) ?_
        refine bst (lq) ?_
        refine bst (oRv (by rw [d4]) x1) ?_
        refine bst (ls') ?_
        refine ifn (fun q => w1 (l1.mp q)) ?_
        refine bst (o9) ?_
        refine ifn (fun q => w2 (l2.mp q)) ?_
        refine bst (rc1) ?_
        refine bst (ef) ?_
        refine bst (z5) ?_
        rfl
/-- a thing's work -/
def wkf (td dr : Nat → Option Nat) (dn cr cd : Nat → Int) (i : Nat) : Int := if cr i < 0 then (match td i with
  | none => 0
  | some _ => 2) else match td i with
  | none => 3
  | some r => if (r : Int) = cr i ∧ dn r = 0 ∧ od (dr r) = cd i then 0 else 5
theorem wkf_4 (td dr : Nat → Option Nat) (dn cr cd : Nat → Int) (i : Nat) : wkf td dr dn cr cd i = 0 ∨ wkf td dr dn cr cd i = 2 ∨ wkf td dr dn cr cd i = 3 ∨ wkf td dr dn cr cd i = 5 := by
  unfold wkf
  by_cases w : cr i < 0
  · rw [if_pos w]
    cases td i with
    | none => exact Or.inl rfl
    | some r => exact Or.inr (Or.inl rfl)
  · rw [if_neg w]
    cases td i with
    | none => exact Or.inr (Or.inr (Or.inl rfl))
    | some r =>
      simp only
      by_cases v : (r : Int) = cr i ∧ dn r = 0 ∧ od (dr r) = cd i
      · rw [if_pos v]; exact Or.inl rfl
      · rw [if_neg v]; exact Or.inr (Or.inr (Or.inr rfl))
theorem v_ready {N : Nat} {h : Hs} (hS : Sk h) {nr nt nd : Nat} {rA tA dA rT : Nat → Nat} {wy gr hd ds : Nat → Int} {gn : Nat → Bool} {dr td : Nat → Option Nat} {sr dn : Nat → Int} (hD : RDr h nd dA ds) (hR : RRo h nr nt rA tA rT wy gr hd gn) (hC : RTc h nt nr tA dA rA dr td sr dn) (hL : RTl nt nd nr rT dr td) (hdn : ∀ r, r < nr → dr r ≠ none → -1000000000 ≤ dn r ∧ dn r ≤ 1000000000) {cr cd : Nat → Int} {i r : Nat} (hi : i < 40) (hin : i < nt) (htd : td i = some r) (h26 : aI h 26 i = iI (cr i)) (h27 : aI h 27 i = iI (cd i)) (b1 : -2 ≤ cr i ∧ cr i ≤ 100) (b2' : -2 ≤ cd i ∧ cd i ≤ 100) : fX1_isReady N h 25 (some (rA r)) (iI i) = some (if (r : Int) = cr i ∧ dn r = 0 ∧ od (dr r) = cd i then iI 1 else iI 0, h) := by
  obtain ⟨hr, hrt, hne⟩ := hL.2 i r hin htd
  obtain ⟨d, hde⟩ := Option.ne_none_iff_exists'.mp hne
  have hdl := (hL.1 r d hr hde).1
  have c3 := hR.1.2.2
  have cd3 := hD.1.2.2
  obtain ⟨⟨-, -, -, d4⟩, ⟨f0, -⟩, -⟩ := hR.2.1 r hr
  obtain ⟨⟨-, -, -, e4⟩, ⟨e0, -⟩, -⟩ := hD.2.1 d hdl
  obtain ⟨g1, g2⟩ := hC.1 r hr
  have g3 := (g2 hne).2
  have nb := hdn r hr hne
  rw [hde] at g1
  have o0 : oI 4 0 h (some (rA r)) = some (iI r) := oIv (by rw [d4]) f0
  have o7 : oI 4 7 h (some (rA r)) = some (iI (dn r)) := oIv (by rw [d4]) g3
  have o5 : oR 4 5 h (some (rA r)) = some (some (dA d)) := oRv (by rw [d4]) g1
  have l26 := lAv (ss_26 hS) hi (by omega) h26
  have l27 := lAv (ss_27 hS) hi (by omega) h27
  have q1 : iI (r : Int) = iI (cr i) ↔ (r : Int) = cr i := iI_eq (by omega) (by omega) (by omega) (by omega)
  have q2 : iI (dn r) = iI 0 ↔ dn r = 0 := iI_eq (by omega) (by omega) (by omega) (by omega)
  have q3 : iI (d : Int) = iI (cd i) ↔ (d : Int) = cd i := iI_eq (by omega) (by omega) (by omega) (by omega)
  have eo : od (dr r) = d := by rw [hde]; rfl
  rw [eo]
  simp only [fX1_isReady, fX1_isReady_b47, fX1_isReady_b48, lit]
  by_cases w1 : (r : Int) = cr i
  · by_cases w2 : dn r = 0
    · by_cases w3 : (d : Int) = cd i
      · rw [if_pos ⟨w1, w2, w3⟩]
        refine bst (o0) ?_
        refine bst (sR_101_25 hS) ?_
        refine bst (l26) ?_
        refine ifp (q1.mpr w1) ?_
        refine bst (o7) ?_
        refine ifp (q2.mpr w2) ?_
        refine bst (o5) ?_
        refine ifn (fun z => by cases z) ?_
        refine bst (o5) ?_
        refine bst (oIv (by rw [e4]) e0) ?_
        refine bst (sR_102_25 hS) ?_
        refine bst (l27) ?_
        refine ifp (q3.mpr w3) ?_
        refine bst (zc_i1) ?_
        rfl
      · rw [if_neg (fun z => w3 z.2.2)]
        refine bst (o0) ?_
        refine bst (sR_101_25 hS) ?_
        refine bst (l26) ?_
        refine ifp (q1.mpr w1) ?_
        refine bst (o7) ?_
        refine ifp (q2.mpr w2) ?_
        refine bst (o5) ?_
        refine ifn (fun z => by cases z) ?_
        refine bst (o5) ?_
        refine bst (oIv (by rw [e4]) e0) ?_
        refine bst (sR_102_25 hS) ?_
        refine bst (l27) ?_
        refine ifn (fun z => w3 (q3.mp z)) ?_
        refine bst (zc_i0) ?_
        rfl
    · rw [if_neg (fun z => w2 z.2.1)]
      refine bst (o0) ?_
      refine bst (sR_101_25 hS) ?_
      refine bst (l26) ?_
      refine ifp (q1.mpr w1) ?_
      refine bst (o7) ?_
      refine ifn (fun z => w2 (q2.mp z)) ?_
      refine bst (zc_i0) ?_
      rfl
  · rw [if_neg (fun z => w1 z.1)]
    refine bst (o0) ?_
    refine bst (sR_101_25 hS) ?_
    refine bst (l26) ?_
    refine ifn (fun z => w1 (q1.mp z)) ?_
    refine bst (zc_i0) ?_
    rfl
theorem L_cwC {N : Nat} {h0 : Hs} (hS0 : Sk h0) (hz : 70 ≤ sz h0) {nr nt nd : Nat} {rA tA dA rT : Nat → Nat} {wy gr hd ds : Nat → Int} {gn : Nat → Bool} {tl tw tg ls ms pa : Nat → Int} {dr td : Nat → Option Nat} {sr dn : Nat → Int} (hT0 : RTh h0 nt tA tl tw tg ls ms pa) (hD0 : RDr h0 nd dA ds) (hR0 : RRo h0 nr nt rA tA rT wy gr hd gn) (hC0 : RTc h0 nt nr tA dA rA dr td sr dn) (hL : RTl nt nd nr rT dr td) (hdn : ∀ r, r < nr → dr r ≠ none → -1000000000 ≤ dn r ∧ dn r ≤ 1000000000) {cr cd : Nat → Int} (hcb : ∀ i, i < nt → (-2 ≤ cr i ∧ cr i ≤ 100) ∧ -2 ≤ cd i ∧ cd i ≤ 100) (ha : ∀ i, i < nt → aI h0 26 i = iI (cr i) ∧ aI h0 27 i = iI (cd i)) : ∀ (e i : Nat) (a2 a3 a5 : Int) (fu : Nat) (h : Hs), Ke [106, 107, 108] [] [] [] h0 h → sz h = sz h0 → i + e = nt → e < fu → gI h 106 25 = iI a2 → gI h 107 25 = iI a3 → gI h 108 25 = iI a5 → ∃ h', fX1_countWorks_b17 N 25 fu h (iI i) = some h' ∧ Ke [106, 107, 108] [] [] [] h0 h' ∧ sz h' = sz h0 ∧ gI h' 106 25 = iI (a2 + cntB (fun i => decide (wkf td dr dn cr cd i = 2)) i e) ∧ gI h' 107 25 = iI (a3 + cntB (fun i => decide (wkf td dr dn cr cd i = 3)) i e) ∧ gI h' 108 25 = iI (a5 + cntB (fun i => decide (wkf td dr dn cr cd i = 5)) i e) := by
  have ct := hT0.1.2.2
  intro e
  induction e with
  | zero =>
    intro i a2 a3 a5 fu h ke sz0 hi hf g2 g3 g5
    obtain ⟨fu, rfl⟩ : ∃ m, fu = m + 1 := ⟨fu - 1, by omega⟩
    have hS := hS0.e hz ke (by decide)
    have hT := hT0.e hz ke (by decide) (by decide) (by decide)
    have o7 : oI 5 7 h (some 14) = some (iI nt) := oIv (by rw [ss_14 hS]) hT.1.1
    have a1 : iI (nt : Int) ≤ iI (i : Int) := (iI_le (by omega) (by omega) (by omega) (by omega)).mpr (by omega)
    refine ⟨h, ?_, ke, sz0, by simpa [cntB] using g2, by simpa [cntB] using g3, by simpa [cntB] using g5⟩
    show fX1_countWorks_b17_body N (fX1_countWorks_b17 N 25 fu) 25 h (iI i) = _
    simp only [fX1_countWorks_b17_body]
    refine bst (sR_100_25 hS) ?_
    refine bst (o7) ?_
    refine ifp (a1) ?_
    rfl
  | succ e ih =>
    intro i a2 a3 a5 fu h ke sz0 hi hf g2 g3 g5
    obtain ⟨fu, rfl⟩ : ∃ m, fu = m + 1 := ⟨fu - 1, by omega⟩
    have hS := hS0.e hz ke (by decide)
    have hT := hT0.e hz ke (by decide) (by decide) (by decide)
    have hD := hD0.e hz ke (by decide) (by decide) (by decide)
    have hR := hR0.e hz ke (by decide) (by decide) (by decide) (by decide)
    have hC := hC0.e hT0.lt hR0.lt ke (by decide) (by decide)
    have o7 : oI 5 7 h (some 14) = some (iI nt) := oIv (by rw [ss_14 hS]) hT.1.1
    have a1 : ¬ iI (nt : Int) ≤ iI (i : Int) := fun q => by have := (iI_le (by omega) (by omega) (by omega) (by omega)).mp q; omega
    obtain ⟨⟨d1, d2, d3, d4⟩, -⟩ := hT.2.1 i (by omega)
    have lq : lQ 23 h (some 15) (iI i) = some (some (tA i)) := lQv (ss_15 hS) (by omega) (by omega) d1
    have o9 : oR 9 9 h (some (tA i)) = some ((td i).map rA) := oRv (by rw [d4]) (hC.2 i (by omega))
    have h26 : aI h 26 i = iI (cr i) := by rw [ke.2.1 26 (by decide) (by omega)]; exact (ha i (by omega)).1
    have h27 : aI h 27 i = iI (cd i) := by rw [ke.2.1 27 (by decide) (by omega)]; exact (ha i (by omega)).2
    have l26 := lAv (ss_26 hS) (show i < 40 by omega) (by omega) h26
    obtain ⟨cb1, cb2⟩ := hcb i (by omega)
    have l0 : iI 0 ≤ iI (cr i) ↔ 0 ≤ cr i := iI_le (by omega) (by omega) (by omega) (by omega)
    have rc1 : rc 1 h (some 25) = some 25 := rcv (by rw [ss_25 hS])
    have c25 : (sh h 25).1 = 1 := by rw [ss_25 hS]
    -- one step: counts x2 x3 x5 are added
    have go : ∀ (x2 x3 x5 : Int) (h2 : Hs), Ke [106, 107, 108] [] [] [] h h2 → sz h2 = sz h → gI h2 106 25 = iI (a2 + x2) → gI h2 107 25 = iI (a3 + x3) → gI h2 108 25 = iI (a5 + x5) → x2 = (if decide (wkf td dr dn cr cd i = 2) then 1 else 0) → x3 = (if decide (wkf td dr dn cr cd i = 3) then 1 else 0) → x5 = (if decide (wkf td dr dn cr cd i = 5) then 1 else 0) → fX1_countWorks_b17 N 25 (fu + 1) h (iI i) = fX1_countWorks_b17 N 25 fu h2 (iI ((i : Int) + 1)) → ∃ h', fX1_countWorks_b17 N 25 (fu + 1) h (iI i) = some h' ∧ Ke [106, 107, 108] [] [] [] h0 h' ∧ sz h' = sz h0 ∧ gI h' 106 25 = iI (a2 + cntB (fun i => decide (wkf td dr dn cr cd i = 2)) i (e + 1)) ∧ gI h' 107 25 = iI (a3 + cntB (fun i => decide (wkf td dr dn cr cd i = 3)) i (e + 1)) ∧ gI h' 108 25 = iI (a5 + cntB (fun i => decide (wkf td dr dn cr cd i = 5)) i (e + 1)) := by
      intro x2 x3 x5 h2 k2 s2 y2 y3 y5 e2 e3 e5 st
      obtain ⟨h', r1, r2, r3, r4, r5, r6⟩ := ih (i + 1) (a2 + x2) (a3 + x3) (a5 + x5) fu h2 (ke.tr k2) (s2.trans sz0) (by omega) (by omega) y2 y3 y5
      simp only [Int.natCast_add, Int.natCast_one] at r1
      refine ⟨h', st.trans r1, r2, r3, ?_, ?_, ?_⟩
      · rw [r4, e2]
        congr 1
        simp only [cntB]
        split <;> omega
      · rw [r5, e3]
        congr 1
        simp only [cntB]
        split <;> omega
      · rw [r6, e5]
        congr 1
        simp only [cntB]
        split <;> omega
    by_cases w : cr i < 0
    · have w0 : ¬ iI 0 ≤ iI (cr i) := fun q => by have := l0.mp q; omega
      cases htd : td i with
      | none =>
        rw [htd] at o9
        have ek : wkf td dr dn cr cd i = 0 := by simp [wkf, w, htd]
        refine go 0 0 0 (uI h 106 25 (iI (a2 + 0))) (Ke_rf.u 106 _ _ (by decide)) rfl (by simp [HR]) (by simp [HR, g3]) (by simp [HR, g5]) (by simp [ek]) (by simp [ek]) (by simp [ek]) ?_
        show fX1_countWorks_b17_body N (fX1_countWorks_b17 N 25 fu) 25 h (iI i) = _
        simp only [fX1_countWorks_b17_body, fX1_countWorks_b64, fX1_countWorks_b107, lit, Option.bind_some]
        refine bst (sR_100_25 hS) ?_
        refine bst (o7) ?_
        refine ifn (a1) ?_
        refine bst (sR_100_25 hS) ?_
        refine bst (sR_500_14 hS) ?_
        refine bst (lq) ?_
        refine bst (o9) ?_
        refine bst (sR_101_25 hS) ?_
        refine bst (l26) ?_
        refine ifn (w0) ?_
        refine bst (oIv c25 g2) ?_
        refine ifp (rfl) ?_
        refine bst (qIv c25) ?_
        rw [iI_add, iI_add]
      | some r =>
        rw [htd] at o9
        have ek : wkf td dr dn cr cd i = 2 := by simp [wkf, w, htd]
        refine go 1 0 0 (uI h 106 25 (iI (a2 + 1))) (Ke_rf.u 106 _ _ (by decide)) rfl (by simp [HR]) (by simp [HR, g3]) (by simp [HR, g5]) (by simp [ek]) (by simp [ek]) (by simp [ek]) ?_
        show fX1_countWorks_b17_body N (fX1_countWorks_b17 N 25 fu) 25 h (iI i) = _
        simp only [fX1_countWorks_b17_body, fX1_countWorks_b64, fX1_countWorks_b107, lit, Option.bind_some]
        refine bst (sR_100_25 hS) ?_
        refine bst (o7) ?_
        refine ifn (a1) ?_
        refine bst (sR_100_25 hS) ?_
        refine bst (sR_500_14 hS) ?_
        refine bst (lq) ?_
        refine bst (o9) ?_
        refine bst (sR_101_25 hS) ?_
        refine bst (l26) ?_
        refine ifn (w0) ?_
        refine bst (oIv c25 g2) ?_
        refine ifn (fun q => by cases q) ?_
        refine bst (qIv c25) ?_
        rw [iI_add, iI_add]
    · have w0 : iI 0 ≤ iI (cr i) := l0.mpr (by omega)
      cases htd : td i with
      | none =>
        rw [htd] at o9
        have ek : wkf td dr dn cr cd i = 3 := by simp [wkf, w, htd]
        refine go 0 1 0 (uI h 107 25 (iI (a3 + 1))) (Ke_rf.u 107 _ _ (by decide)) rfl (by simp [HR, g2]) (by simp [HR]) (by simp [HR, g5]) (by simp [ek]) (by simp [ek]) (by simp [ek]) ?_
        show fX1_countWorks_b17_body N (fX1_countWorks_b17 N 25 fu) 25 h (iI i) = _
        simp only [fX1_countWorks_b17_body, fX1_countWorks_b107, lit, Option.bind_some]
        refine bst (sR_100_25 hS) ?_
        refine bst (o7) ?_
        refine ifn (a1) ?_
        refine bst (sR_100_25 hS) ?_
        refine bst (sR_500_14 hS) ?_
        refine bst (lq) ?_
        refine bst (o9) ?_
        refine bst (sR_101_25 hS) ?_
        refine bst (l26) ?_
        refine ifp (w0) ?_
        refine ifp (rfl) ?_
        refine bst (oIv c25 g3) ?_
        refine bst (qIv c25) ?_
        rw [iI_add, iI_add]
      | some r =>
        rw [htd] at o9
        have rd := v_ready (N := N) hS hD hR hC hL hdn (i := i) (by omega) (by omega) htd h26 h27 cb1 cb2
        by_cases v : (r : Int) = cr i ∧ dn r = 0 ∧ od (dr r) = cd i
        · rw [if_pos v] at rd
          have ek : wkf td dr dn cr cd i = 0 := by
            unfold wkf
            rw [if_neg w, htd]
            simp only [if_pos v]
          refine go 0 0 0 h Ke_rf rfl (by simpa using g2) (by simpa using g3) (by simpa using g5) (by simp [ek]) (by simp [ek]) (by simp [ek]) ?_
          show fX1_countWorks_b17_body N (fX1_countWorks_b17 N 25 fu) 25 h (iI i) = _
          simp only [fX1_countWorks_b17_body, fX1_countWorks_b107, lit, iI_add, Option.bind_some]
          refine bst (sR_100_25 hS) ?_
          refine bst (o7) ?_
          refine ifn (a1) ?_
          refine bst (sR_100_25 hS) ?_
          refine bst (sR_500_14 hS) ?_
          refine bst (lq) ?_
          refine bst (o9) ?_
          refine bst (sR_101_25 hS) ?_
          refine bst (l26) ?_
          refine ifp (w0) ?_
          refine ifn (fun q => by cases q) ?_
          refine bst (rc1) ?_
          refine bst (rd) ?_
          refine ifn (n10) ?_
          rfl
        · rw [if_neg v] at rd
          have ek : wkf td dr dn cr cd i = 5 := by
            unfold wkf
            rw [if_neg w, htd]
            simp only [if_neg v]
          refine go 0 0 1 (uI h 108 25 (iI (a5 + 1))) (Ke_rf.u 108 _ _ (by decide)) rfl (by simp [HR, g2]) (by simp [HR, g3]) (by simp [HR]) (by simp [ek]) (by simp [ek]) (by simp [ek]) ?_
          show fX1_countWorks_b17_body N (fX1_countWorks_b17 N 25 fu) 25 h (iI i) = _
          simp only [fX1_countWorks_b17_body, fX1_countWorks_b107, lit, Option.bind_some]
          refine bst (sR_100_25 hS) ?_
          refine bst (o7) ?_
          refine ifn (a1) ?_
          refine bst (sR_100_25 hS) ?_
          refine bst (sR_500_14 hS) ?_
          refine bst (lq) ?_
          refine bst (o9) ?_
          refine bst (sR_101_25 hS) ?_
          refine bst (l26) ?_
          refine ifp (w0) ?_
          refine ifn (fun q => by cases q) ?_
          refine bst (rc1) ?_
          refine bst (rd) ?_
          refine ifp (rfl) ?_
          refine bst (oIv c25 g5) ?_
          refine bst (qIv c25) ?_
          rw [iI_add, iI_add]
