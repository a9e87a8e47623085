/-! ===== change: what is found, and the class ===== -/
def fsm (p : Nat → Bool) (i : Nat) : Nat → Int
  | 0 => -1
  | d + 1 => if p i then (i : Int) else fsm p (i + 1) d
theorem fsm_y (p : Nat → Bool) {i d : Nat} (h : p i = true) : fsm p i (d + 1) = i := by
  simp only [fsm, h, if_true]
theorem fsm_n (p : Nat → Bool) {i d : Nat} (h : p i = false) : fsm p i (d + 1) = fsm p (i + 1) d := by
  simp [fsm, h]
theorem fsm_b (p : Nat → Bool) : ∀ (d i : Nat), -1 ≤ fsm p i d ∧ fsm p i d < i + d
  | 0, i => by simp only [fsm]; omega
  | d + 1, i => by
    have := fsm_b p d (i + 1)
    rw [fsm]
    split <;> omega
def fdr (pa wy gr ds : Nat → Int) (rT : Nat → Nat) (nd : Nat) (gl n : Int) (r : Nat) : Int := fsm (fun d => decide (pa (rT r) + wy r * (ds d * n).tdiv (100 * gr r) = gl)) 0 nd
def srv (pa wy gr ds hd tg : Nat → Int) (rT : Nat → Nat) (gn : Nat → Bool) (nd : Nat) (gl n : Int) (i r : Nat) : Bool := decide (rT r = i ∧ gn r = false ∧ 0 ≤ hd r - ldv (tg (rT r)) (gr r) ∧ 0 ≤ fdr pa wy gr ds rT nd gl n r)
theorem pl_bd {a b w g : Int} (a1 : 1 ≤ a) (a2 : a ≤ 20) (b1 : -9999 ≤ b) (b2 : b ≤ 9999) (hw : w = 1 ∨ w = -1) : -200000 ≤ a * b ∧ a * b ≤ 200000 ∧ -200000 ≤ w * (a * b).tdiv (100 * g) ∧ w * (a * b).tdiv (100 * g) ≤ 200000 := by
  have h1 : a * b ≤ a * 9999 := Int.mul_le_mul_of_nonneg_left b2 (by omega)
  have h2 : a * (-9999) ≤ a * b := Int.mul_le_mul_of_nonneg_left b1 (by omega)
  generalize a * b = x at *
  have h3 := td_abs x (100 * g)
  generalize x.tdiv (100 * g) = y at *
  rcases hw with rfl | rfl <;> omega
theorem L_fdC {N : Nat} {h : Hs} (hS : Sk h) {nr nt nd : Nat} {rA tA dA rT : Nat → Nat} {wy gr hd ds : Nat → Int} {gn : Nat → Bool} {tl tw tg ls ms pa : Nat → Int} (hT : RTh h nt tA tl tw tg ls ms pa) (hD : RDr h nd dA ds) (hR : RRo h nr nt rA tA rT wy gr hd gn) {gl n : Int} (g1 : -1 ≤ gl) (g2 : gl ≤ 100) (n1 : -9999 ≤ n) (n2 : n ≤ 9999) {r : Nat} (hr : r < nr) : ∀ (e i fu : Nat), i + e = nd → e < fu → fX1_findDrum_b3 N 25 fu h (some (rA r)) (iI gl) (iI n) (iI i) = some (iI (fsm (fun d => decide (pa (rT r) + wy r * (ds d * n).tdiv (100 * gr r) = gl)) i e), h) := by
  have c3 := hD.1.2.2
  have o8 : oI 5 8 h (some 14) = some (iI nd) := oIv (by rw [ss_14 hS]) hD.1.1
  obtain ⟨⟨-, -, -, d4⟩, ⟨f0, f1, f2, f3, f4, f8⟩, -, q1, q2, q3, q4, q5⟩ := hR.2.1 r hr
  obtain ⟨⟨-, -, -, t4⟩, ⟨-, -, -, -, -, -, g7⟩, -, bb⟩ := hT.2.1 (rT r) q1
  intro e
  induction e with
  | zero =>
    intro i fu hi hf
    obtain ⟨fu, rfl⟩ : ∃ m, fu = m + 1 := ⟨fu - 1, by omega⟩
    show fX1_findDrum_b3_body N (fX1_findDrum_b3 N 25 fu) 25 h (some (rA r)) (iI gl) (iI n) (iI i) = _
    have a1 : iI (nd : Int) ≤ iI (i : Int) := (iI_le (by omega) (by omega) (by omega) (by omega)).mpr (by omega)
    simp only [fX1_findDrum_b3_body, lit, iI_neg]
    refine bst (sR_100_25 hS) ?_
    refine bst (o8) ?_
    refine ifp (a1) ?_
    rfl
  | succ e ih =>
    intro i fu hi hf
    obtain ⟨fu, rfl⟩ : ∃ m, fu = m + 1 := ⟨fu - 1, by omega⟩
    show fX1_findDrum_b3_body N (fX1_findDrum_b3 N 25 fu) 25 h (some (rA r)) (iI gl) (iI n) (iI i) = _
    have a1 : ¬ iI (nd : Int) ≤ iI (i : Int) := fun q => by have := (iI_le (by omega) (by omega) (by omega) (by omega)).mp q; omega
    obtain ⟨⟨e1, -, -, e4⟩, ⟨-, e2⟩, -, e5, e6⟩ := hD.2.1 i (by omega)
    obtain ⟨p1, p2, p3, p4⟩ := pl_bd (g := gr r) e5 e6 n1 n2 q2
    have q := ih (i + 1) fu (by omega) (by omega)
    simp only [Int.natCast_add, Int.natCast_one] at q
    have lq : lQ 24 h (some 16) (iI i) = some (some (dA i)) := lQv (ss_16 hS) (by omega) (by omega) e1
    have pf := v_placeFrom (N := N) hR hr (p := pa (rT r)) (q := ds i * n) (by omega) (by omega)
    have rc4 : rc 4 h (some (rA r)) = some (rA r) := rcv (by rw [d4])
    have le : iI (pa (rT r) + wy r * (ds i * n).tdiv (100 * gr r)) = iI gl ↔ pa (rT r) + wy r * (ds i * n).tdiv (100 * gr r) = gl := iI_eq (by omega) (by omega) (by omega) (by omega)
    have em : iI (ds i) * iI n = iI (ds i * n) := by rw [iI_mul]
    simp only [fX1_findDrum_b3_body, lit, iI_add, Option.bind_some]
    by_cases w : pa (rT r) + wy r * (ds i * n).tdiv (100 * gr r) = gl
    · rw [fsm_y _ (decide_eq_true w)]
      refine bst (sR_100_25 hS) ?_
      refine bst (o8) ?_
      refine ifn (a1) ?_
      refine bst (oRv (by rw [d4]) f1) ?_
      refine bst (oIv (by rw [t4]) g7) ?_
      refine bst (sR_100_25 hS) ?_
      refine bst (sR_501_14 hS) ?_
      refine bst (lq) ?_
      refine bst (oIv (by rw [e4]) e2) ?_
      refine bst (rc4) ?_
      rw [em]
      refine bst (pf) ?_
      refine ifp (le.mpr w) ?_
      rfl
    · rw [fsm_n _ (decide_eq_false w)]
      refine bst (sR_100_25 hS) ?_
      refine bst (o8) ?_
      refine ifn (a1) ?_
      refine bst (oRv (by rw [d4]) f1) ?_
      refine bst (oIv (by rw [t4]) g7) ?_
      refine bst (sR_100_25 hS) ?_
      refine bst (sR_501_14 hS) ?_
      refine bst (lq) ?_
      refine bst (oIv (by rw [e4]) e2) ?_
      refine bst (rc4) ?_
      rw [em]
      refine bst (pf) ?_
      refine ifn (fun z => w (le.mp z)) ?_
      exact q
/-- what findTie leaves of thing i: the rope f, or none -/
def ftH (h : Hs) (a b i : Nat) (f d : Int) : Hs := uA (uA h a i (iI f)) b i (iI d)
theorem L_ftC {N : Nat} (hN : 100000000 ≤ N) {h : Hs} (hS : Sk h) (hz : 70 ≤ sz h) {nr nt nd : Nat} {rA tA dA rT : Nat → Nat} {wy gr hd ds : Nat → Int} {gn : Nat → Bool} {tl tw tg ls ms pa : Nat → Int} (hT : RTh h nt tA tl tw tg ls ms pa) (hD : RDr h nd dA ds) (hR : RRo h nr nt rA tA rT wy gr hd gn) {gl n : Int} (g1 : -1 ≤ gl) (g2 : gl ≤ 100) (n1 : -9999 ≤ n) (n2 : n ≤ 9999) {i : Nat} (hi : i < nt) : ∀ (e j fu : Nat), j + e = nr → e < fu → fX1_findTie_b3 N 25 fu h (some (tA i)) (iI gl) (iI n) (iI j) = some (if fsm (srv pa wy gr ds hd tg rT gn nd gl n i) j e < 0 then (iI 0, ftH h 26 27 i (-2) (-2)) else (iI 1, ftH h 26 27 i (fsm (srv pa wy gr ds hd tg rT gn nd gl n i) j e) (fdr pa wy gr ds rT nd gl n (fsm (srv pa wy gr ds hd tg rT gn nd gl n i) j e).toNat))) := by
  have c3 := hR.1.2.2
  have ct := hT.1.2.2
  have cd := hD.1.2.2
  have o9 : oI 5 9 h (some 14) = some (iI nr) := oIv (by rw [ss_14 hS]) hR.1.1
  obtain ⟨⟨t1, t2, t3, t4⟩, ⟨g0, -⟩, -, -⟩ := hT.2.1 i hi
  have o0 : oI 9 0 h (some (tA i)) = some (iI i) := oIv (by rw [t4]) g0
  have put : ∀ f d : Int, ((oI 9 0 h (some (tA i))).bind fun v4 => (sA h (some 26) v4 (iI f)).bind fun h5 => (oR 1 2 h5 (some 25)).bind fun o6 => (oI 9 0 h5 (some (tA i))).bind fun v7 => (sA h5 o6 v7 (iI d)).bind fun h8 => some h8) = some (ftH h 26 27 i f d) := by
    intro f d
    have ke : Ke [] [26] [] [] h (uA h 26 i (iI f)) := Ke_rf.b 26 _ _ (by decide)
    have hS1 := hS.e hz ke (by decide)
    have o01 : oI 9 0 (uA h 26 i (iI f)) (some (tA i)) = some (iI i) := oIv (by rw [sh_uA, t4]) g0
    refine bst (o0) ?_
    refine bst (sAv (ss_26 hS) (by omega) (by omega)) ?_
    refine bst (sR_102_25 hS1) ?_
    refine bst (o01) ?_
    refine bst (sAv (ss_27 hS1) (by omega) (by omega)) ?_
    rfl
  have put2 : ∀ (f d : Int) (v : Int32), ((oI 9 0 h (some (tA i))).bind fun v4 => (sA h (some 26) v4 (iI f)).bind fun h5 => (oR 1 2 h5 (some 25)).bind fun o6 => (oI 9 0 h5 (some (tA i))).bind fun v7 => (sA h5 o6 v7 (iI d)).bind fun h8 => some (v, h8)) = some (v, ftH h 26 27 i f d) := by
    intro f d v
    have ke : Ke [] [26] [] [] h (uA h 26 i (iI f)) := Ke_rf.b 26 _ _ (by decide)
    have hS1 := hS.e hz ke (by decide)
    have o01 : oI 9 0 (uA h 26 i (iI f)) (some (tA i)) = some (iI i) := oIv (by rw [sh_uA, t4]) g0
    refine bst (o0) ?_
    refine bst (sAv (ss_26 hS) (by omega) (by omega)) ?_
    refine bst (sR_102_25 hS1) ?_
    refine bst (o01) ?_
    refine bst (sAv (ss_27 hS1) (by omega) (by omega)) ?_
    rfl
  intro e
  induction e with
  | zero =>
    intro j fu hj hf
    obtain ⟨fu, rfl⟩ : ∃ m, fu = m + 1 := ⟨fu - 1, by omega⟩
    show fX1_findTie_b3_body N (fX1_findTie_b3 N 25 fu) 25 h (some (tA i)) (iI gl) (iI n) (iI j) = _
    have a1 : iI (nr : Int) ≤ iI (j : Int) := (iI_le (by omega) (by omega) (by omega) (by omega)).mpr (by omega)
    rw [if_pos (show fsm (srv pa wy gr ds hd tg rT gn nd gl n i) j 0 < 0 by simp [fsm])]
    simp only [fX1_findTie_b3_body, lit, iI_neg]
    refine bst (sR_100_25 hS) ?_
    refine bst (o9) ?_
    refine ifp (a1) ?_
    refine bst (sR_101_25 hS) ?_
    exact put2 (-2) (-2) (iI 0)
  | succ e ih =>
    intro j fu hj hf
    obtain ⟨fu, rfl⟩ : ∃ m, fu = m + 1 := ⟨fu - 1, by omega⟩
    have a1 : ¬ iI (nr : Int) ≤ iI (j : Int) := fun q => by have := (iI_le (by omega) (by omega) (by omega) (by omega)).mp q; omega
    obtain ⟨⟨d1, -, -, d4⟩, ⟨f0, f1, f2, f3, f4, f8⟩, -, q1, q2, q3, q4, q5⟩ := hR.2.1 j (by omega)
    obtain ⟨-, -, -, bb⟩ := hT.2.1 (rT j) q1
    have q := ih (j + 1) fu (by omega) (by omega)
    simp only [Int.natCast_add, Int.natCast_one] at q
    have lq : lQ 25 h (some 17) (iI j) = some (some (rA j)) := lQv (ss_17 hS) (by omega) (by omega) d1
    have o1 : oR 4 1 h (some (rA j)) = some (some (tA (rT j))) := oRv (by rw [d4]) f1
    have o8 : oI 4 8 h (some (rA j)) = some (iI (b2 (gn j))) := oIv (by rw [d4]) f8
    have rc4 : rc 4 h (some (rA j)) = some (rA j) := rcv (by rw [d4])
    have rc1 : rc 1 h (some 25) = some 25 := rcv (by rw [ss_25 hS])
    have lb := ldv_b (g := tg (rT j)) (r := gr j) (by omega) (by omega)
    have sp := v_spare (N := N) hR hT (r := j) (by omega)
    have fd := L_fdC (N := N) hS hT hD hR g1 g2 n1 n2 (r := j) (by omega) nd 0 N (by omega) (by omega)
    have fd' : fX1_findDrum N h 25 (some (rA j)) (iI gl) (iI n) = some (iI (fdr pa wy gr ds rT nd gl n j), h) := fd
    have fb := fsm_b (fun d => decide (pa (rT j) + wy j * (ds d * n).tdiv (100 * gr j) = gl)) nd 0
    have fb' : -1 ≤ fdr pa wy gr ds rT nd gl n j ∧ fdr pa wy gr ds rT nd gl n j < 20 := by
      unfold fdr
      omega
    have nx : fX1_findTie_b76 N (fX1_findTie_b3 N 25 fu) 25 h (some (tA i)) (iI gl) (iI n) (iI j) (iI (-1)) = fX1_findTie_b3 N 25 fu h (some (tA i)) (iI gl) (iI n) (iI ((j : Int) + 1)) := by
      simp only [fX1_findTie_b76, lit, iI_add, Option.bind_some]
      refine ifp ((by decide)) ?_
      rfl
    have skip : fsm (srv pa wy gr ds hd tg rT gn nd gl n i) j (e + 1) = fsm (srv pa wy gr ds hd tg rT gn nd gl n i) (j + 1) e → fX1_findTie_b3 N 25 (fu + 1) h (some (tA i)) (iI gl) (iI n) (iI j) = fX1_findTie_b3 N 25 fu h (some (tA i)) (iI gl) (iI n) (iI ((j : Int) + 1)) → fX1_findTie_b3 N 25 (fu + 1) h (some (tA i)) (iI gl) (iI n) (iI j) = some (if fsm (srv pa wy gr ds hd tg rT gn nd gl n i) j (e + 1) < 0 then (iI 0, ftH h 26 27 i (-2) (-2)) else (iI 1, ftH h 26 27 i (fsm (srv pa wy gr ds hd tg rT gn nd gl n i) j (e + 1)) (fdr pa wy gr ds rT nd gl n (fsm (srv pa wy gr ds hd tg rT gn nd gl n i) j (e + 1)).toNat))) := by
      intro e1 e2
      rw [e1, e2]
      exact q
    have eT : some (tA (rT j)) = some (tA i) ↔ rT j = i := by
      constructor
      · intro s
        exact hT.2.2 _ _ q1 hi (Option.some.inj s)
      · intro s
        rw [s]
    by_cases w1 : rT j = i
    · cases w2 : gn j with
      | true =>
        refine skip (fsm_n _ (decide_eq_false (fun s => by rw [w2] at s; cases s.2.1))) ?_
        rw [w2] at o8
        have o8' : oI 4 8 h (some (rA j)) = some (iI 1) := o8
        show fX1_findTie_b3_body N (fX1_findTie_b3 N 25 fu) 25 h (some (tA i)) (iI gl) (iI n) (iI j) = _
        simp only [fX1_findTie_b3_body, fX1_findTie_b56, fX1_findTie_b57, lit, iI_neg]
        refine bst (sR_100_25 hS) ?_
        refine bst (o9) ?_
        refine ifn (a1) ?_
        refine bst (sR_100_25 hS) ?_
        refine bst (sR_502_14 hS) ?_
        refine bst (lq) ?_
        refine bst (o1) ?_
        refine ifp (eT.mpr w1) ?_
        refine bst (o8') ?_
        refine ifn (n10) ?_
        refine ifp (trivial) ?_
        exact nx
      | false =>
        rw [w2] at o8
        have o8' : oI 4 8 h (some (rA j)) = some (iI 0) := o8
        have ls : iI (hd j - ldv (tg (rT j)) (gr j)) < iI 0 ↔ hd j - ldv (tg (rT j)) (gr j) < 0 := iI_lt (by omega) (by omega) (by omega) (by omega)
        by_cases w3 : hd j - ldv (tg (rT j)) (gr j) < 0
        · refine skip (fsm_n _ (decide_eq_false (fun s => by omega))) ?_
          show fX1_findTie_b3_body N (fX1_findTie_b3 N 25 fu) 25 h (some (tA i)) (iI gl) (iI n) (iI j) = _
          simp only [fX1_findTie_b3_body, fX1_findTie_b56, fX1_findTie_b57, lit, iI_neg]
          refine bst (sR_100_25 hS) ?_
          refine bst (o9) ?_
          refine ifn (a1) ?_
          refine bst (sR_100_25 hS) ?_
          refine bst (sR_502_14 hS) ?_
          refine bst (lq) ?_
          refine bst (o1) ?_
          refine ifp (eT.mpr w1) ?_
          refine bst (o8') ?_
          refine ifp (rfl) ?_
          refine bst (rc4) ?_
          refine bst (sp) ?_
          refine ifp (ls.mpr w3) ?_
          refine ifp (trivial) ?_
          exact nx
        · by_cases w4 : fdr pa wy gr ds rT nd gl n j < 0
          · refine skip (fsm_n _ (decide_eq_false (fun s => by omega))) ?_
            have e9 : fdr pa wy gr ds rT nd gl n j = -1 := by omega
            rw [e9] at fd'
            show fX1_findTie_b3_body N (fX1_findTie_b3 N 25 fu) 25 h (some (tA i)) (iI gl) (iI n) (iI j) = _
            simp only [fX1_findTie_b3_body, fX1_findTie_b56, fX1_findTie_b57, lit, iI_neg]
            refine bst (sR_100_25 hS) ?_
            refine bst (o9) ?_
            refine ifn (a1) ?_
            refine bst (sR_100_25 hS) ?_
            refine bst (sR_502_14 hS) ?_
            refine bst (lq) ?_
            refine bst (o1) ?_
            refine ifp (eT.mpr w1) ?_
            refine bst (o8') ?_
            refine ifp (rfl) ?_
            refine bst (rc4) ?_
            refine bst (sp) ?_
            refine ifn (fun s => w3 (ls.mp s)) ?_
            refine ifn (n10) ?_
            refine bst (rc1) ?_
            refine bst (fd') ?_
            exact nx
          · have hy : srv pa wy gr ds hd tg rT gn nd gl n i j = true := decide_eq_true ⟨w1, w2, by omega, by omega⟩
            rw [fsm_y _ hy, if_neg (by omega), Int.toNat_natCast]
            have ld : ¬ iI (fdr pa wy gr ds rT nd gl n j) < iI 0 := fun s => by have := (iI_lt (by omega) (by omega) (by omega) (by omega)).mp s; omega
            show fX1_findTie_b3_body N (fX1_findTie_b3 N 25 fu) 25 h (some (tA i)) (iI gl) (iI n) (iI j) = _
            simp only [fX1_findTie_b3_body, fX1_findTie_b57, fX1_findTie_b76, lit]
            refine bst (sR_100_25 hS) ?_
            refine bst (o9) ?_
            refine ifn (a1) ?_
            refine bst (sR_100_25 hS) ?_
            refine bst (sR_502_14 hS) ?_
            refine bst (lq) ?_
            refine bst (o1) ?_
            refine ifp (eT.mpr w1) ?_
            refine bst (o8') ?_
            refine ifp (rfl) ?_
            refine bst (rc4) ?_
            refine bst (sp) ?_
            refine ifn (fun s => w3 (ls.mp s)) ?_
            refine ifn (n10) ?_
            refine bst (rc1) ?_
            refine bst (fd') ?_
            refine ifn (ld) ?_
            refine bst (sR_101_25 hS) ?_
            exact put2 _ _ (iI 1)
    · refine skip (fsm_n _ (decide_eq_false (fun s => w1 s.1))) ?_
      show fX1_findTie_b3_body N (fX1_findTie_b3 N 25 fu) 25 h (some (tA i)) (iI gl) (iI n) (iI j) = _
      simp only [fX1_findTie_b3_body, fX1_findTie_b56, fX1_findTie_b57, lit, iI_neg]
      refine bst (sR_100_25 hS) ?_
      refine bst (o9) ?_
      refine ifn (a1) ?_
      refine bst (sR_100_25 hS) ?_
      refine bst (sR_502_14 hS) ?_
      refine bst (lq) ?_
      refine bst (o1) ?_
      refine ifn (fun s => w1 (eT.mp s)) ?_
      refine ifp (trivial) ?_
      exact nx
/-! ===== change: the class's plan ===== -/
theorem hasB_z (p : Nat → Bool) : ∀ (d i : Nat), hasB p i (d + 1) = (hasB p i d || p (i + d))
  | 0, i => by simp [hasB]
  | d + 1, i => by
    rw [hasB, hasB_z p d (i + 1), hasB, Bool.or_assoc, show i + 1 + d = i + (d + 1) by omega]
theorem cntB_z (p : Nat → Bool) : ∀ (d i : Nat), cntB p i (d + 1) = cntB p i d + (if p (i + d) then 1 else 0)
  | 0, i => by simp [cntB]
  | d + 1, i => by
    rw [cntB, cntB_z p d (i + 1), cntB, show i + 1 + d = i + (d + 1) by omega]
    omega
theorem hasB_mo {p : Nat → Bool} {i k : Nat} (h : hasB p 0 i = true) (hk : i ≤ k) : hasB p 0 k = true := by
  obtain ⟨j, h1, h2, h3⟩ := (hasB_iff i 0).mp h
  exact (hasB_iff k 0).mpr ⟨j, h1, by omega, h3⟩
def bdf (mv : Nat → Bool) (ft : Nat → Int) (i : Nat) : Bool := mv i && decide (ft i < 0)
def crf (mv : Nat → Bool) (ft fv : Nat → Int) (i : Nat) : Int := if hasB (bdf mv ft) 0 i then -1 else if mv i then (if ft i < 0 then -2 else fv i) else -1
theorem L_planC {N : Nat} {h0 : Hs} (hS0 : Sk h0) (hz : 70 ≤ sz h0) {nt : Nat} {tA sA : Nat → Nat} {tl tw tg ls ms pa : Nat → Int} {sc : Nat → Nat → Int} (hT0 : RTh h0 nt tA tl tw tg ls ms pa) (hC0 : RSc h0 nt tA sA ls ms sc) {s : Nat} (hs : s < 10) {n : Int} {mv : Nat → Bool} {ft fd : Nat → Int} (hmv : ∀ i, mv i = decide (sc i s ≠ -1 ∧ sc i s ≠ pa i)) (hFT : ∀ i h, i < nt → Ke [105] [26, 27] [] [] h0 h → fX1_findTie N h 25 (some (tA i)) (iI (sc i s)) (iI n) = some (if ft i < 0 then (iI 0, ftH h 26 27 i (-2) (-2)) else (iI 1, ftH h 26 27 i (ft i) (fd i)))) : ∀ (e i : Nat) (c : Int) (fu : Nat) (h : Hs), Ke [105] [26, 27] [] [] h0 h → sz h = sz h0 → i + e = nt → e < fu → gI h 105 25 = iI (b2 (!hasB (bdf mv ft) 0 i)) → (∀ k, k < 40 → aI h 26 k = iI (if k < i then crf mv ft ft k else -1) ∧ aI h 27 k = iI (if k < i then crf mv ft fd k else -1)) → (hasB (bdf mv ft) 0 i = false → c = cntB mv 0 i) → ∃ (c' : Int) (h' : Hs), fX1_plan_b54 N 25 fu h (iI s) (iI n) (iI c) (iI i) = fX1_plan_b132 N 25 h' (iI c') ∧ (hasB (bdf mv ft) 0 nt = false → c' = cntB mv 0 nt) ∧ Ke [105] [26, 27] [] [] h0 h' ∧ sz h' = sz h0 ∧ gI h' 105 25 = iI (b2 (!hasB (bdf mv ft) 0 nt)) ∧ (∀ k, k < 40 → aI h' 26 k = iI (if k < nt then crf mv ft ft k else -1) ∧ aI h' 27 k = iI (if k < nt then crf mv ft fd k else -1)) := by
  have ct := hT0.1.2.2
  intro e
  induction e with
  | zero =>
    intro i c fu h ke sz0 hi hf g5 ga gc
    obtain ⟨fu, rfl⟩ : ∃ m, fu = m + 1 := ⟨fu - 1, by omega⟩
    have ei : i = nt := by omega
    subst ei
    have hS := hS0.e hz ke (by decide)
    have hT := hT0.e hz ke (by decide) (by decide) (by decide)
    have o7 : oI 5 7 h (some 14) = some (iI i) := oIv (by rw [ss_14 hS]) hT.1.1
    refine ⟨c, h, ?_, gc, ke, sz0, g5, ga⟩
    show fX1_plan_b54_body N (fX1_plan_b54 N 25 fu) 25 h (iI s) (iI n) (iI c) (iI i) = _
    simp only [fX1_plan_b54_body]
    refine bst (sR_100_25 hS) ?_
    refine bst (o7) ?_
    refine ifp (Int32.le_refl _) ?_
    rfl
  | succ e ih =>
    intro i c fu h ke sz0 hi hf g5 ga gc
    obtain ⟨fu, rfl⟩ : ∃ m, fu = m + 1 := ⟨fu - 1, by omega⟩
    have hS := hS0.e hz ke (by decide)
    have hT := hT0.e hz ke (by decide) (by decide) (by decide)
    have o7 : oI 5 7 h (some 14) = some (iI nt) := oIv (by rw [ss_14 hS]) hT.1.1
    have a1 : ¬ iI (nt : Int) ≤ iI (i : Int) := fun q => by have := (iI_le (by omega) (by omega) (by omega) (by omega)).mp q; omega
    have o5 : oI 1 5 h (some 25) = some (iI (b2 (!hasB (bdf mv ft) 0 i))) := oIv (by rw [ss_25 hS]) g5
    cases hb : hasB (bdf mv ft) 0 i with
    | true =>
      have hbn := hasB_mo hb (show i ≤ nt by omega)
      rw [hb] at o5
      have o5' : oI 1 5 h (some 25) = some (iI 0) := o5
      refine ⟨c, h, ?_, (fun q => by rw [hbn] at q; cases q), ke, sz0, by rw [g5, hb, hbn], fun k hk => ?_⟩
      · show fX1_plan_b54_body N (fX1_plan_b54 N 25 fu) 25 h (iI s) (iI n) (iI c) (iI i) = _
        simp only [fX1_plan_b54_body, lit]
        refine bst (sR_100_25 hS) ?_
        refine bst (o7) ?_
        refine ifn (a1) ?_
        refine bst (o5') ?_
        refine ifp (rfl) ?_
        rfl
      · obtain ⟨z1, z2⟩ := ga k hk
        rw [z1, z2]
        by_cases w1 : k < i
        · rw [if_pos w1, if_pos w1, if_pos (show k < nt by omega), if_pos (show k < nt by omega)]
          exact ⟨rfl, rfl⟩
        · rw [if_neg w1, if_neg w1]
          have hk2 := hasB_mo hb (show i ≤ k by omega)
          by_cases w2 : k < nt
          · rw [if_pos w2, if_pos w2]
            simp [crf, hk2]
          · rw [if_neg w2, if_neg w2]
            exact ⟨rfl, rfl⟩
    | false =>
      rw [hb] at o5
      have o5' : oI 1 5 h (some 25) = some (iI 1) := o5
      have ec := gc hb
      obtain ⟨⟨d1, d2, d3, d4⟩, ⟨-, -, -, -, -, -, g7⟩, -, bb⟩ := hT.2.1 i (by omega)
      have hC := hC0.e hz hT0.lt ke (by decide) (by decide) (fun k hk => by
        have := (hC0.1 k hk).1.2.1
        simp only [List.mem_cons, List.not_mem_nil, or_false]
        omega)
      obtain ⟨⟨x1, x2, x3, x4⟩, x5⟩ := hC.1 i (by omega)
      obtain ⟨x6, -, x7⟩ := x5 s hs
      have lq : lQ 23 h (some 15) (iI i) = some (some (tA i)) := lQv (ss_15 hS) (by omega) (by omega) d1
      have ls' : lA 20 h (some (sA i)) (iI s) = some (iI (sc i s)) := lAv x4 hs (by omega) x6
      have l1 : iI (sc i s) = iI (-1) ↔ sc i s = -1 := iI_eq (by omega) (by omega) (by omega) (by omega)
      have l2 : iI (sc i s) = iI (pa i) ↔ sc i s = pa i := iI_eq (by omega) (by omega) (by omega) (by omega)
      have o9 : oI 9 7 h (some (tA i)) = some (iI (pa i)) := oIv (by rw [d4]) g7
      have hz' : ∀ p : Nat → Bool, hasB p 0 (i + 1) = (hasB p 0 i || p i) := fun p => by rw [hasB_z, Nat.zero_add]
      have cz' : cntB mv 0 (i + 1) = cntB mv 0 i + (if mv i then 1 else 0) := by rw [cntB_z, Nat.zero_add]
      cases hm : mv i with
      | false =>
        have hbi : bdf mv ft i = false := by simp [bdf, hm]
        have hb1 : hasB (bdf mv ft) 0 (i + 1) = false := by rw [hz', hb, hbi]; rfl
        have cr0 : ∀ fv, crf mv ft fv i = -1 := fun fv => by simp [crf, hb, hm]
        obtain ⟨c', h', r1, r2⟩ := ih (i + 1) c fu h ke sz0 (by omega) (by omega) (by rw [hb1, ← hb]; exact g5) (fun k hk => by
          obtain ⟨z1, z2⟩ := ga k hk
          rw [z1, z2]
          by_cases w1 : k < i
          · rw [if_pos w1, if_pos w1, if_pos (show k < i + 1 by omega), if_pos (show k < i + 1 by omega)]
            exact ⟨rfl, rfl⟩
          · rw [if_neg w1, if_neg w1]
            by_cases w2 : k = i
            · subst w2
              rw [if_pos (Nat.lt_succ_self k), if_pos (Nat.lt_succ_self k), cr0, cr0]
              exact ⟨rfl, rfl⟩
            · rw [if_neg (by omega), if_neg (by omega)]
              exact ⟨rfl, rfl⟩) (fun _ => by rw [cz', hm, ec]; simp)
        simp only [Int.natCast_add, Int.natCast_one] at r1
        refine ⟨c', h', ?_, r2⟩
        rw [← r1]
        show fX1_plan_b54_body N (fX1_plan_b54 N 25 fu) 25 h (iI s) (iI n) (iI c) (iI i) = _
        simp only [fX1_plan_b54_body, fX1_plan_b126, lit, iI_neg, iI_add, Option.bind_some]
        by_cases w1 : sc i s = -1
        · skip
          refine bst (sR_100_25 hS) ?_
          refine bst (o7) ?_
          refine ifn (a1) ?_
          refine bst (o5') ?_
          refine ifn (n10) ?_
          refine bst (sR_100_25 hS) ?_
          refine bst (sR_500_14 hS) ?_
          refine bst (lq) ?_
          refine bst (oRv (by rw [d4]) x1) ?_
          refine bst (ls') ?_
          refine ifp (l1.mpr w1) ?_
          rfl
        · have w2 : sc i s = pa i := by
            rw [hmv] at hm
            exact Decidable.not_not.mp fun q => (of_decide_eq_false hm) ⟨w1, q⟩
          refine bst (sR_100_25 hS) ?_
          refine bst (o7) ?_
          refine ifn (a1) ?_
          refine bst (o5') ?_
          refine ifn (n10) ?_
          refine bst (sR_100_25 hS) ?_
          refine bst (sR_500_14 hS) ?_
          refine bst (lq) ?_
          refine bst (oRv (by rw [d4]) x1) ?_
          refine bst (ls') ?_
          refine ifn (fun q => w1 (l1.mp q)) ?_
          refine bst (o9) ?_
          refine ifp (l2.mpr w2) ?_
          rfl
      | true =>
        have hm2 := hm
        rw [hmv] at hm2
        obtain ⟨w1, w2⟩ := of_decide_eq_true hm2
        have fT := hFT i h (by omega) ke
        have rc1 : rc 1 h (some 25) = some 25 := rcv (by rw [ss_25 hS])
        obtain ⟨f1, f2, f3, ef, hv1, hv2, hv3⟩ : ∃ f1 f2 f3 : Int, fX1_findTie N h 25 (some (tA i)) (iI (sc i s)) (iI n) = some (iI f3, ftH h 26 27 i f1 f2) ∧ f1 = crf mv ft ft i ∧ f2 = crf mv ft fd i ∧ f3 = b2 (!hasB (bdf mv ft) 0 (i + 1)) := by
          by_cases w3 : ft i < 0
          · have hbi : bdf mv ft i = true := by simp [bdf, hm, w3]
            rw [if_pos w3] at fT
            exact ⟨-2, -2, 0, fT, by simp [crf, hb, hm, w3], by simp [crf, hb, hm, w3], by rw [hz', hb, hbi]; rfl⟩
          · have hbi : bdf mv ft i = false := by simp [bdf, hm, w3]
            rw [if_neg w3] at fT
            exact ⟨ft i, fd i, 1, fT, by simp [crf, hb, hm, w3], by simp [crf, hb, hm, w3], by rw [hz', hb, hbi]; rfl⟩
        have hb01 : f3 = 0 ∨ f3 = 1 := by
          rw [hv3]
          cases hasB (bdf mv ft) 0 (i + 1)
          · exact Or.inr rfl
          · exact Or.inl rfl
        obtain ⟨h2, eh2⟩ : ∃ h2, h2 = uI (ftH h 26 27 i f1 f2) 105 25 (iI f3) := ⟨_, rfl⟩
        have ke2 : Ke [105] [26, 27] [] [] h h2 := by rw [eh2]; exact ((Ke_rf.b 26 _ _ (by decide)).b 27 _ _ (by decide)).u 105 _ _ (by decide)
        obtain ⟨c', h', r1, r2⟩ := ih (i + 1) (c + 1) fu h2 (ke.tr ke2) (by rw [eh2]; exact sz0) (by omega) (by omega) (by rw [eh2, ← hv3]; simp [HR]) (fun k hk => by
          obtain ⟨z1, z2⟩ := ga k hk
          by_cases w3 : k = i
          · subst w3
            rw [if_pos (Nat.lt_succ_self k), if_pos (Nat.lt_succ_self k), eh2, ← hv1, ← hv2]
            simp [ftH, HR]
          · have y1 : aI h2 26 k = aI h 26 k := by rw [eh2]; simp [ftH, HR, w3]
            have y2 : aI h2 27 k = aI h 27 k := by rw [eh2]; simp [ftH, HR, w3]
            rw [y1, y2, z1, z2]
            by_cases w4 : k < i
            · rw [if_pos w4, if_pos w4, if_pos (show k < i + 1 by omega), if_pos (show k < i + 1 by omega)]
              exact ⟨rfl, rfl⟩
            · rw [if_neg w4, if_neg w4, if_neg (by omega), if_neg (by omega)]
              exact ⟨rfl, rfl⟩) (fun _ => by rw [cz', hm, ec]; simp)
        simp only [Int.natCast_add, Int.natCast_one] at r1
        refine ⟨c', h', ?_, r2⟩
        rw [← r1]
        show fX1_plan_b54_body N (fX1_plan_b54 N 25 fu) 25 h (iI s) (iI n) (iI c) (iI i) = _
        have z5 : qZ 1 5 (ftH h 26 27 i f1 f2) (some 25) (iI f3) = some h2 := by
          rw [eh2]
          exact qZv (by show (sh h 25).1 = 1; rw [ss_25 hS]) hb01
        simp only [fX1_plan_b54_body, fX1_plan_b126, lit, iI_neg, iI_add, Option.bind_some]
        refine bst (sR_100_25 hS) ?_
        refine bst (o7) ?_
        refine ifn (a1) ?_
        refine bst (o5') ?_
        refine ifn (n10) ?_
        refine bst (sR_100_25 hS) ?_
        refine bst (sR_500_14 hS) ?_
        refine bst (lq) ?_
        refine bst (oRv (by rw [d4]) x1) ?_
        refine bst (ls') ?_
        refine ifn (fun q => w1 (l1.mp q)) ?_
        refine bst (o9) ?_
        refine ifn (fun q => w2 (l2.mp q)) ?_
        refine bst (rc1) ?_
        refine bst (ef) ?_
        refine bst (z5) ?_
        rfl
/-- a thing's work -/
def wkf (td dr : Nat → Option Nat) (dn cr cd : Nat → Int) (i : Nat) : Int := if cr i < 0 then (match td i with
  | none => 0
  | some _ => 2) else match td i with
  | none => 3
  | some r => if (r : Int) = cr i ∧ dn r = 0 ∧ od (dr r) = cd i then 0 else 5
theorem wkf_4 (td dr : Nat → Option Nat) (dn cr cd : Nat → Int) (i : Nat) : wkf td dr dn cr cd i = 0 ∨ wkf td dr dn cr cd i = 2 ∨ wkf td dr dn cr cd i = 3 ∨ wkf td dr dn cr cd i = 5 := by
  unfold wkf
  by_cases w : cr i < 0
  · rw [if_pos w]
    cases td i with
    | none => exact Or.inl rfl
    | some r => exact Or.inr (Or.inl rfl)
  · rw [if_neg w]
    cases td i with
    | none => exact Or.inr (Or.inr (Or.inl rfl))
    | some r =>
      simp only
      by_cases v : (r : Int) = cr i ∧ dn r = 0 ∧ od (dr r) = cd i
      · rw [if_pos v]; exact Or.inl rfl
      · rw [if_neg v]; exact Or.inr (Or.inr (Or.inr rfl))
theorem v_ready {N : Nat} {h : Hs} (hS : Sk h) {nr nt nd : Nat} {rA tA dA rT : Nat → Nat} {wy gr hd ds : Nat → Int} {gn : Nat → Bool} {dr td : Nat → Option Nat} {sr dn : Nat → Int} (hD : RDr h nd dA ds) (hR : RRo h nr nt rA tA rT wy gr hd gn) (hC : RTc h nt nr tA dA rA dr td sr dn) (hL : RTl nt nd nr rT dr td) (hdn : ∀ r, r < nr → dr r ≠ none → -1000000000 ≤ dn r ∧ dn r ≤ 1000000000) {cr cd : Nat → Int} {i r : Nat} (hi : i < 40) (hin : i < nt) (htd : td i = some r) (h26 : aI h 26 i = iI (cr i)) (h27 : aI h 27 i = iI (cd i)) (b1 : -2 ≤ cr i ∧ cr i ≤ 100) (b2' : -2 ≤ cd i ∧ cd i ≤ 100) : fX1_isReady N h 25 (some (rA r)) (iI i) = some (if (r : Int) = cr i ∧ dn r = 0 ∧ od (dr r) = cd i then iI 1 else iI 0, h) := by
  obtain ⟨hr, hrt, hne⟩ := hL.2 i r hin htd
  obtain ⟨d, hde⟩ := Option.ne_none_iff_exists'.mp hne
  have hdl := (hL.1 r d hr hde).1
  have c3 := hR.1.2.2
  have cd3 := hD.1.2.2
  obtain ⟨⟨-, -, -, d4⟩, ⟨f0, -⟩, -⟩ := hR.2.1 r hr
  obtain ⟨⟨-, -, -, e4⟩, ⟨e0, -⟩, -⟩ := hD.2.1 d hdl
  obtain ⟨g1, g2⟩ := hC.1 r hr
  have g3 := (g2 hne).2
  have nb := hdn r hr hne
  rw [hde] at g1
  have o0 : oI 4 0 h (some (rA r)) = some (iI r) := oIv (by rw [d4]) f0
  have o7 : oI 4 7 h (some (rA r)) = some (iI (dn r)) := oIv (by rw [d4]) g3
  have o5 : oR 4 5 h (some (rA r)) = some (some (dA d)) := oRv (by rw [d4]) g1
  have l26 := lAv (ss_26 hS) hi (by omega) h26
  have l27 := lAv (ss_27 hS) hi (by omega) h27
  have q1 : iI (r : Int) = iI (cr i) ↔ (r : Int) = cr i := iI_eq (by omega) (by omega) (by omega) (by omega)
  have q2 : iI (dn r) = iI 0 ↔ dn r = 0 := iI_eq (by omega) (by omega) (by omega) (by omega)
  have q3 : iI (d : Int) = iI (cd i) ↔ (d : Int) = cd i := iI_eq (by omega) (by omega) (by omega) (by omega)
  have eo : od (dr r) = d := by rw [hde]; rfl
  rw [eo]
  simp only [fX1_isReady, fX1_isReady_b47, fX1_isReady_b48, lit]
  by_cases w1 : (r : Int) = cr i
  · by_cases w2 : dn r = 0
    · by_cases w3 : (d : Int) = cd i
      · rw [if_pos ⟨w1, w2, w3⟩]
        refine bst (o0) ?_
        refine bst (sR_101_25 hS) ?_
        refine bst (l26) ?_
        refine ifp (q1.mpr w1) ?_
        refine bst (o7) ?_
        refine ifp (q2.mpr w2) ?_
        refine bst (o5) ?_
        refine ifn (fun z => by cases z) ?_
        refine bst (o5) ?_
        refine bst (oIv (by rw [e4]) e0) ?_
        refine bst (sR_102_25 hS) ?_
        refine bst (l27) ?_
        refine ifp (q3.mpr w3) ?_
        refine bst (zc_i1) ?_
        rfl
      · rw [if_neg (fun z => w3 z.2.2)]
        refine bst (o0) ?_
        refine bst (sR_101_25 hS) ?_
        refine bst (l26) ?_
        refine ifp (q1.mpr w1) ?_
        refine bst (o7) ?_
        refine ifp (q2.mpr w2) ?_
        refine bst (o5) ?_
        refine ifn (fun z => by cases z) ?_
        refine bst (o5) ?_
        refine bst (oIv (by rw [e4]) e0) ?_
        refine bst (sR_102_25 hS) ?_
        refine bst (l27) ?_
        refine ifn (fun z => w3 (q3.mp z)) ?_
        refine bst (zc_i0) ?_
        rfl
    · rw [if_neg (fun z => w2 z.2.1)]
      refine bst (o0) ?_
      refine bst (sR_101_25 hS) ?_
      refine bst (l26) ?_
      refine ifp (q1.mpr w1) ?_
      refine bst (o7) ?_
      refine ifn (fun z => w2 (q2.mp z)) ?_
      refine bst (zc_i0) ?_
      rfl
  · rw [if_neg (fun z => w1 z.1)]
    refine bst (o0) ?_
    refine bst (sR_101_25 hS) ?_
    refine bst (l26) ?_
    refine ifn (fun z => w1 (q1.mp z)) ?_
    refine bst (zc_i0) ?_
    rfl
theorem L_cwC {N : Nat} {h0 : Hs} (hS0 : Sk h0) (hz : 70 ≤ sz h0) {nr nt nd : Nat} {rA tA dA rT : Nat → Nat} {wy gr hd ds : Nat → Int} {gn : Nat → Bool} {tl tw tg ls ms pa : Nat → Int} {dr td : Nat → Option Nat} {sr dn : Nat → Int} (hT0 : RTh h0 nt tA tl tw tg ls ms pa) (hD0 : RDr h0 nd dA ds) (hR0 : RRo h0 nr nt rA tA rT wy gr hd gn) (hC0 : RTc h0 nt nr tA dA rA dr td sr dn) (hL : RTl nt nd nr rT dr td) (hdn : ∀ r, r < nr → dr r ≠ none → -1000000000 ≤ dn r ∧ dn r ≤ 1000000000) {cr cd : Nat → Int} (hcb : ∀ i, i < nt → (-2 ≤ cr i ∧ cr i ≤ 100) ∧ -2 ≤ cd i ∧ cd i ≤ 100) (ha : ∀ i, i < nt → aI h0 26 i = iI (cr i) ∧ aI h0 27 i = iI (cd i)) : ∀ (e i : Nat) (a2 a3 a5 : Int) (fu : Nat) (h : Hs), Ke [106, 107, 108] [] [] [] h0 h → sz h = sz h0 → i + e = nt → e < fu → gI h 106 25 = iI a2 → gI h 107 25 = iI a3 → gI h 108 25 = iI a5 → ∃ h', fX1_countWorks_b17 N 25 fu h (iI i) = some h' ∧ Ke [106, 107, 108] [] [] [] h0 h' ∧ sz h' = sz h0 ∧ gI h' 106 25 = iI (a2 + cntB (fun i => decide (wkf td dr dn cr cd i = 2)) i e) ∧ gI h' 107 25 = iI (a3 + cntB (fun i => decide (wkf td dr dn cr cd i = 3)) i e) ∧ gI h' 108 25 = iI (a5 + cntB (fun i => decide (wkf td dr dn cr cd i = 5)) i e) := by
  have ct := hT0.1.2.2
  intro e
  induction e with
  | zero =>
    intro i a2 a3 a5 fu h ke sz0 hi hf g2 g3 g5
    obtain ⟨fu, rfl⟩ : ∃ m, fu = m + 1 := ⟨fu - 1, by omega⟩
    have hS := hS0.e hz ke (by decide)
    have hT := hT0.e hz ke (by decide) (by decide) (by decide)
    have o7 : oI 5 7 h (some 14) = some (iI nt) := oIv (by rw [ss_14 hS]) hT.1.1
    have a1 : iI (nt : Int) ≤ iI (i : Int) := (iI_le (by omega) (by omega) (by omega) (by omega)).mpr (by omega)
    refine ⟨h, ?_, ke, sz0, by simpa [cntB] using g2, by simpa [cntB] using g3, by simpa [cntB] using g5⟩
    show fX1_countWorks_b17_body N (fX1_countWorks_b17 N 25 fu) 25 h (iI i) = _
    simp only [fX1_countWorks_b17_body]
    refine bst (sR_100_25 hS) ?_
    refine bst (o7) ?_
    refine ifp (a1) ?_
    rfl
  | succ e ih =>
    intro i a2 a3 a5 fu h ke sz0 hi hf g2 g3 g5
    obtain ⟨fu, rfl⟩ : ∃ m, fu = m + 1 := ⟨fu - 1, by omega⟩
    have hS := hS0.e hz ke (by decide)
    have hT := hT0.e hz ke (by decide) (by decide) (by decide)
    have hD := hD0.e hz ke (by decide) (by decide) (by decide)
    have hR := hR0.e hz ke (by decide) (by decide) (by decide) (by decide)
    have hC := hC0.e hT0.lt hR0.lt ke (by decide) (by decide)
    have o7 : oI 5 7 h (some 14) = some (iI nt) := oIv (by rw [ss_14 hS]) hT.1.1
    have a1 : ¬ iI (nt : Int) ≤ iI (i : Int) := fun q => by have := (iI_le (by omega) (by omega) (by omega) (by omega)).mp q; omega
    obtain ⟨⟨d1, d2, d3, d4⟩, -⟩ := hT.2.1 i (by omega)
    have lq : lQ 23 h (some 15) (iI i) = some (some (tA i)) := lQv (ss_15 hS) (by omega) (by omega) d1
    have o9 : oR 9 9 h (some (tA i)) = some ((td i).map rA) := oRv (by rw [d4]) (hC.2 i (by omega))
    have h26 : aI h 26 i = iI (cr i) := by rw [ke.2.1 26 (by decide) (by omega)]; exact (ha i (by omega)).1
    have h27 : aI h 27 i = iI (cd i) := by rw [ke.2.1 27 (by decide) (by omega)]; exact (ha i (by omega)).2
    have l26 := lAv (ss_26 hS) (show i < 40 by omega) (by omega) h26
    obtain ⟨cb1, cb2⟩ := hcb i (by omega)
    have l0 : iI 0 ≤ iI (cr i) ↔ 0 ≤ cr i := iI_le (by omega) (by omega) (by omega) (by omega)
    have rc1 : rc 1 h (some 25) = some 25 := rcv (by rw [ss_25 hS])
    have c25 : (sh h 25).1 = 1 := by rw [ss_25 hS]
    -- one step: counts x2 x3 x5 are added
    have go : ∀ (x2 x3 x5 : Int) (h2 : Hs), Ke [106, 107, 108] [] [] [] h h2 → sz h2 = sz h → gI h2 106 25 = iI (a2 + x2) → gI h2 107 25 = iI (a3 + x3) → gI h2 108 25 = iI (a5 + x5) → x2 = (if decide (wkf td dr dn cr cd i = 2) then 1 else 0) → x3 = (if decide (wkf td dr dn cr cd i = 3) then 1 else 0) → x5 = (if decide (wkf td dr dn cr cd i = 5) then 1 else 0) → fX1_countWorks_b17 N 25 (fu + 1) h (iI i) = fX1_countWorks_b17 N 25 fu h2 (iI ((i : Int) + 1)) → ∃ h', fX1_countWorks_b17 N 25 (fu + 1) h (iI i) = some h' ∧ Ke [106, 107, 108] [] [] [] h0 h' ∧ sz h' = sz h0 ∧ gI h' 106 25 = iI (a2 + cntB (fun i => decide (wkf td dr dn cr cd i = 2)) i (e + 1)) ∧ gI h' 107 25 = iI (a3 + cntB (fun i => decide (wkf td dr dn cr cd i = 3)) i (e + 1)) ∧ gI h' 108 25 = iI (a5 + cntB (fun i => decide (wkf td dr dn cr cd i = 5)) i (e + 1)) := by
      intro x2 x3 x5 h2 k2 s2 y2 y3 y5 e2 e3 e5 st
      obtain ⟨h', r1, r2, r3, r4, r5, r6⟩ := ih (i + 1) (a2 + x2) (a3 + x3) (a5 + x5) fu h2 (ke.tr k2) (s2.trans sz0) (by omega) (by omega) y2 y3 y5
      simp only [Int.natCast_add, Int.natCast_one] at r1
      refine ⟨h', st.trans r1, r2, r3, ?_, ?_, ?_⟩
      · rw [r4, e2]
        congr 1
        simp only [cntB]
        split <;> omega
      · rw [r5, e3]
        congr 1
        simp only [cntB]
        split <;> omega
      · rw [r6, e5]
        congr 1
        simp only [cntB]
        split <;> omega
    by_cases w : cr i < 0
    · have w0 : ¬ iI 0 ≤ iI (cr i) := fun q => by have := l0.mp q; omega
      cases htd : td i with
      | none =>
        rw [htd] at o9
        have ek : wkf td dr dn cr cd i = 0 := by simp [wkf, w, htd]
        refine go 0 0 0 (uI h 106 25 (iI (a2 + 0))) (Ke_rf.u 106 _ _ (by decide)) rfl (by simp [HR]) (by simp [HR, g3]) (by simp [HR, g5]) (by simp [ek]) (by simp [ek]) (by simp [ek]) ?_
        show fX1_countWorks_b17_body N (fX1_countWorks_b17 N 25 fu) 25 h (iI i) = _
        simp only [fX1_countWorks_b17_body, fX1_countWorks_b64, fX1_countWorks_b107, lit, Option.bind_some]
        refine bst (sR_100_25 hS) ?_
        refine bst (o7) ?_
        refine ifn (a1) ?_
        refine bst (sR_100_25 hS) ?_
        refine bst (sR_500_14 hS) ?_
        refine bst (lq) ?_
        refine bst (o9) ?_
        refine bst (sR_101_25 hS) ?_
        refine bst (l26) ?_
        refine ifn (w0) ?_
        refine bst (oIv c25 g2) ?_
        refine ifp (rfl) ?_
        refine bst (qIv c25) ?_
        rw [iI_add, iI_add]
      | some r =>
        rw [htd] at o9
        have ek : wkf td dr dn cr cd i = 2 := by simp [wkf, w, htd]
        refine go 1 0 0 (uI h 106 25 (iI (a2 + 1))) (Ke_rf.u 106 _ _ (by decide)) rfl (by simp [HR]) (by simp [HR, g3]) (by simp [HR, g5]) (by simp [ek]) (by simp [ek]) (by simp [ek]) ?_
        show fX1_countWorks_b17_body N (fX1_countWorks_b17 N 25 fu) 25 h (iI i) = _
        simp only [fX1_countWorks_b17_body, fX1_countWorks_b64, fX1_countWorks_b107, lit, Option.bind_some]
        refine bst (sR_100_25 hS) ?_
        refine bst (o7) ?_
        refine ifn (a1) ?_
        refine bst (sR_100_25 hS) ?_
        refine bst (sR_500_14 hS) ?_
        refine bst (lq) ?_
        refine bst (o9) ?_
        refine bst (sR_101_25 hS) ?_
        refine bst (l26) ?_
        refine ifn (w0) ?_
        refine bst (oIv c25 g2) ?_
        refine ifn (fun q => by cases q) ?_
        refine bst (qIv c25) ?_
        rw [iI_add, iI_add]
    · have w0 : iI 0 ≤ iI (cr i) := l0.mpr (by omega)
      cases htd : td i with
      | none =>
        rw [htd] at o9
        have ek : wkf td dr dn cr cd i = 3 := by simp [wkf, w, htd]
        refine go 0 1 0 (uI h 107 25 (iI (a3 + 1))) (Ke_rf.u 107 _ _ (by decide)) rfl (by simp [HR, g2]) (by simp [HR]) (by simp [HR, g5]) (by simp [ek]) (by simp [ek]) (by simp [ek]) ?_
        show fX1_countWorks_b17_body N (fX1_countWorks_b17 N 25 fu) 25 h (iI i) = _
        simp only [fX1_countWorks_b17_body, fX1_countWorks_b107, lit, Option.bind_some]
        refine bst (sR_100_25 hS) ?_
        refine bst (o7) ?_
        refine ifn (a1) ?_
        refine bst (sR_100_25 hS) ?_
        refine bst (sR_500_14 hS) ?_
        refine bst (lq) ?_
        refine bst (o9) ?_
        refine bst (sR_101_25 hS) ?_
        refine bst (l26) ?_
        refine ifp (w0) ?_
        refine ifp (rfl) ?_
        refine bst (oIv c25 g3) ?_
        refine bst (qIv c25) ?_
        rw [iI_add, iI_add]
      | some r =>
        rw [htd] at o9
        have rd := v_ready (N := N) hS hD hR hC hL hdn (i := i) (by omega) (by omega) htd h26 h27 cb1 cb2
        by_cases v : (r : Int) = cr i ∧ dn r = 0 ∧ od (dr r) = cd i
        · rw [if_pos v] at rd
          have ek : wkf td dr dn cr cd i = 0 := by
            unfold wkf
            rw [if_neg w, htd]
            simp only [if_pos v]
          refine go 0 0 0 h Ke_rf rfl (by simpa using g2) (by simpa using g3) (by simpa using g5) (by simp [ek]) (by simp [ek]) (by simp [ek]) ?_
          show fX1_countWorks_b17_body N (fX1_countWorks_b17 N 25 fu) 25 h (iI i) = _
          simp only [fX1_countWorks_b17_body, fX1_countWorks_b107, lit, iI_add, Option.bind_some]
          refine bst (sR_100_25 hS) ?_
          refine bst (o7) ?_
          refine ifn (a1) ?_
          refine bst (sR_100_25 hS) ?_
          refine bst (sR_500_14 hS) ?_
          refine bst (lq) ?_
          refine bst (o9) ?_
          refine bst (sR_101_25 hS) ?_
          refine bst (l26) ?_
          refine ifp (w0) ?_
          refine ifn (fun q => by cases q) ?_
          refine bst (rc1) ?_
          refine bst (rd) ?_
          refine ifn (n10) ?_
          rfl
        · rw [if_neg v] at rd
          have ek : wkf td dr dn cr cd i = 5 := by
            unfold wkf
            rw [if_neg w, htd]
            simp only [if_neg v]
          refine go 0 0 1 (uI h 108 25 (iI (a5 + 1))) (Ke_rf.u 108 _ _ (by decide)) rfl (by simp [HR, g2]) (by simp [HR, g3]) (by simp [HR]) (by simp [ek]) (by simp [ek]) (by simp [ek]) ?_
          show fX1_countWorks_b17_body N (fX1_countWorks_b17 N 25 fu) 25 h (iI i) = _
          simp only [fX1_countWorks_b17_body, fX1_countWorks_b107, lit, Option.bind_some]
          refine bst (sR_100_25 hS) ?_
          refine bst (o7) ?_
          refine ifn (a1) ?_
          refine bst (sR_100_25 hS) ?_
          refine bst (sR_500_14 hS) ?_
          refine bst (lq) ?_
          refine bst (o9) ?_
          refine bst (sR_101_25 hS) ?_
          refine bst (l26) ?_
          refine ifp (w0) ?_
          refine ifn (fun q => by cases q) ?_
          refine bst (rc1) ?_
          refine bst (rd) ?_
          refine ifp (rfl) ?_
          refine bst (oIv c25 g5) ?_
          refine bst (qIv c25) ?_
          rw [iI_add, iI_add]
/-! ===== change: the reference ===== -/
theorem L_brD {N : Nat} {h : Hs} (hS : Sk h) (hz : 70 ≤ sz h) {nr nt nd : Nat} {rA tA dA rT : Nat → Nat} {wy gr hd ds : Nat → Int} {gn : Nat → Bool} {tl tw tg ls ms pa : Nat → Int} (hT : RTh h nt tA tl tw tg ls ms pa) (hD : RDr h nd dA ds) (hR : RRo h nr nt rA tA rT wy gr hd gn) {gl n : Int} (g1 : -1 ≤ gl) (g2 : gl ≤ 100) (n1 : -9999 ≤ n) (n2 : n ≤ 9999) {i r : Nat} (hr : r < nr) (hri : rT r = i) (g3 : Hs → Int32 → Int32 → Int32 → Int32 → Option (Int32 × Hs)) : ∀ (e d fu : Nat), d + e = nd → e < fu → fX12_brings_b55 N g3 29 fu h (iI i) (iI gl) (iI n) (iI r) (iI d) = if fsm (fun d => decide (pa (rT r) + wy r * (ds d * n).tdiv (100 * gr r) = gl)) d e < 0 then g3 h (iI i) (iI gl) (iI n) (iI ((r : Int) + 1)) else some (iI 1, ftH h 49 50 i r (fsm (fun d => decide (pa (rT r) + wy r * (ds d * n).tdiv (100 * gr r) = gl)) d e)) := by
  have c3 := hD.1.2.2
  have cr := hR.1.2.2
  have ct := hT.1.2.2
  have o9 : oI 12 9 h (some 29) = some (iI nd) := oIv (by rw [ss_29 hS]) hD.1.2.1
  obtain ⟨-, -, ⟨m0, m1, m2, m3, m4⟩, q1, q2, q3, q4, q5⟩ := hR.2.1 r hr
  obtain ⟨-, -, ⟨-, -, -, a3, -⟩, bb⟩ := hT.2.1 (rT r) q1
  rw [hri] at q1
  have a3' : aI h 33 i = iI (pa (rT r)) := by rw [← hri]; exact a3
  intro e
  induction e with
  | zero =>
    intro d fu hd' hf
    obtain ⟨fu, rfl⟩ : ∃ m, fu = m + 1 := ⟨fu - 1, by omega⟩
    rw [if_pos (by simp [fsm])]
    show fX12_brings_b55_body N g3 (fX12_brings_b55 N g3 29 fu) 29 h (iI i) (iI gl) (iI n) (iI r) (iI d) = _
    have a1 : iI (nd : Int) ≤ iI (d : Int) := (iI_le (by omega) (by omega) (by omega) (by omega)).mpr (by omega)
    simp only [fX12_brings_b55_body, fX12_brings_b130, lit, iI_add, Option.bind_some]
    refine bst (o9) ?_
    refine ifp (a1) ?_
    rfl
  | succ e ih =>
    intro d fu hd' hf
    obtain ⟨fu, rfl⟩ : ∃ m, fu = m + 1 := ⟨fu - 1, by omega⟩
    show fX12_brings_b55_body N g3 (fX12_brings_b55 N g3 29 fu) 29 h (iI i) (iI gl) (iI n) (iI r) (iI d) = _
    have a1 : ¬ iI (nd : Int) ≤ iI (d : Int) := fun q => by have := (iI_le (by omega) (by omega) (by omega) (by omega)).mp q; omega
    obtain ⟨-, -, e2, e5, e6⟩ := hD.2.1 d (by omega)
    obtain ⟨p1, p2, p3, p4⟩ := pl_bd (g := gr r) e5 e6 n1 n2 q2
    have q := ih (d + 1) fu (by omega) (by omega)
    simp only [Int.natCast_add, Int.natCast_one] at q
    have l33 := lAv (ss_33 hS) (show i < 40 by omega) (by omega) a3'
    have l40 := lAv (ss_40 hS) (show r < 40 by omega) (by omega) m2
    have l37 := lAv (ss_37 hS) (show d < 20 by omega) (by omega) e2
    have l39 := lAv (ss_39 hS) (show r < 40 by omega) (by omega) m1
    have dk := dv_ok (a := ds d * n) (b := 100 * gr r) (by omega) (by omega) (by omega) (by omega)
    have ed : dv (iI (ds d) * iI n) (iI 100 * iI (gr r)) = some (iI ((ds d * n).tdiv (100 * gr r))) := by rw [iI_mul, iI_mul]; exact dk
    have es : iI (pa (rT r)) + iI (wy r) * iI ((ds d * n).tdiv (100 * gr r)) = iI (pa (rT r) + wy r * (ds d * n).tdiv (100 * gr r)) := by rw [iI_mul, iI_add]
    have le : iI (pa (rT r) + wy r * (ds d * n).tdiv (100 * gr r)) = iI gl ↔ pa (rT r) + wy r * (ds d * n).tdiv (100 * gr r) = gl := iI_eq (by omega) (by omega) (by omega) (by omega)
    simp only [fX12_brings_b55_body, lit, Option.bind_some]
    by_cases w : pa (rT r) + wy r * (ds d * n).tdiv (100 * gr r) = gl
    · rw [fsm_y _ (decide_eq_true w), if_neg (by omega)]
      have ke : Ke [] [49] [] [] h (uA h 49 i (iI r)) := Ke_rf.b 49 _ _ (by decide)
      have hS1 := hS.e hz ke (by decide)
      refine bst (o9) ?_
      refine ifn (a1) ?_
      refine bst (sR_1205_29 hS) ?_
      refine bst (l33) ?_
      refine bst (sR_1214_29 hS) ?_
      refine bst (l40) ?_
      refine bst (sR_1210_29 hS) ?_
      refine bst (l37) ?_
      refine bst (sR_1213_29 hS) ?_
      refine bst (l39) ?_
      refine bst (ed) ?_
      rw [es]
      refine ifp (le.mpr w) ?_
      refine bst (sR_1231_29 hS) ?_
      refine bst (sAv (ss_49 hS) (by omega) (by omega)) ?_
      refine bst (sR_1232_29 hS1) ?_
      refine bst (sAv (ss_50 hS1) (by omega) (by omega)) ?_
      rfl
    · rw [fsm_n _ (decide_eq_false w), ← q]
      refine bst (o9) ?_
      refine ifn (a1) ?_
      refine bst (sR_1205_29 hS) ?_
      refine bst (l33) ?_
      refine bst (sR_1214_29 hS) ?_
      refine bst (l40) ?_
      refine bst (sR_1210_29 hS) ?_
      refine bst (l37) ?_
      refine bst (sR_1213_29 hS) ?_
      refine bst (l39) ?_
      refine bst (ed) ?_
      rw [es]
      refine ifn (fun z => w (le.mp z)) ?_
      rw [iI_add]
theorem L_brR {N : Nat} (hN : 100000000 ≤ N) {h : Hs} (hS : Sk h) (hz : 70 ≤ sz h) {nr nt nd : Nat} {rA tA dA rT : Nat → Nat} {wy gr hd ds : Nat → Int} {gn : Nat → Bool} {tl tw tg ls ms pa : Nat → Int} (hT : RTh h nt tA tl tw tg ls ms pa) (hD : RDr h nd dA ds) (hR : RRo h nr nt rA tA rT wy gr hd gn) {gl n : Int} (g1 : -1 ≤ gl) (g2 : gl ≤ 100) (n1 : -9999 ≤ n) (n2 : n ≤ 9999) {i : Nat} (hi : i < nt) : ∀ (e j fu : Nat), j + e = nr → e < fu → fX12_brings_b3 N 29 fu h (iI i) (iI gl) (iI n) (iI j) = some (if fsm (srv pa wy gr ds hd tg rT gn nd gl n i) j e < 0 then (iI 0, h) else (iI 1, ftH h 49 50 i (fsm (srv pa wy gr ds hd tg rT gn nd gl n i) j e) (fdr pa wy gr ds rT nd gl n (fsm (srv pa wy gr ds hd tg rT gn nd gl n i) j e).toNat))) := by
  have c3 := hR.1.2.2
  have ct := hT.1.2.2
  have cd := hD.1.2.2
  have o11 : oI 12 11 h (some 29) = some (iI nr) := oIv (by rw [ss_29 hS]) hR.1.2.1
  have rc12 : rc 12 h (some 29) = some 29 := rcv (by rw [ss_29 hS])
  intro e
  induction e with
  | zero =>
    intro j fu hj hf
    obtain ⟨fu, rfl⟩ : ∃ m, fu = m + 1 := ⟨fu - 1, by omega⟩
    rw [if_pos (show fsm (srv pa wy gr ds hd tg rT gn nd gl n i) j 0 < 0 by simp [fsm])]
    show fX12_brings_b3_body N (fX12_brings_b3 N 29 fu) 29 h (iI i) (iI gl) (iI n) (iI j) = _
    have a1 : iI (nr : Int) ≤ iI (j : Int) := (iI_le (by omega) (by omega) (by omega) (by omega)).mpr (by omega)
    simp only [fX12_brings_b3_body, lit]
    refine bst (o11) ?_
    refine ifp (a1) ?_
    rfl
  | succ e ih =>
    intro j fu hj hf
    obtain ⟨fu, rfl⟩ : ∃ m, fu = m + 1 := ⟨fu - 1, by omega⟩
    have a1 : ¬ iI (nr : Int) ≤ iI (j : Int) := fun q => by have := (iI_le (by omega) (by omega) (by omega) (by omega)).mp q; omega
    obtain ⟨-, -, ⟨m0, m1, m2, m3, m4⟩, q1, q2, q3, q4, q5⟩ := hR.2.1 j (by omega)
    obtain ⟨-, -, -, bb⟩ := hT.2.1 (rT j) q1
    have q := ih (j + 1) fu (by omega) (by omega)
    simp only [Int.natCast_add, Int.natCast_one] at q
    have l38 := lAv (ss_38 hS) (show j < 40 by omega) (by omega) m0
    have l44 := lAz (ss_44 hS) (show j < 40 by omega) (by omega) m4
    have l41 := lAv (ss_41 hS) (show j < 40 by omega) (by omega) m3
    have lb := ldv_b (g := tg (rT j)) (r := gr j) (by omega) (by omega)
    have lm := v_loadM (N := N) hS hR hT (r := j) (by omega)
    have eT : iI ((rT j : Nat) : Int) = iI (i : Int) ↔ ((rT j : Nat) : Int) = (i : Int) := iI_eq (by omega) (by omega) (by omega) (by omega)
    have skip : fsm (srv pa wy gr ds hd tg rT gn nd gl n i) j (e + 1) = fsm (srv pa wy gr ds hd tg rT gn nd gl n i) (j + 1) e → fX12_brings_b3 N 29 (fu + 1) h (iI i) (iI gl) (iI n) (iI j) = fX12_brings_b3 N 29 fu h (iI i) (iI gl) (iI n) (iI ((j : Int) + 1)) → fX12_brings_b3 N 29 (fu + 1) h (iI i) (iI gl) (iI n) (iI j) = some (if fsm (srv pa wy gr ds hd tg rT gn nd gl n i) j (e + 1) < 0 then (iI 0, h) else (iI 1, ftH h 49 50 i (fsm (srv pa wy gr ds hd tg rT gn nd gl n i) j (e + 1)) (fdr pa wy gr ds rT nd gl n (fsm (srv pa wy gr ds hd tg rT gn nd gl n i) j (e + 1)).toNat))) := by
      intro e1 e2
      rw [e1, e2]
      exact q
    by_cases w1 : rT j = i
    · have w1' := eT.mpr (show ((rT j : Nat) : Int) = (i : Int) by omega)
      cases w2 : gn j with
      | true =>
        refine skip (fsm_n _ (decide_eq_false (fun s => by rw [w2] at s; cases s.2.1))) ?_
        rw [w2] at l44
        have l44' : lA 21 h (some 44) (iI (j : Int)) = some (iI 1) := l44
        show fX12_brings_b3_body N (fX12_brings_b3 N 29 fu) 29 h (iI i) (iI gl) (iI n) (iI j) = _
        simp only [fX12_brings_b3_body, fX12_brings_b130, lit, iI_add, Option.bind_some]
        refine bst (o11) ?_
        refine ifn (a1) ?_
        refine bst (sR_1212_29 hS) ?_
        refine bst (l38) ?_
        refine ifp (w1') ?_
        refine bst (sR_1218_29 hS) ?_
        refine bst (l44') ?_
        refine ifn (n10) ?_
        rfl
      | false =>
        rw [w2] at l44
        have l44' : lA 21 h (some 44) (iI (j : Int)) = some (iI 0) := l44
        have ls : iI (ldv (tg (rT j)) (gr j)) ≤ iI (hd j) ↔ ldv (tg (rT j)) (gr j) ≤ hd j := iI_le (by omega) (by omega) (by omega) (by omega)
        by_cases w3 : hd j - ldv (tg (rT j)) (gr j) < 0
        · refine skip (fsm_n _ (decide_eq_false (fun s => by omega))) ?_
          show fX12_brings_b3_body N (fX12_brings_b3 N 29 fu) 29 h (iI i) (iI gl) (iI n) (iI j) = _
          simp only [fX12_brings_b3_body, fX12_brings_b130, lit, iI_add, Option.bind_some]
          refine bst (o11) ?_
          refine ifn (a1) ?_
          refine bst (sR_1212_29 hS) ?_
          refine bst (l38) ?_
          refine ifp (w1') ?_
          refine bst (sR_1218_29 hS) ?_
          refine bst (l44') ?_
          refine ifp (rfl) ?_
          refine bst (sR_1215_29 hS) ?_
          refine bst (l41) ?_
          refine bst (rc12) ?_
          refine bst (lm) ?_
          refine ifn (fun s => by have := ls.mp s; omega) ?_
          rfl
        · have ib := L_brD (N := N) hS hz hT hD hR g1 g2 n1 n2 (show j < nr by omega) w1 (fX12_brings_b3 N 29 fu) nd 0 N (by omega) (by omega)
          have st : fX12_brings_b3 N 29 (fu + 1) h (iI i) (iI gl) (iI n) (iI j) = fX12_brings_b55 N (fX12_brings_b3 N 29 fu) 29 N h (iI i) (iI gl) (iI n) (iI j) (iI 0) := by
            show fX12_brings_b3_body N (fX12_brings_b3 N 29 fu) 29 h (iI i) (iI gl) (iI n) (iI j) = _
            simp only [fX12_brings_b3_body, lit]
            refine bst (o11) ?_
            refine ifn (a1) ?_
            refine bst (sR_1212_29 hS) ?_
            refine bst (l38) ?_
            refine ifp (w1') ?_
            refine bst (sR_1218_29 hS) ?_
            refine bst (l44') ?_
            refine ifp (rfl) ?_
            refine bst (sR_1215_29 hS) ?_
            refine bst (l41) ?_
            refine bst (rc12) ?_
            refine bst (lm) ?_
            refine ifp (ls.mpr (by omega)) ?_
            rfl
          have ib' : fX12_brings_b55 N (fX12_brings_b3 N 29 fu) 29 N h (iI i) (iI gl) (iI n) (iI j) (iI 0) = if fdr pa wy gr ds rT nd gl n j < 0 then fX12_brings_b3 N 29 fu h (iI i) (iI gl) (iI n) (iI ((j : Int) + 1)) else some (iI 1, ftH h 49 50 i j (fdr pa wy gr ds rT nd gl n j)) := ib
          by_cases w4 : fdr pa wy gr ds rT nd gl n j < 0
          · refine skip (fsm_n _ (decide_eq_false (fun s => by omega))) ?_
            rw [if_pos w4] at ib'
            exact st.trans ib'
          · have hy : srv pa wy gr ds hd tg rT gn nd gl n i j = true := decide_eq_true ⟨w1, w2, by omega, by omega⟩
            rw [fsm_y _ hy, if_neg (by omega), Int.toNat_natCast]
            rw [if_neg w4] at ib'
            exact st.trans ib'
    · refine skip (fsm_n _ (decide_eq_false (fun s => w1 s.1))) ?_
      have w1' : ¬ iI ((rT j : Nat) : Int) = iI (i : Int) := fun z => w1 (by have := eT.mp z; omega)
      show fX12_brings_b3_body N (fX12_brings_b3 N 29 fu) 29 h (iI i) (iI gl) (iI n) (iI j) = _
      simp only [fX12_brings_b3_body, fX12_brings_b130, lit, iI_add, Option.bind_some]
      refine bst (o11) ?_
      refine ifn (a1) ?_
      refine bst (sR_1212_29 hS) ?_
      refine bst (l38) ?_
      refine ifn (w1') ?_
      rfl
theorem L_chI {N : Nat} {h0 : Hs} (hS0 : Sk h0) (hz : 70 ≤ sz h0) {nt : Nat} (ct : nt ≤ 40) (g1 : gI h0 1201 29 = iI nt) {s n c : Int32} : ∀ (e i fu : Nat) (h : Hs), Ke [1230] [49, 50, 51] [] [] h0 h → sz h = sz h0 → gI h 1230 29 = gI h0 1230 29 → i + e = nt → e < fu → (∀ k, k < i → aI h 49 k = iI (-1) ∧ aI h 50 k = iI (-1)) → ∃ h', fX12_change_b46 N 29 fu h s n c (iI i) = fX12_change_b80 N 29 N h' s n c (iI 0) ∧ Ke [1230] [49, 50, 51] [] [] h0 h' ∧ sz h' = sz h0 ∧ gI h' 1230 29 = gI h0 1230 29 ∧ (∀ k, k < nt → aI h' 49 k = iI (-1) ∧ aI h' 50 k = iI (-1)) := by
  intro e
  induction e with
  | zero =>
    intro i fu h ke sz0 g30 hi hf ga
    obtain ⟨fu, rfl⟩ : ∃ m, fu = m + 1 := ⟨fu - 1, by omega⟩
    have hS := hS0.e hz ke (by decide)
    have o1 : oI 12 1 h (some 29) = some (iI nt) := oIv (by rw [ss_29 hS]) (by rw [ke.1 1201 29 (by decide) (by omega)]; exact g1)
    have a1 : iI (nt : Int) ≤ iI (i : Int) := (iI_le (by omega) (by omega) (by omega) (by omega)).mpr (by omega)
    refine ⟨h, ?_, ke, sz0, g30, fun k hk => ga k (by omega)⟩
    show fX12_change_b46_body N (fX12_change_b46 N 29 fu) 29 h s n c (iI i) = _
    simp only [fX12_change_b46_body, lit]
    refine bst (o1) ?_
    refine ifp (a1) ?_
    rfl
  | succ e ih =>
    intro i fu h ke sz0 g30 hi hf ga
    obtain ⟨fu, rfl⟩ : ∃ m, fu = m + 1 := ⟨fu - 1, by omega⟩
    have hS := hS0.e hz ke (by decide)
    have o1 : oI 12 1 h (some 29) = some (iI nt) := oIv (by rw [ss_29 hS]) (by rw [ke.1 1201 29 (by decide) (by omega)]; exact g1)
    have a1 : ¬ iI (nt : Int) ≤ iI (i : Int) := fun q => by have := (iI_le (by omega) (by omega) (by omega) (by omega)).mp q; omega
    have ke1 : Ke [1230] [49, 50, 51] [] [] h (uA h 49 i (iI (-1))) := Ke_rf.b 49 _ _ (by decide)
    have hS1 := hS.e (by omega) ke1 (by decide)
    obtain ⟨h2, eh2⟩ : ∃ h2, h2 = uA (uA h 49 i (iI (-1))) 50 i (iI (-1)) := ⟨_, rfl⟩
    have ke2 : Ke [1230] [49, 50, 51] [] [] h h2 := by rw [eh2]; exact ke1.b 50 _ _ (by decide)
    obtain ⟨h', r1, r2⟩ := ih (i + 1) fu h2 (ke.tr ke2) (by rw [eh2]; exact sz0) (by rw [← g30, eh2]; rfl) (by omega) (by omega) (fun k hk => by
      by_cases w : k = i
      · subst w
        rw [eh2]
        simp [HR]
      · have := ga k (by omega)
        rw [eh2]
        simp [HR, w, this])
    simp only [Int.natCast_add, Int.natCast_one] at r1
    refine ⟨h', ?_, r2⟩
    rw [← r1]
    show fX12_change_b46_body N (fX12_change_b46 N 29 fu) 29 h s n c (iI i) = _
    simp only [fX12_change_b46_body, lit, iI_neg, iI_add, Option.bind_some]
    refine bst (o1) ?_
    refine ifn (a1) ?_
    refine bst (sR_1231_29 hS) ?_
    refine bst (sAv (ss_49 hS) (by omega) (by omega)) ?_
    refine bst (sR_1232_29 hS1) ?_
    refine bst (sAv (ss_50 hS1) (by omega) (by omega)) ?_
    rw [← eh2]
theorem L_chM {N : Nat} {h0 : Hs} (hS0 : Sk h0) (hz : 70 ≤ sz h0) {nt : Nat} {tA sA : Nat → Nat} {tl tw tg ls ms pa : Nat → Int} {sc : Nat → Nat → Int} (hT0 : RTh h0 nt tA tl tw tg ls ms pa) (hC0 : RSc h0 nt tA sA ls ms sc) {s : Nat} (hs : s < 10) {n : Int} {mv : Nat → Bool} {ft fd : Nat → Int} (hmv : ∀ i, mv i = decide (sc i s ≠ -1 ∧ sc i s ≠ pa i)) (hFT : ∀ i h, i < nt → Ke [1230] [49, 50, 51] [] [] h0 h → fX12_brings N h 29 (iI i) (iI (sc i s)) (iI n) = some (if ft i < 0 then (iI 0, h) else (iI 1, ftH h 49 50 i (ft i) (fd i)))) : ∀ (e i : Nat) (c : Int) (fu : Nat) (h : Hs), Ke [1230] [49, 50, 51] [] [] h0 h → sz h = sz h0 → i + e = nt → e < fu → gI h 1230 29 = iI (b2 (hasB (bdf mv ft) 0 i)) → (∀ k, k < nt → aI h 49 k = iI (if k < i then crf mv ft ft k else -1) ∧ aI h 50 k = iI (if k < i then crf mv ft fd k else -1)) → (hasB (bdf mv ft) 0 i = false → c = cntB mv 0 i) → ∃ (c' : Int) (h' : Hs), fX12_change_b80 N 29 fu h (iI s) (iI n) (iI c) (iI i) = fX12_change_b177 N 29 h' (iI c') ∧ (hasB (bdf mv ft) 0 nt = false → c' = cntB mv 0 nt) ∧ Ke [1230] [49, 50, 51] [] [] h0 h' ∧ sz h' = sz h0 ∧ gI h' 1230 29 = iI (b2 (hasB (bdf mv ft) 0 nt)) ∧ (∀ k, k < nt → aI h' 49 k = iI (crf mv ft ft k) ∧ aI h' 50 k = iI (crf mv ft fd k)) := by
  have ct := hT0.1.2.2
  intro e
  induction e with
  | zero =>
    intro i c fu h ke sz0 hi hf g5 ga gc
    obtain ⟨fu, rfl⟩ : ∃ m, fu = m + 1 := ⟨fu - 1, by omega⟩
    have ei : i = nt := by omega
    subst ei
    have hS := hS0.e hz ke (by decide)
    have o1 : oI 12 1 h (some 29) = some (iI i) := oIv (by rw [ss_29 hS]) (by rw [ke.1 1201 29 (by decide) (by omega)]; exact hT0.1.2.1)
    refine ⟨c, h, ?_, gc, ke, sz0, g5, fun k hk => by have := ga k hk; rw [if_pos hk, if_pos hk] at this; exact this⟩
    show fX12_change_b80_body N (fX12_change_b80 N 29 fu) 29 h (iI s) (iI n) (iI c) (iI i) = _
    simp only [fX12_change_b80_body]
    refine bst (o1) ?_
    refine ifp (Int32.le_refl _) ?_
    rfl
  | succ e ih =>
    intro i c fu h ke sz0 hi hf g5 ga gc
    obtain ⟨fu, rfl⟩ : ∃ m, fu = m + 1 := ⟨fu - 1, by omega⟩
    have hS := hS0.e hz ke (by decide)
    have hT := hT0.e hz ke (by decide) (by decide) (by decide)
    have o1 : oI 12 1 h (some 29) = some (iI nt) := oIv (by rw [ss_29 hS]) hT.1.2.1
    have a1 : ¬ iI (nt : Int) ≤ iI (i : Int) := fun q => by have := (iI_le (by omega) (by omega) (by omega) (by omega)).mp q; omega
    have o30 : oI 12 30 h (some 29) = some (iI (b2 (hasB (bdf mv ft) 0 i))) := oIv (by rw [ss_29 hS]) g5
    cases hb : hasB (bdf mv ft) 0 i with
    | true =>
      have hbn := hasB_mo hb (show i ≤ nt by omega)
      rw [hb] at o30
      have o30' : oI 12 30 h (some 29) = some (iI 1) := o30
      refine ⟨c, h, ?_, (fun q => by rw [hbn] at q; cases q), ke, sz0, by rw [g5, hb, hbn], fun k hk => ?_⟩
      · show fX12_change_b80_body N (fX12_change_b80 N 29 fu) 29 h (iI s) (iI n) (iI c) (iI i) = _
        simp only [fX12_change_b80_body, lit]
        refine bst (o1) ?_
        refine ifn (a1) ?_
        refine bst (o30') ?_
        refine ifn (n10) ?_
        rfl
      · obtain ⟨z1, z2⟩ := ga k hk
        rw [z1, z2]
        by_cases w1 : k < i
        · rw [if_pos w1, if_pos w1]
          exact ⟨rfl, rfl⟩
        · rw [if_neg w1, if_neg w1]
          have hk2 := hasB_mo hb (show i ≤ k by omega)
          simp [crf, hk2]
    | false =>
      rw [hb] at o30
      have o30' : oI 12 30 h (some 29) = some (iI 0) := o30
      have ec := gc hb
      obtain ⟨-, -, ⟨-, -, -, a3, -⟩, bb⟩ := hT.2.1 i (by omega)
      have hC := hC0.e hz hT0.lt ke (by decide) (by decide) (fun k hk => by
        have := (hC0.1 k hk).1.2.1
        simp only [List.mem_cons, List.not_mem_nil, or_false]
        omega)
      obtain ⟨-, x5⟩ := hC.1 i (by omega)
      obtain ⟨-, x6, x7⟩ := x5 s hs
      have ls' : lA 20 h (some 48) (iI 40 * iI s + iI i) = some (iI (sc i s)) := by
        have : iI 40 * iI (s : Int) + iI (i : Int) = iI ((40 * s + i : Nat) : Int) := by rw [iI_mul, iI_add]; congr 1
        rw [this]
        exact lAv (ss_48 hS) (by omega) (by omega) x6
      have l1 : iI (sc i s) < iI 0 ↔ sc i s < 0 := iI_lt (by omega) (by omega) (by omega) (by omega)
      have l2 : iI (sc i s) = iI (pa i) ↔ sc i s = pa i := iI_eq (by omega) (by omega) (by omega) (by omega)
      have l33 := lAv (ss_33 hS) (show i < 40 by omega) (by omega) a3
      have hz' : ∀ p : Nat → Bool, hasB p 0 (i + 1) = (hasB p 0 i || p i) := fun p => by rw [hasB_z, Nat.zero_add]
      have cz' : cntB mv 0 (i + 1) = cntB mv 0 i + (if mv i then 1 else 0) := by rw [cntB_z, Nat.zero_add]
      cases hm : mv i with
      | false =>
        have hbi : bdf mv ft i = false := by simp [bdf, hm]
        have hb1 : hasB (bdf mv ft) 0 (i + 1) = false := by rw [hz', hb, hbi]; rfl
        have cr0 : ∀ fv, crf mv ft fv i = -1 := fun fv => by simp [crf, hb, hm]
        obtain ⟨c', h', r1, r2⟩ := ih (i + 1) c fu h ke sz0 (by omega) (by omega) (by rw [hb1, ← hb]; exact g5) (fun k hk => by
          obtain ⟨z1, z2⟩ := ga k hk
          rw [z1, z2]
          by_cases w1 : k < i
          · rw [if_pos w1, if_pos w1, if_pos (show k < i + 1 by omega), if_pos (show k < i + 1 by omega)]
            exact ⟨rfl, rfl⟩
          · rw [if_neg w1, if_neg w1]
            by_cases w2 : k = i
            · subst w2
              rw [if_pos (Nat.lt_succ_self k), if_pos (Nat.lt_succ_self k), cr0, cr0]
              exact ⟨rfl, rfl⟩
            · rw [if_neg (by omega), if_neg (by omega)]
              exact ⟨rfl, rfl⟩) (fun _ => by rw [cz', hm, ec]; simp)
        simp only [Int.natCast_add, Int.natCast_one] at r1
        refine ⟨c', h', ?_, r2⟩
        rw [← r1]
        show fX12_change_b80_body N (fX12_change_b80 N 29 fu) 29 h (iI s) (iI n) (iI c) (iI i) = _
        simp only [fX12_change_b80_body, fX12_change_b171, lit, Option.bind_some]
        by_cases w1 : sc i s = -1
        · skip
          refine bst (o1) ?_
          refine ifn (a1) ?_
          refine bst (o30') ?_
          refine ifp (rfl) ?_
          refine bst (sR_1228_29 hS) ?_
          refine bst (ls') ?_
          refine ifp (l1.mpr (by omega)) ?_
          rw [iI_add]
        · have w2 : sc i s = pa i := by
            rw [hmv] at hm
            exact Decidable.not_not.mp fun q => (of_decide_eq_false hm) ⟨w1, q⟩
          refine bst (o1) ?_
          refine ifn (a1) ?_
          refine bst (o30') ?_
          refine ifp (rfl) ?_
          refine bst (sR_1228_29 hS) ?_
          refine bst (ls') ?_
          refine ifn (fun q => by have := l1.mp q; omega) ?_
          refine bst (sR_1205_29 hS) ?_
          refine bst (l33) ?_
          refine ifp (l2.mpr w2) ?_
          rw [iI_add]
      | true =>
        have hm2 := hm
        rw [hmv] at hm2
        obtain ⟨w1, w2⟩ := of_decide_eq_true hm2
        have fT := hFT i h (by omega) ke
        have rc12 : rc 12 h (some 29) = some 29 := rcv (by rw [ss_29 hS])
        have go : ∀ (c2 f1 f2 f3 : Int) (h2 : Hs), Ke [1230] [49, 50, 51] [] [] h h2 → sz h2 = sz h → gI h2 1230 29 = iI (b2 (hasB (bdf mv ft) 0 (i + 1))) → f1 = crf mv ft ft i → f2 = crf mv ft fd i → (∀ k, aI h2 49 k = if k = i then iI f1 else aI h 49 k) → (∀ k, aI h2 50 k = if k = i then iI f2 else aI h 50 k) → (hasB (bdf mv ft) 0 (i + 1) = false → c2 = c + 1) → fX12_change_b80 N 29 (fu + 1) h (iI s) (iI n) (iI c) (iI i) = fX12_change_b80 N 29 fu h2 (iI s) (iI n) (iI c2) (iI ((i : Int) + 1)) → ∃ (c' : Int) (h' : Hs), fX12_change_b80 N 29 (fu + 1) h (iI s) (iI n) (iI c) (iI i) = fX12_change_b177 N 29 h' (iI c') ∧ (hasB (bdf mv ft) 0 nt = false → c' = cntB mv 0 nt) ∧ Ke [1230] [49, 50, 51] [] [] h0 h' ∧ sz h' = sz h0 ∧ gI h' 1230 29 = iI (b2 (hasB (bdf mv ft) 0 nt)) ∧ (∀ k, k < nt → aI h' 49 k = iI (crf mv ft ft k) ∧ aI h' 50 k = iI (crf mv ft fd k)) := by
          intro c2 f1 f2 f3 h2 k2 s2 y0 hv1 hv2 y1 y2 yc st
          obtain ⟨c', h', r1, r2⟩ := ih (i + 1) c2 fu h2 (ke.tr k2) (s2.trans sz0) (by omega) (by omega) y0 (fun k hk => by
            obtain ⟨z1, z2⟩ := ga k hk
            rw [y1, y2]
            by_cases w3 : k = i
            · subst w3
              rw [if_pos rfl, if_pos rfl, if_pos (Nat.lt_succ_self k), if_pos (Nat.lt_succ_self k), ← hv1, ← hv2]
              exact ⟨rfl, rfl⟩
            · rw [if_neg w3, if_neg w3, z1, z2]
              by_cases w4 : k < i
              · rw [if_pos w4, if_pos w4, if_pos (show k < i + 1 by omega), if_pos (show k < i + 1 by omega)]
                exact ⟨rfl, rfl⟩
              · rw [if_neg w4, if_neg w4, if_neg (by omega), if_neg (by omega)]
                exact ⟨rfl, rfl⟩) (fun q => by rw [yc q, cz', hm, ec]; simp)
          simp only [Int.natCast_add, Int.natCast_one] at r1
          exact ⟨c', h', st.trans r1, r2⟩
        by_cases w3 : ft i < 0
        · have hbi : bdf mv ft i = true := by simp [bdf, hm, w3]
          have hb1 : hasB (bdf mv ft) 0 (i + 1) = true := by rw [hz', hb, hbi]; rfl
          rw [if_pos w3] at fT
          obtain ⟨h3, eh3⟩ : ∃ h3, h3 = uI h 1230 29 (iI 1) := ⟨_, rfl⟩
          have ke3 : Ke [1230] [49, 50, 51] [] [] h h3 := by rw [eh3]; exact Ke_rf.u 1230 _ _ (by decide)
          have hS3 := hS.e (by omega) ke3 (by decide)
          have z30 : qZ 12 30 h (some 29) (iI 1) = some h3 := by rw [eh3]; exact qZv (by rw [ss_29 hS]) (by omega)
          have ke4 : Ke [1230] [49, 50, 51] [] [] h (uA h3 49 i (iI (-2))) := ke3.b 49 _ _ (by decide)
          have hS4 := hS.e (by omega) ke4 (by decide)
          refine go c (-2) (-2) 0 (uA (uA h3 49 i (iI (-2))) 50 i (iI (-2))) (ke4.b 50 _ _ (by decide)) (by rw [eh3]; rfl) (by rw [hb1, eh3]; simp [HR, b2]) (by simp [crf, hb, hm, w3]) (by simp [crf, hb, hm, w3]) (fun k => by rw [eh3]; simp [HR]) (fun k => by rw [eh3]; simp [HR]) (fun q => by rw [hb1] at q; cases q) ?_
          show fX12_change_b80_body N (fX12_change_b80 N 29 fu) 29 h (iI s) (iI n) (iI c) (iI i) = _
          simp only [fX12_change_b80_body, fX12_change_b171, lit, iI_neg, Option.bind_some]
          refine bst (o1) ?_
          refine ifn (a1) ?_
          refine bst (o30') ?_
          refine ifp (rfl) ?_
          refine bst (sR_1228_29 hS) ?_
          refine bst (ls') ?_
          refine ifn (fun q => by have := l1.mp q; omega) ?_
          refine bst (sR_1205_29 hS) ?_
          refine bst (l33) ?_
          refine ifn (fun q => w2 (l2.mp q)) ?_
          refine bst (rc12) ?_
          refine bst (fT) ?_
          refine ifp (rfl) ?_
          refine bst (z30) ?_
          refine bst (sR_1231_29 hS3) ?_
          refine bst (sAv (ss_49 hS3) (by omega) (by omega)) ?_
          refine bst (sR_1232_29 hS4) ?_
          refine bst (sAv (ss_50 hS4) (by omega) (by omega)) ?_
          rw [iI_add]
        · have hbi : bdf mv ft i = false := by simp [bdf, hm, w3]
          have hb1 : hasB (bdf mv ft) 0 (i + 1) = false := by rw [hz', hb, hbi]; rfl
          rw [if_neg w3] at fT
          refine go (c + 1) (ft i) (fd i) 0 (ftH h 49 50 i (ft i) (fd i)) ((Ke_rf.b 49 _ _ (by decide)).b 50 _ _ (by decide)) rfl (by rw [hb1, ← hb]; exact g5) (by simp [crf, hb, hm, w3]) (by simp [crf, hb, hm, w3]) (fun k => by simp [ftH, HR]) (fun k => by simp [ftH, HR]) (fun _ => rfl) ?_
          show fX12_change_b80_body N (fX12_change_b80 N 29 fu) 29 h (iI s) (iI n) (iI c) (iI i) = _
          simp only [fX12_change_b80_body, fX12_change_b171, lit, Option.bind_some]
          refine bst (o1) ?_
          refine ifn (a1) ?_
          refine bst (o30') ?_
          refine ifp (rfl) ?_
          refine bst (sR_1228_29 hS) ?_
          refine bst (ls') ?_
          refine ifn (fun q => by have := l1.mp q; omega) ?_
          refine bst (sR_1205_29 hS) ?_
          refine bst (l33) ?_
          refine ifn (fun q => w2 (l2.mp q)) ?_
          refine bst (rc12) ?_
          refine bst (fT) ?_
          refine ifn (n10) ?_
          rw [iI_add, iI_add]
theorem v_workOf {N : Nat} (hN : 100000000 ≤ N) {h : Hs} (hS : Sk h) {nr nt nd : Nat} {rA tA dA rT : Nat → Nat} {wy gr hd ds : Nat → Int} {gn : Nat → Bool} {tl tw tg ls ms pa : Nat → Int} {dr td : Nat → Option Nat} {sr dn : Nat → Int} (hT : RTh h nt tA tl tw tg ls ms pa) (hD : RDr h nd dA ds) (hR : RRo h nr nt rA tA rT wy gr hd gn) (hM : RTm h nr rT dr sr dn) (hL : RTl nt nd nr rT dr td) (hdn : ∀ r, r < nr → dr r ≠ none → -1000000000 ≤ dn r ∧ dn r ≤ 1000000000) {cr cd : Nat → Int} {i : Nat} (hi : i < nt) (h49 : aI h 49 i = iI (cr i)) (h50 : aI h 50 i = iI (cd i)) (b1 : -2 ≤ cr i ∧ cr i ≤ 100) (b2' : -2 ≤ cd i ∧ cd i ≤ 100) : fX12_workOf N h 29 (iI i) = some (iI (wkf td dr dn cr cd i), h) := by
  have ct := hT.1.2.2
  have c3 := hR.1.2.2
  have cd3 := hD.1.2.2
  have rc12 : rc 12 h (some 29) = some 29 := rcv (by rw [ss_29 hS])
  have ti := v_tiedM hN hS hR hM hL cd3 ct hi
  have l49 := lAv (ss_49 hS) (show i < 40 by omega) (by omega) h49
  have l50 := lAv (ss_50 hS) (show i < 40 by omega) (by omega) h50
  have l0 : iI 0 ≤ iI (cr i) ↔ 0 ≤ cr i := iI_le (by omega) (by omega) (by omega) (by omega)
  simp only [fX12_workOf, fX12_workOf_b24, fX12_workOf_b69, fX12_workOf_b70, lit]
  cases htd : td i with
  | none =>
    rw [htd] at ti
    have w2 : ¬ iI 0 ≤ iI (od none) := by decide
    by_cases w : cr i < 0
    · have ek : wkf td dr dn cr cd i = 0 := by simp [wkf, w, htd]
      rw [ek]
      refine bst (rc12) ?_
      refine bst (ti) ?_
      refine bst (sR_1231_29 hS) ?_
      refine bst (l49) ?_
      refine ifn (fun q => by have := l0.mp q; omega) ?_
      refine ifn (w2) ?_
      rfl
    · have ek : wkf td dr dn cr cd i = 3 := by simp [wkf, w, htd]
      rw [ek]
      refine bst (rc12) ?_
      refine bst (ti) ?_
      refine bst (sR_1231_29 hS) ?_
      refine bst (l49) ?_
      refine ifp (l0.mpr (by omega)) ?_
      refine ifn (w2) ?_
      rfl
  | some r =>
    obtain ⟨hr, hrt, hne⟩ := hL.2 i r hi htd
    obtain ⟨d, hde⟩ := Option.ne_none_iff_exists'.mp hne
    have hdl := (hL.1 r d hr hde).1
    obtain ⟨m1, m2⟩ := hM r hr
    have m3 := (m2 hne).1
    have nb := hdn r hr hne
    rw [hde] at m1
    rw [htd] at ti
    have ti' : fX12_tiedTo N h 29 (iI i) = some (iI (r : Int), h) := ti
    have w2 : iI 0 ≤ iI (r : Int) := (iI_le (by omega) (by omega) (by omega) (by omega)).mpr (by omega)
    have m1' : aI h 42 r = iI (d : Int) := m1
    have l42 := lAv (ss_42 hS) (show r < 40 by omega) (by omega) m1'
    have l43 := lAv (ss_43 hS) (show r < 40 by omega) (by omega) m3
    have q1 : iI (r : Int) = iI (cr i) ↔ (r : Int) = cr i := iI_eq (by omega) (by omega) (by omega) (by omega)
    have q2 : iI (dn r) = iI 0 ↔ dn r = 0 := iI_eq (by omega) (by omega) (by omega) (by omega)
    have q3 : iI (d : Int) = iI (cd i) ↔ (d : Int) = cd i := iI_eq (by omega) (by omega) (by omega) (by omega)
    have eo : od (dr r) = d := by rw [hde]; rfl
    by_cases w : cr i < 0
    · have ek : wkf td dr dn cr cd i = 2 := by simp [wkf, w, htd]
      rw [ek]
      refine bst (rc12) ?_
      refine bst (ti') ?_
      refine bst (sR_1231_29 hS) ?_
      refine bst (l49) ?_
      refine ifn (fun q => by have := l0.mp q; omega) ?_
      refine ifp (w2) ?_
      rfl
    · have five : ¬ ((r : Int) = cr i ∧ dn r = 0 ∧ (d : Int) = cd i) → wkf td dr dn cr cd i = 5 := fun v => by
        unfold wkf
        rw [if_neg w, htd]
        simp only [eo, if_neg v]
      by_cases v1 : (r : Int) = cr i
      · by_cases v3 : (d : Int) = cd i
        · by_cases v2 : dn r = 0
          · have ek : wkf td dr dn cr cd i = 0 := by
              unfold wkf
              rw [if_neg w, htd]
              simp only [eo, if_pos (show (r : Int) = cr i ∧ dn r = 0 ∧ (d : Int) = cd i from ⟨v1, v2, v3⟩)]
            rw [ek]
            refine bst (rc12) ?_
            refine bst (ti') ?_
            refine bst (sR_1231_29 hS) ?_
            refine bst (l49) ?_
            refine ifp (l0.mpr (by omega)) ?_
            refine ifp (w2) ?_
            refine bst (sR_1231_29 hS) ?_
            refine bst (l49) ?_
            refine ifp (q1.mpr v1) ?_
            refine bst (sR_1216_29 hS) ?_
            refine bst (l42) ?_
            refine bst (sR_1232_29 hS) ?_
            refine bst (l50) ?_
            refine ifp (q3.mpr v3) ?_
            refine bst (sR_1217_29 hS) ?_
            refine bst (l43) ?_
            refine ifp (q2.mpr v2) ?_
            rfl
          · rw [five (fun z => v2 z.2.1)]
            refine bst (rc12) ?_
            refine bst (ti') ?_
            refine bst (sR_1231_29 hS) ?_
            refine bst (l49) ?_
            refine ifp (l0.mpr (by omega)) ?_
            refine ifp (w2) ?_
            refine bst (sR_1231_29 hS) ?_
            refine bst (l49) ?_
            refine ifp (q1.mpr v1) ?_
            refine bst (sR_1216_29 hS) ?_
            refine bst (l42) ?_
            refine bst (sR_1232_29 hS) ?_
            refine bst (l50) ?_
            refine ifp (q3.mpr v3) ?_
            refine bst (sR_1217_29 hS) ?_
            refine bst (l43) ?_
            refine ifn (fun z => v2 (q2.mp z)) ?_
            rfl
        · rw [five (fun z => v3 z.2.2)]
          refine bst (rc12) ?_
          refine bst (ti') ?_
          refine bst (sR_1231_29 hS) ?_
          refine bst (l49) ?_
          refine ifp (l0.mpr (by omega)) ?_
          refine ifp (w2) ?_
          refine bst (sR_1231_29 hS) ?_
          refine bst (l49) ?_
          refine ifp (q1.mpr v1) ?_
          refine bst (sR_1216_29 hS) ?_
          refine bst (l42) ?_
          refine bst (sR_1232_29 hS) ?_
          refine bst (l50) ?_
          refine ifn (fun z => v3 (q3.mp z)) ?_
          rfl
      · rw [five (fun z => v1 z.1)]
        refine bst (rc12) ?_
        refine bst (ti') ?_
        refine bst (sR_1231_29 hS) ?_
        refine bst (l49) ?_
        refine ifp (l0.mpr (by omega)) ?_
        refine ifp (w2) ?_
        refine bst (sR_1231_29 hS) ?_
        refine bst (l49) ?_
        refine ifn (fun z => v1 (q1.mp z)) ?_
        rfl
theorem L_chW {N : Nat} {h0 : Hs} (hS0 : Sk h0) (hz : 70 ≤ sz h0) {nt : Nat} (ct : nt ≤ 40) (g1 : gI h0 1201 29 = iI nt) (g30 : gI h0 1230 29 = iI 0) {wk : Nat → Int} {c : Int32} (hW : ∀ i h, i < nt → Ke [] [51] [] [] h0 h → fX12_workOf N h 29 (iI i) = some (iI (wk i), h)) : ∀ (e i fu : Nat) (h : Hs), Ke [] [51] [] [] h0 h → sz h = sz h0 → i + e = nt → e < fu → (∀ k, k < i → aI h 51 k = iI (wk k)) → ∃ h', fX12_change_b180 N 29 fu h c (iI i) = some (c, h') ∧ Ke [] [51] [] [] h0 h' ∧ sz h' = sz h0 ∧ (∀ k, k < nt → aI h' 51 k = iI (wk k)) := by
  intro e
  induction e with
  | zero =>
    intro i fu h ke sz0 hi hf ga
    obtain ⟨fu, rfl⟩ : ∃ m, fu = m + 1 := ⟨fu - 1, by omega⟩
    have hS := hS0.e hz ke (by decide)
    have o1 : oI 12 1 h (some 29) = some (iI nt) := oIv (by rw [ss_29 hS]) (by rw [ke.1 1201 29 (by decide) (by omega)]; exact g1)
    have o30 : oI 12 30 h (some 29) = some (iI 0) := oIv (by rw [ss_29 hS]) (by rw [ke.1 1230 29 (by decide) (by omega)]; exact g30)
    have a1 : iI (nt : Int) ≤ iI (i : Int) := (iI_le (by omega) (by omega) (by omega) (by omega)).mpr (by omega)
    refine ⟨h, ?_, ke, sz0, fun k hk => ga k (by omega)⟩
    show fX12_change_b180_body N (fX12_change_b180 N 29 fu) 29 h c (iI i) = _
    simp only [fX12_change_b180_body, fX12_change_b215, fX12_change_b228, lit]
    refine bst (o1) ?_
    refine ifp (a1) ?_
    refine bst (o30) ?_
    refine ifp (rfl) ?_
    rfl
  | succ e ih =>
    intro i fu h ke sz0 hi hf ga
    obtain ⟨fu, rfl⟩ : ∃ m, fu = m + 1 := ⟨fu - 1, by omega⟩
    have hS := hS0.e hz ke (by decide)
    have o1 : oI 12 1 h (some 29) = some (iI nt) := oIv (by rw [ss_29 hS]) (by rw [ke.1 1201 29 (by decide) (by omega)]; exact g1)
    have o30 : oI 12 30 h (some 29) = some (iI 0) := oIv (by rw [ss_29 hS]) (by rw [ke.1 1230 29 (by decide) (by omega)]; exact g30)
    have a1 : ¬ iI (nt : Int) ≤ iI (i : Int) := fun q => by have := (iI_le (by omega) (by omega) (by omega) (by omega)).mp q; omega
    obtain ⟨h2, eh2⟩ : ∃ h2, h2 = uA h 51 i (iI (wk i)) := ⟨_, rfl⟩
    have ke2 : Ke [] [51] [] [] h h2 := by rw [eh2]; exact Ke_rf.b 51 _ _ (by decide)
    obtain ⟨h', r1, r2⟩ := ih (i + 1) fu h2 (ke.tr ke2) (by rw [eh2]; exact sz0) (by omega) (by omega) (fun k hk => by
      by_cases w : k = i
      · subst w
        rw [eh2]
        simp [HR]
      · have := ga k (by omega)
        rw [eh2]
        simp [HR, w, this])
    simp only [Int.natCast_add, Int.natCast_one] at r1
    refine ⟨h', ?_, r2⟩
    rw [← r1]
    have rc12 : rc 12 h (some 29) = some 29 := rcv (by rw [ss_29 hS])
    show fX12_change_b180_body N (fX12_change_b180 N 29 fu) 29 h c (iI i) = _
    simp only [fX12_change_b180_body, lit, iI_add, Option.bind_some]
    refine bst (o1) ?_
    refine ifn (a1) ?_
    refine bst (o30) ?_
    refine ifp (rfl) ?_
    refine bst (sR_1233_29 hS) ?_
    refine bst (rc12) ?_
    refine bst (hW i h (by omega) ke) ?_
    refine bst (sAv (ss_51 hS) (by omega) (by omega)) ?_
    rw [← eh2]
