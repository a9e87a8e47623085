/-! ===== change: what is found, and the class ===== -/
def fsm (p : Nat → Bool) (i : Nat) : Nat → Int
  | 0 => -1
  | d + 1 => if p i then (i : Int) else fsm p (i + 1) d
theorem fsm_y (p : Nat → Bool) {i d : Nat} (h : p i = true) : fsm p i (d + 1) = i := by
  simp only [fsm, h, if_true]
theorem fsm_n (p : Nat → Bool) {i d : Nat} (h : p i = false) : fsm p i (d + 1) = fsm p (i + 1) d := by
  simp [fsm, h]
theorem fsm_b (p : Nat → Bool) : ∀ (d i : Nat), -1 ≤ fsm p i d ∧ fsm p i d < i + d
  | 0, i => by simp only [fsm]; omega
  | d + 1, i => by
    have := fsm_b p d (i + 1)
    rw [fsm]
    split <;> omega
def fdr (pa wy gr ds : Nat → Int) (rT : Nat → Nat) (nd : Nat) (gl n : Int) (r : Nat) : Int := fsm (fun d => decide (pa (rT r) + wy r * (ds d * n).tdiv (100 * gr r) = gl)) 0 nd
def srv (pa wy gr ds hd tg : Nat → Int) (rT : Nat → Nat) (gn : Nat → Bool) (nd : Nat) (gl n : Int) (i r : Nat) : Bool := decide (rT r = i ∧ gn r = false ∧ 0 ≤ hd r - ldv (tg (rT r)) (gr r) ∧ 0 ≤ fdr pa wy gr ds rT nd gl n r)
theorem pl_bd {a b w g : Int} (a1 : 1 ≤ a) (a2 : a ≤ 20) (b1 : -9999 ≤ b) (b2 : b ≤ 9999) (hw : w = 1 ∨ w = -1) : -200000 ≤ a * b ∧ a * b ≤ 200000 ∧ -200000 ≤ w * (a * b).tdiv (100 * g) ∧ w * (a * b).tdiv (100 * g) ≤ 200000 := by
  have h1 : a * b ≤ a * 9999 := Int.mul_le_mul_of_nonneg_left b2 (by omega)
  have h2 : a * (-9999) ≤ a * b := Int.mul_le_mul_of_nonneg_left b1 (by omega)
  generalize a * b = x at *
  have h3 := td_abs x (100 * g)
  generalize x.tdiv (100 * g) = y at *
  rcases hw with rfl | rfl <;> omega
theorem L_fdC {N : Nat} {h : Hs} (hS : Sk h) {nr nt nd : Nat} {rA tA dA rT : Nat → Nat} {wy gr hd ds : Nat → Int} {gn : Nat → Bool} {tl tw tg ls ms pa : Nat → Int} (hT : RTh h nt tA tl tw tg ls ms pa) (hD : RDr h nd dA ds) (hR : RRo h nr nt rA tA rT wy gr hd gn) {gl n : Int} (g1 : -1 ≤ gl) (g2 : gl ≤ 100) (n1 : -9999 ≤ n) (n2 : n ≤ 9999) {r : Nat} (hr : r < nr) : ∀ (e i fu : Nat), i + e = nd → e < fu → fX1_findDrum_b3 N 25 fu h (some (rA r)) (iI gl) (iI n) (iI i) = some (iI (fsm (fun d => decide (pa (rT r) + wy r * (ds d * n).tdiv (100 * gr r) = gl)) i e), h) := by
  have c3 := hD.1.2.2
  have o8 : oI 5 8 h (some 14) = some (iI nd) := oIv (by rw [ss_14 hS]) hD.1.1
  obtain ⟨⟨-, -, -, d4⟩, ⟨f0, f1, f2, f3, f4, f8⟩, -, q1, q2, q3, q4, q5⟩ := hR.2.1 r hr
  obtain ⟨⟨-, -, -, t4⟩, ⟨-, -, -, -, -, -, g7⟩, -, bb⟩ := hT.2.1 (rT r) q1
  intro e
  induction e with
  | zero =>
    intro i fu hi hf
    obtain ⟨fu, rfl⟩ : ∃ m, fu = m + 1 := ⟨fu - 1, by omega⟩
    show fX1_findDrum_b3_body N (fX1_findDrum_b3 N 25 fu) 25 h (some (rA r)) (iI gl) (iI n) (iI i) = _
    have a1 : iI (nd : Int) ≤ iI (i : Int) := (iI_le (by omega) (by omega) (by omega) (by omega)).mpr (by omega)
    simp only [fX1_findDrum_b3_body, lit, iI_neg]
    refine bst (sR_100_25 hS) ?_
    refine bst (o8) ?_
    refine ifp (a1) ?_
    rfl
  | succ e ih =>
    intro i fu hi hf
    obtain ⟨fu, rfl⟩ : ∃ m, fu = m + 1 := ⟨fu - 1, by omega⟩
    show fX1_findDrum_b3_body N (fX1_findDrum_b3 N 25 fu) 25 h (some (rA r)) (iI gl) (iI n) (iI i) = _
    have a1 : ¬ iI (nd : Int) ≤ iI (i : Int) := fun q => by have := (iI_le (by omega) (by omega) (by omega) (by omega)).mp q; omega
    obtain ⟨⟨e1, -, -, e4⟩, ⟨-, e2⟩, -, e5, e6⟩ := hD.2.1 i (by omega)
    obtain ⟨p1, p2, p3, p4⟩ := pl_bd (g := gr r) e5 e6 n1 n2 q2
    have q := ih (i + 1) fu (by omega) (by omega)
    simp only [Int.natCast_add, Int.natCast_one] at q
    have lq : lQ 24 h (some 16) (iI i) = some (some (dA i)) := lQv (ss_16 hS) (by omega) (by omega) e1
    have pf := v_placeFrom (N := N) hR hr (p := pa (rT r)) (q := ds i * n) (by omega) (by omega)
    have rc4 : rc 4 h (some (rA r)) = some (rA r) := rcv (by rw [d4])
    have le : iI (pa (rT r) + wy r * (ds i * n).tdiv (100 * gr r)) = iI gl ↔ pa (rT r) + wy r * (ds i * n).tdiv (100 * gr r) = gl := iI_eq (by omega) (by omega) (by omega) (by omega)
    have em : iI (ds i) * iI n = iI (ds i * n) := by rw [iI_mul]
    simp only [fX1_findDrum_b3_body, lit, iI_add, Option.bind_some]
    by_cases w : pa (rT r) + wy r * (ds i * n).tdiv (100 * gr r) = gl
    · rw [fsm_y _ (decide_eq_true w)]
      refine bst (sR_100_25 hS) ?_
      refine bst (o8) ?_
      refine ifn (a1) ?_
      refine bst (oRv (by rw [d4]) f1) ?_
      refine bst (oIv (by rw [t4]) g7) ?_
      refine bst (sR_100_25 hS) ?_
      refine bst (sR_501_14 hS) ?_
      refine bst (lq) ?_
      refine bst (oIv (by rw [e4]) e2) ?_
      refine bst (rc4) ?_
      rw [em]
      refine bst (pf) ?_
      refine ifp (le.mpr w) ?_
      rfl
    · rw [fsm_n _ (decide_eq_false w)]
      refine bst (sR_100_25 hS) ?_
      refine bst (o8) ?_
      refine ifn (a1) ?_
      refine bst (oRv (by rw [d4]) f1) ?_
      refine bst (oIv (by rw [t4]) g7) ?_
      refine bst (sR_100_25 hS) ?_
      refine bst (sR_501_14 hS) ?_
      refine bst (lq) ?_
      refine bst (oIv (by rw [e4]) e2) ?_
      refine bst (rc4) ?_
      rw [em]
      refine bst (pf) ?_
      refine ifn (fun z => w (le.mp z)) ?_
      exact q
/-- what findTie leaves of thing i: the rope f, or none -/
def ftH (h : Hs) (a b i : Nat) (f d : Int) : Hs := uA (uA h a i (iI f)) b i (iI d)
theorem L_ftC {N : Nat} (hN : 100000000 ≤ N) {h : Hs} (hS : Sk h) (hz : 70 ≤ sz h) {nr nt nd : Nat} {rA tA dA rT : Nat → Nat} {wy gr hd ds : Nat → Int} {gn : Nat → Bool} {tl tw tg ls ms pa : Nat → Int} (hT : RTh h nt tA tl tw tg ls ms pa) (hD : RDr h nd dA ds) (hR : RRo h nr nt rA tA rT wy gr hd gn) {gl n : Int} (g1 : -1 ≤ gl) (g2 : gl ≤ 100) (n1 : -9999 ≤ n) (n2 : n ≤ 9999) {i : Nat} (hi : i < nt) : ∀ (e j fu : Nat), j + e = nr → e < fu → fX1_findTie_b3 N 25 fu h (some (tA i)) (iI gl) (iI n) (iI j) = some (if fsm (srv pa wy gr ds hd tg rT gn nd gl n i) j e < 0 then (iI 0, ftH h 26 27 i (-2) (-2)) else (iI 1, ftH h 26 27 i (fsm (srv pa wy gr ds hd tg rT gn nd gl n i) j e) (fdr pa wy gr ds rT nd gl n (fsm (srv pa wy gr ds hd tg rT gn nd gl n i) j e).toNat))) := by
  have c3 := hR.1.2.2
  have ct := hT.1.2.2
  have cd := hD.1.2.2
  have o9 : oI 5 9 h (some 14) = some (iI nr) := oIv (by rw [ss_14 hS]) hR.1.1
  obtain ⟨⟨t1, t2, t3, t4⟩, ⟨g0, -⟩, -, -⟩ := hT.2.1 i hi
  have o0 : oI 9 0 h (some (tA i)) = some (iI i) := oIv (by rw [t4]) g0
  have put : ∀ f d : Int, ((oI 9 0 h (some (tA i))).bind fun v4 => (sA h (some 26) v4 (iI f)).bind fun h5 => (oR 1 2 h5 (some 25)).bind fun o6 => (oI 9 0 h5 (some (tA i))).bind fun v7 => (sA h5 o6 v7 (iI d)).bind fun h8 => some h8) = some (ftH h 26 27 i f d) := by
    intro f d
    have ke : Ke [] [26] [] [] h (uA h 26 i (iI f)) := Ke_rf.b 26 _ _ (by decide)
    have hS1 := hS.e hz ke (by decide)
    have o01 : oI 9 0 (uA h 26 i (iI f)) (some (tA i)) = some (iI i) := oIv (by rw [sh_uA, t4]) g0
    refine bst (o0) ?_
    refine bst (sAv (ss_26 hS) (by omega) (by omega)) ?_
    refine bst (sR_102_25 hS1) ?_
    refine bst (o01) ?_
    refine bst (sAv (ss_27 hS1) (by omega) (by omega)) ?_
    rfl
  have put2 : ∀ (f d : Int) (v : Int32), ((oI 9 0 h (some (tA i))).bind fun v4 => (sA h (some 26) v4 (iI f)).bind fun h5 => (oR 1 2 h5 (some 25)).bind fun o6 => (oI 9 0 h5 (some (tA i))).bind fun v7 => (sA h5 o6 v7 (iI d)).bind fun h8 => some (v, h8)) = some (v, ftH h 26 27 i f d) := by
    intro f d v
    have ke : Ke [] [26] [] [] h (uA h 26 i (iI f)) := Ke_rf.b 26 _ _ (by decide)
    have hS1 := hS.e hz ke (by decide)
    have o01 : oI 9 0 (uA h 26 i (iI f)) (some (tA i)) = some (iI i) := oIv (by rw [sh_uA, t4]) g0
    refine bst (o0) ?_
    refine bst (sAv (ss_26 hS) (by omega) (by omega)) ?_
    refine bst (sR_102_25 hS1) ?_
    refine bst (o01) ?_
    refine bst (sAv (ss_27 hS1) (by omega) (by omega)) ?_
    rfl
  intro e
  induction e with
  | zero =>
    intro j fu hj hf
    obtain ⟨fu, rfl⟩ : ∃ m, fu = m + 1 := ⟨fu - 1, by omega⟩
    show fX1_findTie_b3_body N (fX1_findTie_b3 N 25 fu) 25 h (some (tA i)) (iI gl) (iI n) (iI j) = _
    have a1 : iI (nr : Int) ≤ iI (j : Int) := (iI_le (by omega) (by omega) (by omega) (by omega)).mpr (by omega)
    rw [if_pos (show fsm (srv pa wy gr ds hd tg rT gn nd gl n i) j 0 < 0 by simp [fsm])]
    simp only [fX1_findTie_b3_body, lit, iI_neg]
    refine bst (sR_100_25 hS) ?_
    refine bst (o9) ?_
    refine ifp (a1) ?_
    refine bst (sR_101_25 hS) ?_
    exact put2 (-2) (-2) (iI 0)
  | succ e ih =>
    intro j fu hj hf
    obtain ⟨fu, rfl⟩ : ∃ m, fu = m + 1 := ⟨fu - 1, by omega⟩
    have a1 : ¬ iI (nr : Int) ≤ iI (j : Int) := fun q => by have := (iI_le (by omega) (by omega) (by omega) (by omega)).mp q; omega
    obtain ⟨⟨d1, -, -, d4⟩, ⟨f0, f1, f2, f3, f4, f8⟩, -, q1, q2, q3, q4, q5⟩ := hR.2.1 j (by omega)
    obtain ⟨-, -, -, bb⟩ := hT.2.1 (rT j) q1
    have q := ih (j + 1) fu (by omega) (by omega)
    simp only [Int.natCast_add, Int.natCast_one] at q
    have lq : lQ 25 h (some 17) (iI j) = some (some (rA j)) := lQv (ss_17 hS) (by omega) (by omega) d1
    have o1 : oR 4 1 h (some (rA j)) = some (some (tA (rT j))) := oRv (by rw [d4]) f1
    have o8 : oI 4 8 h (some (rA j)) = some (iI (b2 (gn j))) := oIv (by rw [d4]) f8
    have rc4 : rc 4 h (some (rA j)) = some (rA j) := rcv (by rw [d4])
    have rc1 : rc 1 h (some 25) = some 25 := rcv (by rw [ss_25 hS])
    have lb := ldv_b (g := tg (rT j)) (r := gr j) (by omega) (by omega)
    have sp := v_spare (N := N) hR hT (r := j) (by omega)
    have fd := L_fdC (N := N) hS hT hD hR g1 g2 n1 n2 (r := j) (by omega) nd 0 N (by omega) (by omega)
    have fd' : fX1_findDrum N h 25 (some (rA j)) (iI gl) (iI n) = some (iI (fdr pa wy gr ds rT nd gl n j), h) := fd
    have fb := fsm_b (fun d => decide (pa (rT j) + wy j * (ds d * n).tdiv (100 * gr j) = gl)) nd 0
    have fb' : -1 ≤ fdr pa wy gr ds rT nd gl n j ∧ fdr pa wy gr ds rT nd gl n j < 20 := by
      unfold fdr
      omega
    have nx : fX1_findTie_b76 N (fX1_findTie_b3 N 25 fu) 25 h (some (tA i)) (iI gl) (iI n) (iI j) (iI (-1)) = fX1_findTie_b3 N 25 fu h (some (tA i)) (iI gl) (iI n) (iI ((j : Int) + 1)) := by
      simp only [fX1_findTie_b76, lit, iI_add, Option.bind_some]
      refine ifp ((by decide)) ?_
      rfl
    have skip : fsm (srv pa wy gr ds hd tg rT gn nd gl n i) j (e + 1) = fsm (srv pa wy gr ds hd tg rT gn nd gl n i) (j + 1) e → fX1_findTie_b3 N 25 (fu + 1) h (some (tA i)) (iI gl) (iI n) (iI j) = fX1_findTie_b3 N 25 fu h (some (tA i)) (iI gl) (iI n) (iI ((j : Int) + 1)) → fX1_findTie_b3 N 25 (fu + 1) h (some (tA i)) (iI gl) (iI n) (iI j) = some (if fsm (srv pa wy gr ds hd tg rT gn nd gl n i) j (e + 1) < 0 then (iI 0, ftH h 26 27 i (-2) (-2)) else (iI 1, ftH h 26 27 i (fsm (srv pa wy gr ds hd tg rT gn nd gl n i) j (e + 1)) (fdr pa wy gr ds rT nd gl n (fsm (srv pa wy gr ds hd tg rT gn nd gl n i) j (e + 1)).toNat))) := by
      intro e1 e2
      rw [e1, e2]
      exact q
    have eT : some (tA (rT j)) = some (tA i) ↔ rT j = i := by
      constructor
      · intro s
        exact hT.2.2 _ _ q1 hi (Option.some.inj s)
      · intro s
        rw [s]
    by_cases w1 : rT j = i
    · cases w2 : gn j with
      | true =>
        refine skip (fsm_n _ (decide_eq_false (fun s => by rw [w2] at s; cases s.2.1))) ?_
        rw [w2] at o8
        have o8' : oI 4 8 h (some (rA j)) = some (iI 1) := o8
        show fX1_findTie_b3_body N (fX1_findTie_b3 N 25 fu) 25 h (some (tA i)) (iI gl) (iI n) (iI j) = _
        simp only [fX1_findTie_b3_body, fX1_findTie_b56, fX1_findTie_b57, lit, iI_neg]
        refine bst (sR_100_25 hS) ?_
        refine bst (o9) ?_
        refine ifn (a1) ?_
        refine bst (sR_100_25 hS) ?_
        refine bst (sR_502_14 hS) ?_
        refine bst (lq) ?_
        refine bst (o1) ?_
        refine ifp (eT.mpr w1) ?_
        refine bst (o8') ?_
        refine ifn (n10) ?_
        refine ifp (trivial) ?_
        exact nx
      | false =>
        rw [w2] at o8
        have o8' : oI 4 8 h (some (rA j)) = some (iI 0) := o8
        have ls : iI (hd j - ldv (tg (rT j)) (gr j)) < iI 0 ↔ hd j - ldv (tg (rT j)) (gr j) < 0 := iI_lt (by omega) (by omega) (by omega) (by omega)
        by_cases w3 : hd j - ldv (tg (rT j)) (gr j) < 0
        · refine skip (fsm_n _ (decide_eq_false (fun s => by omega))) ?_
          show fX1_findTie_b3_body N (fX1_findTie_b3 N 25 fu) 25 h (some (tA i)) (iI gl) (iI n) (iI j) = _
          simp only [fX1_findTie_b3_body, fX1_findTie_b56, fX1_findTie_b57, lit, iI_neg]
          refine bst (sR_100_25 hS) ?_
          refine bst (o9) ?_
          refine ifn (a1) ?_
          refine bst (sR_100_25 hS) ?_
          refine bst (sR_502_14 hS) ?_
          refine bst (lq) ?_
          refine bst (o1) ?_
          refine ifp (eT.mpr w1) ?_
          refine bst (o8') ?_
          refine ifp (rfl) ?_
          refine bst (rc4) ?_
          refine bst (sp) ?_
          refine ifp (ls.mpr w3) ?_
          refine ifp (trivial) ?_
          exact nx
        · by_cases w4 : fdr pa wy gr ds rT nd gl n j < 0
          · refine skip (fsm_n _ (decide_eq_false (fun s => by omega))) ?_
            have e9 : fdr pa wy gr ds rT nd gl n j = -1 := by omega
            rw [e9] at fd'
            show fX1_findTie_b3_body N (fX1_findTie_b3 N 25 fu) 25 h (some (tA i)) (iI gl) (iI n) (iI j) = _
            simp only [fX1_findTie_b3_body, fX1_findTie_b56, fX1_findTie_b57, lit, iI_neg]
            refine bst (sR_100_25 hS) ?_
            refine bst (o9) ?_
            refine ifn (a1) ?_
            refine bst (sR_100_25 hS) ?_
            refine bst (sR_502_14 hS) ?_
            refine bst (lq) ?_
            refine bst (o1) ?_
            refine ifp (eT.mpr w1) ?_
            refine bst (o8') ?_
            refine ifp (rfl) ?_
            refine bst (rc4) ?_
            refine bst (sp) ?_
            refine ifn (fun s => w3 (ls.mp s)) ?_
            refine ifn (n10) ?_
            refine bst (rc1) ?_
            refine bst (fd') ?_
            exact nx
          · have hy : srv pa wy gr ds hd tg rT gn nd gl n i j = true := decide_eq_true ⟨w1, w2, by omega, by omega⟩
            rw [fsm_y _ hy, if_neg (by omega), Int.toNat_natCast]
            have ld : ¬ iI (fdr pa wy gr ds rT nd gl n j) < iI 0 := fun s => by have := (iI_lt (by omega) (by omega) (by omega) (by omega)).mp s; omega
            show fX1_findTie_b3_body N (fX1_findTie_b3 N 25 fu) 25 h (some (tA i)) (iI gl) (iI n) (iI j) = _
            simp only [fX1_findTie_b3_body, fX1_findTie_b57, fX1_findTie_b76, lit]
            refine bst (sR_100_25 hS) ?_
            refine bst (o9) ?_
            refine ifn (a1) ?_
            refine bst (sR_100_25 hS) ?_
            refine bst (sR_502_14 hS) ?_
            refine bst (lq) ?_
            refine bst (o1) ?_
            refine ifp (eT.mpr w1) ?_
            refine bst (o8') ?_
            refine ifp (rfl) ?_
            refine bst (rc4) ?_
            refine bst (sp) ?_
            refine ifn (fun s => w3 (ls.mp s)) ?_
            refine ifn (n10) ?_
            refine bst (rc1) ?_
            refine bst (fd') ?_
            refine ifn (ld) ?_
            refine bst (sR_101_25 hS) ?_
            exact put2 _ _ (iI 1)
    · refine skip (fsm_n _ (decide_eq_false (fun s => w1 s.1))) ?_
      show fX1_findTie_b3_body N (fX1_findTie_b3 N 25 fu) 25 h (some (tA i)) (iI gl) (iI n) (iI j) = _
      simp only [fX1_findTie_b3_body, fX1_findTie_b56, fX1_findTie_b57, lit, iI_neg]
      refine bst (sR_100_25 hS) ?_
      refine bst (o9) ?_
      refine ifn (a1) ?_
      refine bst (sR_100_25 hS) ?_
      refine bst (sR_502_14 hS) ?_
      refine bst (lq) ?_
      refine bst (o1) ?_
      refine ifn (fun s => w1 (eT.mp s)) ?_
      refine ifp (trivial) ?_
      exact nx
