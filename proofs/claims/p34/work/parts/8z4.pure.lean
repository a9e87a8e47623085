/-! ===== the calls that change the stage keep Inv ===== -/
theorem i_weight {N : Nat} (hN : 100000000 ≤ N) {k : Nat} {h : Hs} (hI : Inv k h) (p1 p2 : Int32) : ∃ r h1 h2, fX11_weight N h 0 p1 p2 = some (r, h1) ∧ fX12_weight N h1 29 p1 p2 = some (r, h2) ∧ Inv (k + 1) h2 := by
  have hU := hI.up
  refine hI.el ?_
  intro w L bt nt nd nr na tA dA rA sA rT tl tw tg ls ms pa ds wy gr hd gn sc dr td sr dn cr cd wk as no gg vc vk sm tp cg
  obtain ⟨s1, s2, s3, s4, s5, s6, s7, s8⟩ := sm
  obtain ⟨⟨hS, hz⟩, hT, hC, hD, hO, hTi, r1, r2, r3, r4⟩ := id vc
  obtain ⟨a, h1, h2, e1, e2, q1, q0, qk⟩ := t_weight (N := N) hS s1 s3 p1 p2
  have q2 : Ke [1106, 1243] [18, 45] [] [] h h2 := qk.e
  have k6 := q2.2.2.2.2.2
  have hA7 : ∀ a ∈ ([18, 45] : List Nat), a < 70 := by decide +kernel
  exact ⟨a, h1, h2, e1, e2, Inv.mk (w) (L) (bt) (nt) (nd) (nr) (na) (tA) (dA) (rA) (sA) (rT) (tl) (tw) (tg) (ls) (ms) (pa) (ds) (wy) (gr) (hd) (gn) (sc) (dr) (td) (sr) (dn) (cr) (cd) (wk) (as) (no) (⟨gg.1, by have := gg.2; omega⟩) ⟨⟨hS.e hz q2 (by decide +kernel), by omega⟩, (hT.e hz q2 (by decide +kernel) (by decide +kernel) (by decide +kernel)), (hC.e hz hT.lt q2 (by decide +kernel) (by decide +kernel) (fun i hi z => by have := hA7 _ z; have := (hC.1 i hi).1.2.1; omega)), (hD.e hz q2 (by decide +kernel) (by decide +kernel) (by decide +kernel)), (hO.e hz q2 (by decide +kernel) (by decide +kernel) (by decide +kernel) (by decide +kernel)), (hTi.e hz hT.lt hO.lt q2 (by decide +kernel) (by decide +kernel) (by decide +kernel)), (r1), (r2), (fun r x1 x2 => by rw [q2.2.1 44 (by decide +kernel) (by omega)]; exact r3 r x1 x2), (r4)⟩ (vk.n q0 (Int.le_refl w) hz hT.lt hO.lt q2 (by decide +kernel) (by decide +kernel) (by decide +kernel)) ⟨q1, s2.e hz q2 (by decide +kernel) (by decide +kernel), q0.can, s4.e hz q2 (by decide +kernel), s5.e hz q2 (by decide +kernel) (by decide +kernel), s6.e hz q2 (by decide +kernel) (by decide +kernel) (by decide +kernel), s7.e hz q2 (by decide +kernel), s8.e hz q2 (by decide +kernel)⟩ (tp.e hz q2 (by decide +kernel) (by decide +kernel) (by decide +kernel) (by decide +kernel)) (cg.e hz q2 (by decide +kernel) (by decide +kernel))⟩
theorem i_drum {N : Nat} (hN : 100000000 ≤ N) {k : Nat} {h : Hs} (hI : Inv k h) (p1 : Int32) : ∃ r h1 h2, fX11_drum N h 0 p1 = some (r, h1) ∧ fX12_drum N h1 29 p1 = some (r, h2) ∧ Inv (k + 1) h2 := by
  have hU := hI.up
  refine hI.el ?_
  intro w L bt nt nd nr na tA dA rA sA rT tl tw tg ls ms pa ds wy gr hd gn sc dr td sr dn cr cd wk as no gg vc vk sm tp cg
  obtain ⟨s1, s2, s3, s4, s5, s6, s7, s8⟩ := sm
  obtain ⟨⟨hS, hz⟩, hT, hC, hD, hO, hTi, r1, r2, r3, r4⟩ := id vc
  obtain ⟨a, h1, h2, nd', dA', ds', e1, e2, q1, n1, n2, q0, q2, q3⟩ := t_drum (N := N) hS hz hD s3 p1
  have k6 := q2.2.2.2.2.2
  have hA7 : ∀ a ∈ ([37] : List Nat), a < 70 := by decide +kernel
  exact ⟨a, h1, h2, e1, e2, Inv.mk (w) (L) (bt) (nt) (nd') (nr) (na) (tA) (dA') (rA) (sA) (rT) (tl) (tw) (tg) (ls) (ms) (pa) (ds') (wy) (gr) (hd) (gn) (sc) (dr) (td) (sr) (dn) (cr) (cd) (wk) (as) (no) (⟨gg.1, by have := gg.2; omega⟩) ⟨⟨hS.e hz q2 (by decide +kernel), by omega⟩, (hT.e hz q2 (by decide +kernel) (by decide +kernel) (by decide +kernel)), (hC.e hz hT.lt q2 (by decide +kernel) (by decide +kernel) (fun i hi z => by have := hA7 _ z; have := (hC.1 i hi).1.2.1; omega)), (q1), (hO.e hz q2 (by decide +kernel) (by decide +kernel) (by decide +kernel) (by decide +kernel)), ((hTi.e hz hT.lt hO.lt q2 (by decide +kernel) (by decide +kernel) (by decide +kernel)).d n1 (fun i hi => (n2 i hi).1)), (r1), (r2), (fun r x1 x2 => by rw [q2.2.1 44 (by decide +kernel) (by omega)]; exact r3 r x1 x2), (r4)⟩ ((vk.n q0 (Int.le_refl w) hz hT.lt hO.lt q2 (by decide +kernel) (by decide +kernel) (by decide +kernel)).d n1 (fun i hi => (n2 i hi).1)) ⟨s1.e hz q2 (by decide +kernel) (by decide +kernel), s2.e hz q2 (by decide +kernel) (by decide +kernel), q0.can, s4.e hz q2 (by decide +kernel), s5.e hz q2 (by decide +kernel) (by decide +kernel), s6.e hz q2 (by decide +kernel) (by decide +kernel) (by decide +kernel), s7.e hz q2 (by decide +kernel), s8.e hz q2 (by decide +kernel)⟩ (tp.e hz q2 (by decide +kernel) (by decide +kernel) (by decide +kernel) (by decide +kernel)) (cg.e hz q2 (by decide +kernel) (by decide +kernel))⟩
theorem i_tie {N : Nat} (hN : 100000000 ≤ N) {k : Nat} {h : Hs} (hI : Inv k h) (p1 p2 : Int32) : ∃ r h1 h2, fX11_tie N h 0 p1 p2 = some (r, h1) ∧ fX12_tie N h1 29 p1 p2 = some (r, h2) ∧ Inv (k + 1) h2 := by
  have hU := hI.up
  refine hI.el ?_
  intro w L bt nt nd nr na tA dA rA sA rT tl tw tg ls ms pa ds wy gr hd gn sc dr td sr dn cr cd wk as no gg vc vk sm tp cg
  obtain ⟨s1, s2, s3, s4, s5, s6, s7, s8⟩ := sm
  obtain ⟨⟨hS, hz⟩, hT, hC, hD, hO, hTi, r1, r2, r3, r4⟩ := id vc
  obtain ⟨a, h1, h2, dr', td', sr', dn', e1, e2, q1, q0, q2, q3, qc⟩ := t_tie (N := N) hN hS hz hT hD hO hTi s3 p1 p2
  have ky : ∀ r, r < nr → dr' r ≠ none → (ls (rT r) ≤ sr' r ∧ sr' r ≤ ms (rT r)) ∧ pa (rT r) = sr' r + wy r * (dn' r).tdiv (100 * gr r) ∧ -(20 * w) ≤ dn' r ∧ dn' r ≤ 20 * w := by
    rcases qc with ⟨rfl, rfl, rfl, rfl⟩ | ⟨r0, d0, z1, z2, z3, z4, rfl, rfl, rfl, rfl⟩
    · exact fun r x1 x2 => ⟨r1 r x1 x2, r2 r x1 x2, r4 r x1 x2⟩
    · intro r x1 x2
      by_cases x3 : r = r0
      · subst x3
        have bb := (hT.2.1 (rT r) (hO.2.1 r x1).2.2.2.1).2.2.2
        rw [updO_s, updO_s, Int.zero_tdiv]
        omega
      · rw [updO_n _ _ x3] at x2
        rw [updO_n _ _ x3, updO_n _ _ x3]
        exact ⟨r1 r x1 x2, r2 r x1 x2, r4 r x1 x2⟩
  have k6 := q2.2.2.2.2.2
  have hA7 : ∀ a ∈ ([36, 42, 43] : List Nat), a < 70 := by decide +kernel
  exact ⟨a, h1, h2, e1, e2, Inv.mk (w) (L) (bt) (nt) (nd) (nr) (na) (tA) (dA) (rA) (sA) (rT) (tl) (tw) (tg) (ls) (ms) (pa) (ds) (wy) (gr) (hd) (gn) (sc) (dr') (td') (sr') (dn') (cr) (cd) (wk) (as) (no) (⟨gg.1, by have := gg.2; omega⟩) ⟨⟨hS.e hz q2 (by decide +kernel), by omega⟩, (hT.e hz q2 (by decide +kernel) (by decide +kernel) (by decide +kernel)), (hC.e hz hT.lt q2 (by decide +kernel) (by decide +kernel) (fun i hi z => by have := hA7 _ z; have := (hC.1 i hi).1.2.1; omega)), (hD.e hz q2 (by decide +kernel) (by decide +kernel) (by decide +kernel)), (hO.e hz q2 (by decide +kernel) (by decide +kernel) (by decide +kernel) (by decide +kernel)), (q1), (fun r x1 x2 => (ky r x1 x2).1), (fun r x1 x2 => (ky r x1 x2).2.1), (fun r x1 x2 => by rw [q2.2.1 44 (by decide +kernel) (by omega)]; exact r3 r x1 x2), (fun r x1 x2 => (ky r x1 x2).2.2)⟩ (vk.n q0 (Int.le_refl w) hz hT.lt hO.lt q2 (by decide +kernel) (by decide +kernel) (by decide +kernel)) ⟨s1.e hz q2 (by decide +kernel) (by decide +kernel), s2.e hz q2 (by decide +kernel) (by decide +kernel), q0.can, s4.e hz q2 (by decide +kernel), s5.e hz q2 (by decide +kernel) (by decide +kernel), s6.e hz q2 (by decide +kernel) (by decide +kernel) (by decide +kernel), s7.e hz q2 (by decide +kernel), s8.e hz q2 (by decide +kernel)⟩ (tp.e hz q2 (by decide +kernel) (by decide +kernel) (by decide +kernel) (by decide +kernel)) (cg.e hz q2 (by decide +kernel) (by decide +kernel))⟩
theorem i_untie {N : Nat} (hN : 100000000 ≤ N) {k : Nat} {h : Hs} (hk : k ≤ 1000) (hI : Inv k h) (p1 : Int32) : ∃ r h1 h2, fX11_untie N h 0 p1 = some (r, h1) ∧ fX12_untie N h1 29 p1 = some (r, h2) ∧ Inv (k + 1) h2 := by
  have hU := hI.up
  refine hI.el ?_
  intro w L bt nt nd nr na tA dA rA sA rT tl tw tg ls ms pa ds wy gr hd gn sc dr td sr dn cr cd wk as no gg vc vk sm tp cg
  obtain ⟨s1, s2, s3, s4, s5, s6, s7, s8⟩ := sm
  obtain ⟨⟨hS, hz⟩, hT, hC, hD, hO, hTi, r1, r2, r3, r4⟩ := id vc
  have hdn : ∀ r, r < nr → dr r ≠ none → -1000000000 ≤ dn r ∧ dn r ≤ 1000000000 := fun r x1 x2 => by have := r4 r x1 x2; omega
  obtain ⟨a, h1, h2, dr', td', e1, e2, q1, q0, q2, q3, qc⟩ := t_untie (N := N) hS hz hT hD.1.2.2 hO hTi s3 hdn p1
  have ky : ∀ r, r < nr → dr' r ≠ none → dr r ≠ none := by
    rcases qc with ⟨rfl, rfl⟩ | ⟨r0, d0, z1, z2, rfl, rfl⟩
    · exact fun r x1 x2 => x2
    · intro r x1 x2
      by_cases x3 : r = r0
      · subst x3
        exact absurd (updO_s _ _ _) x2
      · rw [updO_n _ _ x3] at x2
        exact x2
  have k6 := q2.2.2.2.2.2
  have hA7 : ∀ a ∈ ([42] : List Nat), a < 70 := by decide +kernel
  exact ⟨a, h1, h2, e1, e2, Inv.mk (w) (L) (bt) (nt) (nd) (nr) (na) (tA) (dA) (rA) (sA) (rT) (tl) (tw) (tg) (ls) (ms) (pa) (ds) (wy) (gr) (hd) (gn) (sc) (dr') (td') (sr) (dn) (cr) (cd) (wk) (as) (no) (⟨gg.1, by have := gg.2; omega⟩) ⟨⟨hS.e hz q2 (by decide +kernel), by omega⟩, (hT.e hz q2 (by decide +kernel) (by decide +kernel) (by decide +kernel)), (hC.e hz hT.lt q2 (by decide +kernel) (by decide +kernel) (fun i hi z => by have := hA7 _ z; have := (hC.1 i hi).1.2.1; omega)), (hD.e hz q2 (by decide +kernel) (by decide +kernel) (by decide +kernel)), (hO.e hz q2 (by decide +kernel) (by decide +kernel) (by decide +kernel) (by decide +kernel)), (q1), (fun r x1 x2 => r1 r x1 (ky r x1 x2)), (fun r x1 x2 => r2 r x1 (ky r x1 x2)), (fun r x1 x2 => by rw [q2.2.1 44 (by decide +kernel) (by omega)]; exact r3 r x1 x2), (fun r x1 x2 => r4 r x1 (ky r x1 x2))⟩ (vk.n q0 (Int.le_refl w) hz hT.lt hO.lt q2 (by decide +kernel) (by decide +kernel) (by decide +kernel)) ⟨s1.e hz q2 (by decide +kernel) (by decide +kernel), s2.e hz q2 (by decide +kernel) (by decide +kernel), q0.can, s4.e hz q2 (by decide +kernel), s5.e hz q2 (by decide +kernel) (by decide +kernel), s6.e hz q2 (by decide +kernel) (by decide +kernel) (by decide +kernel), s7.e hz q2 (by decide +kernel), s8.e hz q2 (by decide +kernel)⟩ (tp.e hz q2 (by decide +kernel) (by decide +kernel) (by decide +kernel) (by decide +kernel)) (cg.e hz q2 (by decide +kernel) (by decide +kernel))⟩
theorem i_rope {N : Nat} (hN : 100000000 ≤ N) {k : Nat} {h : Hs} (hI : Inv k h) (p1 p2 p3 : Int32) : ∃ r h1 h2, fX11_rope N h 0 p1 p2 p3 = some (r, h1) ∧ fX12_rope N h1 29 p1 p2 p3 = some (r, h2) ∧ Inv (k + 1) h2 := by
  have hU := hI.up
  refine hI.el ?_
  intro w L bt nt nd nr na tA dA rA sA rT tl tw tg ls ms pa ds wy gr hd gn sc dr td sr dn cr cd wk as no gg vc vk sm tp cg
  obtain ⟨s1, s2, s3, s4, s5, s6, s7, s8⟩ := sm
  obtain ⟨⟨hS, hz⟩, hT, hC, hD, hO, hTi, r1, r2, r3, r4⟩ := id vc
  obtain ⟨a, h1, h2, e1, e2, q1, q2, q3, qc⟩ := t_rope (N := N) hS hz hT hO hTi s3 r3 p1 p2 p3
  rcases qc with rfl | ⟨i0, w0, g0, x0, z1, z2, z3, z4, z5, z6⟩
  · exact ⟨a, h1, _, e1, e2, hU⟩
  have ky : ∀ r, r < nr + 1 → updO dr nr none r ≠ none → r < nr ∧ r ≠ nr ∧ dr r ≠ none := by
    intro r x1 x2
    by_cases x3 : r = nr
    · subst x3
      exact absurd (updO_s _ _ _) x2
    · rw [updO_n _ _ x3] at x2
      exact ⟨by omega, x3, x2⟩
  have k6 := q2.2.2.2.2.2
  have hA7 : ∀ a ∈ ([38, 39, 40, 41, 42] : List Nat), a < 70 := by decide +kernel
  exact ⟨a, h1, h2, e1, e2, Inv.mk (w) (L) (bt) (nt) (nd) (nr + 1) (na) (tA) (dA) (updO rA nr (sz h)) (sA) (updO rT nr i0) (tl) (tw) (tg) (ls) (ms) (pa) (ds) (updO wy nr w0) (updO gr nr g0) (updO hd nr x0) (updO gn nr false) (sc) (updO dr nr none) (td) (sr) (dn) (cr) (cd) (wk) (as) (no) (⟨gg.1, by have := gg.2; omega⟩) ⟨⟨hS.e hz q2 (by decide +kernel), by omega⟩, (hT.e hz q2 (by decide +kernel) (by decide +kernel) (by decide +kernel)), (hC.e hz hT.lt q2 (by decide +kernel) (by decide +kernel) (fun i hi z => by have := hA7 _ z; have := (hC.1 i hi).1.2.1; omega)), (hD.e hz q2 (by decide +kernel) (by decide +kernel) (by decide +kernel)), (z4), (z5), (fun r x1 x2 => by obtain ⟨y1, y2, y3⟩ := ky r x1 x2; simp only [updO_n _ _ y2]; exact r1 r y1 y3), (fun r x1 x2 => by obtain ⟨y1, y2, y3⟩ := ky r x1 x2; simp only [updO_n _ _ y2]; exact r2 r y1 y3), (z6), (fun r x1 x2 => r4 r (ky r x1 x2).1 (ky r x1 x2).2.2)⟩ (VKept.z z2) ⟨s1.e hz q2 (by decide +kernel) (by decide +kernel), s2.e hz q2 (by decide +kernel) (by decide +kernel), q1, s4.e hz q2 (by decide +kernel), s5.e hz q2 (by decide +kernel) (by decide +kernel), s6.e hz q2 (by decide +kernel) (by decide +kernel) (by decide +kernel), s7.e hz q2 (by decide +kernel), s8.e hz q2 (by decide +kernel)⟩ (tp.e hz q2 (by decide +kernel) (by decide +kernel) (by decide +kernel) (by decide +kernel)) (cg.e hz q2 (by decide +kernel) (by decide +kernel))⟩
theorem i_thing {N : Nat} (hN : 100000000 ≤ N) {k : Nat} {h : Hs} (hI : Inv k h) (p1 p2 p3 p4 : Int32) : ∃ r h1 h2, fX11_thing N h 0 p1 p2 p3 p4 = some (r, h1) ∧ fX12_thing N h1 29 p1 p2 p3 p4 = some (r, h2) ∧ Inv (k + 1) h2 := by
  have hU := hI.up
  refine hI.el ?_
  intro w L bt nt nd nr na tA dA rA sA rT tl tw tg ls ms pa ds wy gr hd gn sc dr td sr dn cr cd wk as no gg vc vk sm tp cg
  obtain ⟨s1, s2, s3, s4, s5, s6, s7, s8⟩ := sm
  obtain ⟨⟨hS, hz⟩, hT, hC, hD, hO, hTi, r1, r2, r3, r4⟩ := id vc
  obtain ⟨a, h1, h2, e1, e2, q1, q2, q3, qc⟩ := t_thing (N := N) hN hS hz hT hC hO hTi s3 p1 p2 p3 p4
  rcases qc with rfl | ⟨l0, x0, w0, lo, hi, g0, z1, z2, z3, z4, z5, z6, z7⟩
  · exact ⟨a, h1, _, e1, e2, hU⟩
  have ky : ∀ r, r < nr → rT r ≠ nt := fun r x1 => by have := (hO.2.1 r x1).2.2.2.1; omega
  have k6 := q2.2.2.2.2.2
  exact ⟨a, h1, h2, e1, e2, Inv.mk (w) (L) (bt) (nt + 1) (nd) (nr) (na) (updO tA nt (sz h)) (dA) (rA) (updO sA nt (sz h + 1)) (rT) (updO tl nt l0) (updO tw nt w0) (updO tg nt g0) (updO ls nt lo) (updO ms nt hi) (updO pa nt x0) (ds) (wy) (gr) (hd) (gn) (updO sc nt (fun _ => -1)) (dr) (updO td nt none) (sr) (dn) (cr) (cd) (wk) (as) (no) (⟨gg.1, by have := gg.2; omega⟩) ⟨⟨hS.e hz q2 (by decide +kernel), by omega⟩, (z4), (z5), (hD.e hz q2 (by decide +kernel) (by decide +kernel) (by decide +kernel)), (z6), (z7), (fun r x1 x2 => by simp only [updO_n _ _ (ky r x1)]; exact r1 r x1 x2), (fun r x1 x2 => by simp only [updO_n _ _ (ky r x1)]; exact r2 r x1 x2), (fun r x1 x2 => by rw [q2.2.1 44 (by decide +kernel) (by omega)]; exact r3 r x1 x2), (r4)⟩ (VKept.z z2) ⟨s1.e hz q2 (by decide +kernel) (by decide +kernel), s2.e hz q2 (by decide +kernel) (by decide +kernel), q1, s4.e hz q2 (by decide +kernel), s5.e hz q2 (by decide +kernel) (by decide +kernel), s6.e hz q2 (by decide +kernel) (by decide +kernel) (by decide +kernel), s7.e hz q2 (by decide +kernel), s8.e hz q2 (by decide +kernel)⟩ (tp.e hz q2 (by decide +kernel) (by decide +kernel) (by decide +kernel) (by decide +kernel)) ((cg.e hz q2 (by decide +kernel) (by decide +kernel)).up (by omega))⟩
theorem i_turn {N : Nat} (hN : 100000000 ≤ N) {k : Nat} {h : Hs} (hk : k ≤ 1000) (hI : Inv k h) (p1 : Int32) : ∃ r h1 h2, fX11_turn N h 0 p1 = some (r, h1) ∧ fX12_turn N h1 29 p1 = some (r, h2) ∧ Inv (k + 1) h2 := by
  have hU := hI.up
  refine hI.el ?_
  intro w L bt nt nd nr na tA dA rA sA rT tl tw tg ls ms pa ds wy gr hd gn sc dr td sr dn cr cd wk as no gg vc vk sm tp cg
  obtain ⟨s1, s2, s3, s4, s5, s6, s7, s8⟩ := sm
  obtain ⟨⟨hS, hz⟩, hT, hC, hD, hO, hTi, r1, r2, r3, r4⟩ := id vc
  have hdn : ∀ r, r < nr → dr r ≠ none → -1000000000 ≤ dn r ∧ dn r ≤ 1000000000 := fun r x1 x2 => by have := r4 r x1 x2; omega
  have hsr : ∀ r, r < nr → dr r ≠ none → 0 ≤ sr r ∧ sr r ≤ 100 := fun r x1 x2 => by have b1 := r1 r x1 x2; have b2' := (hT.2.1 (rT r) (hO.2.1 r x1).2.2.2.1).2.2.2; omega
  obtain ⟨a, h1, h2, pa', dn', e1, e2, q1, q4, q5, q6, q7, q0, q8, q2, q3⟩ := t_turn (N := N) hN hS hz hT hD hO hTi s1 s2 s8 s7 s3 hdn hsr r2 p1
  have k6 := q2.2.2.2.2.2
  have hA7 : ∀ a ∈ ([33, 43] : List Nat), a < 70 := by decide +kernel
  exact ⟨a, h1, h2, e1, e2, Inv.mk (w + 9999) (L) (bt) (nt) (nd) (nr) (na) (tA) (dA) (rA) (sA) (rT) (tl) (tw) (tg) (ls) (ms) (pa') (ds) (wy) (gr) (hd) (gn) (sc) (dr) (td) (sr) (dn') (cr) (cd) (wk) (as) (no) (⟨by omega, by have := gg.2; omega⟩) ⟨⟨hS.e hz q2 (by decide +kernel), by omega⟩, (q1), (hC.e hz hT.lt q2 (by decide +kernel) (by decide +kernel) (fun i hi z => by have := hA7 _ z; have := (hC.1 i hi).1.2.1; omega)), (hD.e hz q2 (by decide +kernel) (by decide +kernel) (by decide +kernel)), (hO.e hz q2 (by decide +kernel) (by decide +kernel) (by decide +kernel) (by decide +kernel)), (q4), (r1), (q5), (fun r x1 x2 => by rw [q2.2.1 44 (by decide +kernel) (by omega)]; exact r3 r x1 x2), (fun r x1 x2 => by have b1 := r4 r x1 x2; have b2' := q6 r x1 x2; omega)⟩ (vk.n q0 (show w ≤ w + 9999 by omega) hz hT.lt hO.lt q2 (by decide +kernel) (by decide +kernel) (by decide +kernel)) ⟨s1.e hz q2 (by decide +kernel) (by decide +kernel), s2.e hz q2 (by decide +kernel) (by decide +kernel), q0.can, s4.e hz q2 (by decide +kernel), s5.e hz q2 (by decide +kernel) (by decide +kernel), s6.e hz q2 (by decide +kernel) (by decide +kernel) (by decide +kernel), q7, q8⟩ (tp.e hz q2 (by decide +kernel) (by decide +kernel) (by decide +kernel) (by decide +kernel)) (cg.e hz q2 (by decide +kernel) (by decide +kernel))⟩
theorem i_free {N : Nat} (hN : 100000000 ≤ N) {k : Nat} {h : Hs} (hk : k ≤ 1000) (hI : Inv k h) (p1 : Int32) : ∃ r h1 h2, fX11_free N h 0 p1 = some (r, h1) ∧ fX12_free N h1 29 p1 = some (r, h2) ∧ Inv (k + 1) h2 := by
  have hU := hI.up
  refine hI.el ?_
  intro w L bt nt nd nr na tA dA rA sA rT tl tw tg ls ms pa ds wy gr hd gn sc dr td sr dn cr cd wk as no gg vc vk sm tp cg
  obtain ⟨s1, s2, s3, s4, s5, s6, s7, s8⟩ := sm
  obtain ⟨⟨hS, hz⟩, hT, hC, hD, hO, hTi, r1, r2, r3, r4⟩ := id vc
  have hdn : ∀ r, r < nr → dr r ≠ none → -1000000000 ≤ dn r ∧ dn r ≤ 1000000000 := fun r x1 x2 => by have := r4 r x1 x2; omega
  have hsr : ∀ r, r < nr → dr r ≠ none → 0 ≤ sr r ∧ sr r ≤ 100 := fun r x1 x2 => by have b1 := r1 r x1 x2; have b2' := (hT.2.1 (rT r) (hO.2.1 r x1).2.2.2.1).2.2.2; omega
  obtain ⟨a, h1, h2, e1, e2, q1, q4, q7, q8, q2, q3⟩ := t_free (N := N) hN hS hz hT hD hO hTi s1 s2 s8 s7 hdn hsr r2 p1
  have k6 := q2.2.2.2.2.2
  have hA7 : ∀ a ∈ ([33, 43] : List Nat), a < 70 := by decide +kernel
  exact ⟨a, h1, h2, e1, e2, Inv.mk (w) (L) (bt) (nt) (nd) (nr) (na) (tA) (dA) (rA) (sA) (rT) (tl) (tw) (tg) (ls) (ms) (pa) (ds) (wy) (gr) (hd) (gn) (sc) (dr) (td) (sr) (dn) (cr) (cd) (wk) (as) (no) (⟨gg.1, by have := gg.2; omega⟩) ⟨⟨hS.e hz q2 (by decide +kernel), by omega⟩, (q1), (hC.e hz hT.lt q2 (by decide +kernel) (by decide +kernel) (fun i hi z => by have := hA7 _ z; have := (hC.1 i hi).1.2.1; omega)), (hD.e hz q2 (by decide +kernel) (by decide +kernel) (by decide +kernel)), (hO.e hz q2 (by decide +kernel) (by decide +kernel) (by decide +kernel) (by decide +kernel)), (q4), (r1), (r2), (fun r x1 x2 => by rw [q2.2.1 44 (by decide +kernel) (by omega)]; exact r3 r x1 x2), (r4)⟩ (vk.e hz hT.lt hO.lt q2 (by decide +kernel) (by decide +kernel) (by decide +kernel)) ⟨s1.e hz q2 (by decide +kernel) (by decide +kernel), s2.e hz q2 (by decide +kernel) (by decide +kernel), s3.e hz q2 (by decide +kernel) (by decide +kernel), s4.e hz q2 (by decide +kernel), s5.e hz q2 (by decide +kernel) (by decide +kernel), s6.e hz q2 (by decide +kernel) (by decide +kernel) (by decide +kernel), q7, q8⟩ (tp.e hz q2 (by decide +kernel) (by decide +kernel) (by decide +kernel) (by decide +kernel)) (cg.e hz q2 (by decide +kernel) (by decide +kernel))⟩
theorem i_snap {N : Nat} (hN : 100000000 ≤ N) {k : Nat} {h : Hs} (hk : k ≤ 1000) (hI : Inv k h) (p1 : Int32) : ∃ r h1 h2, fX11_snap N h 0 p1 = some (r, h1) ∧ fX12_snap N h1 29 p1 = some (r, h2) ∧ Inv (k + 1) h2 := by
  have hU := hI.up
  refine hI.el ?_
  intro w L bt nt nd nr na tA dA rA sA rT tl tw tg ls ms pa ds wy gr hd gn sc dr td sr dn cr cd wk as no gg vc vk sm tp cg
  obtain ⟨s1, s2, s3, s4, s5, s6, s7, s8⟩ := sm
  obtain ⟨⟨hS, hz⟩, hT, hC, hD, hO, hTi, r1, r2, r3, r4⟩ := id vc
  have hdn : ∀ r, r < nr → dr r ≠ none → -1000000000 ≤ dn r ∧ dn r ≤ 1000000000 := fun r x1 x2 => by have := r4 r x1 x2; omega
  obtain ⟨cc, cp, hcp⟩ := id s4
  obtain ⟨a, h1, h2, pa', gn', dr', td', e1, e2, q1, q4, q5, q0, q6, q7, q2, q3⟩ := t_snap (N := N) (ds := ds) (cc := cc) (cp := cp) hN hS hz hT hD.1.2.2 hO hTi hcp s3 r3 hdn r1 r2 p1
  have k6 := q2.2.2.2.2.2
  have hA7 : ∀ a ∈ ([33, 42, 44] : List Nat), a < 70 := by decide +kernel
  exact ⟨a, h1, h2, e1, e2, Inv.mk (w) (L) (bt) (nt) (nd) (nr) (na) (tA) (dA) (rA) (sA) (rT) (tl) (tw) (tg) (ls) (ms) (pa') (ds) (wy) (gr) (hd) (gn') (sc) (dr') (td') (sr) (dn) (cr) (cd) (wk) (as) (no) (⟨gg.1, by have := gg.2; omega⟩) ⟨⟨hS.e hz q2 (by decide +kernel), by omega⟩, (q1), (hC.e hz hT.lt q2 (by decide +kernel) (by decide +kernel) (fun i hi z => by have := hA7 _ z; have := (hC.1 i hi).1.2.1; omega)), (hD.e hz q2 (by decide +kernel) (by decide +kernel) (by decide +kernel)), (q4), (q5), (fun r x1 x2 => r1 r x1 (q7 r x1 x2).1), (fun r x1 x2 => (q7 r x1 x2).2.trans (r2 r x1 (q7 r x1 x2).1)), (q6), (fun r x1 x2 => r4 r x1 (q7 r x1 x2).1)⟩ (vk.n q0 (Int.le_refl w) hz hT.lt hO.lt q2 (by decide +kernel) (by decide +kernel) (by decide +kernel)) ⟨s1.e hz q2 (by decide +kernel) (by decide +kernel), s2.e hz q2 (by decide +kernel) (by decide +kernel), q0.can, s4.e hz q2 (by decide +kernel), s5.e hz q2 (by decide +kernel) (by decide +kernel), s6.e hz q2 (by decide +kernel) (by decide +kernel) (by decide +kernel), s7.e hz q2 (by decide +kernel), s8.e hz q2 (by decide +kernel)⟩ (tp.e hz q2 (by decide +kernel) (by decide +kernel) (by decide +kernel) (by decide +kernel)) (cg.e hz q2 (by decide +kernel) (by decide +kernel))⟩
theorem i_scene {N : Nat} (hN : 100000000 ≤ N) {k : Nat} {h : Hs} (hI : Inv k h) (p1 p2 p3 : Int32) : ∃ r h1 h2, fX11_scene N h 0 p1 p2 p3 = some (r, h1) ∧ fX12_scene N h1 29 p1 p2 p3 = some (r, h2) ∧ Inv (k + 1) h2 := by
  have hU := hI.up
  refine hI.el ?_
  intro w L bt nt nd nr na tA dA rA sA rT tl tw tg ls ms pa ds wy gr hd gn sc dr td sr dn cr cd wk as no gg vc vk sm tp cg
  obtain ⟨s1, s2, s3, s4, s5, s6, s7, s8⟩ := sm
  obtain ⟨⟨hS, hz⟩, hT, hC, hD, hO, hTi, r1, r2, r3, r4⟩ := id vc
  obtain ⟨a, h1, h2, A, sc', e1, e2, q1, qk, qA⟩ := t_scene (N := N) hS hz hT hC p1 p2 p3
  have q2 : Ke [] A [] [] h h2 := qk.e
  have nL : ∀ X : List Nat, (∀ a ∈ X, a ≠ 48 ∧ a < 70) → ∀ a ∈ X, a ∉ A := fun X hX a ha z => by have b1 := qA a z; have b2' := hX a ha; omega
  have nA : ∀ a : Nat, (a ≠ 48 ∧ a < 70) → a ∉ A := fun a ha z => by have b1 := qA a z; omega
  have k6 := q2.2.2.2.2.2
  exact ⟨a, h1, h2, e1, e2, Inv.mk (w) (L) (bt) (nt) (nd) (nr) (na) (tA) (dA) (rA) (sA) (rT) (tl) (tw) (tg) (ls) (ms) (pa) (ds) (wy) (gr) (hd) (gn) (sc') (dr) (td) (sr) (dn) (cr) (cd) (wk) (as) (no) (⟨gg.1, by have := gg.2; omega⟩) ⟨⟨hS.e hz q2 (by decide +kernel), by omega⟩, (hT.e hz q2 (by decide +kernel) (nL _ (by decide +kernel)) (by decide +kernel)), (q1), (hD.e hz q2 (by decide +kernel) (nA _ (by decide +kernel)) (by decide +kernel)), (hO.e hz q2 (by decide +kernel) (nL _ (by decide +kernel)) (by decide +kernel) (by decide +kernel)), (hTi.e hz hT.lt hO.lt q2 (by decide +kernel) (nL _ (by decide +kernel)) (by decide +kernel)), (r1), (r2), (fun r x1 x2 => by rw [q2.2.1 44 (nA 44 (by decide +kernel)) (by omega)]; exact r3 r x1 x2), (r4)⟩ (vk.e hz hT.lt hO.lt q2 (by decide +kernel) (nL _ (by decide +kernel)) (by decide +kernel)) ⟨s1.e hz q2 (nA _ (by decide +kernel)) (nA _ (by decide +kernel)), s2.e hz q2 (by decide +kernel) (by decide +kernel), s3.e hz q2 (by decide +kernel) (by decide +kernel), s4.e hz q2 (nL _ (by decide +kernel)), s5.e hz q2 (by decide +kernel) (nL _ (by decide +kernel)), s6.e hz q2 (by decide +kernel) (nL _ (by decide +kernel)) (by decide +kernel), s7.e hz q2 (by decide +kernel), s8.e hz q2 (by decide +kernel)⟩ (tp.e hz q2 (by decide +kernel) (by decide +kernel) (nA _ (by decide +kernel)) (nA _ (by decide +kernel))) (cg.e hz q2 (by decide +kernel) (nL _ (by decide +kernel)))⟩
theorem i_play {N : Nat} (hN : 100000000 ≤ N) {k : Nat} {h : Hs} (hk : k ≤ 1000) (hI : Inv k h) : ∃ r h1 h2, fX11_play N h 0 = some (r, h1) ∧ fX12_play N h1 29 = some (r, h2) ∧ Inv (k + 1) h2 := by
  have hU := hI.up
  refine hI.el ?_
  intro w L bt nt nd nr na tA dA rA sA rT tl tw tg ls ms pa ds wy gr hd gn sc dr td sr dn cr cd wk as no gg vc vk sm tp cg
  obtain ⟨s1, s2, s3, s4, s5, s6, s7, s8⟩ := sm
  obtain ⟨⟨hS, hz⟩, hT, hC, hD, hO, hTi, r1, r2, r3, r4⟩ := id vc
  have hdn : ∀ r, r < nr → dr r ≠ none → -1000000000 ≤ dn r ∧ dn r ≤ 1000000000 := fun r x1 x2 => by have := r4 r x1 x2; omega
  obtain ⟨cw, hW⟩ := id s1
  obtain ⟨a, h1, h2, e1, e2, q1, q3, qc⟩ := t_play (N := N) (B := 20 * w) hN hS hz hT hD hO hTi hW s2 s8 s7 tp (by omega) (by omega) r4 r1 r2
  rcases qc with q2 | ⟨n, pa', dr', td', sr', dn', cw', z1, z2, z3, z4, z5, z6, z7, z8, z9, ⟨y1, y2⟩, y3, y4, y5, y6, q2⟩
  · skip
    have k6 := q2.2.2.2.2.2
    have hA7 : ∀ a ∈ (PlA : List Nat), a < 70 := by decide +kernel
    exact ⟨a, h1, h2, e1, e2, Inv.mk (w) (0) (bt) (nt) (nd) (nr) (na) (tA) (dA) (rA) (sA) (rT) (tl) (tw) (tg) (ls) (ms) (pa) (ds) (wy) (gr) (hd) (gn) (sc) (dr) (td) (sr) (dn) (cr) (cd) (wk) (as) (no) (⟨gg.1, by have := gg.2; omega⟩) ⟨⟨hS.e hz q2 (by decide +kernel), by omega⟩, (hT.e hz q2 (by decide +kernel) (by decide +kernel) (by decide +kernel)), (hC.e hz hT.lt q2 (by decide +kernel) (by decide +kernel) (fun i hi z => by have := hA7 _ z; have := (hC.1 i hi).1.2.1; omega)), (hD.e hz q2 (by decide +kernel) (by decide +kernel) (by decide +kernel)), (hO.e hz q2 (by decide +kernel) (by decide +kernel) (by decide +kernel) (by decide +kernel)), (hTi.e hz hT.lt hO.lt q2 (by decide +kernel) (by decide +kernel) (by decide +kernel)), (r1), (r2), (fun r x1 x2 => by rw [q2.2.1 44 (by decide +kernel) (by omega)]; exact r3 r x1 x2), (r4)⟩ (vk.e hz hT.lt hO.lt q2 (by decide +kernel) (by decide +kernel) (by decide +kernel)) ⟨s1.e hz q2 (by decide +kernel) (by decide +kernel), s2.e hz q2 (by decide +kernel) (by decide +kernel), s3.e hz q2 (by decide +kernel) (by decide +kernel), s4.e hz q2 (by decide +kernel), s5.e hz q2 (by decide +kernel) (by decide +kernel), s6.e hz q2 (by decide +kernel) (by decide +kernel) (by decide +kernel), s7.e hz q2 (by decide +kernel), s8.e hz q2 (by decide +kernel)⟩ (q1) (cg.e hz q2 (by decide +kernel) (by decide +kernel))⟩
  · skip
    have k6 := q2.2.2.2.2.2
    have hA7 : ∀ a ∈ (PlB : List Nat), a < 70 := by decide +kernel
    exact ⟨a, h1, h2, e1, e2, Inv.mk (w + 9999 * n) (0) (bt) (nt) (nd) (nr) (na) (tA) (dA) (rA) (sA) (rT) (tl) (tw) (tg) (ls) (ms) (pa') (ds) (wy) (gr) (hd) (gn) (sc) (dr') (td') (sr') (dn') (cr) (cd) (wk) (as) (no) (⟨by omega, by have := gg.2; omega⟩) ⟨⟨hS.e hz q2 (by decide +kernel), by omega⟩, (z2), (hC.e hz hT.lt q2 (by decide +kernel) (by decide +kernel) (fun i hi z => by have := hA7 _ z; have := (hC.1 i hi).1.2.1; omega)), (hD.e hz q2 (by decide +kernel) (by decide +kernel) (by decide +kernel)), (hO.e hz q2 (by decide +kernel) (by decide +kernel) (by decide +kernel) (by decide +kernel)), (z3), (z5), (z6), (fun r x1 x2 => by rw [q2.2.1 44 (by decide +kernel) (by omega)]; exact r3 r x1 x2), (fun r x1 x2 => by have b1 := z7 r x1 x2; omega)⟩ ((fun _ => ⟨pa, dr, td, sr, dn, cw, y3, y4, y5, y6, fun r x1 x2 => by have b1 := r4 r x1 x2; omega⟩)) ⟨⟨cw', z4⟩, s2.e hz q2 (by decide +kernel) (by decide +kernel), ⟨1, y1, y2, Or.inr rfl⟩, s4.e hz q2 (by decide +kernel), s5.e hz q2 (by decide +kernel) (by decide +kernel), s6.e hz q2 (by decide +kernel) (by decide +kernel) (by decide +kernel), z8, z9⟩ (q1) (cg.e hz q2 (by decide +kernel) (by decide +kernel))⟩
/-! ===== Inv of the fresh objects ===== -/
theorem I_F1 : Inv 0 hF1 := ⟨0, 0, zI, 0, 0, 0, 0, zN, zN, zN, zN, zN, zI, zI, zI, zI, zI, zI, zI, zI, zI, zI, fun _ => false, fun _ _ => 0, zO, zO, zI, zI, zI, zI, zI, false, false, ⟨by omega, by omega⟩, ⟨⟨Sk_F1, F_z⟩, FZ_F1.th, F_sc, FZ_F1.dr, FZ_F1.ro, F_ti, fun r hr => absurd hr (Nat.not_lt_zero r), fun r hr => absurd hr (Nat.not_lt_zero r), F_gone, fun r hr => absurd hr (Nat.not_lt_zero r)⟩, VKept.z (by decide +kernel), ⟨F_cnt, F_bnd, F_can, F_cat, F_cand, F_stk, F_stp, ⟨F_sh.1.trans F_sh.2.1.symm, F_sh.2.2.1.trans F_sh.2.2.2.symm⟩⟩, F_tape, F_chg⟩
