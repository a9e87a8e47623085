/-! ===== the calls that touch only small things keep Inv ===== -/
theorem i_ofThing {N : Nat} (hN : 100000000 ≤ N) {k : Nat} {h : Hs} (hI : Inv k h) (p1 p2 : Int32) : ∃ r h1 h2, fX11_ofThing N h 0 p1 p2 = some (r, h1) ∧ fX12_ofThing N h1 29 p1 p2 = some (r, h2) ∧ Inv (k + 1) h2 := by
  have hU := hI.up
  refine hU.el ?_
  intro w L bt nt nd nr na tA dA rA sA rT tl tw tg ls ms pa ds wy gr hd gn sc dr td sr dn cr cd wk as no gg vc vk sm tp cg
  obtain ⟨s1, s2, s3, s4, s5, s6, s7, s8⟩ := sm
  obtain ⟨⟨hS, hz⟩, hT, hC, hD, hO, hTi, r1, r2, r3, r4⟩ := id vc
  obtain ⟨a, e1, e2⟩ := t_ofThing (N := N) hN hS hT hD hO hTi p1 p2
  exact ⟨a, h, h, e1, e2, hU⟩
theorem i_on {N : Nat} (hN : 100000000 ≤ N) {k : Nat} {h : Hs} (hI : Inv k h) (p1 : Int32) : ∃ r h1 h2, fX11_on N h 0 p1 = some (r, h1) ∧ fX12_on N h1 29 p1 = some (r, h2) ∧ Inv (k + 1) h2 := by
  have hU := hI.up
  refine hU.el ?_
  intro w L bt nt nd nr na tA dA rA sA rT tl tw tg ls ms pa ds wy gr hd gn sc dr td sr dn cr cd wk as no gg vc vk sm tp cg
  obtain ⟨s1, s2, s3, s4, s5, s6, s7, s8⟩ := sm
  obtain ⟨⟨hS, hz⟩, hT, hC, hD, hO, hTi, r1, r2, r3, r4⟩ := id vc
  obtain ⟨a, e1, e2⟩ := t_on (N := N) hN hS hT p1
  exact ⟨a, h, h, e1, e2, hU⟩
theorem i_ofRope {N : Nat} (hN : 100000000 ≤ N) {k : Nat} {h : Hs} (hI : Inv k h) (p1 p2 : Int32) : ∃ r h1 h2, fX11_ofRope N h 0 p1 p2 = some (r, h1) ∧ fX12_ofRope N h1 29 p1 p2 = some (r, h2) ∧ Inv (k + 1) h2 := by
  have hU := hI.up
  refine hU.el ?_
  intro w L bt nt nd nr na tA dA rA sA rT tl tw tg ls ms pa ds wy gr hd gn sc dr td sr dn cr cd wk as no gg vc vk sm tp cg
  obtain ⟨s1, s2, s3, s4, s5, s6, s7, s8⟩ := sm
  obtain ⟨⟨hS, hz⟩, hT, hC, hD, hO, hTi, r1, r2, r3, r4⟩ := id vc
  obtain ⟨a, e1, e2⟩ := t_ofRope (N := N) hS hT hD hO hTi p1 p2
  exact ⟨a, h, h, e1, e2, hU⟩
theorem i_stopped {N : Nat} (hN : 100000000 ≤ N) {k : Nat} {h : Hs} (hI : Inv k h) (p1 : Int32) : ∃ r h1 h2, fX11_stopped N h 0 p1 = some (r, h1) ∧ fX12_stopped N h1 29 p1 = some (r, h2) ∧ Inv (k + 1) h2 := by
  have hU := hI.up
  refine hU.el ?_
  intro w L bt nt nd nr na tA dA rA sA rT tl tw tg ls ms pa ds wy gr hd gn sc dr td sr dn cr cd wk as no gg vc vk sm tp cg
  obtain ⟨s1, s2, s3, s4, s5, s6, s7, s8⟩ := sm
  obtain ⟨⟨hS, hz⟩, hT, hC, hD, hO, hTi, r1, r2, r3, r4⟩ := id vc
  obtain ⟨a, e1, e2⟩ := t_stopped (N := N) hS s7 p1
  exact ⟨a, h, h, e1, e2, hU⟩
theorem i_told {N : Nat} (hN : 100000000 ≤ N) {k : Nat} {h : Hs} (hI : Inv k h) (p1 p2 : Int32) : ∃ r h1 h2, fX11_told N h 0 p1 p2 = some (r, h1) ∧ fX12_told N h1 29 p1 p2 = some (r, h2) ∧ Inv (k + 1) h2 := by
  have hU := hI.up
  refine hU.el ?_
  intro w L bt nt nd nr na tA dA rA sA rT tl tw tg ls ms pa ds wy gr hd gn sc dr td sr dn cr cd wk as no gg vc vk sm tp cg
  obtain ⟨s1, s2, s3, s4, s5, s6, s7, s8⟩ := sm
  obtain ⟨⟨hS, hz⟩, hT, hC, hD, hO, hTi, r1, r2, r3, r4⟩ := id vc
  obtain ⟨a, e1, e2⟩ := t_told (N := N) hS hT cg p1 p2
  exact ⟨a, h, h, e1, e2, hU⟩
theorem i_work {N : Nat} (hN : 100000000 ≤ N) {k : Nat} {h : Hs} (hI : Inv k h) (p1 : Int32) : ∃ r h1 h2, fX11_work N h 0 p1 = some (r, h1) ∧ fX12_work N h1 29 p1 = some (r, h2) ∧ Inv (k + 1) h2 := by
  have hU := hI.up
  refine hU.el ?_
  intro w L bt nt nd nr na tA dA rA sA rT tl tw tg ls ms pa ds wy gr hd gn sc dr td sr dn cr cd wk as no gg vc vk sm tp cg
  obtain ⟨s1, s2, s3, s4, s5, s6, s7, s8⟩ := sm
  obtain ⟨⟨hS, hz⟩, hT, hC, hD, hO, hTi, r1, r2, r3, r4⟩ := id vc
  obtain ⟨a, e1, e2⟩ := t_work (N := N) hN hS hT.1.2.2 cg p1
  exact ⟨a, h, h, e1, e2, hU⟩
theorem i_given {N : Nat} (hN : 100000000 ≤ N) {k : Nat} {h : Hs} (hI : Inv k h) (p1 : Int32) : ∃ r h1 h2, fX11_given N h 0 p1 = some (r, h1) ∧ fX12_given N h1 29 p1 = some (r, h2) ∧ Inv (k + 1) h2 := by
  have hU := hI.up
  refine hU.el ?_
  intro w L bt nt nd nr na tA dA rA sA rT tl tw tg ls ms pa ds wy gr hd gn sc dr td sr dn cr cd wk as no gg vc vk sm tp cg
  obtain ⟨s1, s2, s3, s4, s5, s6, s7, s8⟩ := sm
  obtain ⟨⟨hS, hz⟩, hT, hC, hD, hO, hTi, r1, r2, r3, r4⟩ := id vc
  obtain ⟨a, e1, e2⟩ := t_given (N := N) hS s6 p1
  exact ⟨a, h, h, e1, e2, hU⟩
theorem i_count {N : Nat} (hN : 100000000 ≤ N) {k : Nat} {h : Hs} (hI : Inv k h) (p1 : Int32) : ∃ r h1 h2, fX11_count N h 0 p1 = some (r, h1) ∧ fX12_count N h1 29 p1 = some (r, h2) ∧ Inv (k + 1) h2 := by
  have hU := hI.up
  refine hU.el ?_
  intro w L bt nt nd nr na tA dA rA sA rT tl tw tg ls ms pa ds wy gr hd gn sc dr td sr dn cr cd wk as no gg vc vk sm tp cg
  obtain ⟨s1, s2, s3, s4, s5, s6, s7, s8⟩ := sm
  obtain ⟨⟨hS, hz⟩, hT, hC, hD, hO, hTi, r1, r2, r3, r4⟩ := id vc
  obtain ⟨a, e1, e2⟩ := t_count (N := N) hN hS hT hD hO hTi s5 s6 tp s8.1 rfl s8.2 rfl p1
  exact ⟨a, h, h, e1, e2, hU⟩
theorem i_candle {N : Nat} (hN : 100000000 ≤ N) {k : Nat} {h : Hs} (hI : Inv k h) (p1 : Int32) : ∃ r h1 h2, fX11_candle N h 0 p1 = some (r, h1) ∧ fX12_candle N h1 29 p1 = some (r, h2) ∧ Inv (k + 1) h2 := by
  have hU := hI.up
  refine hU.el ?_
  intro w L bt nt nd nr na tA dA rA sA rT tl tw tg ls ms pa ds wy gr hd gn sc dr td sr dn cr cd wk as no gg vc vk sm tp cg
  obtain ⟨s1, s2, s3, s4, s5, s6, s7, s8⟩ := sm
  obtain ⟨⟨hS, hz⟩, hT, hC, hD, hO, hTi, r1, r2, r3, r4⟩ := id vc
  obtain ⟨a, h1, h2, e1, e2, q1, qk⟩ := t_candle (N := N) hS s5 p1
  have q2 : Ke FCand ACand [] [] h h2 := qk.e
  refine ⟨a, h1, h2, e1, e2, Inv.mk (w) (L) (bt) (nt) (nd) (nr) (na) (tA) (dA) (rA) (sA) (rT) (tl) (tw) (tg) (ls) (ms) (pa) (ds) (wy) (gr) (hd) (gn) (sc) (dr) (td) (sr) (dn) (cr) (cd) (wk) (as) (no) gg (vc.e q2 (hS.e hz q2 (by decide +kernel)) (by decide +kernel) (by decide +kernel) (by decide +kernel) (by decide +kernel) (by decide +kernel)) (vk.e hz vc.2.1.lt vc.2.2.2.2.1.lt q2 (by decide +kernel) (by decide +kernel) (by decide +kernel)) ⟨s1.e hz q2 (by decide +kernel) (by decide +kernel), s2.e hz q2 (by decide +kernel) (by decide +kernel), s3.e hz q2 (by decide +kernel) (by decide +kernel), s4.e hz q2 (by decide +kernel), q1, s6.e hz q2 (by decide +kernel) (by decide +kernel) (by decide +kernel), s7.e hz q2 (by decide +kernel), s8.e hz q2 (by decide +kernel)⟩ (tp.e hz q2 (by decide +kernel) (by decide +kernel) (by decide +kernel) (by decide +kernel)) (cg.e hz q2 (by decide +kernel) (by decide +kernel))⟩
theorem i_minutes {N : Nat} (hN : 100000000 ≤ N) {k : Nat} {h : Hs} (hI : Inv k h) (p1 : Int32) : ∃ r h1 h2, fX11_minutes N h 0 p1 = some (r, h1) ∧ fX12_minutes N h1 29 p1 = some (r, h2) ∧ Inv (k + 1) h2 := by
  have hU := hI.up
  refine hU.el ?_
  intro w L bt nt nd nr na tA dA rA sA rT tl tw tg ls ms pa ds wy gr hd gn sc dr td sr dn cr cd wk as no gg vc vk sm tp cg
  obtain ⟨s1, s2, s3, s4, s5, s6, s7, s8⟩ := sm
  obtain ⟨⟨hS, hz⟩, hT, hC, hD, hO, hTi, r1, r2, r3, r4⟩ := id vc
  obtain ⟨a, h1, h2, e1, e2, q1, qk⟩ := t_minutes (N := N) hS s5 p1
  have q2 : Ke FCand ACand [] [] h h2 := qk.e
  refine ⟨a, h1, h2, e1, e2, Inv.mk (w) (L) (bt) (nt) (nd) (nr) (na) (tA) (dA) (rA) (sA) (rT) (tl) (tw) (tg) (ls) (ms) (pa) (ds) (wy) (gr) (hd) (gn) (sc) (dr) (td) (sr) (dn) (cr) (cd) (wk) (as) (no) gg (vc.e q2 (hS.e hz q2 (by decide +kernel)) (by decide +kernel) (by decide +kernel) (by decide +kernel) (by decide +kernel) (by decide +kernel)) (vk.e hz vc.2.1.lt vc.2.2.2.2.1.lt q2 (by decide +kernel) (by decide +kernel) (by decide +kernel)) ⟨s1.e hz q2 (by decide +kernel) (by decide +kernel), s2.e hz q2 (by decide +kernel) (by decide +kernel), s3.e hz q2 (by decide +kernel) (by decide +kernel), s4.e hz q2 (by decide +kernel), q1, s6.e hz q2 (by decide +kernel) (by decide +kernel) (by decide +kernel), s7.e hz q2 (by decide +kernel), s8.e hz q2 (by decide +kernel)⟩ (tp.e hz q2 (by decide +kernel) (by decide +kernel) (by decide +kernel) (by decide +kernel)) (cg.e hz q2 (by decide +kernel) (by decide +kernel))⟩
theorem i_trim {N : Nat} (hN : 100000000 ≤ N) {k : Nat} {h : Hs} (hI : Inv k h) (p1 : Int32) : ∃ r h1 h2, fX11_trim N h 0 p1 = some (r, h1) ∧ fX12_trim N h1 29 p1 = some (r, h2) ∧ Inv (k + 1) h2 := by
  have hU := hI.up
  refine hU.el ?_
  intro w L bt nt nd nr na tA dA rA sA rT tl tw tg ls ms pa ds wy gr hd gn sc dr td sr dn cr cd wk as no gg vc vk sm tp cg
  obtain ⟨s1, s2, s3, s4, s5, s6, s7, s8⟩ := sm
  obtain ⟨⟨hS, hz⟩, hT, hC, hD, hO, hTi, r1, r2, r3, r4⟩ := id vc
  obtain ⟨a, h1, h2, e1, e2, q1, qk⟩ := t_trim (N := N) hN hS s5 p1
  have q2 : Ke FCand ACand [] [] h h2 := qk.e
  refine ⟨a, h1, h2, e1, e2, Inv.mk (w) (L) (bt) (nt) (nd) (nr) (na) (tA) (dA) (rA) (sA) (rT) (tl) (tw) (tg) (ls) (ms) (pa) (ds) (wy) (gr) (hd) (gn) (sc) (dr) (td) (sr) (dn) (cr) (cd) (wk) (as) (no) gg (vc.e q2 (hS.e hz q2 (by decide +kernel)) (by decide +kernel) (by decide +kernel) (by decide +kernel) (by decide +kernel) (by decide +kernel)) (vk.e hz vc.2.1.lt vc.2.2.2.2.1.lt q2 (by decide +kernel) (by decide +kernel) (by decide +kernel)) ⟨s1.e hz q2 (by decide +kernel) (by decide +kernel), s2.e hz q2 (by decide +kernel) (by decide +kernel), s3.e hz q2 (by decide +kernel) (by decide +kernel), s4.e hz q2 (by decide +kernel), q1, s6.e hz q2 (by decide +kernel) (by decide +kernel) (by decide +kernel), s7.e hz q2 (by decide +kernel), s8.e hz q2 (by decide +kernel)⟩ (tp.e hz q2 (by decide +kernel) (by decide +kernel) (by decide +kernel) (by decide +kernel)) (cg.e hz q2 (by decide +kernel) (by decide +kernel))⟩
theorem i_light {N : Nat} (hN : 100000000 ≤ N) {k : Nat} {h : Hs} (hI : Inv k h) (p1 : Int32) : ∃ r h1 h2, fX11_light N h 0 p1 = some (r, h1) ∧ fX12_light N h1 29 p1 = some (r, h2) ∧ Inv (k + 1) h2 := by
  have hU := hI.up
  refine hU.el ?_
  intro w L bt nt nd nr na tA dA rA sA rT tl tw tg ls ms pa ds wy gr hd gn sc dr td sr dn cr cd wk as no gg vc vk sm tp cg
  obtain ⟨s1, s2, s3, s4, s5, s6, s7, s8⟩ := sm
  obtain ⟨⟨hS, hz⟩, hT, hC, hD, hO, hTi, r1, r2, r3, r4⟩ := id vc
  obtain ⟨a, h1, h2, e1, e2, q1, qk⟩ := t_light (N := N) hN hS s5 p1
  have q2 : Ke FCand ACand [] [] h h2 := qk.e
  refine ⟨a, h1, h2, e1, e2, Inv.mk (w) (L) (bt) (nt) (nd) (nr) (na) (tA) (dA) (rA) (sA) (rT) (tl) (tw) (tg) (ls) (ms) (pa) (ds) (wy) (gr) (hd) (gn) (sc) (dr) (td) (sr) (dn) (cr) (cd) (wk) (as) (no) gg (vc.e q2 (hS.e hz q2 (by decide +kernel)) (by decide +kernel) (by decide +kernel) (by decide +kernel) (by decide +kernel) (by decide +kernel)) (vk.e hz vc.2.1.lt vc.2.2.2.2.1.lt q2 (by decide +kernel) (by decide +kernel) (by decide +kernel)) ⟨s1.e hz q2 (by decide +kernel) (by decide +kernel), s2.e hz q2 (by decide +kernel) (by decide +kernel), s3.e hz q2 (by decide +kernel) (by decide +kernel), s4.e hz q2 (by decide +kernel), q1, s6.e hz q2 (by decide +kernel) (by decide +kernel) (by decide +kernel), s7.e hz q2 (by decide +kernel), s8.e hz q2 (by decide +kernel)⟩ (tp.e hz q2 (by decide +kernel) (by decide +kernel) (by decide +kernel) (by decide +kernel)) (cg.e hz q2 (by decide +kernel) (by decide +kernel))⟩
theorem i_flat {N : Nat} (hN : 100000000 ≤ N) {k : Nat} {h : Hs} (hI : Inv k h) (p1 p2 : Int32) : ∃ r h1 h2, fX11_flat N h 0 p1 p2 = some (r, h1) ∧ fX12_flat N h1 29 p1 p2 = some (r, h2) ∧ Inv (k + 1) h2 := by
  have hU := hI.up
  refine hU.el ?_
  intro w L bt nt nd nr na tA dA rA sA rT tl tw tg ls ms pa ds wy gr hd gn sc dr td sr dn cr cd wk as no gg vc vk sm tp cg
  obtain ⟨s1, s2, s3, s4, s5, s6, s7, s8⟩ := sm
  obtain ⟨⟨hS, hz⟩, hT, hC, hD, hO, hTi, r1, r2, r3, r4⟩ := id vc
  obtain ⟨a, h1, h2, e1, e2, q1, qk⟩ := t_flat (N := N) hS hz s6 p1 p2
  have q2 := qk
  refine ⟨a, h1, h2, e1, e2, Inv.mk (w) (L) (bt) (nt) (nd) (nr) (na) (tA) (dA) (rA) (sA) (rT) (tl) (tw) (tg) (ls) (ms) (pa) (ds) (wy) (gr) (hd) (gn) (sc) (dr) (td) (sr) (dn) (cr) (cd) (wk) (as) (no) gg (vc.e q2 (hS.e hz q2 (by decide +kernel)) (by decide +kernel) (by decide +kernel) (by decide +kernel) (by decide +kernel) (by decide +kernel)) (vk.e hz vc.2.1.lt vc.2.2.2.2.1.lt q2 (by decide +kernel) (by decide +kernel) (by decide +kernel)) ⟨s1.e hz q2 (by decide +kernel) (by decide +kernel), s2.e hz q2 (by decide +kernel) (by decide +kernel), s3.e hz q2 (by decide +kernel) (by decide +kernel), s4.e hz q2 (by decide +kernel), s5.e hz q2 (by decide +kernel) (by decide +kernel), q1, s7.e hz q2 (by decide +kernel), s8.e hz q2 (by decide +kernel)⟩ (tp.e hz q2 (by decide +kernel) (by decide +kernel) (by decide +kernel) (by decide +kernel)) (cg.e hz q2 (by decide +kernel) (by decide +kernel))⟩
theorem i_want {N : Nat} (hN : 100000000 ≤ N) {k : Nat} {h : Hs} (hI : Inv k h) (p1 p2 : Int32) : ∃ r h1 h2, fX11_want N h 0 p1 p2 = some (r, h1) ∧ fX12_want N h1 29 p1 p2 = some (r, h2) ∧ Inv (k + 1) h2 := by
  have hU := hI.up
  refine hU.el ?_
  intro w L bt nt nd nr na tA dA rA sA rT tl tw tg ls ms pa ds wy gr hd gn sc dr td sr dn cr cd wk as no gg vc vk sm tp cg
  obtain ⟨s1, s2, s3, s4, s5, s6, s7, s8⟩ := sm
  obtain ⟨⟨hS, hz⟩, hT, hC, hD, hO, hTi, r1, r2, r3, r4⟩ := id vc
  obtain ⟨a, h1, h2, e1, e2, q1, qk⟩ := t_want (N := N) hS hz s6 p1 p2
  have q2 := qk
  refine ⟨a, h1, h2, e1, e2, Inv.mk (w) (L) (bt) (nt) (nd) (nr) (na) (tA) (dA) (rA) (sA) (rT) (tl) (tw) (tg) (ls) (ms) (pa) (ds) (wy) (gr) (hd) (gn) (sc) (dr) (td) (sr) (dn) (cr) (cd) (wk) (as) (no) gg (vc.e q2 (hS.e hz q2 (by decide +kernel)) (by decide +kernel) (by decide +kernel) (by decide +kernel) (by decide +kernel) (by decide +kernel)) (vk.e hz vc.2.1.lt vc.2.2.2.2.1.lt q2 (by decide +kernel) (by decide +kernel) (by decide +kernel)) ⟨s1.e hz q2 (by decide +kernel) (by decide +kernel), s2.e hz q2 (by decide +kernel) (by decide +kernel), s3.e hz q2 (by decide +kernel) (by decide +kernel), s4.e hz q2 (by decide +kernel), s5.e hz q2 (by decide +kernel) (by decide +kernel), q1, s7.e hz q2 (by decide +kernel), s8.e hz q2 (by decide +kernel)⟩ (tp.e hz q2 (by decide +kernel) (by decide +kernel) (by decide +kernel) (by decide +kernel)) (cg.e hz q2 (by decide +kernel) (by decide +kernel))⟩
theorem i_bound {N : Nat} (hN : 100000000 ≤ N) {k : Nat} {h : Hs} (hI : Inv k h) (p1 : Int32) : ∃ r h1 h2, fX11_bound N h 0 p1 = some (r, h1) ∧ fX12_bound N h1 29 p1 = some (r, h2) ∧ Inv (k + 1) h2 := by
  have hU := hI.up
  refine hU.el ?_
  intro w L bt nt nd nr na tA dA rA sA rT tl tw tg ls ms pa ds wy gr hd gn sc dr td sr dn cr cd wk as no gg vc vk sm tp cg
  obtain ⟨s1, s2, s3, s4, s5, s6, s7, s8⟩ := sm
  obtain ⟨⟨hS, hz⟩, hT, hC, hD, hO, hTi, r1, r2, r3, r4⟩ := id vc
  obtain ⟨a, h1, h2, e1, e2, q1, qk⟩ := t_bound (N := N) hS s2 p1
  have q2 : Ke [510, 1220] [] [] [] h h2 := qk.e
  refine ⟨a, h1, h2, e1, e2, Inv.mk (w) (L) (bt) (nt) (nd) (nr) (na) (tA) (dA) (rA) (sA) (rT) (tl) (tw) (tg) (ls) (ms) (pa) (ds) (wy) (gr) (hd) (gn) (sc) (dr) (td) (sr) (dn) (cr) (cd) (wk) (as) (no) gg (vc.e q2 (hS.e hz q2 (by decide +kernel)) (by decide +kernel) (by decide +kernel) (by decide +kernel) (by decide +kernel) (by decide +kernel)) (vk.e hz vc.2.1.lt vc.2.2.2.2.1.lt q2 (by decide +kernel) (by decide +kernel) (by decide +kernel)) ⟨s1.e hz q2 (by decide +kernel) (by decide +kernel), q1, s3.e hz q2 (by decide +kernel) (by decide +kernel), s4.e hz q2 (by decide +kernel), s5.e hz q2 (by decide +kernel) (by decide +kernel), s6.e hz q2 (by decide +kernel) (by decide +kernel) (by decide +kernel), s7.e hz q2 (by decide +kernel), s8.e hz q2 (by decide +kernel)⟩ (tp.e hz q2 (by decide +kernel) (by decide +kernel) (by decide +kernel) (by decide +kernel)) (cg.e hz q2 (by decide +kernel) (by decide +kernel))⟩
theorem i_hold {N : Nat} (hN : 100000000 ≤ N) {k : Nat} {h : Hs} (hI : Inv k h) (p1 : Int32) : ∃ r h1 h2, fX11_hold N h 0 p1 = some (r, h1) ∧ fX12_hold N h1 29 p1 = some (r, h2) ∧ Inv (k + 1) h2 := by
  have hU := hI.up
  refine hU.el ?_
  intro w L bt nt nd nr na tA dA rA sA rT tl tw tg ls ms pa ds wy gr hd gn sc dr td sr dn cr cd wk as no gg vc vk sm tp cg
  obtain ⟨s1, s2, s3, s4, s5, s6, s7, s8⟩ := sm
  obtain ⟨⟨hS, hz⟩, hT, hC, hD, hO, hTi, r1, r2, r3, r4⟩ := id vc
  obtain ⟨a, h1, h2, e1, e2, q1, qk⟩ := t_hold (N := N) hN hS s4 p1
  have q2 : Ke [] [20, 21, 46, 47] [] [] h h2 := qk.e
  refine ⟨a, h1, h2, e1, e2, Inv.mk (w) (L) (bt) (nt) (nd) (nr) (na) (tA) (dA) (rA) (sA) (rT) (tl) (tw) (tg) (ls) (ms) (pa) (ds) (wy) (gr) (hd) (gn) (sc) (dr) (td) (sr) (dn) (cr) (cd) (wk) (as) (no) gg (vc.e q2 (hS.e hz q2 (by decide +kernel)) (by decide +kernel) (by decide +kernel) (by decide +kernel) (by decide +kernel) (by decide +kernel)) (vk.e hz vc.2.1.lt vc.2.2.2.2.1.lt q2 (by decide +kernel) (by decide +kernel) (by decide +kernel)) ⟨s1.e hz q2 (by decide +kernel) (by decide +kernel), s2.e hz q2 (by decide +kernel) (by decide +kernel), s3.e hz q2 (by decide +kernel) (by decide +kernel), q1, s5.e hz q2 (by decide +kernel) (by decide +kernel), s6.e hz q2 (by decide +kernel) (by decide +kernel) (by decide +kernel), s7.e hz q2 (by decide +kernel), s8.e hz q2 (by decide +kernel)⟩ (tp.e hz q2 (by decide +kernel) (by decide +kernel) (by decide +kernel) (by decide +kernel)) (cg.e hz q2 (by decide +kernel) (by decide +kernel))⟩
theorem i_men {N : Nat} (hN : 100000000 ≤ N) {k : Nat} {h : Hs} (hI : Inv k h) (p1 : Int32) : ∃ r r' h1 h2, fX11_men N h 0 p1 = some (r, h1) ∧ fX12_men N h1 29 p1 = some (r', h2) ∧ Inv (k + 1) h2 := by
  have hU := hI.up
  refine hU.el ?_
  intro w L bt nt nd nr na tA dA rA sA rT tl tw tg ls ms pa ds wy gr hd gn sc dr td sr dn cr cd wk as no gg vc vk sm tp cg
  obtain ⟨s1, s2, s3, s4, s5, s6, s7, s8⟩ := sm
  obtain ⟨⟨hS, hz⟩, hT, hC, hD, hO, hTi, r1, r2, r3, r4⟩ := id vc
  obtain ⟨a, a', h1, h2, e1, e2, q2, q3⟩ := t_men0 (N := N) hN hS hz hT.1.2.2 cg p1
  refine ⟨a, a', h1, h2, e1, e2, Inv.mk (w) (L) (bt) (nt) (nd) (nr) (na) (tA) (dA) (rA) (sA) (rT) (tl) (tw) (tg) (ls) (ms) (pa) (ds) (wy) (gr) (hd) (gn) (sc) (dr) (td) (sr) (dn) (cr) (cd) (wk) (as) (no) gg (vc.e q2 (hS.e hz q2 (by decide +kernel)) (by decide +kernel) (by decide +kernel) (by decide +kernel) (by decide +kernel) (by decide +kernel)) (vk.e hz vc.2.1.lt vc.2.2.2.2.1.lt q2 (by decide +kernel) (by decide +kernel) (by decide +kernel)) ⟨s1.e hz q2 (by decide +kernel) (by decide +kernel), s2.e hz q2 (by decide +kernel) (by decide +kernel), s3.e hz q2 (by decide +kernel) (by decide +kernel), s4.e hz q2 (by decide +kernel), s5.e hz q2 (by decide +kernel) (by decide +kernel), s6.e hz q2 (by decide +kernel) (by decide +kernel) (by decide +kernel), s7.e hz q2 (by decide +kernel), s8.e hz q2 (by decide +kernel)⟩ (tp.e hz q2 (by decide +kernel) (by decide +kernel) (by decide +kernel) (by decide +kernel)) (cg.e hz q2 (by decide +kernel) (by decide +kernel))⟩
theorem i_pull {N : Nat} (hN : 100000000 ≤ N) {k : Nat} {h : Hs} (hk : k ≤ 1000) (hI : Inv k h) : ∃ r h1 h2, fX11_pull N h 0 = some (r, h1) ∧ fX12_pull N h1 29 = some (r, h2) ∧ Inv (k + 1) h2 := by
  have hU := hI.up
  refine hU.el ?_
  intro w L bt nt nd nr na tA dA rA sA rT tl tw tg ls ms pa ds wy gr hd gn sc dr td sr dn cr cd wk as no gg vc vk sm tp cg
  obtain ⟨s1, s2, s3, s4, s5, s6, s7, s8⟩ := sm
  obtain ⟨⟨hS, hz⟩, hT, hC, hD, hO, hTi, r1, r2, r3, r4⟩ := id vc
  have hdn : ∀ r, r < nr → dr r ≠ none → -1000000000 ≤ dn r ∧ dn r ≤ 1000000000 := fun r x1 x2 => by have := r4 r x1 x2; omega
  obtain ⟨a, h1, e1, e2, q2, q3⟩ := t_pull (N := N) hN hS hz hT hD hO hTi s1 hdn r2
  refine ⟨a, h1, h1, e1, e2, Inv.mk (w) (L) (bt) (nt) (nd) (nr) (na) (tA) (dA) (rA) (sA) (rT) (tl) (tw) (tg) (ls) (ms) (pa) (ds) (wy) (gr) (hd) (gn) (sc) (dr) (td) (sr) (dn) (cr) (cd) (wk) (as) (no) gg (vc.e q2 (hS.e hz q2 (by decide +kernel)) (by decide +kernel) (by decide +kernel) (by decide +kernel) (by decide +kernel) (by decide +kernel)) (vk.e hz vc.2.1.lt vc.2.2.2.2.1.lt q2 (by decide +kernel) (by decide +kernel) (by decide +kernel)) ⟨s1.e hz q2 (by decide +kernel) (by decide +kernel), s2.e hz q2 (by decide +kernel) (by decide +kernel), s3.e hz q2 (by decide +kernel) (by decide +kernel), s4.e hz q2 (by decide +kernel), s5.e hz q2 (by decide +kernel) (by decide +kernel), s6.e hz q2 (by decide +kernel) (by decide +kernel) (by decide +kernel), s7.e hz q2 (by decide +kernel), s8.e hz q2 (by decide +kernel)⟩ (tp.e hz q2 (by decide +kernel) (by decide +kernel) (by decide +kernel) (by decide +kernel)) (cg.e hz q2 (by decide +kernel) (by decide +kernel))⟩
theorem i_change {N : Nat} (hN : 100000000 ≤ N) {k : Nat} {h : Hs} (hk : k ≤ 1000) (hI : Inv k h) (p1 p2 : Int32) : ∃ r h1 h2, fX11_change N h 0 p1 p2 = some (r, h1) ∧ fX12_change N h1 29 p1 p2 = some (r, h2) ∧ Inv (k + 1) h2 := by
  have hU := hI.up
  refine hU.el ?_
  intro w L bt nt nd nr na tA dA rA sA rT tl tw tg ls ms pa ds wy gr hd gn sc dr td sr dn cr cd wk as no gg vc vk sm tp cg
  obtain ⟨s1, s2, s3, s4, s5, s6, s7, s8⟩ := sm
  obtain ⟨⟨hS, hz⟩, hT, hC, hD, hO, hTi, r1, r2, r3, r4⟩ := id vc
  have hdn : ∀ r, r < nr → dr r ≠ none → -1000000000 ≤ dn r ∧ dn r ≤ 1000000000 := fun r x1 x2 => by have := r4 r x1 x2; omega
  obtain ⟨a, h1, h2, na', as', no', cr', cd', wk', e1, e2, q1, q2, q3⟩ := t_change (N := N) hN hS hz hT hD hO hTi hC hdn cg p1 p2
  refine ⟨a, h1, h2, e1, e2, Inv.mk (w) (L) (bt) (nt) (nd) (nr) (na') (tA) (dA) (rA) (sA) (rT) (tl) (tw) (tg) (ls) (ms) (pa) (ds) (wy) (gr) (hd) (gn) (sc) (dr) (td) (sr) (dn) (cr') (cd') (wk') (as') (no') gg (vc.e q2 (hS.e hz q2 (by decide +kernel)) (by decide +kernel) (by decide +kernel) (by decide +kernel) (by decide +kernel) (by decide +kernel)) (vk.e hz vc.2.1.lt vc.2.2.2.2.1.lt q2 (by decide +kernel) (by decide +kernel) (by decide +kernel)) ⟨s1.e hz q2 (by decide +kernel) (by decide +kernel), s2.e hz q2 (by decide +kernel) (by decide +kernel), s3.e hz q2 (by decide +kernel) (by decide +kernel), s4.e hz q2 (by decide +kernel), s5.e hz q2 (by decide +kernel) (by decide +kernel), s6.e hz q2 (by decide +kernel) (by decide +kernel) (by decide +kernel), s7.e hz q2 (by decide +kernel), s8.e hz q2 (by decide +kernel)⟩ (tp.e hz q2 (by decide +kernel) (by decide +kernel) (by decide +kernel) (by decide +kernel)) (q1)⟩
theorem i_feed {N : Nat} (hN : 100000000 ≤ N) {k : Nat} {h : Hs} (hI : Inv k h) (p1 p2 : Int32) : ∃ r h1 h2, fX11_feed N h 0 p1 p2 = some (r, h1) ∧ fX12_feed N h1 29 p1 p2 = some (r, h2) ∧ Inv (k + 1) h2 := by
  refine hI.el ?_
  intro w L bt nt nd nr na tA dA rA sA rT tl tw tg ls ms pa ds wy gr hd gn sc dr td sr dn cr cd wk as no gg vc vk sm tp cg
  obtain ⟨s1, s2, s3, s4, s5, s6, s7, s8⟩ := sm
  obtain ⟨⟨hS, hz⟩, hT, hC, hD, hO, hTi, r1, r2, r3, r4⟩ := id vc
  obtain ⟨a, h1, h2, L', bt', e1, e2, q1, q4, qk⟩ := t_feed (N := N) hN hS tp p1 p2
  have q2 : Ke [804, 1237] [2, 53] [] [] h h2 := qk.e
  refine ⟨a, h1, h2, e1, e2, Inv.mk (w) (L') (bt') (nt) (nd) (nr) (na) (tA) (dA) (rA) (sA) (rT) (tl) (tw) (tg) (ls) (ms) (pa) (ds) (wy) (gr) (hd) (gn) (sc) (dr) (td) (sr) (dn) (cr) (cd) (wk) (as) (no) ⟨gg.1, by have := gg.2; omega⟩ (vc.e q2 (hS.e hz q2 (by decide +kernel)) (by decide +kernel) (by decide +kernel) (by decide +kernel) (by decide +kernel) (by decide +kernel)) (vk.e hz vc.2.1.lt vc.2.2.2.2.1.lt q2 (by decide +kernel) (by decide +kernel) (by decide +kernel)) ⟨s1.e hz q2 (by decide +kernel) (by decide +kernel), s2.e hz q2 (by decide +kernel) (by decide +kernel), s3.e hz q2 (by decide +kernel) (by decide +kernel), s4.e hz q2 (by decide +kernel), s5.e hz q2 (by decide +kernel) (by decide +kernel), s6.e hz q2 (by decide +kernel) (by decide +kernel) (by decide +kernel), s7.e hz q2 (by decide +kernel), s8.e hz q2 (by decide +kernel)⟩ (q1) (cg.e hz q2 (by decide +kernel) (by decide +kernel))⟩
