/-! THE CLAIM OUT OF ONE WALK OF THE LAW'S BODY. Your part is whole_start (and what it stands on); all else here is the same for every law, but numbers. -/
def R_law : String := "StageMachineLaw"
def lw_P (b : Addr) (xs : List Int32) (args : Array Value) (s : State) : Prop := args = #[.ref b] ∧ s.IntsAt b xs ∧ xs.length ≤ 2560 ∧ (Jvm.Cond.and given_1 narrow_1).before args s = true
def lw_Q (_ : Array Value) (s : State) (o : Outcome) (t : State) : Prop := o = .returned (some (.int 1)) ∧ Framed s o t [] 600000 7302250
def lw_Z (below : List Frame) (a : Array Value) (s : State) : State → Prop := fun t => ∃ o, t.status = .running ∧ Ended t below o ∧ lw_Q a s o t
/-- the law's own end, with 1 on the stack, nothing written that was there before, its room as the claim has it -/
theorem lw_ret {p : Program} {l : Launch} {e : Env} {s : State} {m : MethodId} {below : List Frame} {meth : Method} {c : Code} {b : Nat} (hx : p.tables.exec = Jvm.exec) (hb : c.code = code) (hr : meth.sig.returnType = ret) (hlocks : meth.locks = false) {pc : Nat} {H : Heap} {ls : Array Slot} (hdg : decode code pc = .ok (.ireturn, 1)) : W p l e room_1 s m #[Value.ref b] below meth c H [] 600000 7302250 (lw_Z below #[Value.ref b] s) (F0 m pc ls [.int 1]) := by
  intro T hT X
  obtain ⟨fs, hret, hrun, hended, hW, hframe⟩ := X.leave (v := some (.int 1)) (hlocks := hlocks) (fun h => by rw [hr] at h; cases h)
  have hmeth' : T.vm.method? m = some meth := X.method'
  refine ⟨T.setFrames fs, ?_, .returned (some (.int 1)), hrun, hended, rfl, ⟨_, rfl⟩, hW, hframe⟩
  jvm_step X.here [X.here.top, hx, hb, hdg, hmeth', hr, ret, narrow_b1]
  (try refine ⟨rfl, ?_⟩); (try refine ⟨rfl, ?_⟩)
  first | (intro acts; rw [hret _ acts rfl rfl rfl]) | rw [hret _ _ rfl rfl rfl]
  exact Steps.refl _
/-- what holds at the law's entry: the machine, the code, the tables' words (any of lw_tbl by 'hts w (by decide +kernel)'), the script of L ints xs at the cell b, what the Statement gives of the start (any of its parts by flat_of_before) -/
def lw_At (p : Program) (s : State) (m : MethodId) (meth : Method) (c : Code) (b L : Nat) (xs : Nat → Int32) : Prop :=
  p.tables.exec = Jvm.exec ∧ c.code = code ∧ meth.sig.returnType = ret ∧ c.maxLocals = 4 ∧ s.vm.findClass R_law = some m.cls ∧ (∀ w ∈ lw_tbl, w.before #[Value.ref b] s = true) ∧ va_X b L xs s s.heap ∧ b < s.heap.size ∧ meth.locks = false ∧ (Jvm.Cond.and given_1 narrow_1).before #[Value.ref b] s = true
theorem kn1 {s : State} {A : Array Value} (htg : ∀ w ∈ gtb, w.before A s = true) {c N : Nat} {C : String} {T : u_T} {ty : Nat → FieldType} (F : FC c C T N ty) (hi : Cond.instantiable C N ∈ gtb) : ∃ p : ClassId × (Nat → Nat), ∀ q, cls13[c]? = some q → u_Kn s q.1 q.2.1 q.2.2 p.1 p.2 := by
  obtain ⟨cC, iS, h⟩ := u_known htg F.2.1 (htg _ hi)
  exact ⟨(cC, iS), fun q hq => by rw [F.1] at hq; cases hq; exact h⟩
theorem kna {s : State} {A : Array Value} {C : String} (h : (Cond.arrayOver (.object C)).before A s = true) : ∃ cA, ArrOfT s cA (.object C) ∧ va_RA s cA (.object C) := by
  obtain ⟨comp, c, k, h1, h2, h3, h4, h5⟩ := Cond.arrayOver_spec h
  exact ⟨c, fun n z => ⟨(fun k h => by cases h), k, h3, comp, h4⟩, k, comp, h3, h4, h1, h5⟩
theorem knb {s : State} {A : Array Value} {ty : FieldType} (h : (Cond.arrayClass ty).before A s = true) : ∃ cA, ArrOfT s cA ty ∧ s.vm.findClass ("[" ++ ty.toString) = some cA := by
  obtain ⟨c, k, comp, h1, h2, h3⟩ := Cond.arrayClass_spec h
  exact ⟨c, fun n z => ⟨(fun k h => by cases h), k, h2, comp, h3⟩, h1⟩
theorem hF1_small : ∀ k, k < 70 → (sh hF1 k).1 ≤ 26 := by decide +kernel
theorem whole_start {p : Program} {e : Env} {s : State} {m : MethodId} {below : List Frame} {meth : Method} {c : Code} (l : Launch) {b L : Nat} {xs : Nat → Int32} (hL : L ≤ 2560) (C0 : lw_At p s m meth c b L xs) : W p l e room_1 s m #[Value.ref b] below meth c s.heap [] 0 0 (lw_Z below #[Value.ref b] s) (entryFrame m ([Value.ref b] : List Value).toArray 4) := by
  obtain ⟨hx, hb, hr, hml, hown, hts, hX, hbl, hlocks, hgv⟩ := id C0
  have htg : ∀ w ∈ gtb, w.before #[Value.ref b] s = true := fun w hw => hts w (List.mem_filter.mp hw).1
  have kn : ∀ k : Nat, ∃ p : ClassId × (Nat → Nat), ∀ q, cls13[k]? = some q → u_Kn s q.1 q.2.1 q.2.2 p.1 p.2 := fun k => match k with
    | 0 => kn1 htg fc_0 wd_64
    | 1 => kn1 htg fc_1 wd_227
    | 2 => kn1 htg fc_2 wd_400
    | 3 => kn1 htg fc_3 wd_894
    | 4 => kn1 htg fc_4 wd_425
    | 5 => kn1 htg fc_5 wd_116
    | 6 => kn1 htg fc_6 wd_85
    | 7 => kn1 htg fc_7 wd_197
    | 8 => kn1 htg fc_8 wd_27
    | 9 => kn1 htg fc_9 wd_303
    | 10 => kn1 htg fc_10 wd_191
    | 11 => kn1 htg fc_11 wd_19
    | 12 => kn1 htg fc_12 wd_978
    | _ + 13 => ⟨(0, fun _ => 0), fun q hq => by simp at hq⟩
  obtain ⟨F, hF⟩ := Classical.skolem.mp kn
  have ts : ∀ (i : Nat) (w : Cond), tables_1[i]? = some w → w.before #[Value.ref b] s = true := fun i w h => hts w (List.mem_append_right _ (List.mem_of_getElem? h))
  obtain ⟨e0, a0, b0⟩ := knb (htg _ wd_62)
  obtain ⟨e1, a1, b1⟩ := knb (htg _ wd_1179)
  obtain ⟨e2, a2, b2⟩ := knb (htg _ wd_1180)
  have o3 := ts 122 (.arrayOver (.object RX9)) (by decide +kernel)
  have o4 := ts 124 (.arrayOver (.object RX2)) (by decide +kernel)
  have o5 := ts 126 (.arrayOver (.object RX4)) (by decide +kernel)
  have o6 := ts 91 (.arrayOver (.object RX3)) (by decide +kernel)
  obtain ⟨e3, a3, b3⟩ := kna o3
  obtain ⟨e4, a4, b4⟩ := kna o4
  obtain ⟨e5, a5, b5⟩ := kna o5
  obtain ⟨e6, a6, b6⟩ := kna o6
  have hE : ∃ E : Nat → ClassId, E 0 = e0 ∧ E 1 = e1 ∧ E 2 = e2 ∧ E 3 = e3 ∧ E 4 = e4 ∧ E 5 = e5 ∧ E 6 = e6 ∧ E 7 = 0 := ⟨fun k => if k = 0 then e0 else if k = 1 then e1 else if k = 2 then e2 else if k = 3 then e3 else if k = 4 then e4 else if k = 5 then e5 else if k = 6 then e6 else 0, rfl, rfl, rfl, rfl, rfl, rfl, rfl, rfl⟩
  obtain ⟨E, E0, E1, E2, E3, E4, E5, E6, E7⟩ := hE
  have hK : va_K ((fun k => (F k).1, fun k => (F k).2) : va_G) cls13 (tys7 E) s := by
    refine ⟨fun k q hq => hF k q hq, fun k q hq => ?_⟩
    match k, hq with
    | 0, hq => cases hq; rw [E0]; exact ⟨a0, b0⟩
    | 1, hq => cases hq; rw [E1]; exact ⟨a1, b1⟩
    | 2, hq => cases hq; rw [E2]; exact ⟨a2, b2⟩
    | 3, hq => cases hq; rw [E3]; exact ⟨a3, b3⟩
    | 4, hq => cases hq; rw [E4]; exact ⟨a4, b4⟩
    | 5, hq => cases hq; rw [E5]; exact ⟨a5, b5⟩
    | 6, hq => cases hq; rw [E6]; exact ⟨a6, b6⟩
    | k + 7, hq => simp [tys7] at hq
  have hNW : NW s := ⟨fun q hq => va_Nw.of rfl (hts _ (nws_ok q hq)), va_AO.of o3, va_AO.of o4, va_AO.of o5, va_AO.of o6⟩
  obtain ⟨G0, hG0⟩ : ∃ G : Gl, G = (s.heap.size, ((fun k => (F k).1, fun k => (F k).2) : va_G), E) := ⟨_, rfl⟩
  have G01 : G0.1 = s.heap.size := by rw [hG0]
  have G03 : G0.2.2 = E := by rw [hG0]
  have hK0 : va_K G0.2.1 cls13 (tys7 G0.2.2) s := by rw [hG0]; exact hK
  have C1 : Cx p s m #[Value.ref b] meth c code "StageMachineLaw" 4 G0 := ⟨hx, hb, hml, hown, htg, hK0, hNW, hlocks, by rw [G01]; exact Nat.le_refl _⟩
  have hH0 : HP G0 h00 s.heap := ⟨fun k q h => by simp [wsO, sz, h00] at h, by rw [G01]; rfl, fun a _ => rfl, by rw [G03, E7]; exact Nat.zero_le _, fun a ha => by rw [G03, E7] at ha; exact absurd ha (Nat.not_lt_zero a)⟩
  have hS0 : va_S (AG G0) s.heap s.heap [] := va_S.rf
  have hl := lv_entry ([.ref b]) (n := 4) (Nat.le_of_ble_eq_true rfl)
  rw [lg_entry_eq]
  generalize (lg_sl ([.ref b]) ++ List.replicate (4 - (lg_sl ([.ref b])).length) Slot.unset).toArray = ls at hl ⊢
  have hl : lv_has ls 4 [(0, .ref b)] := hl
  have hLV : LV G0.1 ls 4 [none, none, none, none] := ⟨hl.1, hl.2.1, fun i w hi => by
    match i, hi with
    | 0, hi => cases hi
    | 1, hi => cases hi
    | 2, hi => cases hi
    | 3, hi => cases hi
    | i + 4, hi => simp at hi⟩
  have K1 : VL b p l e room_1 s m #[Value.ref b] below meth c G0 4 (lw_Z below #[Value.ref b] s) h00 0 0 0 [none, none, none, none] [] := by
    refine q_new C1 dL_0 fc_11 wd_18 wd_19 wd_1 (by decide) (Nat.le_of_ble_eq_true rfl) (Nat.le_of_ble_eq_true rfl) ?_
    rw [show sz h00 = 0 from rfl]
    refine q_dup C1 dL_3 ?_
    refine q_invI (As := []) (res := none) C1 dL_4 mcX11_init wd_20 wd_21 rfl ⟨Nat.le_of_ble_eq_true rfl, Nat.le_of_ble_eq_true rfl⟩ ⟨Nat.le_of_ble_eq_true rfl, Nat.le_of_ble_eq_true rfl⟩ rfl (Nat.le_of_ble_eq_true rfl) (kX11_init l G0 hA1_ok) ?_
    refine q_astore_n (i := 1) C1 dL_7 (by decide) (by decide) ?_
    refine q_new C1 dL_8 fc_12 wd_977 wd_978 wd_9 (by decide) (Nat.le_of_ble_eq_true rfl) (Nat.le_of_ble_eq_true rfl) ?_
    rw [show sz hA1 = 29 from hA1_sz]
    refine q_dup C1 dL_11 ?_
    refine q_invI (As := []) (res := none) C1 dL_12 mcX12_init wd_979 wd_980 rfl ⟨Nat.le_of_ble_eq_true rfl, Nat.le_of_ble_eq_true rfl⟩ ⟨Nat.le_of_ble_eq_true rfl, Nat.le_of_ble_eq_true rfl⟩ rfl (Nat.le_of_ble_eq_true rfl) (kX12_init l G0 hF1_ok) ?_
    refine q_astore_n (i := 2) C1 dL_15 (by decide) (by decide) ?_
    refine q_iconst (v := 0) C1 dL_16 (by decide) ?_
    refine q_istore_n (i := 3) C1 dL_17 (by decide) (by decide) ?_
    intro H locs ls hH hS hL h0
    obtain ⟨G1, hG1⟩ : ∃ G : Gl, G = (G0.1, G0.2.1, fun k => if k = 7 then 30 else if 1000 ≤ k then (sh hF1 (k - 1000)).1 else G0.2.2 k) := ⟨_, rfl⟩
    have g1 : G1.1 = G0.1 := by rw [hG1]
    have g2 : G1.2.1 = G0.2.1 := by rw [hG1]
    have g3 : ∀ k, k < 7 → G1.2.2 k = G0.2.2 k := fun k hk => by
      rw [hG1]
      show (if k = 7 then 30 else if 1000 ≤ k then (sh hF1 (k - 1000)).1 else G0.2.2 k) = _
      rw [if_neg (by omega), if_neg (by omega)]
    have g4 : G1.2.2 7 = 30 := by rw [hG1]; rfl
    have g5 : ∀ a, G1.2.2 (1000 + a) = (sh hF1 a).1 := fun a => by
      rw [hG1]
      show (if 1000 + a = 7 then 30 else if 1000 ≤ 1000 + a then (sh hF1 (1000 + a - 1000)).1 else G0.2.2 (1000 + a)) = _
      rw [if_neg (by omega), if_pos (by omega), Nat.add_sub_cancel_left]
    have gt : tys7 G1.2.2 = tys7 G0.2.2 := by
      simp only [tys7, g3 0 (by decide), g3 1 (by decide), g3 2 (by decide), g3 3 (by decide), g3 4 (by decide), g3 5 (by decide), g3 6 (by decide)]
    have gw : wsO G1 hF1 = wsO G0 hF1 := by
      refine List.map_congr_left fun k hk => ?_
      have hk : k < sz hF1 := List.mem_range.mp hk
      rw [hF1_sz] at hk
      have h26 := hF1_small k hk
      have g6 := g3 ((sh hF1 k).1 - 20) (by omega)
      simp only [ce, g1, g6]
    have hH1 : HP G1 hF1 H := ⟨by rw [gw, g2]; exact hH.1, by rw [g1]; exact hH.2.1, hH.2.2.1, by rw [g4, hF1_sz]; decide, fun a _ => (g5 a).symm⟩
    have hSA : AG G1 = AG G0 := by unfold AG; rw [g1]
    have C2 : Cx p s m #[Value.ref b] meth c code "StageMachineLaw" 4 G1 := ⟨hx, hb, hml, hown, htg, by rw [gt, g2]; exact hK0, hNW, hlocks, by rw [g1, G01]; exact Nat.le_refl _⟩
    have LC1 : LC p s m #[Value.ref b] meth c G1 b L xs := ⟨C2, hX, hbl, by rw [g1, G01], g4, (g5 0).trans (by rw [ss_0 Sk_F1]), (g5 29).trans (by rw [ss_29 Sk_F1])⟩
    have kx : ∀ h cells slots (x : Int32), cells ≤ 600000 → slots ≤ 7302250 → VL b p l e room_1 s m #[Value.ref b] below meth c G1 4 (lw_Z below #[Value.ref b] s) h cells slots 1065 (lvA x) [] := by
      intro h cells slots x hc hs
      refine q_iconst (v := 1) C2 dL_1065 (by decide) ?_
      intro H locs ls hH hS hL h0
      refine va_forget (fun q hq => ?_) ?_
      · have := hS.2.2 q hq
        unfold AG at this
        rw [g1, G01] at this
        exact this
      · exact W.widen hc hs (lw_ret hx hb hr hlocks dL_1066)
    have lo := law_loop (K := 512) (J := Inv) (by omega) (by decide) law_p34 LC1 kx 512 0 hF1 (by decide) I_F1
    refine lo.widen (by decide) (by decide) H locs ls hH1 (by rw [hSA]; exact hS) (by rw [g1]; exact hL) h0
  exact K1 s.heap [] ls hH0 hS0 hLV (lv_at hl 0 rfl)
