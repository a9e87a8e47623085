section Rows3
variable {p : Program} {l : Launch} {e : Env} {R : Room} {s : State} {m : MethodId} {args : Array Value} {below : List Frame} {meth : Method} {c : Code} {cc : ByteArray} {own : String} {G : Gl} {nL : Nat} {Q : State → Prop} {h : Hs} {cells slots pc : Nat} {lv : List (Option Wd)} {st : List Wd}
theorem r_qast (C : Cx p s m args meth c cc own nL G) {t ci : Nat} {r : vw_C} {o v : Option Nat} {i : Int32} {h' : Hs} (d : decode cc pc = .ok (.aastore, 1)) (ht : 3 ≤ t) (ht2 : t < 7) (hc13 : ci < 13) (hc : cls13[ci]? = some r) (hty : (tys7 G.2.2)[t]? = some (G.2.2 t, .object r.1)) (eq : sQ (20 + t) ci h o i v = some h') (k : V p l e R s m args below meth c G nL Q h' cells slots (pc + 1) lv st) : V p l e R s m args below meth c G nL Q h cells slots pc lv (.inr v :: .inl i :: .inr o :: st) := by
  cases o with
  | none => cases v <;> cases eq
  | some a =>
    cases v with
    | none => cases eq
    | some w =>
      unfold sQ at eq
      simp only at eq
      split at eq
      · rename_i hs
        obtain ⟨hs, hi, hw⟩ := hs
        cases eq
        intro H locs ls hH hS hL
        obtain ⟨hx, hb, hml, hown, hts, hK, hNW, hlk2, hbs⟩ := C
        have ha := hH.lt hs (by omega)
        have hin := ixb_in hi
        have hlt : i.toNatClampNeg < (sh h a).2 := Nat.not_le.mp fun q => hin (Or.inr q)
        have h0 : ¬ i < 0 := fun q => hin (Or.inl q)
        obtain ⟨cellV, g1, g2, g3, -⟩ := hH.objAt hw hc13 hc
        have hcls := (hK.1 ci r hc).2
        obtain ⟨kA, comp, k1, k2, k3, -⟩ := (hK.2 t _ hty).2
        have hcomp : comp = G.2.1.1 ci := Option.some.inj (k3.symm.trans hcls.1)
        subst hcomp
        obtain ⟨kC, hkC, -⟩ := hcls.2
        refine W.aast hx hb (hH.refAt (t := t) hs ht ht2) (fun q h => by cases h) (fun h => by cases h) k1 k2 rfl hkC ⟨h0, by rw [arrV_size]; exact hlt⟩ g1 (fun q h => by rw [g3] at h; cases h) (by rw [g2]; exact hkC) (by rw [g2]; exact va_assign hcls) rfl rfl d fun H1 ew z oq => ?_
        refine k H1 _ ls (hH.put (h' := uQ h a i.toNatClampNeg (some w)) ha rfl (fun _ => rfl) (fun k hk => ce_uQ hk) ?_ oq z) (S_put hS oq z) hL
        rw [ce_ref (h := uQ h a i.toNatClampNeg (some w)) (t := t) hs ht]
        show H1[G.1 + a]? = some (vp_cell _ _)
        rw [ew, vp_cell_q, arrV_store]
        congr 2
        funext q
        by_cases hq : q = i.toNatClampNeg
        · subst hq
          simp [updV, uQ, aR, va_rf, rf]
        · simp [updV, uQ, aR, hq]
      · cases eq
theorem r_alen (C : Cx p s m args meth c cc own nL G) {o : Option Nat} {v : Int32} (d : decode cc pc = .ok (.arraylength, 1)) (eq : oL h o = some v) (k : V p l e R s m args below meth c G nL Q h cells slots (pc + 1) lv (.inl v :: st)) : V p l e R s m args below meth c G nL Q h cells slots pc lv (.inr o :: st) := by
  cases o with
  | none => cases eq
  | some a =>
    unfold oL at eq
    simp only at eq
    split at eq
    · rename_i hs
      cases eq
      intro H locs ls hH hS hL
      obtain ⟨hx, hb, hml, hown, hts, hK, hNW, hlk2, hbs⟩ := C
      exact W.alen (n := Int32.ofNat (sh h a).2) hx hb (hH.arrAt (t := 0) hs (by omega)) ((hK.2 0 _ rfl).1 _ _) (by rw [arrV_size] <;> rfl) rfl rfl d (k H locs ls hH hS hL)
    · cases eq
/-- a new cell -/
theorem HP.new {H H1 : Heap} (hH : HP G h H) (kd : Nat × Nat) (hkd : kd.1 ≠ 99) (hat : va_at G.2.1 cls13 (G.1 + sz h, ce G (nw h kd) (sz h)) H1) (hsz : H1.size = H.size + 1) (oq : ∀ q : Nat, q < H.size → H1[q]? = H[q]?) : HP G (nw h kd) H1 := by
  have hz : sz (nw h kd) = sz h + 1 := rfl
  refine ⟨?_, by rw [hsz, hz, hH.2.1]; omega, fun q hq => ?_, by rw [hz]; exact Nat.le_trans hH.2.2.2.1 (Nat.le_succ _), fun q hq => ?_⟩
  · intro k q hq
    have hk : k < sz h + 1 := by
      have := (List.getElem?_eq_some_iff.mp hq).1
      simpa [wsO, hz] using this
    rw [ws_at (by rw [hz]; exact hk)] at hq
    cases hq
    by_cases e1 : k = sz h
    · subst e1
      exact hat
    · have hk2 : k < sz h := by omega
      have h1 : ce G (nw h kd) k = ce G h k := ce_congr (by simp [sh, nw, e1]) (fun f => by simp [gI, nw, e1]) (fun f => by simp [gR, nw, e1]) (by funext j; simp [aI, nw, e1]) (by funext j; simp [aR, nw, e1])
      rw [h1]
      have h2 := hH.1 k _ (ws_at hk2)
      exact h2.kept (oq _ h2.lt)
  · rw [hz] at hq
    have e1 : ¬ q = sz h := by omega
    have : sh (nw h kd) q = sh h q := by simp [sh, nw, e1]
    rw [this]
    exact hH.2.2.1 q (by omega)
  · have e1 : ¬ q = sz h := fun e9 => Nat.lt_irrefl _ (Nat.lt_of_lt_of_le hq (by rw [e9]; exact hH.2.2.2.1))
    have : sh (nw h kd) q = sh h q := by simp [sh, nw, e1]
    rw [this]
    exact hH.2.2.2.2 q hq
theorem S_new {H H1 : Heap} {locs : List Loc} (hS : va_S (AG G) s.heap H locs) (hsz : H1.size = H.size + 1) (oq : ∀ q : Nat, q < H.size → H1[q]? = H[q]?) : va_S (AG G) s.heap H1 locs := ⟨by have := hS.1; omega, fun q h1 h2 => (oq q (Nat.lt_of_lt_of_le h1 hS.1)).trans (hS.2.1 q h1 h2), hS.2.2⟩
theorem dflt_ref {t : FieldType} (hr : refTy t = true) : defaultValue t = .null := by
  cases t <;> simp [refTy] at hr <;> rfl
theorem r_new (C : Cx p s m args meth c cc own nL G) {idx ci N : Nat} {Cn : String} {T : u_T} {ty : Nat → FieldType} (d : decode cc pc = .ok (.new idx, 3)) (F : FC ci Cn T N ty) (hcl : Cond.classLink own idx Cn ∈ gtb) (hins : Cond.instantiable Cn N ∈ gtb) (hini : Cond.initialized Cn ∈ gtb) (hdf : ∀ j, j < N → refTy (tyOf ci j) = true ∨ defaultValue (tyOf ci j) = .int 0) (hc1 : cells + 1 ≤ R.cells) (hs1 : slots + N ≤ R.slots) (k : V p l e R s m args below meth c G nL Q (nw h (ci, 0)) (cells + 1) (slots + N) (pc + 3) lv (.inr (some (sz h)) :: st)) : V p l e R s m args below meth c G nL Q h cells slots pc lv st := by
  intro H locs ls hH hS hL
  obtain ⟨f1, f2, f3, f4, f5, f6, f7⟩ := F
  obtain ⟨hx, hb, hml, hown, hts, hK, hNW, hlk2, hbs⟩ := C
  have hKn := hK.1 ci _ f1
  refine W.newcK hx hb hown (hts _ hcl) (hts _ hins) (hts _ hini) rfl d hc1 hs1 hKn.2.1 hH.2.1 fun H1 kC hkC e1 z1 o1 => ?_
  refine k H1 locs ls (hH.new (ci, 0) (by simp only; omega) ?_ (by rw [z1, hH.2.1]) (fun q hq => o1 q (by rw [← hH.2.1]; exact hq))) (S_new hS (by rw [z1, hH.2.1]) (fun q hq => o1 q (by rw [← hH.2.1]; exact hq))) hL
  rw [ce_obj (h := nw h (ci, 0)) (c := ci) (by simp [sh, nw]) f6]
  refine ⟨_, f1, (u_born ty hts f2 hKn hkC e1 f3).to fun j hj => ?_⟩
  have hj2 : j < nF ci := by rw [f5]; exact hj
  have h9 : vp_V (fvs G.1 (nw h (ci, 0)) ci (sz h)) j = fv G.1 (nw h (ci, 0)) ci j (sz h) := by
    simp [vp_V, fvs_at hj2]
  rw [h9, ← f7]
  by_cases hr : refTy (tyOf ci j) = true
  · rw [dflt_ref hr]
    simp [fv, hr, gR, nw, rf, va_rf]
  · rcases hdf j hj with h1 | h1
    · exact absurd h1 hr
    · rw [h1]
      simp [fv, hr, gI, nw]
theorem r_newA (C : Cx p s m args meth c cc own nL G) {at_ : ArrayType} {t N : Nat} {n : Int32} (d : decode cc pc = .ok (.newarray at_, 2)) (ht : t < 3) (hty : (tys7 G.2.2)[t]? = some (G.2.2 t, newarray.typeOf at_)) (hdf : defaultValue (newarray.typeOf at_) = .int 0) (harr : Cond.arrayClass (newarray.typeOf at_) ∈ gtb) (hn : ¬ n < 0) (hN : n.toNatClampNeg = N) (hby : N * componentBytes (newarray.typeOf at_) ≤ 536870912) (hra : ∀ U cA, va_RA U cA (newarray.typeOf at_) → U.vm.findClass ("[" ++ (newarray.typeOf at_).toString) = some cA) (hc1 : cells + 1 ≤ R.cells) (hs1 : slots + N ≤ R.slots) (k : V p l e R s m args below meth c G nL Q (nw h (20 + t, N)) (cells + 1) (slots + N) (pc + 2) lv (.inr (some (sz h)) :: st)) : V p l e R s m args below meth c G nL Q h cells slots pc lv (.inl n :: st) := by
  intro H locs ls hH hS hL
  obtain ⟨hx, hb, hml, hown, hts, hK, hNW, hlk2, hbs⟩ := C
  refine va_newaK hx hb (hts _ harr) rfl d rfl hn hN hby hc1 hs1 hH.2.1 fun H1 cA e1 z1 o1 hAr hNm => ?_
  have hcA : cA = G.2.2 t := Option.some.inj (hNm.symm.trans (hra _ _ (hK.2 t _ hty).2))
  subst hcA
  refine k H1 locs ls (hH.new (20 + t, N) (by simp only; omega) ?_ (by rw [z1, hH.2.1]) (fun q hq => o1 q (by rw [← hH.2.1]; exact hq))) (S_new hS (by rw [z1, hH.2.1]) (fun q hq => o1 q (by rw [← hH.2.1]; exact hq))) hL
  rw [ce_int (h := nw h (20 + t, N)) (t := t) (by simp [sh, nw]) ht]
  show H1[G.1 + sz h]? = some (vp_cell _ _)
  rw [e1, vp_cell_i, hdf]
  simp [sh, nw, aI]
theorem r_newQ (C : Cx p s m args meth c cc own nL G) {idx t N : Nat} {cn : String} {n : Int32} (d : decode cc pc = .ok (.anewarray idx, 3)) (ht : 3 ≤ t) (ht2 : t < 7) (hty : (tys7 G.2.2)[t]? = some (G.2.2 t, .object cn)) (hcl : Cond.classLink own idx cn ∈ gtb) (hao : NW s → va_AO cn s) (hn : ¬ n < 0) (hN : n.toNatClampNeg = N) (hby : N * 4 ≤ 536870912) (hc1 : cells + 1 ≤ R.cells) (hs1 : slots + N ≤ R.slots) (k : V p l e R s m args below meth c G nL Q (nw h (20 + t, N)) (cells + 1) (slots + N) (pc + 3) lv (.inr (some (sz h)) :: st)) : V p l e R s m args below meth c G nL Q h cells slots pc lv (.inl n :: st) := by
  subst hN
  intro H locs ls hH hS hL
  obtain ⟨hx, hb, hml, hown, hts, hK, hNW, hlk2, hbs⟩ := C
  refine W.anew hx hb hown (hts _ hcl) (va_AO.use (hao hNW)) rfl d rfl hn hby hc1 hs1 fun cA kA comp q1 q2 q3 q4 => ?_
  obtain ⟨kA', comp', k1, k2, k3, k4⟩ := (hK.2 t _ hty).2
  have hcA : cA = G.2.2 t := Option.some.inj (q1.symm.trans k4)
  subst hcA
  generalize hH1 : H.push ({ cls := G.2.2 t, slots := Array.replicate n.toNatClampNeg .null, vm := .none } : Cell) = H1
  have z1 : H1.size = H.size + 1 := by rw [← hH1, Array.size_push]
  have e1 : H1[H.size]? = some (arrV (G.2.2 t) n.toNatClampNeg (fun _ => .null)) := by rw [← hH1, Array.getElem?_push_size, ← arrV_new]
  have o1 : ∀ q : Nat, q < H.size → H1[q]? = H[q]? := fun q hq => by rw [← hH1, Array.getElem?_push, if_neg (Nat.ne_of_lt hq)]
  have k' := k H1 locs ls (hH.new (20 + t, n.toNatClampNeg) (by simp only; omega) ?_ z1 o1) (S_new hS z1 o1) hL
  · have e9 : vl G.1 (.inr (some (sz h))) = .ref H.size := by rw [hH.2.1]; rfl
    rw [List.map_cons, e9] at k'
    exact k'
  rw [ce_ref (h := nw h (20 + t, n.toNatClampNeg)) (t := t) (by simp [sh, nw]) ht]
  show H1[G.1 + sz h]? = some (vp_cell _ _)
  rw [← hH.2.1, e1, vp_cell_q]
  simp [sh, nw, aR, rf, va_rf]
/-! calls: a contract over my heap -/
def HK (G : Gl) (h : Hs) (U : State) : Prop := HP G h U.heap ∧ va_K G.2.1 cls13 (tys7 G.2.2) U ∧ NW U ∧ G.1 ≤ U.heap.size
def QcG (G : Gl) (res : Option Wd) (h' : Hs) : Array Value → State → Outcome → State → Prop := fun _ st o t => o = .returned (res.map (vl G.1)) ∧ HP G h' t.heap ∧ va_F (AG G) st t
def CT (l : Launch) (G : Gl) (y : MethodName) (bytes : ByteArray) (maxL : Nat) (ret : Option FieldType) (rm : Room) (av : List Wd) (h : Hs) (res : Option Wd) (h' : Hs) : Prop :=
  Met l y (Cond.code y bytes maxL ret :: gtb) rm (va_Pc (av.map (vl G.1)) (HK G h)) (QcG G res h') rm.cells rm.slots (AG G)
theorem HK_blind {av : List Value} : FrameBlind (va_Pc av (HK G h)) := fun a U g mk q => ⟨q.1, q.2.1, va_K.moved (u := U) (U := U.calling g mk a) (Vm.Alike.refl U.vm) q.2.2.1, ⟨q.2.2.2.1.1, q.2.2.2.1.2⟩, q.2.2.2.2⟩
theorem gt_good {y : MethodName} {bytes : ByteArray} {maxL : Nat} {ret : Option FieldType} (hc : Cond.code y bytes maxL ret ∈ gtb) : GoodIn gtb (Cond.code y bytes maxL ret :: gtb) := fun w hw => by
  have h1 : w ∈ gtb := by
    rcases List.mem_cons.mp hw with rfl | q
    · exact hc
    · exact q
  exact ⟨h1, good_of_word (gtb_good h1)⟩
/-- what every call's words have in common -/
def MC (y : MethodName) (bytes : ByteArray) (maxL : Nat) (ret : Option FieldType) (n : Nat) : Prop := Cond.code y bytes maxL ret ∈ gtb ∧ Cond.initialized y.cls ∈ gtb ∧ (y.cls ≠ "java/lang/invoke/MethodHandle" ∧ y.cls ≠ "java/lang/invoke/VarHandle" ∧ (parseMethodDescriptor y.desc).map (fun d => d.parameters.length) = some n)
theorem run_on {H : Heap} {locs : List Loc} {ls : Array Slot} {stk rest : List Value} {mc ms : Nat} {av : Array Value} {res : Option Wd} {h' : Hs} {st' : List Wd} (hrest : rest = st'.map (vl G.1)) (hbs : G.1 ≤ s.heap.size) (hS : va_S (AG G) s.heap H locs) (hL : LV G.1 ls nL lv) (hr : va_Run p l e R s m args below meth c H locs cells slots mc ms (F0 m pc ls stk) rest (QcG G res h' av) (AG G)) (k : V p l e R s m args below meth c G nL Q h' (cells + mc) (slots + ms) (pc + 3) lv (res.toList ++ st')) : W p l e R s m args below meth c H locs cells slots Q (F0 m pc ls stk) := by
  intro T hT X
  obtain ⟨v, st₀, t, T', L, h0, X', hLf, e1, e2, ⟨hv, hP, hF⟩, go⟩ := hr T hT X
  have hv' : v = res.map (vl G.1) := by cases hv; rfl
  have hS' : va_S (AG G) s.heap t.heap (locs ++ L) := by
    obtain ⟨z, oq⟩ := hF
    rw [h0] at z oq
    refine ⟨Nat.le_trans hS.1 z, fun q h1 h2 => ?_, fun q hq => ?_⟩
    · rw [oq q (Nat.lt_of_lt_of_le h1 hS.1) h2]
      exact hS.2.1 q h1 h2
    · rcases List.mem_append.mp hq with h1 | h1
      · exact hS.2.2 q h1
      · exact hLf q h1
  obtain ⟨t2, a1, b1⟩ := k t.heap (locs ++ L) ls hP hS' hL T' e1 X'
  refine ⟨t2, go t2 ?_, b1⟩
  rw [hv', hrest]
  cases res with
  | none => exact a1
  | some w => exact a1
theorem r_invV (C : Cx p s m args meth c cc own nL G) {idx n ci maxL : Nat} {y : MethodName} {bytes : ByteArray} {ret : Option FieldType} {rm : Room} {o : Option Nat} {a : Nat} {As : List Wd} {res : Option Wd} {h' : Hs} {q : vw_C} (d : decode cc pc = .ok (.invokevirtual idx, 3)) (M : MC y bytes maxL ret n) (hlk : Cond.methodLink own idx y ∈ gtb) (hin : Cond.instanceMethod y ∈ gtb) (hsel : Cond.selects y.cls y y ∈ gtb) (hq : cls13[ci]? = some q) (hqc : q.1 = y.cls) (hc13 : ci < 13) (hR : rm.frames + 1 ≤ R.frames ∧ 8 + (maxL + 11) + rm.locals ≤ R.locals) (hf : cells + rm.cells ≤ R.cells ∧ slots + rm.slots ≤ R.slots) (hn : As.length = n) (hw : st.length ≤ 8) (er : rc ci h o = some a) (ct : CT l G y bytes maxL ret rm (.inr (some a) :: As) h res h') (k : V p l e R s m args below meth c G nL Q h' (cells + rm.cells) (slots + rm.slots) (pc + 3) lv (res.toList ++ st)) : V p l e R s m args below meth c G nL Q h cells slots pc lv (As.reverse ++ .inr o :: st) := by
  cases o with
  | none => cases er
  | some a' =>
    unfold rc at er
    simp only at er
    split at er
    · rename_i hs
      cases er
      intro H locs ls hH hS hL
      have C0 := C
      obtain ⟨hx, hb, hml, hown, hts, hK, hNW, hlk2, hbs⟩ := C
      obtain ⟨m1, m2, m3⟩ := M
      obtain ⟨cell, g1, g2, g3, -⟩ := hH.objAt hs hc13 hq
      refine run_on (st' := st) rfl hbs hS hL (va_runV (C := y.cls) (As := As.map (vl G.1)) (b := G.1 + a) (n := n) (bytes := bytes) (maxL := maxL) (ret := ret) (rm := rm) ⟨hx, hb, hml, hown, hts⟩ ct ⟨callB_of n hts (gt_good m1) rfl rfl rfl (hts _ m2) (hts _ hlk) m3 hR, hts _ hin, hts _ hsel⟩ ⟨HK_blind, ⟨cell, g1, by rw [g3]; rfl, by rw [g2, ← hqc]; exact (hK.1 ci q hq).2.1⟩, fun U hU hW => ⟨rfl, by rw [hU]; exact hH, va_K.moved hW.alike hK, hNW.warm hW, by rw [hU]; have := hS.1; omega⟩⟩ rfl (by simp [hn]) hL.1 (by simp [vl, rf, va_rf]) ?_ d hf) k
      refine lv_room ?_
      have e9 : ∀ (z : List Wd), ((z.map (vl G.1)).map fun v => v.category).sum = z.length := fun z => by
        induction z with
        | nil => rfl
        | cons a z ih => simp only [List.map_cons, List.sum_cons, vl_cat, ih, List.length_cons]; omega
      rw [e9]; exact hw
    · cases er
theorem cat_sum (z : List Wd) : ((z.map (vl G.1)).map fun v => v.category).sum = z.length := by
  induction z with
  | nil => rfl
  | cons a z ih => simp only [List.map_cons, List.sum_cons, vl_cat, ih, List.length_cons]; omega
theorem r_invI (C : Cx p s m args meth c cc own nL G) {idx n maxL : Nat} {y : MethodName} {bytes : ByteArray} {rm : Room} {a : Nat} {As : List Wd} {res : Option Wd} {h' : Hs} (d : decode cc pc = .ok (.invokespecial idx, 3)) (M : MC y bytes maxL none n) (hlk : Cond.methodLink own idx y ∈ gtb) (hin : Cond.instanceMethod y ∈ gtb) (hy1 : y.name = "<init>") (hR : rm.frames + 1 ≤ R.frames ∧ 8 + (maxL + 11) + rm.locals ≤ R.locals) (hf : cells + rm.cells ≤ R.cells ∧ slots + rm.slots ≤ R.slots) (hn : As.length = n) (hw : st.length ≤ 8) (ct : CT l G y bytes maxL none rm (.inr (some a) :: As) h res h') (k : V p l e R s m args below meth c G nL Q h' (cells + rm.cells) (slots + rm.slots) (pc + 3) lv (res.toList ++ st)) : V p l e R s m args below meth c G nL Q h cells slots pc lv (As.reverse ++ .inr (some a) :: st) := by
  intro H locs ls hH hS hL
  obtain ⟨hx, hb, hml, hown, hts, hK, hNW, hlk2, hbs⟩ := C
  obtain ⟨m1, m2, m3⟩ := M
  exact run_on (st' := st) rfl hbs hS hL (va_runI (As := As.map (vl G.1)) (b := G.1 + a) (n := n) (bytes := bytes) (maxL := maxL) (rm := rm) ⟨hx, hb, hml, hown, hts⟩ ct ⟨callB_of n hts (gt_good m1) rfl rfl rfl (hts _ m2) (hts _ hlk) m3 hR, hy1, hts _ hin⟩ ⟨HK_blind, fun U hU hW => ⟨rfl, by rw [hU]; exact hH, va_K.moved hW.alike hK, hNW.warm hW, by rw [hU]; have := hS.1; omega⟩⟩ rfl (by simp [hn]) hL.1 (by simp [vl, rf, va_rf]) (lv_room (by rw [cat_sum]; exact hw)) d hf) k
theorem r_invIN (C : Cx p s m args meth c cc own nL G) {idx n maxL : Nat} {y : MethodName} {host : String} {bytes : ByteArray} {rm : Room} {a : Nat} {As : List Wd} {res : Option Wd} {h' : Hs} (d : decode cc pc = .ok (.invokespecial idx, 3)) (M : MC y bytes maxL none n) (hlk : (own, idx, y, host) ∈ nws) (hin : Cond.instanceMethod y ∈ gtb) (hy1 : y.name = "<init>") (hR : rm.frames + 1 ≤ R.frames ∧ 8 + (maxL + 11) + rm.locals ≤ R.locals) (hf : cells + rm.cells ≤ R.cells ∧ slots + rm.slots ≤ R.slots) (hn : As.length = n) (hw : st.length ≤ 8) (ct : CT l G y bytes maxL none rm (.inr (some a) :: As) h res h') (k : V p l e R s m args below meth c G nL Q h' (cells + rm.cells) (slots + rm.slots) (pc + 3) lv (res.toList ++ st)) : V p l e R s m args below meth c G nL Q h cells slots pc lv (As.reverse ++ .inr (some a) :: st) := by
  intro H locs ls hH hS hL
  obtain ⟨hx, hb, hml, hown, hts, hK, hNW, hlk2, hbs⟩ := C
  obtain ⟨m1, m2, m3⟩ := M
  have h9 : va_Nw (.methodLinkNest own idx y host) s := hNW.1 (own, idx, y, host) hlk
  exact run_on (st' := st) rfl hbs hS hL (va_runIN (host := host) (As := As.map (vl G.1)) (b := G.1 + a) (n := n) (bytes := bytes) (maxL := maxL) (rm := rm) ⟨hx, hb, hml, hown, hts⟩ ct ⟨va_cnB n hts (gt_good m1) rfl rfl rfl h9 (hts _ m2) m3 hR, hy1, hts _ hin⟩ ⟨HK_blind, fun U hU hW => ⟨rfl, by rw [hU]; exact hH, va_K.moved hW.alike hK, hNW.warm hW, by rw [hU]; have := hS.1; omega⟩⟩ rfl (by simp [hn]) hL.1 (by simp [vl, rf, va_rf]) (lv_room (by rw [cat_sum]; exact hw)) d hf) k
theorem r_invS (C : Cx p s m args meth c cc own nL G) {idx n maxL : Nat} {y : MethodName} {bytes : ByteArray} {ret : Option FieldType} {rm : Room} {As : List Wd} {res : Option Wd} {h' : Hs} (d : decode cc pc = .ok (.invokestatic idx, 3)) (M : MC y bytes maxL ret n) (hlk : Cond.methodLink own idx y ∈ gtb) (hstat : Cond.static y ∈ gtb) (hR : rm.frames + 1 ≤ R.frames ∧ 8 + (maxL + 11) + rm.locals ≤ R.locals) (hf : cells + rm.cells ≤ R.cells ∧ slots + rm.slots ≤ R.slots) (hn : As.length = n) (hw : st.length ≤ 8) (ct : CT l G y bytes maxL ret rm As h res h') (k : V p l e R s m args below meth c G nL Q h' (cells + rm.cells) (slots + rm.slots) (pc + 3) lv (res.toList ++ st)) : V p l e R s m args below meth c G nL Q h cells slots pc lv (As.reverse ++ st) := by
  intro H locs ls hH hS hL
  obtain ⟨hx, hb, hml, hown, hts, hK, hNW, hlk2, hbs⟩ := C
  obtain ⟨m1, m2, m3⟩ := M
  exact run_on (st' := st) rfl hbs hS hL (va_runS (As := As.map (vl G.1)) (n := n) (bytes := bytes) (maxL := maxL) (ret := ret) (rm := rm) ⟨hx, hb, hml, hown, hts⟩ ct ⟨callB_of n hts (gt_good m1) rfl rfl rfl (hts _ m2) (hts _ hlk) m3 hR, hts _ hstat⟩ ⟨HK_blind, fun U hU hW => ⟨rfl, by rw [hU]; exact hH, va_K.moved hW.alike hK, hNW.warm hW, by rw [hU]; have := hS.1; omega⟩⟩ rfl (by simp [hn]) hL.1 (by simp) (lv_room (by rw [cat_sum]; exact hw)) d hf) k
theorem r_invSN (C : Cx p s m args meth c cc own nL G) {idx n maxL : Nat} {y : MethodName} {host : String} {bytes : ByteArray} {ret : Option FieldType} {rm : Room} {As : List Wd} {res : Option Wd} {h' : Hs} (d : decode cc pc = .ok (.invokestatic idx, 3)) (M : MC y bytes maxL ret n) (hlk : (own, idx, y, host) ∈ nws) (hstat : Cond.static y ∈ gtb) (hR : rm.frames + 1 ≤ R.frames ∧ 8 + (maxL + 11) + rm.locals ≤ R.locals) (hf : cells + rm.cells ≤ R.cells ∧ slots + rm.slots ≤ R.slots) (hn : As.length = n) (hw : st.length ≤ 8) (ct : CT l G y bytes maxL ret rm As h res h') (k : V p l e R s m args below meth c G nL Q h' (cells + rm.cells) (slots + rm.slots) (pc + 3) lv (res.toList ++ st)) : V p l e R s m args below meth c G nL Q h cells slots pc lv (As.reverse ++ st) := by
  intro H locs ls hH hS hL
  obtain ⟨hx, hb, hml, hown, hts, hK, hNW, hlk2, hbs⟩ := C
  obtain ⟨m1, m2, m3⟩ := M
  have h9 : va_Nw (.methodLinkNest own idx y host) s := hNW.1 (own, idx, y, host) hlk
  exact run_on (st' := st) rfl hbs hS hL (va_runSN (host := host) (As := As.map (vl G.1)) (n := n) (bytes := bytes) (maxL := maxL) (ret := ret) (rm := rm) ⟨hx, hb, hml, hown, hts⟩ ct ⟨va_cnB n hts (gt_good m1) rfl rfl rfl h9 (hts _ m2) m3 hR, hts _ hstat, trivial⟩ ⟨HK_blind, fun U hU hW => ⟨rfl, by rw [hU]; exact hH, va_K.moved hW.alike hK, hNW.warm hW, by rw [hU]; have := hS.1; omega⟩⟩ rfl (by simp [hn]) hL.1 (by simp) (lv_room (by rw [cat_sum]; exact hw)) d hf) k
theorem r_objInit (C : Cx p s m args meth c cc own nL G) {idx a : Nat} (d : decode cc pc = .ok (.invokespecial idx, 3)) (hlk : Cond.methodLink own idx objectInit ∈ gtb) (h1 : Cond.instanceMethod objectInit ∈ gtb) (h2 : Cond.code objectInit ⟨#[0xb1]⟩ 1 none ∈ gtb) (hfr : 1 ≤ R.frames) (hlo : st.length + 12 ≤ R.locals) (k : V p l e R s m args below meth c G nL Q h cells slots (pc + 3) lv st) : V p l e R s m args below meth c G nL Q h cells slots pc lv (.inr (some a) :: st) := by
  intro H locs ls hH hS hL
  obtain ⟨hx, hb, hml, hown, hts, hK, hNW, hlk2, hbs⟩ := C
  refine W.objInit hx hb hown (hts _ hlk) (hts _ h1) (hts _ h2) rfl (by rw [hml]; exact hL.1) rfl d hfr ?_ (k H locs ls hH hS hL)
  show 2 * 0 + _ + 12 ≤ _
  rw [cat_sum]
  omega
/-! the ends -/
theorem r_iret (C : Cx p s m args meth c cc own nL G) {v : Int32} {mc ms : Nat} (d : decode cc pc = .ok (.ireturn, 1)) (hr : meth.sig.returnType = some .int) (h1 : cells ≤ mc) (h2 : slots ≤ ms) : V p l e R s m args below meth c G nL (MQ below (QcG G (some (.inl v)) h) args s mc ms (AG G)) h cells slots pc lv [.inl v] := by
  intro H locs ls hH hS hL
  obtain ⟨hx, hb, hml, hown, hts, hK, hNW, hlk2, hbs⟩ := C
  refine W.widen h1 h2 ?_
  exact W.iret hx hb hr (fun t ht hW => ⟨rfl, by rw [ht]; exact hH, hS.F ht⟩) hS.2.2 d hlk2
theorem r_zret (C : Cx p s m args meth c cc own nL G) {v : Int32} {mc ms : Nat} (d : decode cc pc = .ok (.ireturn, 1)) (hr : meth.sig.returnType = some .boolean) (hv : zc v = some v) (h1 : cells ≤ mc) (h2 : slots ≤ ms) : V p l e R s m args below meth c G nL (MQ below (QcG G (some (.inl v)) h) args s mc ms (AG G)) h cells slots pc lv [.inl v] := by
  intro H locs ls hH hS hL
  obtain ⟨hx, hb, hml, hown, hts, hK, hNW, hlk2, hbs⟩ := C
  refine W.widen h1 h2 ?_
  have hn : narrow .boolean (.int v) = .int v := by
    unfold zc at hv
    split at hv
    · rename_i q; rcases q with rfl | rfl <;> rfl
    · cases hv
  exact W.zret hx hb hr hn (fun t ht hW => ⟨rfl, by rw [ht]; exact hH, hS.F ht⟩) hS.2.2 d hlk2
theorem r_vret (C : Cx p s m args meth c cc own nL G) {mc ms : Nat} (d : decode cc pc = .ok (.return_, 1)) (hr : meth.sig.returnType = none) (h1 : cells ≤ mc) (h2 : slots ≤ ms) : V p l e R s m args below meth c G nL (MQ below (QcG G none h) args s mc ms (AG G)) h cells slots pc lv [] := by
  intro H locs ls hH hS hL
  obtain ⟨hx, hb, hml, hown, hts, hK, hNW, hlk2, hbs⟩ := C
  refine W.widen h1 h2 ?_
  exact W.vret hx hb hr (fun t ht hW => ⟨rfl, by rw [ht]; exact hH, hS.F ht⟩) hS.2.2 d hlk2
theorem r_aret (C : Cx p s m args meth c cc own nL G) {o : Option Nat} {mc ms : Nat} {n : String} (d : decode cc pc = .ok (.areturn, 1)) (hr : meth.sig.returnType = some (.object n)) (h1 : cells ≤ mc) (h2 : slots ≤ ms) : V p l e R s m args below meth c G nL (MQ below (QcG G (some (.inr o)) h) args s mc ms (AG G)) h cells slots pc lv [.inr o] := by
  intro H locs ls hH hS hL
  obtain ⟨hx, hb, hml, hown, hts, hK, hNW, hlk2, hbs⟩ := C
  refine W.widen h1 h2 ?_
  exact W.aret hx hb hr (Or.inl ⟨n, rfl⟩) (by cases o with | none => exact Or.inl rfl | some a => exact Or.inr ⟨_, rfl⟩) (fun t ht hW => ⟨rfl, by rw [ht]; exact hH, hS.F ht⟩) hS.2.2 d hlk2
end Rows3
/-- a contract out of a walk -/
theorem mk_CT {l : Launch} {G : Gl} {y : MethodName} {bytes : ByteArray} {maxL : Nat} {ret : Option FieldType} {rm : Room} {av : List Wd} {h : Hs} {res : Option Wd} {h' : Hs} (hy : plainName y.cls = true) (hlen : av.length ≤ maxL)
    (body : ∀ (p : Program) (e : Env) (s : State) (m : MethodId) (args : Array Value) (below : List Frame) (meth : Method) (c : Code), Cx p s m args meth c bytes y.cls maxL G → meth.sig.returnType = ret → meth.name = y.name → V p l e rm s m args below meth c G maxL (MQ below (QcG G res h') args s rm.cells rm.slots (AG G)) h 0 0 0 (av.map some ++ List.replicate (maxL - av.length) none) []) : CT l G y bytes maxL ret rm av h res h' := by
  refine Met.ofW (cc := bytes) (maxL := maxL) (ret := ret) hy rfl ?_
  intro p e s m args below meth c s₁ B hml hv
  obtain ⟨rfl, hP, hK, hN, hbs⟩ := hv
  have hts := atoms_spec (ws := Cond.code y bytes maxL ret :: gtb) B.pre
  have hown : s.vm.findClass y.cls = some m.cls := findClass_of_methodNamed B.named
  have hin : meth.name = y.name := (name_of_methodNamed B.named B.method).1
  have hsl : (lg_sl (av.map (vl G.1))) = (av.map (vl G.1)).map Slot.val := by
    clear body hlen hml B hts
    induction av with
    | nil => rfl
    | cons a z ih =>
      have ih' : List.flatMap (fun v => if v.category = 2 then [Slot.val v, Slot.second] else [Slot.val v]) (z.map (vl G.1)) = (z.map (vl G.1)).map Slot.val := ih
      simp [lg_sl, vl_cat, ih']
  have hl := lv_entry (av.map (vl G.1)) (n := maxL) (by rw [hsl]; simpa using hlen)
  rw [lg_entry_eq]
  have hLV : LV G.1 (lg_sl (av.map (vl G.1)) ++ List.replicate (maxL - (lg_sl (av.map (vl G.1))).length) Slot.unset).toArray maxL (av.map some ++ List.replicate (maxL - av.length) none) := by
    refine ⟨hl.1, hl.2.1, fun i w hi => ?_⟩
    rw [hsl]
    by_cases hia : i < av.length
    · rw [List.getElem?_append_left (by simpa using hia)] at hi
      simp at hi
      simp [List.getElem?_append_left, hia]
      rw [(List.getElem?_eq_some_iff.mp hi).2]
    · rw [List.getElem?_append_right (by simpa using hia)] at hi
      simp [List.getElem?_replicate] at hi
  exact body p e s m _ below meth c ⟨B.exec, B.bytes, hml, hown, fun w hw => hts w (List.mem_cons_of_mem _ hw), hK, hN, B.notSynchronized, hbs⟩ B.returns hin s.heap [] _ hP va_S.rf hLV
