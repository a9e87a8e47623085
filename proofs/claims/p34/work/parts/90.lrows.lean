section LRows
variable {p : Program} {l : Launch} {e : Env} {R : Room} {s : State} {m : MethodId} {args : Array Value} {below : List Frame} {meth : Method} {c : Code} {cc : ByteArray} {own : String} {G : Gl} {nL : Nat} {Q : State → Prop} {h : Hs} {cells slots pc : Nat} {lv : List (Option Wd)} {st : List Wd} {bb : Nat}
def VL (bb : Nat) (p : Program) (l : Launch) (e : Env) (R : Room) (s : State) (m : MethodId) (args : Array Value) (below : List Frame) (meth : Method) (c : Code) (G : Gl) (nL : Nat) (Q : State → Prop) (h : Hs) (cells slots pc : Nat) (lv : List (Option Wd)) (st : List Wd) : Prop :=
  ∀ (H : Heap) (locs : List Loc) (ls : Array Slot), HP G h H → va_S (AG G) s.heap H locs → LV G.1 ls nL lv → ls[0]? = some (.val (.ref bb)) → W p l e R s m args below meth c H locs cells slots Q (F0 m pc ls (st.map (vl G.1)))
theorem LV.keep0 {b nL : Nat} {ls ls' : Array Slot} {lv : List (Option Wd)} (h : LV b ls nL lv) {i : Nat} (hi : i < nL) (hi0 : 0 < i) (w : Wd) (e : storeLocals ls i (vl b w) = some ls') (h0 : ls[0]? = some (.val (.ref bb))) : ls'[0]? = some (.val (.ref bb)) := by
  obtain ⟨ls2, e2, h2⟩ := lv_store1 (l := [(0, .ref bb)]) (v := vl b w) ⟨h.1, h.2.1, fun q hq => by rw [List.mem_singleton.mp hq]; exact h0⟩ hi (vl_cat b w)
  have e3 : ls2 = ls' := Option.some.inj (e2.symm.trans e)
  rw [e3] at h2
  refine h2.2.2 (0, .ref bb) (List.mem_cons_of_mem _ (List.mem_filter.mpr ⟨List.mem_singleton.mpr rfl, ?_⟩))
  have h1 : ((0 : Nat) == i) = false := by simp; omega
  simp [h1, Value.category]
theorem q_iconst (C : Cx p s m args meth c cc own nL G) {n : Int} {v : Int32} (d : decode cc pc = .ok (.iconst n, 1)) (hv : Int32.ofInt n = v) (k : VL bb p l e R s m args below meth c G nL Q h cells slots (pc + 1) lv (.inl v :: st)) : VL bb p l e R s m args below meth c G nL Q h cells slots pc lv st := fun H locs ls hH hS hL h0 => lv_iconst C.1 C.2.1 d hv (k H locs ls hH hS hL h0)
theorem q_bipush (C : Cx p s m args meth c cc own nL G) {n : Int} {v : Int32} (d : decode cc pc = .ok (.bipush n, 2)) (hv : (Int8.ofInt n).toInt32 = v) (k : VL bb p l e R s m args below meth c G nL Q h cells slots (pc + 2) lv (.inl v :: st)) : VL bb p l e R s m args below meth c G nL Q h cells slots pc lv st := fun H locs ls hH hS hL h0 => lv_bipush C.1 C.2.1 d hv (k H locs ls hH hS hL h0)
theorem q_iload_n (C : Cx p s m args meth c cc own nL G) {i : Fin 4} {x : Int32} (d : decode cc pc = .ok (.iload_n i, 1)) (hl : lv[(i : Nat)]? = some (some (.inl x))) (k : VL bb p l e R s m args below meth c G nL Q h cells slots (pc + 1) lv (.inl x :: st)) : VL bb p l e R s m args below meth c G nL Q h cells slots pc lv st := fun H locs ls hH hS hL h0 => lv_iload_n C.1 C.2.1 d rfl (hL.2.2 _ _ hl) (k H locs ls hH hS hL h0)
theorem q_iand (C : Cx p s m args meth c cc own nL G) {x y : Int32} (d : decode cc pc = .ok (.iand, 1)) (k : VL bb p l e R s m args below meth c G nL Q h cells slots (pc + 1) lv (.inl (x &&& y) :: st)) : VL bb p l e R s m args below meth c G nL Q h cells slots pc lv (.inl y :: .inl x :: st) := fun H locs ls hH hS hL h0 => lv_iand C.1 C.2.1 d (k H locs ls hH hS hL h0)
theorem q_dup (C : Cx p s m args meth c cc own nL G) {w : Wd} (d : decode cc pc = .ok (.dup, 1)) (k : VL bb p l e R s m args below meth c G nL Q h cells slots (pc + 1) lv (w :: w :: st)) : VL bb p l e R s m args below meth c G nL Q h cells slots pc lv (w :: st) := fun H locs ls hH hS hL h0 => lv_dup C.1 C.2.1 d (vl_cat _ _) (k H locs ls hH hS hL h0)
theorem q_pop (C : Cx p s m args meth c cc own nL G) {w : Wd} (d : decode cc pc = .ok (.pop, 1)) (k : VL bb p l e R s m args below meth c G nL Q h cells slots (pc + 1) lv st) : VL bb p l e R s m args below meth c G nL Q h cells slots pc lv (w :: st) := fun H locs ls hH hS hL h0 => lv_pop C.1 C.2.1 d (vl_cat _ _) (k H locs ls hH hS hL h0)
theorem q_icmp_gt (C : Cx p s m args meth c cc own nL G) {x y : Int32} {off : Int} {tgt : Nat} (d : decode cc pc = .ok (.if_icmp .gt off, 3)) (ht : (pc : Int) + off = (tgt : Int)) (kt : y < x → VL bb p l e R s m args below meth c G nL Q h cells slots tgt lv st) (kf : ¬ y < x → VL bb p l e R s m args below meth c G nL Q h cells slots (pc + 3) lv st) : VL bb p l e R s m args below meth c G nL Q h cells slots pc lv (.inl y :: .inl x :: st) := fun H locs ls hH hS hL h0 => lv_icmp_gt C.1 C.2.1 d ht (fun q => kt q H locs ls hH hS hL h0) (fun q => kf q H locs ls hH hS hL h0)
theorem q_icmp_eq (C : Cx p s m args meth c cc own nL G) {x y : Int32} {off : Int} {tgt : Nat} (d : decode cc pc = .ok (.if_icmp .eq off, 3)) (ht : (pc : Int) + off = (tgt : Int)) (kt : x = y → VL bb p l e R s m args below meth c G nL Q h cells slots tgt lv st) (kf : ¬ x = y → VL bb p l e R s m args below meth c G nL Q h cells slots (pc + 3) lv st) : VL bb p l e R s m args below meth c G nL Q h cells slots pc lv (.inl y :: .inl x :: st) := fun H locs ls hH hS hL h0 => lv_icmp_eq C.1 C.2.1 d ht (fun q => kt q H locs ls hH hS hL h0) (fun q => kf q H locs ls hH hS hL h0)
theorem q_goto (C : Cx p s m args meth c cc own nL G) {off : Int} {tgt : Nat} (d : decode cc pc = .ok (.goto off, 3)) (ht : (pc : Int) + off = (tgt : Int)) (k : VL bb p l e R s m args below meth c G nL Q h cells slots tgt lv st) : VL bb p l e R s m args below meth c G nL Q h cells slots pc lv st := fun H locs ls hH hS hL h0 => lv_goto C.1 C.2.1 d ht (k H locs ls hH hS hL h0)
theorem q_tabOut (C : Cx p s m args meth c cc own nL G) {dflt lo hi : Int} {offs : Array Int} {len : Nat} {x : Int32} {tgt : Nat} (d : decode cc pc = .ok (.tableswitch dflt lo hi offs, len)) (hx : x.toInt < lo ∨ hi < x.toInt) (ht : (pc : Int) + dflt = (tgt : Int)) (k : VL bb p l e R s m args below meth c G nL Q h cells slots tgt lv st) : VL bb p l e R s m args below meth c G nL Q h cells slots pc lv (.inl x :: st) := fun H locs ls hH hS hL h0 => lv_tableOut C.1 C.2.1 d hx ht (k H locs ls hH hS hL h0)
theorem q_tabIn (C : Cx p s m args meth c cc own nL G) {dflt lo hi : Int} {offs : Array Int} {len : Nat} {x : Int32} {off : Int} {tgt : Nat} (d : decode cc pc = .ok (.tableswitch dflt lo hi offs, len)) (h1 : ¬ x.toInt < lo) (h2 : ¬ hi < x.toInt) (ho : offs[(x.toInt - lo).toNat]? = some off) (ht : (pc : Int) + off = (tgt : Int)) (k : VL bb p l e R s m args below meth c G nL Q h cells slots tgt lv st) : VL bb p l e R s m args below meth c G nL Q h cells slots pc lv (.inl x :: st) := fun H locs ls hH hS hL h0 => lv_tableIn C.1 C.2.1 d h1 h2 ho ht (k H locs ls hH hS hL h0)
theorem q_aload_n (C : Cx p s m args meth c cc own nL G) {i : Fin 4} {o : Option Nat} (d : decode cc pc = .ok (.aload_n i, 1)) (hl : lv[(i : Nat)]? = some (some (.inr o))) (k : VL bb p l e R s m args below meth c G nL Q h cells slots (pc + 1) lv (.inr o :: st)) : VL bb p l e R s m args below meth c G nL Q h cells slots pc lv st := by
  intro H locs ls hH hS hL h0
  have h1 := hL.2.2 _ _ hl
  have h2 := k H locs ls hH hS hL h0
  cases o with
  | none => exact lv_aload_nN C.1 C.2.1 d rfl h1 h2
  | some a => exact lv_aload_n C.1 C.2.1 d rfl h1 h2
theorem q_astore_n (C : Cx p s m args meth c cc own nL G) {i : Fin 4} {o : Option Nat} (d : decode cc pc = .ok (.astore_n i, 1)) (hi : (i : Nat) < nL) (hi0 : 0 < (i : Nat)) (k : VL bb p l e R s m args below meth c G nL Q h cells slots (pc + 1) (lv.set i (some (.inr o))) st) : VL bb p l e R s m args below meth c G nL Q h cells slots pc lv (.inr o :: st) := by
  intro H locs ls hH hS hL h0
  obtain ⟨ls', e', h'⟩ := hL.store hi (.inr o)
  exact w_astore_n C.1 C.2.1 d e' (k H locs ls' hH hS h' (hL.keep0 hi hi0 (.inr o) e' h0))
theorem q_istore_n (C : Cx p s m args meth c cc own nL G) {i : Fin 4} {x : Int32} (d : decode cc pc = .ok (.istore_n i, 1)) (hi : (i : Nat) < nL) (hi0 : 0 < (i : Nat)) (k : VL bb p l e R s m args below meth c G nL Q h cells slots (pc + 1) (lv.set i (some (.inl x))) st) : VL bb p l e R s m args below meth c G nL Q h cells slots pc lv (.inl x :: st) := by
  intro H locs ls hH hS hL h0
  obtain ⟨ls', e', h'⟩ := hL.store hi (.inl x)
  exact w_istore_n C.1 C.2.1 d e' (k H locs ls' hH hS h' (hL.keep0 hi hi0 (.inl x) e' h0))
theorem q_iinc (C : Cx p s m args meth c cc own nL G) {i : Nat} {n : Int} {x v : Int32} (d : decode cc pc = .ok (.iinc i n, 3)) (hl : lv[i]? = some (some (.inl x))) (hv : Int32.ofInt n = v) (hi : i < nL) (hi0 : 0 < i) (k : VL bb p l e R s m args below meth c G nL Q h cells slots (pc + 3) (lv.set i (some (.inl (x + v)))) st) : VL bb p l e R s m args below meth c G nL Q h cells slots pc lv st := by
  subst hv
  intro H locs ls hH hS hL h0
  obtain ⟨ls', e', h'⟩ := hL.store hi (.inl (x + Int32.ofInt n))
  exact w_iinc C.1 C.2.1 d (hL.2.2 _ _ hl) e' (k H locs ls' hH hS h' (hL.keep0 hi hi0 (.inl (x + Int32.ofInt n)) e' h0))
theorem q_new (C : Cx p s m args meth c cc own nL G) {idx ci N : Nat} {Cn : String} {T : u_T} {ty : Nat → FieldType} (d : decode cc pc = .ok (.new idx, 3)) (F : FC ci Cn T N ty) (hcl : Cond.classLink own idx Cn ∈ gtb) (hins : Cond.instantiable Cn N ∈ gtb) (hini : Cond.initialized Cn ∈ gtb) (hdf : ∀ j, j < N → refTy (tyOf ci j) = true ∨ defaultValue (tyOf ci j) = .int 0) (hc1 : cells + 1 ≤ R.cells) (hs1 : slots + N ≤ R.slots) (k : VL bb p l e R s m args below meth c G nL Q (nw h (ci, 0)) (cells + 1) (slots + N) (pc + 3) lv (.inr (some (sz h)) :: st)) : VL bb p l e R s m args below meth c G nL Q h cells slots pc lv st := by
  intro H locs ls hH hS hL h0
  obtain ⟨f1, f2, f3, f4, f5, f6, f7⟩ := F
  obtain ⟨hx, hb, hml, hown, hts, hK, hNW, hlk2, hbs⟩ := C
  have hKn := hK.1 ci _ f1
  refine W.newcK hx hb hown (hts _ hcl) (hts _ hins) (hts _ hini) rfl d hc1 hs1 hKn.2.1 hH.2.1 fun H1 kC hkC e1 z1 o1 => ?_
  refine k H1 locs ls (hH.new (ci, 0) (by simp only; omega) ?_ (by rw [z1, hH.2.1]) (fun q hq => o1 q (by rw [← hH.2.1]; exact hq))) (S_new hS (by rw [z1, hH.2.1]) (fun q hq => o1 q (by rw [← hH.2.1]; exact hq))) hL h0
  rw [ce_obj (h := nw h (ci, 0)) (c := ci) (by simp [sh, nw]) f6]
  refine ⟨_, f1, (u_born ty hts f2 hKn hkC e1 f3).to fun j hj => ?_⟩
  have hj2 : j < nF ci := by rw [f5]; exact hj
  have h9 : vp_V (fvs G.1 (nw h (ci, 0)) ci (sz h)) j = fv G.1 (nw h (ci, 0)) ci j (sz h) := by
    simp [vp_V, fvs_at hj2]
  rw [h9, ← f7]
  by_cases hr : refTy (tyOf ci j) = true
  · rw [dflt_ref hr]
    simp [fv, hr, gR, nw, rf, va_rf]
  · rcases hdf j hj with h1 | h1
    · exact absurd h1 hr
    · rw [h1]
      simp [fv, hr, gI, nw]
theorem run_onL {H : Heap} {locs : List Loc} {ls : Array Slot} {stk rest : List Value} {mc ms : Nat} {av : Array Value} {res : Option Wd} {h' : Hs} {st' : List Wd} (hrest : rest = st'.map (vl G.1)) (hbs : G.1 ≤ s.heap.size) (hS : va_S (AG G) s.heap H locs) (hL : LV G.1 ls nL lv) (h00 : ls[0]? = some (.val (.ref bb))) (hr : va_Run p l e R s m args below meth c H locs cells slots mc ms (F0 m pc ls stk) rest (QcG G res h' av) (AG G)) (k : VL bb p l e R s m args below meth c G nL Q h' (cells + mc) (slots + ms) (pc + 3) lv (res.toList ++ st')) : W p l e R s m args below meth c H locs cells slots Q (F0 m pc ls stk) := by
  intro T hT X
  obtain ⟨v, st₀, t, T', L, h0, X', hLf, e1, e2, ⟨hv, hP, hF⟩, go⟩ := hr T hT X
  have hv' : v = res.map (vl G.1) := by cases hv; rfl
  have hS' : va_S (AG G) s.heap t.heap (locs ++ L) := by
    obtain ⟨z, oq⟩ := hF
    rw [h0] at z oq
    refine ⟨Nat.le_trans hS.1 z, fun q h1 h2 => ?_, fun q hq => ?_⟩
    · rw [oq q (Nat.lt_of_lt_of_le h1 hS.1) h2]
      exact hS.2.1 q h1 h2
    · rcases List.mem_append.mp hq with h1 | h1
      · exact hS.2.2 q h1
      · exact hLf q h1
  obtain ⟨t2, a1, b1⟩ := k t.heap (locs ++ L) ls hP hS' hL h00 T' e1 X'
  refine ⟨t2, go t2 ?_, b1⟩
  rw [hv', hrest]
  cases res with
  | none => exact a1
  | some w => exact a1
theorem q_invV (C : Cx p s m args meth c cc own nL G) {idx n ci maxL : Nat} {y : MethodName} {bytes : ByteArray} {ret : Option FieldType} {rm : Room} {o : Option Nat} {a : Nat} {As : List Wd} {res : Option Wd} {h' : Hs} {q : vw_C} (d : decode cc pc = .ok (.invokevirtual idx, 3)) (M : MC y bytes maxL ret n) (hlk : Cond.methodLink own idx y ∈ gtb) (hin : Cond.instanceMethod y ∈ gtb) (hsel : Cond.selects y.cls y y ∈ gtb) (hq : cls13[ci]? = some q) (hqc : q.1 = y.cls) (hc13 : ci < 13) (hR : rm.frames + 1 ≤ R.frames ∧ 8 + (maxL + 11) + rm.locals ≤ R.locals) (hf : cells + rm.cells ≤ R.cells ∧ slots + rm.slots ≤ R.slots) (hn : As.length = n) (hw : st.length ≤ 8) (er : rc ci h o = some a) (ct : CT l G y bytes maxL ret rm (.inr (some a) :: As) h res h') (k : VL bb p l e R s m args below meth c G nL Q h' (cells + rm.cells) (slots + rm.slots) (pc + 3) lv (res.toList ++ st)) : VL bb p l e R s m args below meth c G nL Q h cells slots pc lv (As.reverse ++ .inr o :: st) := by
  cases o with
  | none => cases er
  | some a' =>
    unfold rc at er
    simp only at er
    split at er
    · rename_i hs
      cases er
      intro H locs ls hH hS hL h0
      have C0 := C
      obtain ⟨hx, hb, hml, hown, hts, hK, hNW, hlk2, hbs⟩ := C
      obtain ⟨m1, m2, m3⟩ := M
      obtain ⟨cell, g1, g2, g3, -⟩ := hH.objAt hs hc13 hq
      refine run_onL (st' := st) rfl hbs hS hL h0 (va_runV (C := y.cls) (As := As.map (vl G.1)) (b := G.1 + a) (n := n) (bytes := bytes) (maxL := maxL) (ret := ret) (rm := rm) ⟨hx, hb, hml, hown, hts⟩ ct ⟨callB_of n hts (gt_good m1) rfl rfl rfl (hts _ m2) (hts _ hlk) m3 hR, hts _ hin, hts _ hsel⟩ ⟨HK_blind, ⟨cell, g1, by rw [g3]; rfl, by rw [g2, ← hqc]; exact (hK.1 ci q hq).2.1⟩, fun U hU hW => ⟨rfl, by rw [hU]; exact hH, va_K.moved hW.alike hK, hNW.warm hW, by rw [hU]; have := hS.1; omega⟩⟩ rfl (by simp [hn]) hL.1 (by simp [vl, rf, va_rf]) ?_ d hf) k
      refine lv_room ?_
      have e9 : ∀ (z : List Wd), ((z.map (vl G.1)).map fun v => v.category).sum = z.length := fun z => by
        induction z with
        | nil => rfl
        | cons a z ih => simp only [List.map_cons, List.sum_cons, vl_cat, ih, List.length_cons]; omega
      rw [e9]; exact hw
    · cases er
theorem q_invI (C : Cx p s m args meth c cc own nL G) {idx n maxL : Nat} {y : MethodName} {bytes : ByteArray} {rm : Room} {a : Nat} {As : List Wd} {res : Option Wd} {h' : Hs} (d : decode cc pc = .ok (.invokespecial idx, 3)) (M : MC y bytes maxL none n) (hlk : Cond.methodLink own idx y ∈ gtb) (hin : Cond.instanceMethod y ∈ gtb) (hy1 : y.name = "<init>") (hR : rm.frames + 1 ≤ R.frames ∧ 8 + (maxL + 11) + rm.locals ≤ R.locals) (hf : cells + rm.cells ≤ R.cells ∧ slots + rm.slots ≤ R.slots) (hn : As.length = n) (hw : st.length ≤ 8) (ct : CT l G y bytes maxL none rm (.inr (some a) :: As) h res h') (k : VL bb p l e R s m args below meth c G nL Q h' (cells + rm.cells) (slots + rm.slots) (pc + 3) lv (res.toList ++ st)) : VL bb p l e R s m args below meth c G nL Q h cells slots pc lv (As.reverse ++ .inr (some a) :: st) := by
  intro H locs ls hH hS hL h0
  obtain ⟨hx, hb, hml, hown, hts, hK, hNW, hlk2, hbs⟩ := C
  obtain ⟨m1, m2, m3⟩ := M
  exact run_onL (st' := st) rfl hbs hS hL h0 (va_runI (As := As.map (vl G.1)) (b := G.1 + a) (n := n) (bytes := bytes) (maxL := maxL) (rm := rm) ⟨hx, hb, hml, hown, hts⟩ ct ⟨callB_of n hts (gt_good m1) rfl rfl rfl (hts _ m2) (hts _ hlk) m3 hR, hy1, hts _ hin⟩ ⟨HK_blind, fun U hU hW => ⟨rfl, by rw [hU]; exact hH, va_K.moved hW.alike hK, hNW.warm hW, by rw [hU]; have := hS.1; omega⟩⟩ rfl (by simp [hn]) hL.1 (by simp [vl, rf, va_rf]) (lv_room (by rw [cat_sum]; exact hw)) d hf) k
theorem q_scr (C : Cx p s m args meth c cc own nL G) {L : Nat} {xs : Nat → Int32} {i : Int32} (hX : va_X bb L xs s s.heap) (hbl : bb < s.heap.size) (hG : G.1 = s.heap.size) (d0 : decode cc pc = .ok (.aload_n 0, 1)) (d1 : decode cc (pc + 1) = .ok (.iload_n 3, 1)) (d2 : decode cc (pc + 2) = .ok (.iaload, 1)) (hl : lv[3]? = some (some (.inl i))) (hin : vp_in i L) (k : VL bb p l e R s m args below meth c G nL Q h cells slots (pc + 3) lv (.inl (xs i.toNatClampNeg) :: st)) : VL bb p l e R s m args below meth c G nL Q h cells slots pc lv st := by
  intro H locs ls hH hS hL h0
  refine lv_aload_n C.1 C.2.1 d0 rfl h0 ?_
  refine lv_iload_n C.1 C.2.1 d1 rfl (hL.2.2 _ _ hl) ?_
  exact va_sld C.1 C.2.1 hX hbl (by show ¬ G.1 ≤ bb; omega) hS hin d2 (k H locs ls hH hS hL h0)
theorem q_arg (C : Cx p s m args meth c cc own nL G) {L : Nat} {xs : Nat → Int32} {i v : Int32} {jj : Int} (hX : va_X bb L xs s s.heap) (hbl : bb < s.heap.size) (hG : G.1 = s.heap.size) (d0 : decode cc pc = .ok (.aload_n 0, 1)) (d1 : decode cc (pc + 1) = .ok (.iload_n 3, 1)) (d2 : decode cc (pc + 2) = .ok (.iconst jj, 1)) (d3 : decode cc (pc + 3) = .ok (.iadd, 1)) (d4 : decode cc (pc + 4) = .ok (.iaload, 1)) (hl : lv[3]? = some (some (.inl i))) (hv : Int32.ofInt jj = v) (hin : vp_in (i + v) L) (k : VL bb p l e R s m args below meth c G nL Q h cells slots (pc + 5) lv (.inl (xs (i + v).toNatClampNeg) :: st)) : VL bb p l e R s m args below meth c G nL Q h cells slots pc lv st := by
  intro H locs ls hH hS hL h0
  refine lv_aload_n C.1 C.2.1 d0 rfl h0 ?_
  refine lv_iload_n C.1 C.2.1 d1 rfl (hL.2.2 _ _ hl) ?_
  refine lv_iconst C.1 C.2.1 d2 hv ?_
  refine lv_iadd C.1 C.2.1 d3 ?_
  exact va_sld C.1 C.2.1 hX hbl (by show ¬ G.1 ≤ bb; omega) hS hin d4 (k H locs ls hH hS hL h0)
theorem q_len (C : Cx p s m args meth c cc own nL G) {L : Nat} {xs : Nat → Int32} (hX : va_X bb L xs s s.heap) (hbl : bb < s.heap.size) (hG : G.1 = s.heap.size) (d0 : decode cc pc = .ok (.aload_n 0, 1)) (d1 : decode cc (pc + 1) = .ok (.arraylength, 1)) (d2 : decode cc (pc + 2) = .ok (.iconst 5, 1)) (d3 : decode cc (pc + 3) = .ok (.isub, 1)) (k : VL bb p l e R s m args below meth c G nL Q h cells slots (pc + 4) lv (.inl (Int32.ofNat L - 5) :: st)) : VL bb p l e R s m args below meth c G nL Q h cells slots pc lv st := by
  intro H locs ls hH hS hL h0
  refine lv_aload_n C.1 C.2.1 d0 rfl h0 ?_
  refine va_slen C.1 C.2.1 hX hbl (by show ¬ G.1 ≤ bb; omega) hS d1 ?_
  refine lv_iconst (v := 5) C.1 C.2.1 d2 (by decide) ?_
  exact lv_isub C.1 C.2.1 d3 (k H locs ls hH hS hL h0)
theorem VL.widen {cells' slots' : Nat} (h1 : cells ≤ cells') (h2 : slots ≤ slots') (k : VL bb p l e R s m args below meth c G nL Q h cells' slots' pc lv st) : VL bb p l e R s m args below meth c G nL Q h cells slots pc lv st := fun H locs ls hH hS hL h0 => W.widen h1 h2 (k H locs ls hH hS hL h0)
theorem VL.sub {lv' : List (Option Wd)} (k : VL bb p l e R s m args below meth c G nL Q h cells slots pc lv' st) (hl : LW lv' lv) : VL bb p l e R s m args below meth c G nL Q h cells slots pc lv st := fun H locs ls hH hS hL h0 => k H locs ls hH hS (hL.sub hl) h0
/-- a call on an object of the class ci at the cell a, which stands in the base -/
theorem q_call (C : Cx p s m args meth c cc own nL G) {idx n ci maxL : Nat} {y : MethodName} {bytes : ByteArray} {ret : Option FieldType} {rm : Room} {a : Nat} {As : List Wd} {res : Wd} {h' : Hs} {q : vw_C} (d : decode cc pc = .ok (.invokevirtual idx, 3)) (M : MC y bytes maxL ret n) (hlk : Cond.methodLink own idx y ∈ gtb) (hin : Cond.instanceMethod y ∈ gtb) (hsel : Cond.selects y.cls y y ∈ gtb) (hq : cls13[ci]? = some q) (hqc : q.1 = y.cls) (hc13 : ci < 13) (hR : rm.frames + 1 ≤ R.frames ∧ 8 + (maxL + 11) + rm.locals ≤ R.locals) (hf : cells + rm.cells ≤ R.cells ∧ slots + rm.slots ≤ R.slots) (hn : As.length = n) (hw : st.length ≤ 8) (ha : a < G.2.2 7) (er : G.2.2 (1000 + a) = ci) (ct : CT l G y bytes maxL ret rm (.inr (some a) :: As) h (some res) h') (k : VL bb p l e R s m args below meth c G nL Q h' (cells + rm.cells) (slots + rm.slots) (pc + 3) lv (res :: st)) : VL bb p l e R s m args below meth c G nL Q h cells slots pc lv (As.reverse ++ .inr (some a) :: st) := fun H locs ls hH hS hL h0 => q_invV C d M hlk hin hsel hq hqc hc13 hR hf hn hw (by simp [rc, (hH.2.2.2.2 a ha).trans er]) ct k H locs ls hH hS hL h0
end LRows
