def gtb : List Cond := lw_tbl.filter goodWord
theorem gtb_mem {i : Nat} {w : Cond} (h : lw_tbl[i]? = some w) (hg : goodWord w = true) : w ∈ gtb := List.mem_filter.mpr ⟨List.mem_of_getElem? h, hg⟩
theorem gtb_good {w : Cond} (h : w ∈ gtb) : goodWord w = true := (List.mem_filter.mp h).2
def nws : List (String × Nat × MethodName × String) := [("StageMachine", 9, ⟨"StageMachine$Tape", "<init>", "()V"⟩, "StageMachine"), ("StageMachine", 18, ⟨"StageMachine$Candles", "<init>", "()V"⟩, "StageMachine"), ("StageMachine", 25, ⟨"StageMachine$Stock", "<init>", "()V"⟩, "StageMachine"), ("StageMachine", 32, ⟨"StageMachine$Stage", "<init>", "()V"⟩, "StageMachine"), ("StageMachine$Turning", 11, ⟨"StageMachine$Stop", "<init>", "()V"⟩, "StageMachine"), ("StageMachine$Stage", 50, ⟨"StageMachine", "isWithin", "(III)Z"⟩, "StageMachine"), ("StageMachine$Stage", 93, ⟨"StageMachine", "overlap", "(IIII)Z"⟩, "StageMachine"), ("StageMachine$Rope", 53, ⟨"StageMachine", "quotientUp", "(II)I"⟩, "StageMachine"), ("StageMachine$Rope", 57, ⟨"StageMachine", "quotient", "(II)I"⟩, "StageMachine"), ("StageMachine$Turning", 112, ⟨"StageMachine", "isWithin", "(III)Z"⟩, "StageMachine"), ("StageMachine$Thing", 60, ⟨"StageMachine", "overlap", "(IIII)Z"⟩, "StageMachine"), ("StageMachine$Thing", 53, ⟨"StageMachine", "isWithin", "(III)Z"⟩, "StageMachine"), ("StageMachine$Change", 25, ⟨"StageMachine", "isWithin", "(III)Z"⟩, "StageMachine"), ("StageMachine$Change", 29, ⟨"StageMachine", "isTurn", "(I)Z"⟩, "StageMachine"), ("StageMachine$Change", 152, ⟨"StageMachine", "quotient", "(II)I"⟩, "StageMachine"), ("StageMachine$Tape", 24, ⟨"StageMachine", "isWithin", "(III)Z"⟩, "StageMachine"), ("StageMachine$Candles", 18, ⟨"StageMachine", "isWithin", "(III)Z"⟩, "StageMachine"), ("StageMachine$Stock", 41, ⟨"StageMachine", "isWithin", "(III)Z"⟩, "StageMachine")]
theorem nws_ok : ∀ q ∈ nws, Cond.methodLinkNest q.1 q.2.1 q.2.2.1 q.2.2.2 ∈ lw_tbl := by
  have h : nws.map (fun q => Cond.methodLinkNest q.1 q.2.1 q.2.2.1 q.2.2.2) = [84, 121, 142, 173, 254, 346, 356, 553, 627, 666, 675, 755, 764, 765, 835, 844, 905, 949].filterMap (fun i => lw_tbl[i]?) := by decide +kernel
  intro q hq
  have h1 : Cond.methodLinkNest q.1 q.2.1 q.2.2.1 q.2.2.2 ∈ nws.map (fun q => Cond.methodLinkNest q.1 q.2.1 q.2.2.1 q.2.2.2) := List.mem_map.mpr ⟨q, hq, rfl⟩
  rw [h] at h1
  obtain ⟨i, -, hi⟩ := List.mem_filterMap.mp h1
  exact List.mem_of_getElem? hi
def NW (U : State) : Prop := (∀ q ∈ nws, va_Nw (.methodLinkNest q.1 q.2.1 q.2.2.1 q.2.2.2) U) ∧ va_AO RX9 U ∧ va_AO RX2 U ∧ va_AO RX4 U ∧ va_AO RX3 U
theorem NW.warm {s U : State} (h : NW s) (hW : s.WarmedH U.vm) : NW U := ⟨fun q hq => va_Nw.warmM hW (h.1 q hq), h.2.1.moved hW.alike, h.2.2.1.moved hW.alike, h.2.2.2.1.moved hW.alike, h.2.2.2.2.moved hW.alike⟩
/-! words: an int, or a reference -/
abbrev Wd : Type := Int32 ⊕ Option Nat
def vl (b : Nat) (w : Wd) : Value := match w with
  | .inl x => .int x
  | .inr o => va_rf (rf b o)
theorem vl_cat (b : Nat) (w : Wd) : (vl b w).category = 1 := by
  rcases w with x | _ | o <;> rfl
def LV (b : Nat) (ls : Array Slot) (nL : Nat) (lv : List (Option Wd)) : Prop := ls.size = nL ∧ lv_wf ls ∧ ∀ (i : Nat) (w : Wd), lv[i]? = some (some w) → ls[i]? = some (.val (vl b w))
theorem LV.store {b nL : Nat} {ls : Array Slot} {lv : List (Option Wd)} (h : LV b ls nL lv) {i : Nat} (hi : i < nL) (w : Wd) : ∃ ls', storeLocals ls i (vl b w) = some ls' ∧ LV b ls' nL (lv.set i (some w)) := by
  obtain ⟨ls', e, h'⟩ := lv_store1 (l := []) (v := vl b w) ⟨h.1, h.2.1, fun q hq => absurd hq List.not_mem_nil⟩ hi (vl_cat b w)
  refine ⟨ls', e, h'.1, h'.2.1, fun j w' hj => ?_⟩
  by_cases hji : j = i
  · subst hji
    rw [List.getElem?_set] at hj
    simp only [if_true] at hj
    split at hj
    · cases hj
      exact h'.2.2 (j, vl b w) List.mem_cons_self
    · cases hj
  · rw [List.getElem?_set_ne (fun q => hji q.symm)] at hj
    obtain ⟨ls2, e2, h2⟩ := lv_store1 (l := [(j, vl b w')]) (v := vl b w) ⟨h.1, h.2.1, fun q hq => by rw [List.mem_singleton.mp hq]; exact h.2.2 j w' hj⟩ hi (vl_cat b w)
    have e3 : ls2 = ls' := Option.some.inj (e2.symm.trans e)
    rw [e3] at h2
    refine h2.2.2 (j, vl b w') (List.mem_cons_of_mem _ (List.mem_filter.mpr ⟨List.mem_singleton.mpr rfl, ?_⟩))
    have h1 : (j == i) = false := by simpa using hji
    simp [h1, vl_cat]
/-! fewer known locals -/
def LW : List (Option Wd) → List (Option Wd) → Prop
  | [], _ => True
  | none :: a, b => LW a b.tail
  | some v :: a, b => b.head? = some (some v) ∧ LW a b.tail
theorem LW.at : ∀ {a b : List (Option Wd)}, LW a b → ∀ (i : Nat) (w : Wd), a[i]? = some (some w) → b[i]? = some (some w)
  | [], _, _, i, w, h => by simp at h
  | none :: a, b, hl, 0, w, h => by simp at h
  | none :: a, b, hl, i + 1, w, h => by
    have h1 := LW.at (a := a) (b := b.tail) hl i w (by simpa using h)
    simpa using h1
  | some v :: a, b, hl, 0, w, h => by
    simp at h
    subst h
    have := hl.1
    cases b <;> simp_all
  | some v :: a, b, hl, i + 1, w, h => by
    have h1 := LW.at (a := a) (b := b.tail) hl.2 i w (by simpa using h)
    simpa using h1
theorem LV.sub {b nL : Nat} {ls : Array Slot} {lv lv' : List (Option Wd)} (h : LV b ls nL lv) (hl : LW lv' lv) : LV b ls nL lv' := ⟨h.1, h.2.1, fun i w hi => h.2.2 i w (hl.at i w hi)⟩
/-! the operations, as partial functions of my heap -/
def oI (c j : Nat) (h : Hs) (o : Option Nat) : Option Int32 := match o with
  | none => none
  | some a => if (sh h a).1 = c then some (gI h (100 * c + j) a) else none
def oR (c j : Nat) (h : Hs) (o : Option Nat) : Option (Option Nat) := match o with
  | none => none
  | some a => if (sh h a).1 = c then some (gR h (100 * c + j) a) else none
def qI (c j : Nat) (h : Hs) (o : Option Nat) (v : Int32) : Option Hs := match o with
  | none => none
  | some a => if (sh h a).1 = c then some (uI h (100 * c + j) a v) else none
def qZ (c j : Nat) (h : Hs) (o : Option Nat) (v : Int32) : Option Hs := match o with
  | none => none
  | some a => if (sh h a).1 = c ∧ (v = 0 ∨ v = 1) then some (uI h (100 * c + j) a v) else none
def qR (c j : Nat) (h : Hs) (o v : Option Nat) : Option Hs := match o with
  | none => none
  | some a => if (sh h a).1 = c then some (uR h (100 * c + j) a v) else none
def ix (i : Int32) (n : Nat) : Prop := 0 ≤ i.toInt ∧ i.toInt < n
def ixb (i : Int32) (n : Nat) : Bool := decide (0 ≤ i.toInt) && decide (i.toInt < n)
theorem ixb_in {i : Int32} {n : Nat} (h : ixb i n = true) : vp_in i n := vp_in_iff.mpr (by simpa [ixb] using h)
def lA (t : Nat) (h : Hs) (o : Option Nat) (i : Int32) : Option Int32 := match o with
  | none => none
  | some a => if (sh h a).1 = t ∧ ixb i (sh h a).2 = true then some (aI h a i.toNatClampNeg) else none
def lQ (t : Nat) (h : Hs) (o : Option Nat) (i : Int32) : Option (Option Nat) := match o with
  | none => none
  | some a => if (sh h a).1 = t ∧ ixb i (sh h a).2 = true then some (aR h a i.toNatClampNeg) else none
def sA (h : Hs) (o : Option Nat) (i v : Int32) : Option Hs := match o with
  | none => none
  | some a => if (sh h a).1 = 20 ∧ ixb i (sh h a).2 = true then some (uA h a i.toNatClampNeg v) else none
def sZ (h : Hs) (o : Option Nat) (i v : Int32) : Option Hs := match o with
  | none => none
  | some a => if (sh h a).1 = 21 ∧ ixb i (sh h a).2 = true then some (uA h a i.toNatClampNeg (vp_nar .boolean v)) else none
def sB (h : Hs) (o : Option Nat) (i v : Int32) : Option Hs := match o with
  | none => none
  | some a => if (sh h a).1 = 22 ∧ ixb i (sh h a).2 = true then some (uA h a i.toNatClampNeg (vp_nar .byte v)) else none
def sQ (t c : Nat) (h : Hs) (o : Option Nat) (i : Int32) (v : Option Nat) : Option Hs := match o, v with
  | some a, some q => if (sh h a).1 = t ∧ ixb i (sh h a).2 = true ∧ (sh h q).1 = c then some (uQ h a i.toNatClampNeg (some q)) else none
  | _, _ => none
def oL (h : Hs) (o : Option Nat) : Option Int32 := match o with
  | none => none
  | some a => if (sh h a).1 = 20 then some (Int32.ofNat (sh h a).2) else none
def dv (x y : Int32) : Option Int32 := if y = 0 then none else some (x / y)
def rmd (x y : Int32) : Option Int32 := if y = 0 then none else some (x - x / y * y)
def rc (c : Nat) (h : Hs) (o : Option Nat) : Option Nat := match o with
  | none => none
  | some a => if (sh h a).1 = c then some a else none
def zc (v : Int32) : Option Int32 := if v = 0 ∨ v = 1 then some v else none
def cpA (h : Hs) (o : Option Nat) (sp : Int32) (o2 : Option Nat) (dp n : Int32) : Option Hs := match o, o2 with
  | some a, some q => if (sh h a).1 = 20 ∧ (sh h q).1 = 20 ∧ ¬ sp < 0 ∧ ¬ dp < 0 ∧ ¬ n < 0 ∧ sp.toNatClampNeg + n.toNatClampNeg ≤ (sh h a).2 ∧ dp.toNatClampNeg + n.toNatClampNeg ≤ (sh h q).2 then some (h.1, h.2.1, (fun a' j' => if a' = q then va_cpy (aI h a) (aI h q) sp.toNatClampNeg dp.toNatClampNeg n.toNatClampNeg j' else h.2.2.1 a' j'), h.2.2.2) else none
  | _, _ => none
/-! class facts -/
def FC (c : Nat) (C : String) (T : u_T) (N : Nat) (ty : Nat → FieldType) : Prop := cls13[c]? = some (C, T, N) ∧ (∀ w ∈ u_ws C T N, w ∈ gtb) ∧ (∀ k, k < N → parseFieldDescriptor (T k).2.2.1 = some (ty k)) ∧ (∀ a, a < N → ∀ b, b < N → a ≠ b → (T a).2.1 ≠ (T b).2.1) ∧ nF c = N ∧ c < 13 ∧ tyOf c = ty
/-- a field's link -/
def FL (own : String) (idx c j : Nat) : Prop := ∃ (C : String) (T : u_T) (N : Nat) (ty : Nat → FieldType), FC c C T N ty ∧ j < N ∧ Cond.fieldLink own idx (T j).1 (T j).2.1 (T j).2.2.1 ∈ gtb
/-- it may be written: not final -/
def FN (c j : Nat) : Prop := ∀ q, cls13[c]? = some q → (q.2.1 j).2.2.2 = false
/-- final, of this class -/
def FF (own : String) (c j : Nat) : Prop := ∀ q, cls13[c]? = some q → (q.2.1 j).2.2.2 = true ∧ (q.2.1 j).1 = own
def Cx (p : Program) (s : State) (m : MethodId) (args : Array Value) (meth : Method) (c : Code) (cc : ByteArray) (own : String) (nL : Nat) (G : Gl) : Prop :=
  p.tables.exec = Jvm.exec ∧ c.code = cc ∧ c.maxLocals = nL ∧ s.vm.findClass own = some m.cls ∧ (∀ w ∈ gtb, w.before args s = true) ∧ va_K G.2.1 cls13 (tys7 G.2.2) s ∧ NW s ∧ meth.locks = false ∧ G.1 ≤ s.heap.size
def V (p : Program) (l : Launch) (e : Env) (R : Room) (s : State) (m : MethodId) (args : Array Value) (below : List Frame) (meth : Method) (c : Code) (G : Gl) (nL : Nat) (Q : State → Prop) (h : Hs) (cells slots pc : Nat) (lv : List (Option Wd)) (st : List Wd) : Prop :=
  ∀ (H : Heap) (locs : List Loc) (ls : Array Slot), HP G h H → va_S (AG G) s.heap H locs → LV G.1 ls nL lv → W p l e R s m args below meth c H locs cells slots Q (F0 m pc ls (st.map (vl G.1)))
theorem bS {α β : Type} {x : Option α} {f : α → Option β} {r : β} (h : x.bind f = some r) : ∃ a, x = some a ∧ f a = some r := Option.bind_eq_some_iff.mp h
section Rows
variable {p : Program} {l : Launch} {e : Env} {R : Room} {s : State} {m : MethodId} {args : Array Value} {below : List Frame} {meth : Method} {c : Code} {cc : ByteArray} {own : String} {G : Gl} {nL : Nat} {Q : State → Prop} {h : Hs} {cells slots pc : Nat} {lv : List (Option Wd)} {st : List Wd}
theorem V.sub {lv' : List (Option Wd)} (k : V p l e R s m args below meth c G nL Q h cells slots pc lv' st) (hl : LW lv' lv) : V p l e R s m args below meth c G nL Q h cells slots pc lv st := fun H locs ls hH hS hL => k H locs ls hH hS (hL.sub hl)
theorem r_iconst (C : Cx p s m args meth c cc own nL G) {n : Int} {v : Int32} (d : decode cc pc = .ok (.iconst n, 1)) (hv : Int32.ofInt n = v) (k : V p l e R s m args below meth c G nL Q h cells slots (pc + 1) lv (.inl v :: st)) : V p l e R s m args below meth c G nL Q h cells slots pc lv st := fun H locs ls hH hS hL => lv_iconst C.1 C.2.1 d hv (k H locs ls hH hS hL)
theorem r_bipush (C : Cx p s m args meth c cc own nL G) {n : Int} {v : Int32} (d : decode cc pc = .ok (.bipush n, 2)) (hv : (Int8.ofInt n).toInt32 = v) (k : V p l e R s m args below meth c G nL Q h cells slots (pc + 2) lv (.inl v :: st)) : V p l e R s m args below meth c G nL Q h cells slots pc lv st := fun H locs ls hH hS hL => lv_bipush C.1 C.2.1 d hv (k H locs ls hH hS hL)
theorem r_sipush (C : Cx p s m args meth c cc own nL G) {n : Int} {v : Int32} (d : decode cc pc = .ok (.sipush n, 3)) (hv : (Int16.ofInt n).toInt32 = v) (k : V p l e R s m args below meth c G nL Q h cells slots (pc + 3) lv (.inl v :: st)) : V p l e R s m args below meth c G nL Q h cells slots pc lv st := fun H locs ls hH hS hL => lv_sipush C.1 C.2.1 d hv (k H locs ls hH hS hL)
theorem r_ldc (C : Cx p s m args meth c cc own nL G) {i : Nat} {v : Int32} (d : decode cc pc = .ok (.ldc i, 2)) (hv : Cond.constant own i v ∈ gtb) (k : V p l e R s m args below meth c G nL Q h cells slots (pc + 2) lv (.inl v :: st)) : V p l e R s m args below meth c G nL Q h cells slots pc lv st := fun H locs ls hH hS hL => lv_ldc C.1 C.2.1 C.2.2.2.1 (C.2.2.2.2.1 _ hv) d (k H locs ls hH hS hL)
theorem r_ldcw (C : Cx p s m args meth c cc own nL G) {i : Nat} {v : Int32} (d : decode cc pc = .ok (.ldc_w i, 3)) (hv : Cond.constant own i v ∈ gtb) (k : V p l e R s m args below meth c G nL Q h cells slots (pc + 3) lv (.inl v :: st)) : V p l e R s m args below meth c G nL Q h cells slots pc lv st := fun H locs ls hH hS hL => lv_ldcw C.1 C.2.1 C.2.2.2.1 (C.2.2.2.2.1 _ hv) d (k H locs ls hH hS hL)
theorem r_iload_n (C : Cx p s m args meth c cc own nL G) {i : Fin 4} {x : Int32} (d : decode cc pc = .ok (.iload_n i, 1)) (hl : lv[(i : Nat)]? = some (some (.inl x))) (k : V p l e R s m args below meth c G nL Q h cells slots (pc + 1) lv (.inl x :: st)) : V p l e R s m args below meth c G nL Q h cells slots pc lv st := fun H locs ls hH hS hL => lv_iload_n C.1 C.2.1 d rfl (hL.2.2 _ _ hl) (k H locs ls hH hS hL)
theorem r_iload (C : Cx p s m args meth c cc own nL G) {i : Nat} {x : Int32} (d : decode cc pc = .ok (.iload i, 2)) (hl : lv[i]? = some (some (.inl x))) (k : V p l e R s m args below meth c G nL Q h cells slots (pc + 2) lv (.inl x :: st)) : V p l e R s m args below meth c G nL Q h cells slots pc lv st := fun H locs ls hH hS hL => lv_iload C.1 C.2.1 d (hL.2.2 _ _ hl) (k H locs ls hH hS hL)
theorem r_aload_n (C : Cx p s m args meth c cc own nL G) {i : Fin 4} {o : Option Nat} (d : decode cc pc = .ok (.aload_n i, 1)) (hl : lv[(i : Nat)]? = some (some (.inr o))) (k : V p l e R s m args below meth c G nL Q h cells slots (pc + 1) lv (.inr o :: st)) : V p l e R s m args below meth c G nL Q h cells slots pc lv st := by
  intro H locs ls hH hS hL
  have h1 := hL.2.2 _ _ hl
  have h2 := k H locs ls hH hS hL
  cases o with
  | none => exact lv_aload_nN C.1 C.2.1 d rfl h1 h2
  | some a => exact lv_aload_n C.1 C.2.1 d rfl h1 h2
theorem r_aload (C : Cx p s m args meth c cc own nL G) {i : Nat} {o : Option Nat} (d : decode cc pc = .ok (.aload i, 2)) (hl : lv[i]? = some (some (.inr o))) (k : V p l e R s m args below meth c G nL Q h cells slots (pc + 2) lv (.inr o :: st)) : V p l e R s m args below meth c G nL Q h cells slots pc lv st := by
  intro H locs ls hH hS hL
  have h1 := hL.2.2 _ _ hl
  have h2 := k H locs ls hH hS hL
  cases o with
  | none => exact lv_aloadN C.1 C.2.1 d h1 h2
  | some a => exact lv_aload C.1 C.2.1 d h1 h2
section Ws
variable {H : Heap} {locs : List Loc} {ls : Array Slot} {rest : List Value}
theorem w_istore_n (hexec : p.tables.exec = Jvm.exec) (hb : c.code = cc) {i : Fin 4} {x : Int32} (hdg : decode cc pc = .ok (.istore_n i, 1)) {ls' : Array Slot} (e' : storeLocals ls (i : Nat) (.int x) = some ls') (kk : W p l e R s m args below meth c H locs cells slots Q (F0 m (pc + 1) ls' rest)) : W p l e R s m args below meth c H locs cells slots Q (F0 m pc ls (.int x :: rest)) := by
  intro T hT X
  obtain ⟨t, a, b⟩ := kk T hT X
  refine ⟨t, ?_, b⟩
  jvm_step X.here [X.here.top, ↓top_set X.here.top, hexec, hb, hdg, e']
  exact a
theorem w_istore (hexec : p.tables.exec = Jvm.exec) (hb : c.code = cc) {i : Nat} {x : Int32} (hdg : decode cc pc = .ok (.istore i, 2)) {ls' : Array Slot} (e' : storeLocals ls i (.int x) = some ls') (kk : W p l e R s m args below meth c H locs cells slots Q (F0 m (pc + 2) ls' rest)) : W p l e R s m args below meth c H locs cells slots Q (F0 m pc ls (.int x :: rest)) := by
  intro T hT X
  obtain ⟨t, a, b⟩ := kk T hT X
  refine ⟨t, ?_, b⟩
  jvm_step X.here [X.here.top, ↓top_set X.here.top, hexec, hb, hdg, e']
  exact a
theorem w_astore_n (hexec : p.tables.exec = Jvm.exec) (hb : c.code = cc) {i : Fin 4} {o : Option Nat} (hdg : decode cc pc = .ok (.astore_n i, 1)) {ls' : Array Slot} (e' : storeLocals ls (i : Nat) (va_rf o) = some ls') (kk : W p l e R s m args below meth c H locs cells slots Q (F0 m (pc + 1) ls' rest)) : W p l e R s m args below meth c H locs cells slots Q (F0 m pc ls (va_rf o :: rest)) := by
  intro T hT X
  obtain ⟨t, a, b⟩ := kk T hT X
  refine ⟨t, ?_, b⟩
  cases o <;> (simp only [va_rf] at e' ⊢; jvm_step X.here [X.here.top, ↓top_set X.here.top, hexec, hb, hdg, e', Value.isRef]; exact a)
theorem w_astore (hexec : p.tables.exec = Jvm.exec) (hb : c.code = cc) {i : Nat} {o : Option Nat} (hdg : decode cc pc = .ok (.astore i, 2)) {ls' : Array Slot} (e' : storeLocals ls i (va_rf o) = some ls') (kk : W p l e R s m args below meth c H locs cells slots Q (F0 m (pc + 2) ls' rest)) : W p l e R s m args below meth c H locs cells slots Q (F0 m pc ls (va_rf o :: rest)) := by
  intro T hT X
  obtain ⟨t, a, b⟩ := kk T hT X
  refine ⟨t, ?_, b⟩
  cases o <;> (simp only [va_rf] at e' ⊢; jvm_step X.here [X.here.top, ↓top_set X.here.top, hexec, hb, hdg, e', Value.isRef]; exact a)
theorem w_iinc (hexec : p.tables.exec = Jvm.exec) (hb : c.code = cc) {i : Nat} {n : Int} {x : Int32} (hdg : decode cc pc = .ok (.iinc i n, 3)) (hg : ls[i]? = some (.val (.int x))) {ls' : Array Slot} (e' : storeLocals ls i (.int (x + Int32.ofInt n)) = some ls') (kk : W p l e R s m args below meth c H locs cells slots Q (F0 m (pc + 3) ls' rest)) : W p l e R s m args below meth c H locs cells slots Q (F0 m pc ls rest) := by
  intro T hT X
  obtain ⟨t, a, b⟩ := kk T hT X
  refine ⟨t, ?_, b⟩
  jvm_step X.here [X.here.top, ↓top_set X.here.top, hexec, hb, hdg, hg, e']
  exact a
end Ws
theorem r_istore_n (C : Cx p s m args meth c cc own nL G) {i : Fin 4} {x : Int32} (d : decode cc pc = .ok (.istore_n i, 1)) (hi : (i : Nat) < nL) (k : V p l e R s m args below meth c G nL Q h cells slots (pc + 1) (lv.set i (some (.inl x))) st) : V p l e R s m args below meth c G nL Q h cells slots pc lv (.inl x :: st) := by
  intro H locs ls hH hS hL
  obtain ⟨ls', e', h'⟩ := hL.store hi (.inl x)
  exact w_istore_n C.1 C.2.1 d e' (k H locs ls' hH hS h')
theorem r_istore (C : Cx p s m args meth c cc own nL G) {i : Nat} {x : Int32} (d : decode cc pc = .ok (.istore i, 2)) (hi : i < nL) (k : V p l e R s m args below meth c G nL Q h cells slots (pc + 2) (lv.set i (some (.inl x))) st) : V p l e R s m args below meth c G nL Q h cells slots pc lv (.inl x :: st) := by
  intro H locs ls hH hS hL
  obtain ⟨ls', e', h'⟩ := hL.store hi (.inl x)
  exact w_istore C.1 C.2.1 d e' (k H locs ls' hH hS h')
theorem r_astore_n (C : Cx p s m args meth c cc own nL G) {i : Fin 4} {o : Option Nat} (d : decode cc pc = .ok (.astore_n i, 1)) (hi : (i : Nat) < nL) (k : V p l e R s m args below meth c G nL Q h cells slots (pc + 1) (lv.set i (some (.inr o))) st) : V p l e R s m args below meth c G nL Q h cells slots pc lv (.inr o :: st) := by
  intro H locs ls hH hS hL
  obtain ⟨ls', e', h'⟩ := hL.store hi (.inr o)
  exact w_astore_n C.1 C.2.1 d e' (k H locs ls' hH hS h')
theorem r_astore (C : Cx p s m args meth c cc own nL G) {i : Nat} {o : Option Nat} (d : decode cc pc = .ok (.astore i, 2)) (hi : i < nL) (k : V p l e R s m args below meth c G nL Q h cells slots (pc + 2) (lv.set i (some (.inr o))) st) : V p l e R s m args below meth c G nL Q h cells slots pc lv (.inr o :: st) := by
  intro H locs ls hH hS hL
  obtain ⟨ls', e', h'⟩ := hL.store hi (.inr o)
  exact w_astore C.1 C.2.1 d e' (k H locs ls' hH hS h')
theorem r_iinc (C : Cx p s m args meth c cc own nL G) {i : Nat} {n : Int} {x v : Int32} (d : decode cc pc = .ok (.iinc i n, 3)) (hl : lv[i]? = some (some (.inl x))) (hv : Int32.ofInt n = v) (hi : i < nL) (k : V p l e R s m args below meth c G nL Q h cells slots (pc + 3) (lv.set i (some (.inl (x + v)))) st) : V p l e R s m args below meth c G nL Q h cells slots pc lv st := by
  subst hv
  intro H locs ls hH hS hL
  obtain ⟨ls', e', h'⟩ := hL.store hi (.inl (x + Int32.ofInt n))
  exact w_iinc C.1 C.2.1 d (hL.2.2 _ _ hl) e' (k H locs ls' hH hS h')
theorem r_null (C : Cx p s m args meth c cc own nL G) (d : decode cc pc = .ok (.aconst_null, 1)) (k : V p l e R s m args below meth c G nL Q h cells slots (pc + 1) lv (.inr none :: st)) : V p l e R s m args below meth c G nL Q h cells slots pc lv st := fun H locs ls hH hS hL => lv_null C.1 C.2.1 d (k H locs ls hH hS hL)
theorem r_iadd (C : Cx p s m args meth c cc own nL G) {x y : Int32} (d : decode cc pc = .ok (.iadd, 1)) (k : V p l e R s m args below meth c G nL Q h cells slots (pc + 1) lv (.inl (x + y) :: st)) : V p l e R s m args below meth c G nL Q h cells slots pc lv (.inl y :: .inl x :: st) := fun H locs ls hH hS hL => lv_iadd C.1 C.2.1 d (k H locs ls hH hS hL)
theorem r_isub (C : Cx p s m args meth c cc own nL G) {x y : Int32} (d : decode cc pc = .ok (.isub, 1)) (k : V p l e R s m args below meth c G nL Q h cells slots (pc + 1) lv (.inl (x - y) :: st)) : V p l e R s m args below meth c G nL Q h cells slots pc lv (.inl y :: .inl x :: st) := fun H locs ls hH hS hL => lv_isub C.1 C.2.1 d (k H locs ls hH hS hL)
theorem r_imul (C : Cx p s m args meth c cc own nL G) {x y : Int32} (d : decode cc pc = .ok (.imul, 1)) (k : V p l e R s m args below meth c G nL Q h cells slots (pc + 1) lv (.inl (x * y) :: st)) : V p l e R s m args below meth c G nL Q h cells slots pc lv (.inl y :: .inl x :: st) := fun H locs ls hH hS hL => lv_imul C.1 C.2.1 d (k H locs ls hH hS hL)
theorem r_iand (C : Cx p s m args meth c cc own nL G) {x y : Int32} (d : decode cc pc = .ok (.iand, 1)) (k : V p l e R s m args below meth c G nL Q h cells slots (pc + 1) lv (.inl (x &&& y) :: st)) : V p l e R s m args below meth c G nL Q h cells slots pc lv (.inl y :: .inl x :: st) := fun H locs ls hH hS hL => lv_iand C.1 C.2.1 d (k H locs ls hH hS hL)
theorem r_ior (C : Cx p s m args meth c cc own nL G) {x y : Int32} (d : decode cc pc = .ok (.ior, 1)) (k : V p l e R s m args below meth c G nL Q h cells slots (pc + 1) lv (.inl (x ||| y) :: st)) : V p l e R s m args below meth c G nL Q h cells slots pc lv (.inl y :: .inl x :: st) := fun H locs ls hH hS hL => lv_ior C.1 C.2.1 d (k H locs ls hH hS hL)
theorem r_ishl (C : Cx p s m args meth c cc own nL G) {x y : Int32} (d : decode cc pc = .ok (.ishl, 1)) (k : V p l e R s m args below meth c G nL Q h cells slots (pc + 1) lv (.inl (x <<< (y &&& 31)) :: st)) : V p l e R s m args below meth c G nL Q h cells slots pc lv (.inl y :: .inl x :: st) := fun H locs ls hH hS hL => lv_ishl C.1 C.2.1 d (k H locs ls hH hS hL)
theorem r_ishr (C : Cx p s m args meth c cc own nL G) {x y : Int32} (d : decode cc pc = .ok (.ishr, 1)) (k : V p l e R s m args below meth c G nL Q h cells slots (pc + 1) lv (.inl (x >>> (y &&& 31)) :: st)) : V p l e R s m args below meth c G nL Q h cells slots pc lv (.inl y :: .inl x :: st) := fun H locs ls hH hS hL => lv_ishr C.1 C.2.1 d (k H locs ls hH hS hL)
theorem r_iushr (C : Cx p s m args meth c cc own nL G) {x y : Int32} (d : decode cc pc = .ok (.iushr, 1)) (k : V p l e R s m args below meth c G nL Q h cells slots (pc + 1) lv (.inl ((x.toUInt32 >>> (y.toUInt32 &&& Int32.toUInt32 31)).toInt32) :: st)) : V p l e R s m args below meth c G nL Q h cells slots pc lv (.inl y :: .inl x :: st) := fun H locs ls hH hS hL => lv_iushr C.1 C.2.1 d rfl (k H locs ls hH hS hL)
theorem r_ineg (C : Cx p s m args meth c cc own nL G) {x : Int32} (d : decode cc pc = .ok (.ineg, 1)) (k : V p l e R s m args below meth c G nL Q h cells slots (pc + 1) lv (.inl (-x) :: st)) : V p l e R s m args below meth c G nL Q h cells slots pc lv (.inl x :: st) := fun H locs ls hH hS hL => lv_ineg C.1 C.2.1 d (k H locs ls hH hS hL)
theorem r_i2b (C : Cx p s m args meth c cc own nL G) {x : Int32} (d : decode cc pc = .ok (.i2b, 1)) (k : V p l e R s m args below meth c G nL Q h cells slots (pc + 1) lv (.inl (x.toInt8.toInt32) :: st)) : V p l e R s m args below meth c G nL Q h cells slots pc lv (.inl x :: st) := fun H locs ls hH hS hL => lv_i2b C.1 C.2.1 d rfl (k H locs ls hH hS hL)
theorem r_idiv (C : Cx p s m args meth c cc own nL G) {x y v : Int32} (d : decode cc pc = .ok (.idiv, 1)) (eq : dv x y = some v) (k : V p l e R s m args below meth c G nL Q h cells slots (pc + 1) lv (.inl v :: st)) : V p l e R s m args below meth c G nL Q h cells slots pc lv (.inl y :: .inl x :: st) := by
  unfold dv at eq
  split at eq
  · cases eq
  · rename_i hne
    cases eq
    exact fun H locs ls hH hS hL => lv_idiv C.1 C.2.1 d hne (k H locs ls hH hS hL)
theorem r_idivK (C : Cx p s m args meth c cc own nL G) {x y : Int32} (d : decode cc pc = .ok (.idiv, 1)) (hne : ¬ y = 0) (k : V p l e R s m args below meth c G nL Q h cells slots (pc + 1) lv (.inl (x / y) :: st)) : V p l e R s m args below meth c G nL Q h cells slots pc lv (.inl y :: .inl x :: st) := fun H locs ls hH hS hL => lv_idiv C.1 C.2.1 d hne (k H locs ls hH hS hL)
theorem r_irem (C : Cx p s m args meth c cc own nL G) {x y v : Int32} (d : decode cc pc = .ok (.irem, 1)) (eq : rmd x y = some v) (k : V p l e R s m args below meth c G nL Q h cells slots (pc + 1) lv (.inl v :: st)) : V p l e R s m args below meth c G nL Q h cells slots pc lv (.inl y :: .inl x :: st) := by
  unfold rmd at eq
  split at eq
  · cases eq
  · rename_i hne
    cases eq
    exact fun H locs ls hH hS hL => lv_irem C.1 C.2.1 d hne (k H locs ls hH hS hL)
theorem r_iremK (C : Cx p s m args meth c cc own nL G) {x y : Int32} (d : decode cc pc = .ok (.irem, 1)) (hne : ¬ y = 0) (k : V p l e R s m args below meth c G nL Q h cells slots (pc + 1) lv (.inl (x - x / y * y) :: st)) : V p l e R s m args below meth c G nL Q h cells slots pc lv (.inl y :: .inl x :: st) := fun H locs ls hH hS hL => lv_irem C.1 C.2.1 d hne (k H locs ls hH hS hL)
theorem r_dup (C : Cx p s m args meth c cc own nL G) {w : Wd} (d : decode cc pc = .ok (.dup, 1)) (k : V p l e R s m args below meth c G nL Q h cells slots (pc + 1) lv (w :: w :: st)) : V p l e R s m args below meth c G nL Q h cells slots pc lv (w :: st) := fun H locs ls hH hS hL => lv_dup C.1 C.2.1 d (vl_cat _ _) (k H locs ls hH hS hL)
theorem r_pop (C : Cx p s m args meth c cc own nL G) {w : Wd} (d : decode cc pc = .ok (.pop, 1)) (k : V p l e R s m args below meth c G nL Q h cells slots (pc + 1) lv st) : V p l e R s m args below meth c G nL Q h cells slots pc lv (w :: st) := fun H locs ls hH hS hL => lv_pop C.1 C.2.1 d (vl_cat _ _) (k H locs ls hH hS hL)
theorem r_dup_x1 (C : Cx p s m args meth c cc own nL G) {w z : Wd} (d : decode cc pc = .ok (.dup_x1, 1)) (k : V p l e R s m args below meth c G nL Q h cells slots (pc + 1) lv (w :: z :: w :: st)) : V p l e R s m args below meth c G nL Q h cells slots pc lv (w :: z :: st) := fun H locs ls hH hS hL => lv_dup_x1 C.1 C.2.1 d (vl_cat _ _) (vl_cat _ _) (k H locs ls hH hS hL)
theorem r_dup2 (C : Cx p s m args meth c cc own nL G) {w z : Wd} (d : decode cc pc = .ok (.dup2, 1)) (k : V p l e R s m args below meth c G nL Q h cells slots (pc + 1) lv (w :: z :: w :: z :: st)) : V p l e R s m args below meth c G nL Q h cells slots pc lv (w :: z :: st) := fun H locs ls hH hS hL => lv_dup2_11 C.1 C.2.1 d (vl_cat _ _) (vl_cat _ _) (k H locs ls hH hS hL)
theorem r_if_eq (C : Cx p s m args meth c cc own nL G) {x : Int32} {off : Int} {tgt : Nat} (d : decode cc pc = .ok (.ifCond .eq off, 3)) (ht : (pc : Int) + off = (tgt : Int)) (kt : x = 0 → V p l e R s m args below meth c G nL Q h cells slots tgt lv st) (kf : ¬ x = 0 → V p l e R s m args below meth c G nL Q h cells slots (pc + 3) lv st) : V p l e R s m args below meth c G nL Q h cells slots pc lv (.inl x :: st) := fun H locs ls hH hS hL => lv_if_eq C.1 C.2.1 d ht (fun q => kt q H locs ls hH hS hL) (fun q => kf q H locs ls hH hS hL)
theorem r_icmp_eq (C : Cx p s m args meth c cc own nL G) {x y : Int32} {off : Int} {tgt : Nat} (d : decode cc pc = .ok (.if_icmp .eq off, 3)) (ht : (pc : Int) + off = (tgt : Int)) (kt : x = y → V p l e R s m args below meth c G nL Q h cells slots tgt lv st) (kf : ¬ x = y → V p l e R s m args below meth c G nL Q h cells slots (pc + 3) lv st) : V p l e R s m args below meth c G nL Q h cells slots pc lv (.inl y :: .inl x :: st) := fun H locs ls hH hS hL => lv_icmp_eq C.1 C.2.1 d ht (fun q => kt q H locs ls hH hS hL) (fun q => kf q H locs ls hH hS hL)
theorem r_if_ne (C : Cx p s m args meth c cc own nL G) {x : Int32} {off : Int} {tgt : Nat} (d : decode cc pc = .ok (.ifCond .ne off, 3)) (ht : (pc : Int) + off = (tgt : Int)) (kt : ¬ x = 0 → V p l e R s m args below meth c G nL Q h cells slots tgt lv st) (kf : x = 0 → V p l e R s m args below meth c G nL Q h cells slots (pc + 3) lv st) : V p l e R s m args below meth c G nL Q h cells slots pc lv (.inl x :: st) := fun H locs ls hH hS hL => lv_if_ne C.1 C.2.1 d ht (fun q => kt q H locs ls hH hS hL) (fun q => kf q H locs ls hH hS hL)
theorem r_icmp_ne (C : Cx p s m args meth c cc own nL G) {x y : Int32} {off : Int} {tgt : Nat} (d : decode cc pc = .ok (.if_icmp .ne off, 3)) (ht : (pc : Int) + off = (tgt : Int)) (kt : ¬ x = y → V p l e R s m args below meth c G nL Q h cells slots tgt lv st) (kf : x = y → V p l e R s m args below meth c G nL Q h cells slots (pc + 3) lv st) : V p l e R s m args below meth c G nL Q h cells slots pc lv (.inl y :: .inl x :: st) := fun H locs ls hH hS hL => lv_icmp_ne C.1 C.2.1 d ht (fun q => kt q H locs ls hH hS hL) (fun q => kf q H locs ls hH hS hL)
theorem r_if_lt (C : Cx p s m args meth c cc own nL G) {x : Int32} {off : Int} {tgt : Nat} (d : decode cc pc = .ok (.ifCond .lt off, 3)) (ht : (pc : Int) + off = (tgt : Int)) (kt : x < 0 → V p l e R s m args below meth c G nL Q h cells slots tgt lv st) (kf : ¬ x < 0 → V p l e R s m args below meth c G nL Q h cells slots (pc + 3) lv st) : V p l e R s m args below meth c G nL Q h cells slots pc lv (.inl x :: st) := fun H locs ls hH hS hL => lv_if_lt C.1 C.2.1 d ht (fun q => kt q H locs ls hH hS hL) (fun q => kf q H locs ls hH hS hL)
theorem r_icmp_lt (C : Cx p s m args meth c cc own nL G) {x y : Int32} {off : Int} {tgt : Nat} (d : decode cc pc = .ok (.if_icmp .lt off, 3)) (ht : (pc : Int) + off = (tgt : Int)) (kt : x < y → V p l e R s m args below meth c G nL Q h cells slots tgt lv st) (kf : ¬ x < y → V p l e R s m args below meth c G nL Q h cells slots (pc + 3) lv st) : V p l e R s m args below meth c G nL Q h cells slots pc lv (.inl y :: .inl x :: st) := fun H locs ls hH hS hL => lv_icmp_lt C.1 C.2.1 d ht (fun q => kt q H locs ls hH hS hL) (fun q => kf q H locs ls hH hS hL)
theorem r_if_ge (C : Cx p s m args meth c cc own nL G) {x : Int32} {off : Int} {tgt : Nat} (d : decode cc pc = .ok (.ifCond .ge off, 3)) (ht : (pc : Int) + off = (tgt : Int)) (kt : 0 ≤ x → V p l e R s m args below meth c G nL Q h cells slots tgt lv st) (kf : ¬ 0 ≤ x → V p l e R s m args below meth c G nL Q h cells slots (pc + 3) lv st) : V p l e R s m args below meth c G nL Q h cells slots pc lv (.inl x :: st) := fun H locs ls hH hS hL => lv_if_ge C.1 C.2.1 d ht (fun q => kt q H locs ls hH hS hL) (fun q => kf q H locs ls hH hS hL)
theorem r_icmp_ge (C : Cx p s m args meth c cc own nL G) {x y : Int32} {off : Int} {tgt : Nat} (d : decode cc pc = .ok (.if_icmp .ge off, 3)) (ht : (pc : Int) + off = (tgt : Int)) (kt : y ≤ x → V p l e R s m args below meth c G nL Q h cells slots tgt lv st) (kf : ¬ y ≤ x → V p l e R s m args below meth c G nL Q h cells slots (pc + 3) lv st) : V p l e R s m args below meth c G nL Q h cells slots pc lv (.inl y :: .inl x :: st) := fun H locs ls hH hS hL => lv_icmp_ge C.1 C.2.1 d ht (fun q => kt q H locs ls hH hS hL) (fun q => kf q H locs ls hH hS hL)
theorem r_if_gt (C : Cx p s m args meth c cc own nL G) {x : Int32} {off : Int} {tgt : Nat} (d : decode cc pc = .ok (.ifCond .gt off, 3)) (ht : (pc : Int) + off = (tgt : Int)) (kt : 0 < x → V p l e R s m args below meth c G nL Q h cells slots tgt lv st) (kf : ¬ 0 < x → V p l e R s m args below meth c G nL Q h cells slots (pc + 3) lv st) : V p l e R s m args below meth c G nL Q h cells slots pc lv (.inl x :: st) := fun H locs ls hH hS hL => lv_if_gt C.1 C.2.1 d ht (fun q => kt q H locs ls hH hS hL) (fun q => kf q H locs ls hH hS hL)
theorem r_icmp_gt (C : Cx p s m args meth c cc own nL G) {x y : Int32} {off : Int} {tgt : Nat} (d : decode cc pc = .ok (.if_icmp .gt off, 3)) (ht : (pc : Int) + off = (tgt : Int)) (kt : y < x → V p l e R s m args below meth c G nL Q h cells slots tgt lv st) (kf : ¬ y < x → V p l e R s m args below meth c G nL Q h cells slots (pc + 3) lv st) : V p l e R s m args below meth c G nL Q h cells slots pc lv (.inl y :: .inl x :: st) := fun H locs ls hH hS hL => lv_icmp_gt C.1 C.2.1 d ht (fun q => kt q H locs ls hH hS hL) (fun q => kf q H locs ls hH hS hL)
theorem r_if_le (C : Cx p s m args meth c cc own nL G) {x : Int32} {off : Int} {tgt : Nat} (d : decode cc pc = .ok (.ifCond .le off, 3)) (ht : (pc : Int) + off = (tgt : Int)) (kt : x ≤ 0 → V p l e R s m args below meth c G nL Q h cells slots tgt lv st) (kf : ¬ x ≤ 0 → V p l e R s m args below meth c G nL Q h cells slots (pc + 3) lv st) : V p l e R s m args below meth c G nL Q h cells slots pc lv (.inl x :: st) := fun H locs ls hH hS hL => lv_if_le C.1 C.2.1 d ht (fun q => kt q H locs ls hH hS hL) (fun q => kf q H locs ls hH hS hL)
theorem r_icmp_le (C : Cx p s m args meth c cc own nL G) {x y : Int32} {off : Int} {tgt : Nat} (d : decode cc pc = .ok (.if_icmp .le off, 3)) (ht : (pc : Int) + off = (tgt : Int)) (kt : x ≤ y → V p l e R s m args below meth c G nL Q h cells slots tgt lv st) (kf : ¬ x ≤ y → V p l e R s m args below meth c G nL Q h cells slots (pc + 3) lv st) : V p l e R s m args below meth c G nL Q h cells slots pc lv (.inl y :: .inl x :: st) := fun H locs ls hH hS hL => lv_icmp_le C.1 C.2.1 d ht (fun q => kt q H locs ls hH hS hL) (fun q => kf q H locs ls hH hS hL)
theorem r_goto (C : Cx p s m args meth c cc own nL G) {off : Int} {tgt : Nat} (d : decode cc pc = .ok (.goto off, 3)) (ht : (pc : Int) + off = (tgt : Int)) (k : V p l e R s m args below meth c G nL Q h cells slots tgt lv st) : V p l e R s m args below meth c G nL Q h cells slots pc lv st := fun H locs ls hH hS hL => lv_goto C.1 C.2.1 d ht (k H locs ls hH hS hL)
theorem r_ifnull (C : Cx p s m args meth c cc own nL G) {o : Option Nat} {off : Int} {tgt : Nat} (d : decode cc pc = .ok (.ifnull off, 3)) (ht : (pc : Int) + off = (tgt : Int)) (kt : o = none → V p l e R s m args below meth c G nL Q h cells slots tgt lv st) (kf : ¬ o = none → V p l e R s m args below meth c G nL Q h cells slots (pc + 3) lv st) : V p l e R s m args below meth c G nL Q h cells slots pc lv (.inr o :: st) := by
  intro H locs ls hH hS hL
  cases o with
  | none => exact lv_ifnullN C.1 C.2.1 d ht (kt rfl H locs ls hH hS hL)
  | some a => exact lv_ifnull C.1 C.2.1 d (kf (fun q => by cases q) H locs ls hH hS hL)
theorem r_ifnonnull (C : Cx p s m args meth c cc own nL G) {o : Option Nat} {off : Int} {tgt : Nat} (d : decode cc pc = .ok (.ifnonnull off, 3)) (ht : (pc : Int) + off = (tgt : Int)) (kt : ¬ o = none → V p l e R s m args below meth c G nL Q h cells slots tgt lv st) (kf : o = none → V p l e R s m args below meth c G nL Q h cells slots (pc + 3) lv st) : V p l e R s m args below meth c G nL Q h cells slots pc lv (.inr o :: st) := by
  intro H locs ls hH hS hL
  cases o with
  | none => exact lv_ifnonnullN C.1 C.2.1 d (kf rfl H locs ls hH hS hL)
  | some a => exact lv_ifnonnull C.1 C.2.1 d ht (kt (fun q => by cases q) H locs ls hH hS hL)
theorem rf_inj {b : Nat} {o o2 : Option Nat} : rf b o = rf b o2 ↔ o = o2 := by
  cases o <;> cases o2 <;> simp [rf]
theorem r_acmp_eq (C : Cx p s m args meth c cc own nL G) {x y : Option Nat} {off : Int} {tgt : Nat} (d : decode cc pc = .ok (.if_acmp .eq off, 3)) (ht : (pc : Int) + off = (tgt : Int)) (kt : x = y → V p l e R s m args below meth c G nL Q h cells slots tgt lv st) (kf : ¬ x = y → V p l e R s m args below meth c G nL Q h cells slots (pc + 3) lv st) : V p l e R s m args below meth c G nL Q h cells slots pc lv (.inr y :: .inr x :: st) := fun H locs ls hH hS hL => lv_acmp_eq C.1 C.2.1 d ht (fun q => kt (rf_inj.mp q) H locs ls hH hS hL) (fun q => kf (fun z => q (rf_inj.mpr z)) H locs ls hH hS hL)
theorem r_acmp_ne (C : Cx p s m args meth c cc own nL G) {x y : Option Nat} {off : Int} {tgt : Nat} (d : decode cc pc = .ok (.if_acmp .ne off, 3)) (ht : (pc : Int) + off = (tgt : Int)) (kt : ¬ x = y → V p l e R s m args below meth c G nL Q h cells slots tgt lv st) (kf : x = y → V p l e R s m args below meth c G nL Q h cells slots (pc + 3) lv st) : V p l e R s m args below meth c G nL Q h cells slots pc lv (.inr y :: .inr x :: st) := fun H locs ls hH hS hL => lv_acmp_ne C.1 C.2.1 d ht (fun q => kt (fun z => q (rf_inj.mpr z)) H locs ls hH hS hL) (fun q => kf (rf_inj.mp q) H locs ls hH hS hL)
theorem r_tabOut (C : Cx p s m args meth c cc own nL G) {dflt lo hi : Int} {offs : Array Int} {len : Nat} {x : Int32} {tgt : Nat} (d : decode cc pc = .ok (.tableswitch dflt lo hi offs, len)) (hx : x.toInt < lo ∨ hi < x.toInt) (ht : (pc : Int) + dflt = (tgt : Int)) (k : V p l e R s m args below meth c G nL Q h cells slots tgt lv st) : V p l e R s m args below meth c G nL Q h cells slots pc lv (.inl x :: st) := fun H locs ls hH hS hL => lv_tableOut C.1 C.2.1 d hx ht (k H locs ls hH hS hL)
theorem r_tabIn (C : Cx p s m args meth c cc own nL G) {dflt lo hi : Int} {offs : Array Int} {len : Nat} {x : Int32} {off : Int} {tgt : Nat} (d : decode cc pc = .ok (.tableswitch dflt lo hi offs, len)) (h1 : ¬ x.toInt < lo) (h2 : ¬ hi < x.toInt) (ho : offs[(x.toInt - lo).toNat]? = some off) (ht : (pc : Int) + off = (tgt : Int)) (k : V p l e R s m args below meth c G nL Q h cells slots tgt lv st) : V p l e R s m args below meth c G nL Q h cells slots pc lv (.inl x :: st) := fun H locs ls hH hS hL => lv_tableIn C.1 C.2.1 d h1 h2 ho ht (k H locs ls hH hS hL)
end Rows
