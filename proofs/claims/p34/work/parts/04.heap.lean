section Rows2
variable {p : Program} {l : Launch} {e : Env} {R : Room} {s : State} {m : MethodId} {args : Array Value} {below : List Frame} {meth : Method} {c : Code} {cc : ByteArray} {own : String} {G : Gl} {nL : Nat} {Q : State → Prop} {h : Hs} {cells slots pc : Nat} {lv : List (Option Wd)} {st : List Wd}
theorem r_getI (C : Cx p s m args meth c cc own nL G) {idx ci j : Nat} {o : Option Nat} {v : Int32} (d : decode cc pc = .ok (.getfield idx, 3)) (fl : FL own idx ci j) (hr : refTy (tyOf ci j) = false) (eq : oI ci j h o = some v) (k : V p l e R s m args below meth c G nL Q h cells slots (pc + 3) lv (.inl v :: st)) : V p l e R s m args below meth c G nL Q h cells slots pc lv (.inr o :: st) := by
  cases o with
  | none => cases eq
  | some a =>
    unfold oI at eq
    simp only at eq
    split at eq
    · rename_i hs
      cases eq
      intro H locs ls hH hS hL
      obtain ⟨Cn, T, N, ty, ⟨f1, f2, f3, f4, f5, f6, f7⟩, hj, hlk⟩ := fl
      obtain ⟨hx, hb, hml, hown, hts, hK, hNW, hlk2, hbs⟩ := C
      have ha := hH.lt hs (by omega)
      have he := ws_at (G := G) ha
      rw [ce_obj hs f6] at he
      refine va_get (v := .int (gI h (100 * ci + j) a)) hx hb hts f2 hown hK hH.1 a he f1 j hj (hts _ hlk) (fun _ q => q) ?_ d (k H locs ls hH hS hL)
      rw [fvs_at (by rw [f5]; exact hj)]
      simp [fv, hr]
    · cases eq
theorem r_getR (C : Cx p s m args meth c cc own nL G) {idx ci j : Nat} {o : Option Nat} {v : Option Nat} (d : decode cc pc = .ok (.getfield idx, 3)) (fl : FL own idx ci j) (hr : refTy (tyOf ci j) = true) (eq : oR ci j h o = some v) (k : V p l e R s m args below meth c G nL Q h cells slots (pc + 3) lv (.inr v :: st)) : V p l e R s m args below meth c G nL Q h cells slots pc lv (.inr o :: st) := by
  cases o with
  | none => cases eq
  | some a =>
    unfold oR at eq
    simp only at eq
    split at eq
    · rename_i hs
      cases eq
      intro H locs ls hH hS hL
      obtain ⟨Cn, T, N, ty, ⟨f1, f2, f3, f4, f5, f6, f7⟩, hj, hlk⟩ := fl
      obtain ⟨hx, hb, hml, hown, hts, hK, hNW, hlk2, hbs⟩ := C
      have ha := hH.lt hs (by omega)
      have he := ws_at (G := G) ha
      rw [ce_obj hs f6] at he
      refine va_get (v := va_rf (rf G.1 (gR h (100 * ci + j) a))) hx hb hts f2 hown hK hH.1 a he f1 j hj (hts _ hlk) (fun _ q => q) ?_ d (k H locs ls hH hS hL)
      rw [fvs_at (by rw [f5]; exact hj)]
      simp [fv, hr]
    · cases eq
/-- the written world is the picture's -/
theorem HP.put {H H1 : Heap} {h h' : Hs} {a : Nat} (hH : HP G h H) (ha : a < sz h) (hz : sz h' = sz h) (hsh : ∀ k, (sh h' k).1 = (sh h k).1) (ho : ∀ k, k ≠ a → ce G h' k = ce G h k) (hat : va_at G.2.1 cls13 (G.1 + a, ce G h' a) H1) (oq : ∀ q : Nat, q ≠ G.1 + a → H1[q]? = H[q]?) (hsz : H1.size = H.size) : HP G h' H1 := by
  have hP := hH.1.set (ws_D G h) (ws_at ha) hat oq
  rw [ws_set ha hz (fun k _ hk => ho k hk)] at hP
  refine ⟨hP, by rw [hsz, hz]; exact hH.2.1, fun q hq => ?_, by rw [hz]; exact hH.2.2.2.1, fun q hq => by rw [hsh]; exact hH.2.2.2.2 q hq⟩
  rw [hsh]
  exact hH.2.2.1 q (by rw [← hz]; exact hq)
theorem HP.objAt {H : Heap} (hH : HP G h H) {a ci : Nat} {q : vw_C} (hs : (sh h a).1 = ci) (hc : ci < 13) (hq : cls13[ci]? = some q) : t_OB (G.1 + a) (G.2.1.1 ci) q.2.2 (G.2.1.2 ci) H (vp_V (fvs G.1 h ci a)) := by
  have ha := hH.lt hs (by omega)
  have he := hH.1 a _ (ws_at ha)
  rw [ce_obj hs hc] at he
  obtain ⟨r, h1, h2⟩ := he
  cases h1.symm.trans hq
  exact h2
theorem HP.arrAt {H : Heap} (hH : HP G h H) {a t : Nat} (hs : (sh h a).1 = 20 + t) (ht : t < 3) : H[G.1 + a]? = some (arrV (G.2.2 t) (sh h a).2 (fun j => .int (aI h a j))) := by
  have ha := hH.lt hs (by omega)
  have he := hH.1 a _ (ws_at ha)
  rw [ce_int hs ht] at he
  exact he
theorem HP.refAt {H : Heap} (hH : HP G h H) {a t : Nat} (hs : (sh h a).1 = 20 + t) (ht : 3 ≤ t) (ht2 : t < 7) : H[G.1 + a]? = some (arrV (G.2.2 t) (sh h a).2 (fun j => va_rf (rf G.1 (aR h a j)))) := by
  have ha := hH.lt hs (by omega)
  have he := hH.1 a _ (ws_at ha)
  rw [ce_ref hs ht] at he
  exact he
theorem nar_ref {t : FieldType} (hr : refTy t = true) {o : Option Nat} : narrow t (va_rf o) = va_rf o := by
  cases t <;> simp [refTy] at hr <;> cases o <;> rfl
theorem fit_ref {t : FieldType} (hr : refTy t = true) {o : Option Nat} : fits t (va_rf o) = true := by
  cases t <;> simp [refTy] at hr <;> cases o <;> rfl
/-- a field is written, seen from the machine: what the new cell holds -/
theorem w_put (C : Cx p s m args meth c cc own nL G) {H : Heap} {locs : List Loc} {ls : Array Slot} {rest : List Value} {idx ci j a : Nat} {v : Value} {vs : List Value} (fl : FL own idx ci j) (hfin : FN ci j ∨ (FF own ci j ∧ meth.name = "<init>")) (hn : narrow (tyOf ci j) v = v) (hf : fits (tyOf ci j) v = true) (hob : ∀ q, cls13[ci]? = some q → t_OB a (G.2.1.1 ci) q.2.2 (G.2.1.2 ci) H (vp_V vs)) (hvl : vs.length = nF ci) (d : decode cc pc = .ok (.putfield idx, 3))
    (kk : ∀ (H1 : Heap) (i : Nat), va_at G.2.1 cls13 (a, .inr (ci, vs.set j v)) H1 → (∀ q : Nat, q ≠ a → H1[q]? = H[q]?) → H1.size = H.size → W p l e R s m args below meth c H1 (locs ++ [⟨a, i⟩]) cells slots Q (F0 m (pc + 3) ls rest)) : W p l e R s m args below meth c H locs cells slots Q (F0 m pc ls (v :: .ref a :: rest)) := by
  obtain ⟨Cn, T, N, ty, ⟨f1, f2, f3, f4, f5, f6, f7⟩, hj, hlk⟩ := fl
  obtain ⟨hx, hb, hml, hown, hts, hK, hNW, hlk2, hbs⟩ := C
  have hap := va_apart (own := own) hts f2 ty f3 f4 hK f1
  obtain ⟨cell, q1, q2, q3, q4⟩ := hob _ f1
  obtain ⟨hS, hfc, kC, hkC, hkind⟩ := hK.1 ci _ f1
  obtain ⟨cf, kf, fi, f, hi, hsl⟩ := hS j hj
  have hst := (u_facts hfc hkC (u_lays hts f2 hj) hi).1
  have hd : parseFieldDescriptor (T j).2.2.1 = some (tyOf ci j) := by rw [f7]; exact f3 j hj
  have hlt : f.slot < cell.slots.size := by rw [hsl]; exact k2_hasslot (q4 j hj)
  have fin : ∀ H' : Heap, H'[a]? = some (cell.setSlot f.slot v) → va_at G.2.1 cls13 (a, .inr (ci, vs.set j v)) H' := fun H' e1 => by
    rw [hsl] at e1
    exact ⟨_, f1, t_OB.to (V := updV (vp_V vs) j v) ⟨_, e1, q2, q3, t_set q4 hap hj v⟩ (fun i _ => vp_updV_set (by rw [hvl, f5]; exact hj) v i)⟩
  have hlay := hts _ (f2 _ (u_in_lay hj))
  unfold u_lay at hlay
  rcases hfin with hfin | ⟨hfin, hini⟩
  · have hff := hfin _ f1
    simp only at hff
    rw [if_neg (by rw [hff]; decide)] at hlay
    have h6 := u_store hfc hkC hkind hlay hi hd hn hf
    exact W.putK hx hb (f := f) ⟨hown, hts _ hlk, ⟨_, _, _, hi⟩, hst⟩ (by rw [q2]; exact h6) q1 q3 hlt rfl rfl d fun H' e1 e2 e3 => kk H' _ (fin H' e1) e3 e2
  · obtain ⟨hff, hdecl⟩ := hfin _ f1
    simp only at hff hdecl
    rw [if_pos hff] at hlay
    have hcf : m.cls = cf := by
      obtain ⟨_, _, c', _, _, _, -, -, hf', -, -, -, hown2, -⟩ := Cond.laysFinal_spec hlay
      have e1 : c' = cf := by have := hi.symm.trans hf'; simp at this; exact this.1.symm
      rw [hdecl] at hown2
      rw [← e1]; exact Option.some.inj (hown.symm.trans hown2)
    have h6 := u_fits hfc hkC hkind (Or.inr hlay) hi hd hn hf
    exact W.putFinK hx hb hown (hts _ hlk) hi hst hcf hini (by rw [q2]; exact h6) q1 q3 hlt rfl rfl d fun H' e1 e2 e3 => kk H' _ (fin H' e1) e3 e2
theorem S_put {H H1 : Heap} {locs : List Loc} {a i : Nat} (hS : va_S (AG G) s.heap H locs) (oq : ∀ q : Nat, q ≠ G.1 + a → H1[q]? = H[q]?) (hsz : H1.size = H.size) : va_S (AG G) s.heap H1 (locs ++ [⟨G.1 + a, i⟩]) := hS.put hsz oq (Nat.le_add_right _ _)
theorem r_putI (C : Cx p s m args meth c cc own nL G) {idx ci j : Nat} {o : Option Nat} {v : Int32} {h' : Hs} (d : decode cc pc = .ok (.putfield idx, 3)) (fl : FL own idx ci j) (hfin : FN ci j ∨ (FF own ci j ∧ meth.name = "<init>")) (hr : tyOf ci j = .int) (eq : qI ci j h o v = some h') (k : V p l e R s m args below meth c G nL Q h' cells slots (pc + 3) lv st) : V p l e R s m args below meth c G nL Q h cells slots pc lv (.inl v :: .inr o :: st) := by
  cases o with
  | none => cases eq
  | some a =>
    unfold qI at eq
    simp only at eq
    split at eq
    · rename_i hs
      cases eq
      skip
      intro H locs ls hH hS hL
      have f6 : ci < 13 := by obtain ⟨Cn, T, N, ty, ⟨f1, f2, f3, f4, f5, f6, f7⟩, hj, hlk⟩ := fl; exact f6
      have hj : j < nF ci := by obtain ⟨Cn, T, N, ty, ⟨f1, f2, f3, f4, f5, f6, f7⟩, hj, hlk⟩ := fl; rw [f5]; exact hj
      have ha := hH.lt hs (by omega)
      refine w_put C (v := .int v) (vs := fvs G.1 h ci a) fl hfin (by rw [hr]; rfl) (by rw [hr]; rfl) (fun q hq => hH.objAt hs f6 hq) (by simp [fvs]) d (fun H1 i hat oq hsz => ?_)
      refine k H1 _ ls (hH.put (h' := uI h (100 * ci + j) a v) ha rfl (fun _ => rfl) (fun k hk => ce_uI hk) ?_ oq hsz) (S_put hS oq hsz) hL
      rw [ce_obj (h := uI h (100 * ci + j) a v) (c := ci) hs f6, fvs_uI hj (by rw [hr]; rfl)]
      exact hat
    · cases eq
theorem r_putZ (C : Cx p s m args meth c cc own nL G) {idx ci j : Nat} {o : Option Nat} {v : Int32} {h' : Hs} (d : decode cc pc = .ok (.putfield idx, 3)) (fl : FL own idx ci j) (hfin : FN ci j ∨ (FF own ci j ∧ meth.name = "<init>")) (hr : tyOf ci j = .boolean) (eq : qZ ci j h o v = some h') (k : V p l e R s m args below meth c G nL Q h' cells slots (pc + 3) lv st) : V p l e R s m args below meth c G nL Q h cells slots pc lv (.inl v :: .inr o :: st) := by
  cases o with
  | none => cases eq
  | some a =>
    unfold qZ at eq
    simp only at eq
    split at eq
    · rename_i hs
      cases eq
      obtain ⟨hs, hv⟩ := hs
      intro H locs ls hH hS hL
      have f6 : ci < 13 := by obtain ⟨Cn, T, N, ty, ⟨f1, f2, f3, f4, f5, f6, f7⟩, hj, hlk⟩ := fl; exact f6
      have hj : j < nF ci := by obtain ⟨Cn, T, N, ty, ⟨f1, f2, f3, f4, f5, f6, f7⟩, hj, hlk⟩ := fl; rw [f5]; exact hj
      have ha := hH.lt hs (by omega)
      refine w_put C (v := .int v) (vs := fvs G.1 h ci a) fl hfin (by rw [hr]; rcases hv with rfl | rfl <;> rfl) (by rw [hr]; rcases hv with rfl | rfl <;> rfl) (fun q hq => hH.objAt hs f6 hq) (by simp [fvs]) d (fun H1 i hat oq hsz => ?_)
      refine k H1 _ ls (hH.put (h' := uI h (100 * ci + j) a v) ha rfl (fun _ => rfl) (fun k hk => ce_uI hk) ?_ oq hsz) (S_put hS oq hsz) hL
      rw [ce_obj (h := uI h (100 * ci + j) a v) (c := ci) hs f6, fvs_uI hj (by rw [hr]; rfl)]
      exact hat
    · cases eq
theorem r_putR (C : Cx p s m args meth c cc own nL G) {idx ci j : Nat} {o : Option Nat} {v : Option Nat} {h' : Hs} (d : decode cc pc = .ok (.putfield idx, 3)) (fl : FL own idx ci j) (hfin : FN ci j ∨ (FF own ci j ∧ meth.name = "<init>")) (hr : refTy (tyOf ci j) = true) (eq : qR ci j h o v = some h') (k : V p l e R s m args below meth c G nL Q h' cells slots (pc + 3) lv st) : V p l e R s m args below meth c G nL Q h cells slots pc lv (.inr v :: .inr o :: st) := by
  cases o with
  | none => cases eq
  | some a =>
    unfold qR at eq
    simp only at eq
    split at eq
    · rename_i hs
      cases eq
      skip
      intro H locs ls hH hS hL
      have f6 : ci < 13 := by obtain ⟨Cn, T, N, ty, ⟨f1, f2, f3, f4, f5, f6, f7⟩, hj, hlk⟩ := fl; exact f6
      have hj : j < nF ci := by obtain ⟨Cn, T, N, ty, ⟨f1, f2, f3, f4, f5, f6, f7⟩, hj, hlk⟩ := fl; rw [f5]; exact hj
      have ha := hH.lt hs (by omega)
      refine w_put C (v := va_rf (rf G.1 v)) (vs := fvs G.1 h ci a) fl hfin (nar_ref hr) (fit_ref hr) (fun q hq => hH.objAt hs f6 hq) (by simp [fvs]) d (fun H1 i hat oq hsz => ?_)
      refine k H1 _ ls (hH.put (h' := uR h (100 * ci + j) a v) ha rfl (fun _ => rfl) (fun k hk => ce_uR hk) ?_ oq hsz) (S_put hS oq hsz) hL
      rw [ce_obj (h := uR h (100 * ci + j) a v) (c := ci) hs f6, fvs_uR hj hr]
      exact hat
    · cases eq
theorem r_iald (C : Cx p s m args meth c cc own nL G) {o : Option Nat} {i v : Int32} (d : decode cc pc = .ok (.iaload, 1)) (eq : lA 20 h o i = some v) (k : V p l e R s m args below meth c G nL Q h cells slots (pc + 1) lv (.inl v :: st)) : V p l e R s m args below meth c G nL Q h cells slots pc lv (.inl i :: .inr o :: st) := by
  cases o with
  | none => cases eq
  | some a =>
    unfold lA at eq
    simp only at eq
    split at eq
    · rename_i hs
      obtain ⟨hs, hi⟩ := hs
      cases eq
      intro H locs ls hH hS hL
      have ha := hH.lt hs (by omega)
      have he := ws_at (G := G) ha
      rw [ce_int (t := 0) hs (by omega)] at he
      obtain ⟨hx, hb, hml, hown, hts, hK, hNW, hlk2, hbs⟩ := C
      exact va_iald hx hb hK hH.1 a 0 he rfl (ixb_in hi) d (k H locs ls hH hS hL)
    · cases eq
theorem r_zald (C : Cx p s m args meth c cc own nL G) {o : Option Nat} {i v : Int32} (d : decode cc pc = .ok (.baload, 1)) (eq : lA 21 h o i = some v) (k : V p l e R s m args below meth c G nL Q h cells slots (pc + 1) lv (.inl v :: st)) : V p l e R s m args below meth c G nL Q h cells slots pc lv (.inl i :: .inr o :: st) := by
  cases o with
  | none => cases eq
  | some a =>
    unfold lA at eq
    simp only at eq
    split at eq
    · rename_i hs
      obtain ⟨hs, hi⟩ := hs
      cases eq
      intro H locs ls hH hS hL
      have ha := hH.lt hs (by omega)
      have he := ws_at (G := G) ha
      rw [ce_int (t := 1) hs (by omega)] at he
      obtain ⟨hx, hb, hml, hown, hts, hK, hNW, hlk2, hbs⟩ := C
      exact va_zald hx hb hK hH.1 a 1 he rfl (ixb_in hi) d (k H locs ls hH hS hL)
    · cases eq
theorem r_bald (C : Cx p s m args meth c cc own nL G) {o : Option Nat} {i v : Int32} (d : decode cc pc = .ok (.baload, 1)) (eq : lA 22 h o i = some v) (k : V p l e R s m args below meth c G nL Q h cells slots (pc + 1) lv (.inl v :: st)) : V p l e R s m args below meth c G nL Q h cells slots pc lv (.inl i :: .inr o :: st) := by
  cases o with
  | none => cases eq
  | some a =>
    unfold lA at eq
    simp only at eq
    split at eq
    · rename_i hs
      obtain ⟨hs, hi⟩ := hs
      cases eq
      intro H locs ls hH hS hL
      have ha := hH.lt hs (by omega)
      have he := ws_at (G := G) ha
      rw [ce_int (t := 2) hs (by omega)] at he
      obtain ⟨hx, hb, hml, hown, hts, hK, hNW, hlk2, hbs⟩ := C
      exact va_bald hx hb hK hH.1 a 2 he rfl (ixb_in hi) d (k H locs ls hH hS hL)
    · cases eq
theorem r_qald (C : Cx p s m args meth c cc own nL G) {t : Nat} {cn : String} {o : Option Nat} {i : Int32} {v : Option Nat} (d : decode cc pc = .ok (.aaload, 1)) (ht : 3 ≤ t) (ht2 : t < 7) (hty : (tys7 G.2.2)[t]? = some (G.2.2 t, .object cn)) (eq : lQ (20 + t) h o i = some v) (k : V p l e R s m args below meth c G nL Q h cells slots (pc + 1) lv (.inr v :: st)) : V p l e R s m args below meth c G nL Q h cells slots pc lv (.inl i :: .inr o :: st) := by
  cases o with
  | none => cases eq
  | some a =>
    unfold lQ at eq
    simp only at eq
    split at eq
    · rename_i hs
      obtain ⟨hs, hi⟩ := hs
      cases eq
      intro H locs ls hH hS hL
      have ha := hH.lt hs (by omega)
      have he := ws_at (G := G) ha
      rw [ce_ref hs ht] at he
      obtain ⟨hx, hb, hml, hown, hts, hK, hNW, hlk2, hbs⟩ := C
      exact va_aldq hx hb hK hH.1 a t he hty (ixb_in hi) d (k H locs ls hH hS hL)
    · cases eq
theorem r_iast (C : Cx p s m args meth c cc own nL G) {o : Option Nat} {i v : Int32} {h' : Hs} (d : decode cc pc = .ok (.iastore, 1)) (eq : sA h o i v = some h') (k : V p l e R s m args below meth c G nL Q h' cells slots (pc + 1) lv st) : V p l e R s m args below meth c G nL Q h cells slots pc lv (.inl v :: .inl i :: .inr o :: st) := by
  cases o with
  | none => cases eq
  | some a =>
    unfold sA at eq
    simp only at eq
    split at eq
    · rename_i hs
      obtain ⟨hs, hi⟩ := hs
      cases eq
      intro H locs ls hH hS hL
      obtain ⟨hx, hb, hml, hown, hts, hK, hNW, hlk2, hbs⟩ := C
      have ha := hH.lt hs (by omega)
      have hin := ixb_in hi
      refine W.iast hx hb (hH.arrAt (t := 0) hs (by omega)) ((hK.2 0 _ rfl).1 _ _) (fun q => by cases q) (by rw [arrV_size]; exact hin) rfl rfl d fun H1 ew z oq => ?_
      refine k H1 _ ls (hH.put (h' := uA h a i.toNatClampNeg (v)) ha rfl (fun _ => rfl) (fun k hk => ce_uA hk) ?_ oq z) (S_put hS oq z) hL
      rw [ce_int (h := uA h a i.toNatClampNeg (v)) (t := 0) hs (by omega)]
      show H1[G.1 + a]? = some (vp_cell _ _)
      rw [ew, vp_cell_i, arrV_store]
      congr 2
      funext q
      by_cases hq : q = i.toNatClampNeg
      · subst hq
        simp [updV, uA, aI]
        try rfl
      · simp [updV, uA, aI, hq]
    · cases eq
theorem r_zast (C : Cx p s m args meth c cc own nL G) {o : Option Nat} {i v : Int32} {h' : Hs} (d : decode cc pc = .ok (.bastore, 1)) (eq : sZ h o i v = some h') (k : V p l e R s m args below meth c G nL Q h' cells slots (pc + 1) lv st) : V p l e R s m args below meth c G nL Q h cells slots pc lv (.inl v :: .inl i :: .inr o :: st) := by
  cases o with
  | none => cases eq
  | some a =>
    unfold sZ at eq
    simp only at eq
    split at eq
    · rename_i hs
      obtain ⟨hs, hi⟩ := hs
      cases eq
      intro H locs ls hH hS hL
      obtain ⟨hx, hb, hml, hown, hts, hK, hNW, hlk2, hbs⟩ := C
      have ha := hH.lt hs (by omega)
      have hin := ixb_in hi
      refine W.zast hx hb (hH.arrAt (t := 1) hs (by omega)) ((hK.2 1 _ rfl).1 _ _) (fun q => by cases q) (by rw [arrV_size]; exact hin) rfl rfl d fun H1 ew z oq => ?_
      refine k H1 _ ls (hH.put (h' := uA h a i.toNatClampNeg (vp_nar .boolean v)) ha rfl (fun _ => rfl) (fun k hk => ce_uA hk) ?_ oq z) (S_put hS oq z) hL
      rw [ce_int (h := uA h a i.toNatClampNeg (vp_nar .boolean v)) (t := 1) hs (by omega)]
      show H1[G.1 + a]? = some (vp_cell _ _)
      rw [ew, vp_cell_i, arrV_store]
      congr 2
      funext q
      by_cases hq : q = i.toNatClampNeg
      · subst hq
        simp [updV, uA, aI, vp_nar]
        try rfl
      · simp [updV, uA, aI, hq]
    · cases eq
theorem r_bast (C : Cx p s m args meth c cc own nL G) {o : Option Nat} {i v : Int32} {h' : Hs} (d : decode cc pc = .ok (.bastore, 1)) (eq : sB h o i v = some h') (k : V p l e R s m args below meth c G nL Q h' cells slots (pc + 1) lv st) : V p l e R s m args below meth c G nL Q h cells slots pc lv (.inl v :: .inl i :: .inr o :: st) := by
  cases o with
  | none => cases eq
  | some a =>
    unfold sB at eq
    simp only at eq
    split at eq
    · rename_i hs
      obtain ⟨hs, hi⟩ := hs
      cases eq
      intro H locs ls hH hS hL
      obtain ⟨hx, hb, hml, hown, hts, hK, hNW, hlk2, hbs⟩ := C
      have ha := hH.lt hs (by omega)
      have hin := ixb_in hi
      refine W.bast hx hb (hH.arrAt (t := 2) hs (by omega)) ((hK.2 2 _ rfl).1 _ _) (fun q => by cases q) (by rw [arrV_size]; exact hin) rfl rfl d fun H1 ew z oq => ?_
      refine k H1 _ ls (hH.put (h' := uA h a i.toNatClampNeg (vp_nar .byte v)) ha rfl (fun _ => rfl) (fun k hk => ce_uA hk) ?_ oq z) (S_put hS oq z) hL
      rw [ce_int (h := uA h a i.toNatClampNeg (vp_nar .byte v)) (t := 2) hs (by omega)]
      show H1[G.1 + a]? = some (vp_cell _ _)
      rw [ew, vp_cell_i, arrV_store]
      congr 2
      funext q
      by_cases hq : q = i.toNatClampNeg
      · subst hq
        simp [updV, uA, aI, vp_nar]
        try rfl
      · simp [updV, uA, aI, hq]
    · cases eq
end Rows2
