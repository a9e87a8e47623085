section Rows4
variable {p : Program} {l : Launch} {e : Env} {R : Room} {s : State} {m : MethodId} {args : Array Value} {below : List Frame} {meth : Method} {c : Code} {cc : ByteArray} {own : String} {G : Gl} {nL : Nat} {Q : State → Prop} {h : Hs} {cells slots pc : Nat} {lv : List (Option Wd)} {st : List Wd}
def MW (own : String) (idx : Nat) (y : MethodName) (bytes : ByteArray) (n : Nat) : Prop := Cond.methodLink own idx y ∈ gtb ∧ Cond.static y ∈ gtb ∧ Cond.initialized "java/lang/Math" ∈ gtb ∧ Cond.code y bytes n (some .int) ∈ gtb
theorem r_mmax (C : Cx p s m args meth c cc own nL G) {idx : Nat} {x y : Int32} (d : decode cc pc = .ok (.invokestatic idx, 3)) (w : MW own idx Lib.Math.max.name Lib.Math.max.code 2) (hfr : 1 ≤ R.frames) (hlo : st.length + 13 ≤ R.locals) (hc : cells ≤ R.cells) (hs : slots ≤ R.slots) (k : V p l e R s m args below meth c G nL Q h cells slots (pc + 3) lv (.inl (if x < y then y else x) :: st)) : V p l e R s m args below meth c G nL Q h cells slots pc lv (.inl y :: .inl x :: st) := by
  intro H locs ls hH hS hL
  obtain ⟨hx, hb, hml, hown, hts, hK, hNW, hlk2, hbs⟩ := C
  exact va_mmax hx hb (by rw [hml, hL.1]) hown (hts _ w.1) (hts _ w.2.1) (hts _ w.2.2.1) (hts _ w.2.2.2) hfr (by rw [cat_sum]; exact hlo) hc hs d (k H locs ls hH hS hL)
theorem r_mmin (C : Cx p s m args meth c cc own nL G) {idx : Nat} {x y : Int32} (d : decode cc pc = .ok (.invokestatic idx, 3)) (w : MW own idx Lib.Math.min.name Lib.Math.min.code 2) (hfr : 1 ≤ R.frames) (hlo : st.length + 13 ≤ R.locals) (hc : cells ≤ R.cells) (hs : slots ≤ R.slots) (k : V p l e R s m args below meth c G nL Q h cells slots (pc + 3) lv (.inl (if y < x then y else x) :: st)) : V p l e R s m args below meth c G nL Q h cells slots pc lv (.inl y :: .inl x :: st) := by
  intro H locs ls hH hS hL
  obtain ⟨hx, hb, hml, hown, hts, hK, hNW, hlk2, hbs⟩ := C
  exact va_mmin hx hb (by rw [hml, hL.1]) hown (hts _ w.1) (hts _ w.2.1) (hts _ w.2.2.1) (hts _ w.2.2.2) hfr (by rw [cat_sum]; exact hlo) hc hs d (k H locs ls hH hS hL)
theorem r_mabs (C : Cx p s m args meth c cc own nL G) {idx : Nat} {x : Int32} (d : decode cc pc = .ok (.invokestatic idx, 3)) (w : MW own idx Lib.Math.abs.name Lib.Math.abs.code 1) (hfr : 1 ≤ R.frames) (hlo : st.length + 13 ≤ R.locals) (hc : cells ≤ R.cells) (hs : slots ≤ R.slots) (k : V p l e R s m args below meth c G nL Q h cells slots (pc + 3) lv (.inl (if 0 ≤ x then x else 0 - x) :: st)) : V p l e R s m args below meth c G nL Q h cells slots pc lv (.inl x :: st) := by
  intro H locs ls hH hS hL
  obtain ⟨hx, hb, hml, hown, hts, hK, hNW, hlk2, hbs⟩ := C
  exact va_mabs hx hb (by rw [hml, hL.1]) hown (hts _ w.1) (hts _ w.2.1) (hts _ w.2.2.1) (hts _ w.2.2.2) hfr (by rw [cat_sum]; first | exact hlo | omega) hc hs d (k H locs ls hH hS hL)
def CW (own : String) (idx : Nat) : Prop := Cond.methodLink own idx arraycopyName ∈ gtb ∧ Cond.native arraycopyName ∈ gtb ∧ Cond.static arraycopyName ∈ gtb ∧ Cond.initialized "java/lang/System" ∈ gtb
theorem r_copy (C : Cx p s m args meth c cc own nL G) {idx : Nat} {o o2 : Option Nat} {sp dp n : Int32} {h' : Hs} (d : decode cc pc = .ok (.invokestatic idx, 3)) (w : CW own idx) (hfr : 1 ≤ R.frames) (hlo : st.length + (nativeFrameWords "java/lang/System" "arraycopy" 5 + 11) ≤ R.locals) (eq : cpA h o sp o2 dp n = some h') (k : V p l e R s m args below meth c G nL Q h' cells slots (pc + 3) lv st) : V p l e R s m args below meth c G nL Q h cells slots pc lv (.inl n :: .inl dp :: .inr o2 :: .inl sp :: .inr o :: st) := by
  cases o with
  | none => cases o2 <;> cases eq
  | some a =>
    cases o2 with
    | none => cases eq
    | some q =>
      unfold cpA at eq
      simp only at eq
      split at eq
      · rename_i hs
        obtain ⟨ha, hq, h1, h2, h3, h4, h5⟩ := hs
        cases eq
        intro H locs ls hH hS hL
        obtain ⟨hx, hb, hml, hown, hts, hK, hNW, hlk2, hbs⟩ := C
        have hal := hH.lt ha (by omega)
        have hql := hH.lt hq (by omega)
        have eA := hH.arrAt (t := 0) ha (by omega)
        have eQ := hH.arrAt (t := 0) hq (by omega)
        obtain ⟨-, k0, hk0, cm0, hkk0⟩ := (hK.2 0 _ rfl).1 (sh h a).2 (fun j => .int (aI h a j))
        have nn : ∀ z : Int32, ¬ z < 0 → z.toInt = (z.toNatClampNeg : Int) := fun z hz => by
          have h9 : (0 : Int) ≤ z.toInt := by simpa using Int32.le_iff_toInt_le.mp (Int32.not_lt.mp hz)
          show z.toInt = ((z.toInt.toNat : Nat) : Int)
          omega
        intro T hT X
        obtain ⟨vm', X', step⟩ := X.arraycopy hx hown (hts _ w.1) (hts _ w.2.1) (hts _ w.2.2.1) (hts _ w.2.2.2) (src := G.1 + a) (dst := G.1 + q) (cs := arrV (G.2.2 0) (sh h a).2 (fun j => .int (aI h a j))) (cd := arrV (G.2.2 0) (sh h q).2 (fun j => .int (aI h q j))) (srcPos := sp) (destPos := dp) (n := n) (by rw [hT]; exact eA) (by rw [hT]; exact eQ)
          (fun _ h => by cases h) (fun _ h => by cases h) (fun h => by cases h) (fun h => by cases h) hk0 hk0 hkk0 hkk0 (by rfl) h1 h2 h3
          (by rw [nn sp h1, nn n h3, arrV_size]; omega)
          (by rw [nn dp h2, nn n h3, arrV_size]; omega)
          (fun vm₁ _ i hi => by
            have e9 : (arrV (G.2.2 0) (sh h a).2 (fun j => .int (aI h a j))).slots.getD (sp.toNatClampNeg + i) .null = .int (aI h a (sp.toNatClampNeg + i)) := by
              rw [Array.getD_eq_getD_getElem?, arrV_read _ _ (by omega)]
              rfl
            rw [e9]
            exact ⟨rfl, trivial⟩)
          (g := F0 m pc ls ((.inl n :: .inl dp :: .inr (some q) :: .inl sp :: .inr (some a) :: st).map (vl G.1))) rfl (by rw [hml]; exact hL.1) (rest := st.map (vl G.1)) rfl (by rw [hb]; exact d) hfr (by show 2 * 0 + _ + _ ≤ _; rw [cat_sum]; omega)
        have e1 : copied (arrV (G.2.2 0) (sh h a).2 (fun j => .int (aI h a j))) (arrV (G.2.2 0) (sh h q).2 (fun j => .int (aI h q j))) sp dp n = arrV (G.2.2 0) (sh h q).2 (fun j => .int (va_cpy (aI h a) (aI h q) sp.toNatClampNeg dp.toNatClampNeg n.toNatClampNeg j)) := va_copied (fun z => .int z) (G.2.2 0) (G.2.2 0) (aI h a) (aI h q) h4
        rw [e1] at X' step
        have hlt : G.1 + q < H.size := by rw [hH.2.1]; omega
        generalize hc9 : arrV (G.2.2 0) (sh h q).2 (fun j => Value.int (va_cpy (aI h a) (aI h q) sp.toNatClampNeg dp.toNatClampNeg n.toNatClampNeg j)) = nc at X' step
        have oq : ∀ z : Nat, z ≠ G.1 + q → (H.setIfInBounds (G.1 + q) nc)[z]? = H[z]? := fun z hz => by simp [Array.getElem?_setIfInBounds, Ne.symm hz]
        have hz : (H.setIfInBounds (G.1 + q) nc).size = H.size := by simp
        have hat : (H.setIfInBounds (G.1 + q) nc)[G.1 + q]? = some nc := by simp [Array.getElem?_setIfInBounds, hlt]
        have hS' : va_S (AG G) s.heap (H.setIfInBounds (G.1 + q) nc) (locs ++ ((arrV (G.2.2 0) (sh h a).2 (fun j => .int (aI h a j))).stretch sp.toNatClampNeg n.toNatClampNeg).zipIdx.map fun z => ⟨G.1 + q, dp.toNatClampNeg + z.2⟩) := by
          refine ⟨by rw [hz]; exact hS.1, fun z g1 g2 => ?_, fun z hz2 => ?_⟩
          · rw [oq z (fun e9 => g2 (by rw [e9]; exact Nat.le_add_right _ _))]
            exact hS.2.1 z g1 g2
          · rcases List.mem_append.mp hz2 with h9 | h9
            · exact hS.2.2 z h9
            · obtain ⟨u, -, hu⟩ := List.mem_map.mp h9
              rw [← hu]
              exact Nat.le_add_right _ _
        obtain ⟨t, a1, b1⟩ := k _ _ ls (hH.put (h' := (h.1, h.2.1, (fun a' j' => if a' = q then va_cpy (aI h a) (aI h q) sp.toNatClampNeg dp.toNatClampNeg n.toNatClampNeg j' else h.2.2.1 a' j'), h.2.2.2)) hql rfl (fun _ => rfl) (fun k hk => ce_congr rfl (fun _ => rfl) (fun _ => rfl) (by funext j; simp [aI, hk]) rfl) (by
            rw [ce_int (h := (h.1, h.2.1, (fun a' j' => if a' = q then va_cpy (aI h a) (aI h q) sp.toNatClampNeg dp.toNatClampNeg n.toNatClampNeg j' else h.2.2.1 a' j'), h.2.2.2)) (t := 0) hq (by omega)]
            show (H.setIfInBounds (G.1 + q) nc)[G.1 + q]? = some (vp_cell _ _)
            rw [hat, ← hc9, vp_cell_i]
            simp [sh, aI]) oq hz) hS' hL _ (by rw [← hT]; rfl) X'
        exact ⟨t, step t a1, b1⟩
      · cases eq
end Rows4
