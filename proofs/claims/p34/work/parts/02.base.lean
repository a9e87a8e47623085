/-! my heap: fields by (field number, cell), array places by (cell, place); a cell is numbered from the law's start on -/
abbrev Hs : Type := (Nat → Nat → Int32) × (Nat → Nat → Option Nat) × (Nat → Nat → Int32) × (Nat → Nat → Option Nat) × (Nat → Nat × Nat) × Nat
def gI (h : Hs) (f a : Nat) : Int32 := h.1 f a
def gR (h : Hs) (f a : Nat) : Option Nat := h.2.1 f a
def aI (h : Hs) (a j : Nat) : Int32 := h.2.2.1 a j
def aR (h : Hs) (a j : Nat) : Option Nat := h.2.2.2.1 a j
def sh (h : Hs) (a : Nat) : Nat × Nat := h.2.2.2.2.1 a
def sz (h : Hs) : Nat := h.2.2.2.2.2
def uI (h : Hs) (f a : Nat) (v : Int32) : Hs := (fun f' a' => if f' = f ∧ a' = a then v else h.1 f' a', h.2)
def uR (h : Hs) (f a : Nat) (v : Option Nat) : Hs := (h.1, fun f' a' => if f' = f ∧ a' = a then v else h.2.1 f' a', h.2.2)
def uA (h : Hs) (a j : Nat) (v : Int32) : Hs := (h.1, h.2.1, fun a' j' => if a' = a ∧ j' = j then v else h.2.2.1 a' j', h.2.2.2)
def uQ (h : Hs) (a j : Nat) (v : Option Nat) : Hs := (h.1, h.2.1, h.2.2.1, fun a' j' => if a' = a ∧ j' = j then v else h.2.2.2.1 a' j', h.2.2.2.2)
def nw (h : Hs) (k : Nat × Nat) : Hs := (fun f a => if a = sz h then 0 else h.1 f a, fun f a => if a = sz h then none else h.2.1 f a, fun a j => if a = sz h then 0 else h.2.2.1 a j, fun a j => if a = sz h then none else h.2.2.2.1 a j, fun a => if a = sz h then k else h.2.2.2.2.1 a, sz h + 1)
/-! the machine's cells out of it -/
abbrev Gl : Type := Nat × va_G × (Nat → ClassId)
abbrev cls13 : List vw_C := [(RX0, TX0, 4), (RX1, TX1, 9), (RX2, TX2, 2), (RX3, TX3, 3), (RX4, TX4, 12), (RX5, TX5, 15), (RX6, TX6, 7), (RX7, TX7, 3), (RX8, TX8, 8), (RX9, TX9, 12), (RX10, TX10, 3), (RX11, TX11, 7), (RX12, TX12, 65)]
def tyOf (c j : Nat) : FieldType := match c with
  | 0 => tyX0 j | 1 => tyX1 j | 2 => tyX2 j | 3 => tyX3 j | 4 => tyX4 j | 5 => tyX5 j | 6 => tyX6 j | 7 => tyX7 j | 8 => tyX8 j | 9 => tyX9 j | 10 => tyX10 j | 11 => tyX11 j | _ => tyX12 j
def nF (c : Nat) : Nat := match c with
  | 0 => 4 | 1 => 9 | 2 => 2 | 3 => 3 | 4 => 12 | 5 => 15 | 6 => 7 | 7 => 3 | 8 => 8 | 9 => 12 | 10 => 3 | 11 => 7 | 12 => 65 | _ => 0
def refTy (t : FieldType) : Bool := match t with
  | .object _ => true | .array _ => true | _ => false
def tys7 (E : Nat → ClassId) : List (ClassId × FieldType) := [(E 0, .int), (E 1, .boolean), (E 2, .byte), (E 3, .object RX9), (E 4, .object RX2), (E 5, .object RX4), (E 6, .object RX3)]
def rf (b : Nat) (o : Option Nat) : Option Nat := o.map (fun k => b + k)
def fv (b : Nat) (h : Hs) (c j k : Nat) : Value := if refTy (tyOf c j) = true then va_rf (rf b (gR h (100 * c + j) k)) else .int (gI h (100 * c + j) k)
def fvs (b : Nat) (h : Hs) (c k : Nat) : List Value := (List.range (nF c)).map (fun j => fv b h c j k)
def ce (G : Gl) (h : Hs) (k : Nat) : va_E := if (sh h k).1 < 13 then .inr ((sh h k).1, fvs G.1 h (sh h k).1 k) else if (sh h k).1 < 23 then .inl (G.2.2 ((sh h k).1 - 20), (sh h k).2, .inl (aI h k)) else .inl (G.2.2 ((sh h k).1 - 20), (sh h k).2, .inr (.inr (.inr (.inr (fun j => rf G.1 (aR h k j))))))
def wsO (G : Gl) (h : Hs) : va_W := (List.range (sz h)).map (fun k => (G.1 + k, ce G h k))
def HP (G : Gl) (h : Hs) (H : Heap) : Prop := va_P G.2.1 cls13 (wsO G h) H ∧ H.size = G.1 + sz h ∧ (∀ a, sz h ≤ a → (sh h a).1 = 99) ∧ G.2.2 7 ≤ sz h ∧ ∀ a, a < G.2.2 7 → (sh h a).1 = G.2.2 (1000 + a)
def AG (G : Gl) : Nat → Prop := fun q => G.1 ≤ q
theorem ws_at {G : Gl} {h : Hs} {k : Nat} (hk : k < sz h) : (wsO G h)[k]? = some (G.1 + k, ce G h k) := by
  simp [wsO, hk]
theorem ws_D (G : Gl) (h : Hs) : va_D (AG G) (wsO G h) := by
  refine ⟨fun i j p q hp hq e => ?_, fun k q hq => ?_⟩
  · simp only [wsO, List.getElem?_map, Option.map_eq_some_iff] at hp hq
    obtain ⟨a, ha, rfl⟩ := hp
    obtain ⟨b, hb, rfl⟩ := hq
    have h1 := (List.getElem?_eq_some_iff.mp ha).2
    have h2 := (List.getElem?_eq_some_iff.mp hb).2
    simp at h1 h2
    simp at e
    omega
  · simp only [wsO, List.getElem?_map, Option.map_eq_some_iff] at hq
    obtain ⟨a, ha, rfl⟩ := hq
    exact Nat.le_add_right _ _
theorem HP.lt {G : Gl} {h : Hs} {H : Heap} (hP : HP G h H) {a c : Nat} (hs : (sh h a).1 = c) (hc : c ≠ 99) : a < sz h := by
  rcases Nat.lt_or_ge a (sz h) with q | q
  · exact q
  · exact absurd ((hP.2.2.1 a q).symm.trans hs) (fun e => hc e.symm)
theorem ce_obj {G : Gl} {h : Hs} {k c : Nat} (hs : (sh h k).1 = c) (hc : c < 13) : ce G h k = .inr (c, fvs G.1 h c k) := by
  simp [ce, hs, hc]
theorem ce_int {G : Gl} {h : Hs} {k t : Nat} (hs : (sh h k).1 = 20 + t) (ht : t < 3) : ce G h k = .inl (G.2.2 t, (sh h k).2, .inl (aI h k)) := by
  have h1 : ¬ 20 + t < 13 := by omega
  have h2 : 20 + t < 23 := by omega
  have h3 : 20 + t - 20 = t := by omega
  simp only [ce, hs, h1, h2, h3, if_false, if_true]
theorem ce_ref {G : Gl} {h : Hs} {k t : Nat} (hs : (sh h k).1 = 20 + t) (ht : 3 ≤ t) : ce G h k = .inl (G.2.2 t, (sh h k).2, .inr (.inr (.inr (.inr (fun j => rf G.1 (aR h k j)))))) := by
  have h1 : ¬ 20 + t < 13 := by omega
  have h2 : ¬ 20 + t < 23 := by omega
  have h3 : 20 + t - 20 = t := by omega
  simp only [ce, hs, h1, h2, h3, if_false]
theorem ws_set {G : Gl} {h h' : Hs} {a : Nat} (ha : a < sz h) (hz : sz h' = sz h) (ho : ∀ k, k < sz h → k ≠ a → ce G h' k = ce G h k) : (wsO G h).set a (G.1 + a, ce G h' a) = wsO G h' := by
  apply List.ext_getElem?
  intro i
  by_cases hi : i < sz h
  · rw [ws_at (h := h') (by rw [hz]; exact hi)]
    by_cases e : i = a
    · subst e
      rw [List.getElem?_set_self (by simp [wsO, hi])]
    · rw [List.getElem?_set_ne (fun q => e q.symm), ws_at hi, ho i hi e]
  · rw [List.getElem?_eq_none (by simp [wsO]; omega), List.getElem?_eq_none (by simp [wsO]; omega)]
theorem sh_uI (h : Hs) (f a : Nat) (v : Int32) (k : Nat) : sh (uI h f a v) k = sh h k := rfl
theorem sh_uR (h : Hs) (f a : Nat) (v : Option Nat) (k : Nat) : sh (uR h f a v) k = sh h k := rfl
theorem sh_uA (h : Hs) (a j : Nat) (v : Int32) (k : Nat) : sh (uA h a j v) k = sh h k := rfl
theorem sh_uQ (h : Hs) (a j : Nat) (v : Option Nat) (k : Nat) : sh (uQ h a j v) k = sh h k := rfl
theorem ce_congr {G : Gl} {h h' : Hs} {k : Nat} (hs : sh h' k = sh h k) (h1 : ∀ f, gI h' f k = gI h f k) (h2 : ∀ f, gR h' f k = gR h f k) (h3 : aI h' k = aI h k) (h4 : aR h' k = aR h k) : ce G h' k = ce G h k := by
  simp only [ce, hs, fvs, fv, h1, h2, h3, h4]
theorem ce_uI {G : Gl} {h : Hs} {f a : Nat} {v : Int32} {k : Nat} (hk : k ≠ a) : ce G (uI h f a v) k = ce G h k := ce_congr rfl (fun f' => by simp [uI, gI, hk]) (fun _ => rfl) rfl rfl
theorem ce_uR {G : Gl} {h : Hs} {f a : Nat} {v : Option Nat} {k : Nat} (hk : k ≠ a) : ce G (uR h f a v) k = ce G h k := ce_congr rfl (fun _ => rfl) (fun f' => by simp [uR, gR, hk]) rfl rfl
theorem ce_uA {G : Gl} {h : Hs} {a j : Nat} {v : Int32} {k : Nat} (hk : k ≠ a) : ce G (uA h a j v) k = ce G h k := ce_congr rfl (fun _ => rfl) (fun _ => rfl) (by funext q; simp [uA, aI, hk]) rfl
theorem ce_uQ {G : Gl} {h : Hs} {a j : Nat} {v : Option Nat} {k : Nat} (hk : k ≠ a) : ce G (uQ h a j v) k = ce G h k := ce_congr rfl (fun _ => rfl) (fun _ => rfl) rfl (by funext q; simp [uQ, aR, hk])
theorem fvs_uI {b : Nat} {h : Hs} {c j k : Nat} {v : Int32} (hj : j < nF c) (hr : refTy (tyOf c j) = false) : fvs b (uI h (100 * c + j) k v) c k = (fvs b h c k).set j (.int v) := by
  apply List.ext_getElem?
  intro i
  by_cases hi : i < nF c
  · by_cases e : i = j
    · subst e
      rw [List.getElem?_set_self (by simp [fvs, hi])]
      simp [fvs, hi, fv, hr, uI, gI]
    · rw [List.getElem?_set_ne (fun q => e q.symm)]
      have e2 : ¬ 100 * c + i = 100 * c + j := by omega
      simp [fvs, hi, fv, uI, gI, gR, e]
  · rw [List.getElem?_eq_none (by simp [fvs]; omega), List.getElem?_eq_none (by simp [fvs]; omega)]
theorem fvs_uR {b : Nat} {h : Hs} {c j k : Nat} {v : Option Nat} (hj : j < nF c) (hr : refTy (tyOf c j) = true) : fvs b (uR h (100 * c + j) k v) c k = (fvs b h c k).set j (va_rf (rf b v)) := by
  apply List.ext_getElem?
  intro i
  by_cases hi : i < nF c
  · by_cases e : i = j
    · subst e
      rw [List.getElem?_set_self (by simp [fvs, hi])]
      simp [fvs, hi, fv, hr, uR, gR]
    · rw [List.getElem?_set_ne (fun q => e q.symm)]
      simp [fvs, hi, fv, uR, gI, gR, e]
  · rw [List.getElem?_eq_none (by simp [fvs]; omega), List.getElem?_eq_none (by simp [fvs]; omega)]
theorem fvs_at {b : Nat} {h : Hs} {c j k : Nat} (hj : j < nF c) : (fvs b h c k)[j]? = some (fv b h c j k) := by
  simp [fvs, hj]
