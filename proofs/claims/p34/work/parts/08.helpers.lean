def lp {α : Type} (z : α) (body : α → α) : Nat → α
  | 0 => z
  | n + 1 => body (lp z body n)
theorem ifT {c : Prop} [Decidable c] {α : Type} {a b r : α} (h : (if c then a else b) = r) (hc : c) : a = r := by rwa [if_pos hc] at h
theorem ifF {c : Prop} [Decidable c] {α : Type} {a b r : α} (h : (if c then a else b) = r) (hc : ¬ c) : b = r := by rwa [if_neg hc] at h
theorem zc_eq {v z : Int32} (h : zc v = some z) : z = v ∧ zc v = some v := by
  unfold zc at h ⊢
  split at h
  · rename_i q
    cases h
    exact ⟨rfl, by rw [if_pos q]⟩
  · cases h
theorem LW_e {b : List (Option Wd)} : LW [] b := trivial
theorem LW_n {a b : List (Option Wd)} (h : LW a b.tail) : LW (none :: a) b := h
theorem LW_s {a b : List (Option Wd)} {v : Wd} (h0 : b.head? = some (some v)) (h : LW a b.tail) : LW (some v :: a) b := ⟨h0, h⟩
theorem sw_out {x : Int32} {lo hi : Int} (ks : List Int32) (hk : (List.range (hi - lo + 1).toNat).map (fun (k : Nat) => Int32.ofInt (lo + k)) = ks) (h : ∀ k ∈ ks, ¬ x = k) : x.toInt < lo ∨ hi < x.toInt := by
  rcases Int.lt_or_le x.toInt lo with q | q
  · exact Or.inl q
  · rcases Int.lt_or_le hi x.toInt with q2 | q2
    · exact Or.inr q2
    · exfalso
      refine h x ?_ rfl
      rw [← hk]
      refine List.mem_map.mpr ⟨(x.toInt - lo).toNat, List.mem_range.mpr (by omega), ?_⟩
      have e : lo + ((x.toInt - lo).toNat : Int) = x.toInt := by omega
      show Int32.ofInt (lo + ((x.toInt - lo).toNat : Int)) = x
      rw [e, Int32.ofInt_toInt]
section Rows5
variable {p : Program} {l : Launch} {e : Env} {R : Room} {s : State} {m : MethodId} {args : Array Value} {below : List Frame} {meth : Method} {c : Code} {cc : ByteArray} {own : String} {G : Gl} {nL : Nat} {Q : State → Prop} {h : Hs} {cells slots pc : Nat} {lv : List (Option Wd)} {st : List Wd}
theorem r_invV0 (C : Cx p s m args meth c cc own nL G) {idx n ci maxL : Nat} {y : MethodName} {bytes : ByteArray} {ret : Option FieldType} {rm : Room} {o : Option Nat} {a : Nat} {As : List Wd} {h' : Hs} {q : vw_C} (d : decode cc pc = .ok (.invokevirtual idx, 3)) (M : MC y bytes maxL ret n) (hlk : Cond.methodLink own idx y ∈ gtb) (hin : Cond.instanceMethod y ∈ gtb) (hsel : Cond.selects y.cls y y ∈ gtb) (hq : cls13[ci]? = some q) (hqc : q.1 = y.cls) (hc13 : ci < 13) (hR : rm.frames + 1 ≤ R.frames ∧ 8 + (maxL + 11) + rm.locals ≤ R.locals) (hf : cells + rm.cells ≤ R.cells ∧ slots + rm.slots ≤ R.slots) (hn : As.length = n) (hw : st.length ≤ 8) (er : rc ci h o = some a) (ct : CT l G y bytes maxL ret rm (.inr (some a) :: As) h none h') (k : V p l e R s m args below meth c G nL Q h' (cells + rm.cells) (slots + rm.slots) (pc + 3) lv st) : V p l e R s m args below meth c G nL Q h cells slots pc lv (As.reverse ++ .inr o :: st) := r_invV C d M hlk hin hsel hq hqc hc13 hR hf hn hw er ct k
theorem r_invV1 (C : Cx p s m args meth c cc own nL G) {idx n ci maxL : Nat} {y : MethodName} {bytes : ByteArray} {ret : Option FieldType} {rm : Room} {o : Option Nat} {a : Nat} {As : List Wd} {res : Wd} {h' : Hs} {q : vw_C} (d : decode cc pc = .ok (.invokevirtual idx, 3)) (M : MC y bytes maxL ret n) (hlk : Cond.methodLink own idx y ∈ gtb) (hin : Cond.instanceMethod y ∈ gtb) (hsel : Cond.selects y.cls y y ∈ gtb) (hq : cls13[ci]? = some q) (hqc : q.1 = y.cls) (hc13 : ci < 13) (hR : rm.frames + 1 ≤ R.frames ∧ 8 + (maxL + 11) + rm.locals ≤ R.locals) (hf : cells + rm.cells ≤ R.cells ∧ slots + rm.slots ≤ R.slots) (hn : As.length = n) (hw : st.length ≤ 8) (er : rc ci h o = some a) (ct : CT l G y bytes maxL ret rm (.inr (some a) :: As) h (some res) h') (k : V p l e R s m args below meth c G nL Q h' (cells + rm.cells) (slots + rm.slots) (pc + 3) lv (res :: st)) : V p l e R s m args below meth c G nL Q h cells slots pc lv (As.reverse ++ .inr o :: st) := r_invV C d M hlk hin hsel hq hqc hc13 hR hf hn hw er ct k
theorem r_invI0 (C : Cx p s m args meth c cc own nL G) {idx n maxL : Nat} {y : MethodName} {bytes : ByteArray} {rm : Room} {a : Nat} {As : List Wd} {h' : Hs} (d : decode cc pc = .ok (.invokespecial idx, 3)) (M : MC y bytes maxL none n) (hlk : Cond.methodLink own idx y ∈ gtb) (hin : Cond.instanceMethod y ∈ gtb) (hy1 : y.name = "<init>") (hR : rm.frames + 1 ≤ R.frames ∧ 8 + (maxL + 11) + rm.locals ≤ R.locals) (hf : cells + rm.cells ≤ R.cells ∧ slots + rm.slots ≤ R.slots) (hn : As.length = n) (hw : st.length ≤ 8) (ct : CT l G y bytes maxL none rm (.inr (some a) :: As) h none h') (k : V p l e R s m args below meth c G nL Q h' (cells + rm.cells) (slots + rm.slots) (pc + 3) lv st) : V p l e R s m args below meth c G nL Q h cells slots pc lv (As.reverse ++ .inr (some a) :: st) := r_invI C d M hlk hin hy1 hR hf hn hw ct k
theorem r_invIN0 (C : Cx p s m args meth c cc own nL G) {idx n maxL : Nat} {y : MethodName} {host : String} {bytes : ByteArray} {rm : Room} {a : Nat} {As : List Wd} {h' : Hs} (d : decode cc pc = .ok (.invokespecial idx, 3)) (M : MC y bytes maxL none n) (hlk : (own, idx, y, host) ∈ nws) (hin : Cond.instanceMethod y ∈ gtb) (hy1 : y.name = "<init>") (hR : rm.frames + 1 ≤ R.frames ∧ 8 + (maxL + 11) + rm.locals ≤ R.locals) (hf : cells + rm.cells ≤ R.cells ∧ slots + rm.slots ≤ R.slots) (hn : As.length = n) (hw : st.length ≤ 8) (ct : CT l G y bytes maxL none rm (.inr (some a) :: As) h none h') (k : V p l e R s m args below meth c G nL Q h' (cells + rm.cells) (slots + rm.slots) (pc + 3) lv st) : V p l e R s m args below meth c G nL Q h cells slots pc lv (As.reverse ++ .inr (some a) :: st) := r_invIN C d M hlk hin hy1 hR hf hn hw ct k
theorem r_invS0 (C : Cx p s m args meth c cc own nL G) {idx n maxL : Nat} {y : MethodName} {bytes : ByteArray} {ret : Option FieldType} {rm : Room} {As : List Wd} {h' : Hs} (d : decode cc pc = .ok (.invokestatic idx, 3)) (M : MC y bytes maxL ret n) (hlk : Cond.methodLink own idx y ∈ gtb) (hstat : Cond.static y ∈ gtb) (hR : rm.frames + 1 ≤ R.frames ∧ 8 + (maxL + 11) + rm.locals ≤ R.locals) (hf : cells + rm.cells ≤ R.cells ∧ slots + rm.slots ≤ R.slots) (hn : As.length = n) (hw : st.length ≤ 8) (ct : CT l G y bytes maxL ret rm As h none h') (k : V p l e R s m args below meth c G nL Q h' (cells + rm.cells) (slots + rm.slots) (pc + 3) lv st) : V p l e R s m args below meth c G nL Q h cells slots pc lv (As.reverse ++ st) := r_invS C d M hlk hstat hR hf hn hw ct k
theorem r_invS1 (C : Cx p s m args meth c cc own nL G) {idx n maxL : Nat} {y : MethodName} {bytes : ByteArray} {ret : Option FieldType} {rm : Room} {As : List Wd} {res : Wd} {h' : Hs} (d : decode cc pc = .ok (.invokestatic idx, 3)) (M : MC y bytes maxL ret n) (hlk : Cond.methodLink own idx y ∈ gtb) (hstat : Cond.static y ∈ gtb) (hR : rm.frames + 1 ≤ R.frames ∧ 8 + (maxL + 11) + rm.locals ≤ R.locals) (hf : cells + rm.cells ≤ R.cells ∧ slots + rm.slots ≤ R.slots) (hn : As.length = n) (hw : st.length ≤ 8) (ct : CT l G y bytes maxL ret rm As h (some res) h') (k : V p l e R s m args below meth c G nL Q h' (cells + rm.cells) (slots + rm.slots) (pc + 3) lv (res :: st)) : V p l e R s m args below meth c G nL Q h cells slots pc lv (As.reverse ++ st) := r_invS C d M hlk hstat hR hf hn hw ct k
theorem r_invSN0 (C : Cx p s m args meth c cc own nL G) {idx n maxL : Nat} {y : MethodName} {host : String} {bytes : ByteArray} {ret : Option FieldType} {rm : Room} {As : List Wd} {h' : Hs} (d : decode cc pc = .ok (.invokestatic idx, 3)) (M : MC y bytes maxL ret n) (hlk : (own, idx, y, host) ∈ nws) (hstat : Cond.static y ∈ gtb) (hR : rm.frames + 1 ≤ R.frames ∧ 8 + (maxL + 11) + rm.locals ≤ R.locals) (hf : cells + rm.cells ≤ R.cells ∧ slots + rm.slots ≤ R.slots) (hn : As.length = n) (hw : st.length ≤ 8) (ct : CT l G y bytes maxL ret rm As h none h') (k : V p l e R s m args below meth c G nL Q h' (cells + rm.cells) (slots + rm.slots) (pc + 3) lv st) : V p l e R s m args below meth c G nL Q h cells slots pc lv (As.reverse ++ st) := r_invSN C d M hlk hstat hR hf hn hw ct k
theorem r_invSN1 (C : Cx p s m args meth c cc own nL G) {idx n maxL : Nat} {y : MethodName} {host : String} {bytes : ByteArray} {ret : Option FieldType} {rm : Room} {As : List Wd} {res : Wd} {h' : Hs} (d : decode cc pc = .ok (.invokestatic idx, 3)) (M : MC y bytes maxL ret n) (hlk : (own, idx, y, host) ∈ nws) (hstat : Cond.static y ∈ gtb) (hR : rm.frames + 1 ≤ R.frames ∧ 8 + (maxL + 11) + rm.locals ≤ R.locals) (hf : cells + rm.cells ≤ R.cells ∧ slots + rm.slots ≤ R.slots) (hn : As.length = n) (hw : st.length ≤ 8) (ct : CT l G y bytes maxL ret rm As h (some res) h') (k : V p l e R s m args below meth c G nL Q h' (cells + rm.cells) (slots + rm.slots) (pc + 3) lv (res :: st)) : V p l e R s m args below meth c G nL Q h cells slots pc lv (As.reverse ++ st) := r_invSN C d M hlk hstat hR hf hn hw ct k
theorem r_zretB (C : Cx p s m args meth c cc own nL G) {v z : Int32} {mc ms : Nat} (d : decode cc pc = .ok (.ireturn, 1)) (hr : meth.sig.returnType = some .boolean) (hv : zc v = some z) (h1 : cells ≤ mc) (h2 : slots ≤ ms) : V p l e R s m args below meth c G nL (MQ below (QcG G (some (.inl z)) h) args s mc ms (AG G)) h cells slots pc lv [.inl v] := by
  obtain ⟨e1, e2⟩ := zc_eq hv
  rw [e1]
  exact r_zret C d hr e2 h1 h2
theorem r_istore_nE (C : Cx p s m args meth c cc own nL G) {i : Fin 4} {x y : Int32} (d : decode cc pc = .ok (.istore_n i, 1)) (hi : (i : Nat) < nL) (eq : some x = some y) (k : V p l e R s m args below meth c G nL Q h cells slots (pc + 1) (lv.set i (some (.inl y))) st) : V p l e R s m args below meth c G nL Q h cells slots pc lv (.inl x :: st) := by
  cases eq
  exact r_istore_n C d hi k
theorem r_istoreE (C : Cx p s m args meth c cc own nL G) {i : Nat} {x y : Int32} (d : decode cc pc = .ok (.istore i, 2)) (hi : i < nL) (eq : some x = some y) (k : V p l e R s m args below meth c G nL Q h cells slots (pc + 2) (lv.set i (some (.inl y))) st) : V p l e R s m args below meth c G nL Q h cells slots pc lv (.inl x :: st) := by
  cases eq
  exact r_istore C d hi k
theorem r_iincE (C : Cx p s m args meth c cc own nL G) {i : Nat} {n : Int} {x v y : Int32} (d : decode cc pc = .ok (.iinc i n, 3)) (hl : lv[i]? = some (some (.inl x))) (hv : Int32.ofInt n = v) (hi : i < nL) (eq : some (x + v) = some y) (k : V p l e R s m args below meth c G nL Q h cells slots (pc + 3) (lv.set i (some (.inl y))) st) : V p l e R s m args below meth c G nL Q h cells slots pc lv st := by
  cases eq
  exact r_iinc C d hl hv hi k
theorem r_invI0o (C : Cx p s m args meth c cc own nL G) {idx n maxL : Nat} {y : MethodName} {bytes : ByteArray} {rm : Room} {a : Nat} {As : List Wd} {h' : Hs} (d : decode cc pc = .ok (.invokespecial idx, 3)) (M : MC y bytes maxL none n) (hlk : Cond.methodLink own idx y ∈ gtb) (hin : Cond.instanceMethod y ∈ gtb) (hy1 : y.name = "<init>") (hR : rm.frames + 1 ≤ R.frames ∧ 8 + (maxL + 11) + rm.locals ≤ R.locals) (hf : cells + rm.cells ≤ R.cells ∧ slots + rm.slots ≤ R.slots) (hn : As.length = n) (hw : st.length ≤ 8) {o : Option Nat} (eo : o = some a) (ct : CT l G y bytes maxL none rm (.inr (some a) :: As) h none h') (k : V p l e R s m args below meth c G nL Q h' (cells + rm.cells) (slots + rm.slots) (pc + 3) lv st) : V p l e R s m args below meth c G nL Q h cells slots pc lv (As.reverse ++ .inr o :: st) := by
  subst eo
  exact r_invI0 C d M hlk hin hy1 hR hf hn hw ct k
theorem r_iretF (C : Cx p s m args meth c cc own nL G) {v : Int32} {r : Int32 × Hs} {mc ms : Nat} (d : decode cc pc = .ok (.ireturn, 1)) (hr : meth.sig.returnType = some .int) (hf : some (v, h) = some r) (h1 : cells ≤ mc) (h2 : slots ≤ ms) : V p l e R s m args below meth c G nL (MQ below (QcG G (some (.inl r.1)) r.2) args s mc ms (AG G)) h cells slots pc lv [.inl v] := by
  cases hf
  exact r_iret C d hr h1 h2
theorem r_zretF (C : Cx p s m args meth c cc own nL G) {v z : Int32} {r : Int32 × Hs} {mc ms : Nat} (d : decode cc pc = .ok (.ireturn, 1)) (hr : meth.sig.returnType = some .boolean) (hv : zc v = some z) (hf : some (z, h) = some r) (h1 : cells ≤ mc) (h2 : slots ≤ ms) : V p l e R s m args below meth c G nL (MQ below (QcG G (some (.inl r.1)) r.2) args s mc ms (AG G)) h cells slots pc lv [.inl v] := by
  cases hf
  exact r_zretB C d hr hv h1 h2
theorem r_vretF (C : Cx p s m args meth c cc own nL G) {r : Hs} {mc ms : Nat} (d : decode cc pc = .ok (.return_, 1)) (hr : meth.sig.returnType = none) (hf : some h = some r) (h1 : cells ≤ mc) (h2 : slots ≤ ms) : V p l e R s m args below meth c G nL (MQ below (QcG G none r) args s mc ms (AG G)) h cells slots pc lv [] := by
  cases hf
  exact r_vret C d hr h1 h2
theorem r_aretF (C : Cx p s m args meth c cc own nL G) {o : Option Nat} {r : Option Nat × Hs} {mc ms : Nat} {n : String} (d : decode cc pc = .ok (.areturn, 1)) (hr : meth.sig.returnType = some (.object n)) (hf : some (o, h) = some r) (h1 : cells ≤ mc) (h2 : slots ≤ ms) : V p l e R s m args below meth c G nL (MQ below (QcG G (some (.inr r.1)) r.2) args s mc ms (AG G)) h cells slots pc lv [.inr o] := by
  cases hf
  exact r_aret C d hr h1 h2
end Rows5
