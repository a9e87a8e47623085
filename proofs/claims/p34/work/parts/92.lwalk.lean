theorem l5 : (5 : Int32) = iI 5 := lit 5
def lvA (x : Int32) : List (Option Wd) := [none, some (.inr (some 0)), some (.inr (some 29)), some (.inl x)]
def LC (p : Program) (s : State) (m : MethodId) (args : Array Value) (meth : Method) (c : Code) (G : Gl) (bb L : Nat) (xs : Nat → Int32) : Prop := Cx p s m args meth c code "StageMachineLaw" 4 G ∧ va_X bb L xs s s.heap ∧ bb < s.heap.size ∧ G.1 = s.heap.size ∧ G.2.2 7 = 30 ∧ G.2.2 1000 = 11 ∧ G.2.2 1029 = 12
def St1 (K : Nat) (J : Nat → Hs → Prop) (f g : Hs → Option (Int32 × Hs)) : Prop := ∀ k h, k < K → J k h → ∃ r h1 h2, f h = some (r, h1) ∧ g h1 = some (r, h2) ∧ J (k + 1) h2
def St0 (K : Nat) (J : Nat → Hs → Prop) (f g : Hs → Option (Int32 × Hs)) : Prop := ∀ k h, k < K → J k h → ∃ r r' h1 h2, f h = some (r, h1) ∧ g h1 = some (r', h2) ∧ J (k + 1) h2
section Law
variable {p : Program} {l : Launch} {e : Env} {s : State} {m : MethodId} {args : Array Value} {below : List Frame} {meth : Method} {c : Code} {G : Gl} {Q : State → Prop} {h h1 h2 : Hs} {cells slots : Nat} {bb L : Nat} {xs : Nat → Int32} {N : Nat} {i r r' : Int32}
theorem lc_0 (K : LC p s m args meth c G bb L xs) (hin : ∀ v ∈ ([1, 2, 3, 4] : List Int32), vp_in (i + v) L) (e1 : fX11_thing N h 0 (xs (i + 1).toNatClampNeg) (xs (i + 2).toNatClampNeg) (xs (i + 3).toNatClampNeg) (xs (i + 4).toNatClampNeg) = some (r, h1)) (e2 : fX12_thing N h1 29 (xs (i + 1).toNatClampNeg) (xs (i + 2).toNatClampNeg) (xs (i + 3).toNatClampNeg) (xs (i + 4).toNatClampNeg) = some (r', h2)) (hc : cells + 10 ≤ 600000) (hs : slots + 1000 ≤ 7302250) (kk0 : VL bb p l e room_1 s m args below meth c G 4 Q h2 (cells + 10) (slots + 1000) 1059 (lvA i) []) : VL bb p l e room_1 s m args below meth c G 4 Q h cells slots 180 (lvA i) [] := by
  have kk : VL bb p l e room_1 s m args below meth c G 4 Q h2 (cells + rmX11_thing.cells + rmX12_thing.cells) (slots + rmX11_thing.slots + rmX12_thing.slots) 1059 (lvA i) [] := kk0.widen (by show cells + 2 + 0 ≤ cells + 10; omega) (by show slots + 22 + 0 ≤ slots + 1000; omega)
  refine q_aload_n K.1 dL_180 rfl ?_
  refine q_arg (v := 1) K.1 K.2.1 K.2.2.1 K.2.2.2.1 dL_181 dL_182 dL_183 dL_184 dL_185 rfl (by decide) (hin 1 (by decide)) ?_
  refine q_arg (v := 2) K.1 K.2.1 K.2.2.1 K.2.2.2.1 dL_186 dL_187 dL_188 dL_189 dL_190 rfl (by decide) (hin 2 (by decide)) ?_
  refine q_arg (v := 3) K.1 K.2.1 K.2.2.1 K.2.2.2.1 dL_191 dL_192 dL_193 dL_194 dL_195 rfl (by decide) (hin 3 (by decide)) ?_
  refine q_arg (v := 4) K.1 K.2.1 K.2.2.1 K.2.2.2.1 dL_196 dL_197 dL_198 dL_199 dL_200 rfl (by decide) (hin 4 (by decide)) ?_
  refine q_call (As := [.inl (xs (i + 1).toNatClampNeg), .inl (xs (i + 2).toNatClampNeg), .inl (xs (i + 3).toNatClampNeg), .inl (xs (i + 4).toNatClampNeg)]) (ci := 11) K.1 dL_201 mcX11_thing wd_282 wd_283 wd_284 rfl rfl (by decide) ⟨Nat.le_of_ble_eq_true rfl, Nat.le_of_ble_eq_true rfl⟩ ⟨by show cells + 2 ≤ 600000; omega, by show slots + 22 ≤ 7302250; omega⟩ rfl (Nat.le_of_ble_eq_true rfl) (a := 0) (by rw [K.2.2.2.2.1]; decide) K.2.2.2.2.2.1 (kX11_thing l G e1) ?_
  refine q_pop K.1 dL_204 ?_
  refine q_aload_n K.1 dL_205 rfl ?_
  refine q_arg (v := 1) K.1 K.2.1 K.2.2.1 K.2.2.2.1 dL_206 dL_207 dL_208 dL_209 dL_210 rfl (by decide) (hin 1 (by decide)) ?_
  refine q_arg (v := 2) K.1 K.2.1 K.2.2.1 K.2.2.2.1 dL_211 dL_212 dL_213 dL_214 dL_215 rfl (by decide) (hin 2 (by decide)) ?_
  refine q_arg (v := 3) K.1 K.2.1 K.2.2.1 K.2.2.2.1 dL_216 dL_217 dL_218 dL_219 dL_220 rfl (by decide) (hin 3 (by decide)) ?_
  refine q_arg (v := 4) K.1 K.2.1 K.2.2.1 K.2.2.2.1 dL_221 dL_222 dL_223 dL_224 dL_225 rfl (by decide) (hin 4 (by decide)) ?_
  refine q_call (As := [.inl (xs (i + 1).toNatClampNeg), .inl (xs (i + 2).toNatClampNeg), .inl (xs (i + 3).toNatClampNeg), .inl (xs (i + 4).toNatClampNeg)]) (ci := 12) K.1 dL_226 mcX12_thing wd_1181 wd_1182 wd_1183 rfl rfl (by decide) ⟨Nat.le_of_ble_eq_true rfl, Nat.le_of_ble_eq_true rfl⟩ ⟨by show cells + 2 + 0 ≤ 600000; omega, by show slots + 22 + 0 ≤ 7302250; omega⟩ rfl (Nat.le_of_ble_eq_true rfl) (a := 29) (by rw [K.2.2.2.2.1]; decide) K.2.2.2.2.2.2 (kX12_thing l G e2) ?_
  refine q_pop K.1 dL_229 ?_
  exact q_goto (tgt := 1059) K.1 dL_230 (by decide) kk
theorem lc_1 (K : LC p s m args meth c G bb L xs) (hin : ∀ v ∈ ([1, 2, 3, 4] : List Int32), vp_in (i + v) L) (e1 : fX11_ofThing N h 0 (xs (i + 1).toNatClampNeg) (xs (i + 2).toNatClampNeg) = some (r, h1)) (e2 : fX12_ofThing N h1 29 (xs (i + 1).toNatClampNeg) (xs (i + 2).toNatClampNeg) = some (r', h2)) (hc : cells + 10 ≤ 600000) (hs : slots + 1000 ≤ 7302250) (kk0 : VL bb p l e room_1 s m args below meth c G 4 Q h2 (cells + 10) (slots + 1000) 1059 (lvA i) []) : VL bb p l e room_1 s m args below meth c G 4 Q h cells slots 233 (lvA i) [] := by
  have kk : VL bb p l e room_1 s m args below meth c G 4 Q h2 (cells + rmX11_ofThing.cells + rmX12_ofThing.cells) (slots + rmX11_ofThing.slots + rmX12_ofThing.slots) 1059 (lvA i) [] := kk0.widen (by show cells + 0 + 0 ≤ cells + 10; omega) (by show slots + 0 + 0 ≤ slots + 1000; omega)
  refine q_aload_n K.1 dL_233 rfl ?_
  refine q_arg (v := 1) K.1 K.2.1 K.2.2.1 K.2.2.2.1 dL_234 dL_235 dL_236 dL_237 dL_238 rfl (by decide) (hin 1 (by decide)) ?_
  refine q_arg (v := 2) K.1 K.2.1 K.2.2.1 K.2.2.2.1 dL_239 dL_240 dL_241 dL_242 dL_243 rfl (by decide) (hin 2 (by decide)) ?_
  refine q_call (As := [.inl (xs (i + 1).toNatClampNeg), .inl (xs (i + 2).toNatClampNeg)]) (ci := 11) K.1 dL_244 mcX11_ofThing wd_368 wd_369 wd_370 rfl rfl (by decide) ⟨Nat.le_of_ble_eq_true rfl, Nat.le_of_ble_eq_true rfl⟩ ⟨by show cells + 0 ≤ 600000; omega, by show slots + 0 ≤ 7302250; omega⟩ rfl (Nat.le_of_ble_eq_true rfl) (a := 0) (by rw [K.2.2.2.2.1]; decide) K.2.2.2.2.2.1 (kX11_ofThing l G e1) ?_
  refine q_pop K.1 dL_247 ?_
  refine q_aload_n K.1 dL_248 rfl ?_
  refine q_arg (v := 1) K.1 K.2.1 K.2.2.1 K.2.2.2.1 dL_249 dL_250 dL_251 dL_252 dL_253 rfl (by decide) (hin 1 (by decide)) ?_
  refine q_arg (v := 2) K.1 K.2.1 K.2.2.1 K.2.2.2.1 dL_254 dL_255 dL_256 dL_257 dL_258 rfl (by decide) (hin 2 (by decide)) ?_
  refine q_call (As := [.inl (xs (i + 1).toNatClampNeg), .inl (xs (i + 2).toNatClampNeg)]) (ci := 12) K.1 dL_259 mcX12_ofThing wd_1188 wd_1189 wd_1190 rfl rfl (by decide) ⟨Nat.le_of_ble_eq_true rfl, Nat.le_of_ble_eq_true rfl⟩ ⟨by show cells + 0 + 0 ≤ 600000; omega, by show slots + 0 + 0 ≤ 7302250; omega⟩ rfl (Nat.le_of_ble_eq_true rfl) (a := 29) (by rw [K.2.2.2.2.1]; decide) K.2.2.2.2.2.2 (kX12_ofThing l G e2) ?_
  refine q_pop K.1 dL_262 ?_
  exact q_goto (tgt := 1059) K.1 dL_263 (by decide) kk
theorem lc_2 (K : LC p s m args meth c G bb L xs) (hin : ∀ v ∈ ([1, 2, 3, 4] : List Int32), vp_in (i + v) L) (e1 : fX11_on N h 0 (xs (i + 1).toNatClampNeg) = some (r, h1)) (e2 : fX12_on N h1 29 (xs (i + 1).toNatClampNeg) = some (r', h2)) (hc : cells + 10 ≤ 600000) (hs : slots + 1000 ≤ 7302250) (kk0 : VL bb p l e room_1 s m args below meth c G 4 Q h2 (cells + 10) (slots + 1000) 1059 (lvA i) []) : VL bb p l e room_1 s m args below meth c G 4 Q h cells slots 266 (lvA i) [] := by
  have kk : VL bb p l e room_1 s m args below meth c G 4 Q h2 (cells + rmX11_on.cells + rmX12_on.cells) (slots + rmX11_on.slots + rmX12_on.slots) 1059 (lvA i) [] := kk0.widen (by show cells + 0 + 0 ≤ cells + 10; omega) (by show slots + 0 + 0 ≤ slots + 1000; omega)
  refine q_aload_n K.1 dL_266 rfl ?_
  refine q_arg (v := 1) K.1 K.2.1 K.2.2.1 K.2.2.2.1 dL_267 dL_268 dL_269 dL_270 dL_271 rfl (by decide) (hin 1 (by decide)) ?_
  refine q_call (As := [.inl (xs (i + 1).toNatClampNeg)]) (ci := 11) K.1 dL_272 mcX11_on wd_380 wd_381 wd_382 rfl rfl (by decide) ⟨Nat.le_of_ble_eq_true rfl, Nat.le_of_ble_eq_true rfl⟩ ⟨by show cells + 0 ≤ 600000; omega, by show slots + 0 ≤ 7302250; omega⟩ rfl (Nat.le_of_ble_eq_true rfl) (a := 0) (by rw [K.2.2.2.2.1]; decide) K.2.2.2.2.2.1 (kX11_on l G e1) ?_
  refine q_pop K.1 dL_275 ?_
  refine q_aload_n K.1 dL_276 rfl ?_
  refine q_arg (v := 1) K.1 K.2.1 K.2.2.1 K.2.2.2.1 dL_277 dL_278 dL_279 dL_280 dL_281 rfl (by decide) (hin 1 (by decide)) ?_
  refine q_call (As := [.inl (xs (i + 1).toNatClampNeg)]) (ci := 12) K.1 dL_282 mcX12_on wd_1200 wd_1201 wd_1202 rfl rfl (by decide) ⟨Nat.le_of_ble_eq_true rfl, Nat.le_of_ble_eq_true rfl⟩ ⟨by show cells + 0 + 0 ≤ 600000; omega, by show slots + 0 + 0 ≤ 7302250; omega⟩ rfl (Nat.le_of_ble_eq_true rfl) (a := 29) (by rw [K.2.2.2.2.1]; decide) K.2.2.2.2.2.2 (kX12_on l G e2) ?_
  refine q_pop K.1 dL_285 ?_
  exact q_goto (tgt := 1059) K.1 dL_286 (by decide) kk
theorem lc_3 (K : LC p s m args meth c G bb L xs) (hin : ∀ v ∈ ([1, 2, 3, 4] : List Int32), vp_in (i + v) L) (e1 : fX11_drum N h 0 (xs (i + 1).toNatClampNeg) = some (r, h1)) (e2 : fX12_drum N h1 29 (xs (i + 1).toNatClampNeg) = some (r', h2)) (hc : cells + 10 ≤ 600000) (hs : slots + 1000 ≤ 7302250) (kk0 : VL bb p l e room_1 s m args below meth c G 4 Q h2 (cells + 10) (slots + 1000) 1059 (lvA i) []) : VL bb p l e room_1 s m args below meth c G 4 Q h cells slots 289 (lvA i) [] := by
  have kk : VL bb p l e room_1 s m args below meth c G 4 Q h2 (cells + rmX11_drum.cells + rmX12_drum.cells) (slots + rmX11_drum.slots + rmX12_drum.slots) 1059 (lvA i) [] := kk0.widen (by show cells + 1 + 0 ≤ cells + 10; omega) (by show slots + 2 + 0 ≤ slots + 1000; omega)
  refine q_aload_n K.1 dL_289 rfl ?_
  refine q_arg (v := 1) K.1 K.2.1 K.2.2.1 K.2.2.2.1 dL_290 dL_291 dL_292 dL_293 dL_294 rfl (by decide) (hin 1 (by decide)) ?_
  refine q_call (As := [.inl (xs (i + 1).toNatClampNeg)]) (ci := 11) K.1 dL_295 mcX11_drum wd_392 wd_393 wd_394 rfl rfl (by decide) ⟨Nat.le_of_ble_eq_true rfl, Nat.le_of_ble_eq_true rfl⟩ ⟨by show cells + 1 ≤ 600000; omega, by show slots + 2 ≤ 7302250; omega⟩ rfl (Nat.le_of_ble_eq_true rfl) (a := 0) (by rw [K.2.2.2.2.1]; decide) K.2.2.2.2.2.1 (kX11_drum l G e1) ?_
  refine q_pop K.1 dL_298 ?_
  refine q_aload_n K.1 dL_299 rfl ?_
  refine q_arg (v := 1) K.1 K.2.1 K.2.2.1 K.2.2.2.1 dL_300 dL_301 dL_302 dL_303 dL_304 rfl (by decide) (hin 1 (by decide)) ?_
  refine q_call (As := [.inl (xs (i + 1).toNatClampNeg)]) (ci := 12) K.1 dL_305 mcX12_drum wd_1204 wd_1205 wd_1206 rfl rfl (by decide) ⟨Nat.le_of_ble_eq_true rfl, Nat.le_of_ble_eq_true rfl⟩ ⟨by show cells + 1 + 0 ≤ 600000; omega, by show slots + 2 + 0 ≤ 7302250; omega⟩ rfl (Nat.le_of_ble_eq_true rfl) (a := 29) (by rw [K.2.2.2.2.1]; decide) K.2.2.2.2.2.2 (kX12_drum l G e2) ?_
  refine q_pop K.1 dL_308 ?_
  exact q_goto (tgt := 1059) K.1 dL_309 (by decide) kk
theorem lc_4 (K : LC p s m args meth c G bb L xs) (hin : ∀ v ∈ ([1, 2, 3, 4] : List Int32), vp_in (i + v) L) (e1 : fX11_rope N h 0 (xs (i + 1).toNatClampNeg) (xs (i + 2).toNatClampNeg) (xs (i + 3).toNatClampNeg) = some (r, h1)) (e2 : fX12_rope N h1 29 (xs (i + 1).toNatClampNeg) (xs (i + 2).toNatClampNeg) (xs (i + 3).toNatClampNeg) = some (r', h2)) (hc : cells + 10 ≤ 600000) (hs : slots + 1000 ≤ 7302250) (kk0 : VL bb p l e room_1 s m args below meth c G 4 Q h2 (cells + 10) (slots + 1000) 1059 (lvA i) []) : VL bb p l e room_1 s m args below meth c G 4 Q h cells slots 312 (lvA i) [] := by
  have kk : VL bb p l e room_1 s m args below meth c G 4 Q h2 (cells + rmX11_rope.cells + rmX12_rope.cells) (slots + rmX11_rope.slots + rmX12_rope.slots) 1059 (lvA i) [] := kk0.widen (by show cells + 1 + 0 ≤ cells + 10; omega) (by show slots + 12 + 0 ≤ slots + 1000; omega)
  refine q_aload_n K.1 dL_312 rfl ?_
  refine q_arg (v := 1) K.1 K.2.1 K.2.2.1 K.2.2.2.1 dL_313 dL_314 dL_315 dL_316 dL_317 rfl (by decide) (hin 1 (by decide)) ?_
  refine q_arg (v := 2) K.1 K.2.1 K.2.2.1 K.2.2.2.1 dL_318 dL_319 dL_320 dL_321 dL_322 rfl (by decide) (hin 2 (by decide)) ?_
  refine q_arg (v := 3) K.1 K.2.1 K.2.2.1 K.2.2.2.1 dL_323 dL_324 dL_325 dL_326 dL_327 rfl (by decide) (hin 3 (by decide)) ?_
  refine q_call (As := [.inl (xs (i + 1).toNatClampNeg), .inl (xs (i + 2).toNatClampNeg), .inl (xs (i + 3).toNatClampNeg)]) (ci := 11) K.1 dL_328 mcX11_rope wd_416 wd_417 wd_418 rfl rfl (by decide) ⟨Nat.le_of_ble_eq_true rfl, Nat.le_of_ble_eq_true rfl⟩ ⟨by show cells + 1 ≤ 600000; omega, by show slots + 12 ≤ 7302250; omega⟩ rfl (Nat.le_of_ble_eq_true rfl) (a := 0) (by rw [K.2.2.2.2.1]; decide) K.2.2.2.2.2.1 (kX11_rope l G e1) ?_
  refine q_pop K.1 dL_331 ?_
  refine q_aload_n K.1 dL_332 rfl ?_
  refine q_arg (v := 1) K.1 K.2.1 K.2.2.1 K.2.2.2.1 dL_333 dL_334 dL_335 dL_336 dL_337 rfl (by decide) (hin 1 (by decide)) ?_
  refine q_arg (v := 2) K.1 K.2.1 K.2.2.1 K.2.2.2.1 dL_338 dL_339 dL_340 dL_341 dL_342 rfl (by decide) (hin 2 (by decide)) ?_
  refine q_arg (v := 3) K.1 K.2.1 K.2.2.1 K.2.2.2.1 dL_343 dL_344 dL_345 dL_346 dL_347 rfl (by decide) (hin 3 (by decide)) ?_
  refine q_call (As := [.inl (xs (i + 1).toNatClampNeg), .inl (xs (i + 2).toNatClampNeg), .inl (xs (i + 3).toNatClampNeg)]) (ci := 12) K.1 dL_348 mcX12_rope wd_1208 wd_1209 wd_1210 rfl rfl (by decide) ⟨Nat.le_of_ble_eq_true rfl, Nat.le_of_ble_eq_true rfl⟩ ⟨by show cells + 1 + 0 ≤ 600000; omega, by show slots + 12 + 0 ≤ 7302250; omega⟩ rfl (Nat.le_of_ble_eq_true rfl) (a := 29) (by rw [K.2.2.2.2.1]; decide) K.2.2.2.2.2.2 (kX12_rope l G e2) ?_
  refine q_pop K.1 dL_351 ?_
  exact q_goto (tgt := 1059) K.1 dL_352 (by decide) kk
theorem lc_5 (K : LC p s m args meth c G bb L xs) (hin : ∀ v ∈ ([1, 2, 3, 4] : List Int32), vp_in (i + v) L) (e1 : fX11_ofRope N h 0 (xs (i + 1).toNatClampNeg) (xs (i + 2).toNatClampNeg) = some (r, h1)) (e2 : fX12_ofRope N h1 29 (xs (i + 1).toNatClampNeg) (xs (i + 2).toNatClampNeg) = some (r', h2)) (hc : cells + 10 ≤ 600000) (hs : slots + 1000 ≤ 7302250) (kk0 : VL bb p l e room_1 s m args below meth c G 4 Q h2 (cells + 10) (slots + 1000) 1059 (lvA i) []) : VL bb p l e room_1 s m args below meth c G 4 Q h cells slots 355 (lvA i) [] := by
  have kk : VL bb p l e room_1 s m args below meth c G 4 Q h2 (cells + rmX11_ofRope.cells + rmX12_ofRope.cells) (slots + rmX11_ofRope.slots + rmX12_ofRope.slots) 1059 (lvA i) [] := kk0.widen (by show cells + 0 + 0 ≤ cells + 10; omega) (by show slots + 0 + 0 ≤ slots + 1000; omega)
  refine q_aload_n K.1 dL_355 rfl ?_
  refine q_arg (v := 1) K.1 K.2.1 K.2.2.1 K.2.2.2.1 dL_356 dL_357 dL_358 dL_359 dL_360 rfl (by decide) (hin 1 (by decide)) ?_
  refine q_arg (v := 2) K.1 K.2.1 K.2.2.1 K.2.2.2.1 dL_361 dL_362 dL_363 dL_364 dL_365 rfl (by decide) (hin 2 (by decide)) ?_
  refine q_call (As := [.inl (xs (i + 1).toNatClampNeg), .inl (xs (i + 2).toNatClampNeg)]) (ci := 11) K.1 dL_366 mcX11_ofRope wd_480 wd_481 wd_482 rfl rfl (by decide) ⟨Nat.le_of_ble_eq_true rfl, Nat.le_of_ble_eq_true rfl⟩ ⟨by show cells + 0 ≤ 600000; omega, by show slots + 0 ≤ 7302250; omega⟩ rfl (Nat.le_of_ble_eq_true rfl) (a := 0) (by rw [K.2.2.2.2.1]; decide) K.2.2.2.2.2.1 (kX11_ofRope l G e1) ?_
  refine q_pop K.1 dL_369 ?_
  refine q_aload_n K.1 dL_370 rfl ?_
  refine q_arg (v := 1) K.1 K.2.1 K.2.2.1 K.2.2.2.1 dL_371 dL_372 dL_373 dL_374 dL_375 rfl (by decide) (hin 1 (by decide)) ?_
  refine q_arg (v := 2) K.1 K.2.1 K.2.2.1 K.2.2.2.1 dL_376 dL_377 dL_378 dL_379 dL_380 rfl (by decide) (hin 2 (by decide)) ?_
  refine q_call (As := [.inl (xs (i + 1).toNatClampNeg), .inl (xs (i + 2).toNatClampNeg)]) (ci := 12) K.1 dL_381 mcX12_ofRope wd_1212 wd_1213 wd_1214 rfl rfl (by decide) ⟨Nat.le_of_ble_eq_true rfl, Nat.le_of_ble_eq_true rfl⟩ ⟨by show cells + 0 + 0 ≤ 600000; omega, by show slots + 0 + 0 ≤ 7302250; omega⟩ rfl (Nat.le_of_ble_eq_true rfl) (a := 29) (by rw [K.2.2.2.2.1]; decide) K.2.2.2.2.2.2 (kX12_ofRope l G e2) ?_
  refine q_pop K.1 dL_384 ?_
  exact q_goto (tgt := 1059) K.1 dL_385 (by decide) kk
theorem lc_6 (K : LC p s m args meth c G bb L xs) (hin : ∀ v ∈ ([1, 2, 3, 4] : List Int32), vp_in (i + v) L) (e1 : fX11_tie N h 0 (xs (i + 1).toNatClampNeg) (xs (i + 2).toNatClampNeg) = some (r, h1)) (e2 : fX12_tie N h1 29 (xs (i + 1).toNatClampNeg) (xs (i + 2).toNatClampNeg) = some (r', h2)) (hc : cells + 10 ≤ 600000) (hs : slots + 1000 ≤ 7302250) (kk0 : VL bb p l e room_1 s m args below meth c G 4 Q h2 (cells + 10) (slots + 1000) 1059 (lvA i) []) : VL bb p l e room_1 s m args below meth c G 4 Q h cells slots 388 (lvA i) [] := by
  have kk : VL bb p l e room_1 s m args below meth c G 4 Q h2 (cells + rmX11_tie.cells + rmX12_tie.cells) (slots + rmX11_tie.slots + rmX12_tie.slots) 1059 (lvA i) [] := kk0.widen (by show cells + 0 + 0 ≤ cells + 10; omega) (by show slots + 0 + 0 ≤ slots + 1000; omega)
  refine q_aload_n K.1 dL_388 rfl ?_
  refine q_arg (v := 1) K.1 K.2.1 K.2.2.1 K.2.2.2.1 dL_389 dL_390 dL_391 dL_392 dL_393 rfl (by decide) (hin 1 (by decide)) ?_
  refine q_arg (v := 2) K.1 K.2.1 K.2.2.1 K.2.2.2.1 dL_394 dL_395 dL_396 dL_397 dL_398 rfl (by decide) (hin 2 (by decide)) ?_
  refine q_call (As := [.inl (xs (i + 1).toNatClampNeg), .inl (xs (i + 2).toNatClampNeg)]) (ci := 11) K.1 dL_399 mcX11_tie wd_501 wd_502 wd_503 rfl rfl (by decide) ⟨Nat.le_of_ble_eq_true rfl, Nat.le_of_ble_eq_true rfl⟩ ⟨by show cells + 0 ≤ 600000; omega, by show slots + 0 ≤ 7302250; omega⟩ rfl (Nat.le_of_ble_eq_true rfl) (a := 0) (by rw [K.2.2.2.2.1]; decide) K.2.2.2.2.2.1 (kX11_tie l G e1) ?_
  refine q_pop K.1 dL_402 ?_
  refine q_aload_n K.1 dL_403 rfl ?_
  refine q_arg (v := 1) K.1 K.2.1 K.2.2.1 K.2.2.2.1 dL_404 dL_405 dL_406 dL_407 dL_408 rfl (by decide) (hin 1 (by decide)) ?_
  refine q_arg (v := 2) K.1 K.2.1 K.2.2.1 K.2.2.2.1 dL_409 dL_410 dL_411 dL_412 dL_413 rfl (by decide) (hin 2 (by decide)) ?_
  refine q_call (As := [.inl (xs (i + 1).toNatClampNeg), .inl (xs (i + 2).toNatClampNeg)]) (ci := 12) K.1 dL_414 mcX12_tie wd_1225 wd_1226 wd_1227 rfl rfl (by decide) ⟨Nat.le_of_ble_eq_true rfl, Nat.le_of_ble_eq_true rfl⟩ ⟨by show cells + 0 + 0 ≤ 600000; omega, by show slots + 0 + 0 ≤ 7302250; omega⟩ rfl (Nat.le_of_ble_eq_true rfl) (a := 29) (by rw [K.2.2.2.2.1]; decide) K.2.2.2.2.2.2 (kX12_tie l G e2) ?_
  refine q_pop K.1 dL_417 ?_
  exact q_goto (tgt := 1059) K.1 dL_418 (by decide) kk
theorem lc_7 (K : LC p s m args meth c G bb L xs) (hin : ∀ v ∈ ([1, 2, 3, 4] : List Int32), vp_in (i + v) L) (e1 : fX11_untie N h 0 (xs (i + 1).toNatClampNeg) = some (r, h1)) (e2 : fX12_untie N h1 29 (xs (i + 1).toNatClampNeg) = some (r', h2)) (hc : cells + 10 ≤ 600000) (hs : slots + 1000 ≤ 7302250) (kk0 : VL bb p l e room_1 s m args below meth c G 4 Q h2 (cells + 10) (slots + 1000) 1059 (lvA i) []) : VL bb p l e room_1 s m args below meth c G 4 Q h cells slots 421 (lvA i) [] := by
  have kk : VL bb p l e room_1 s m args below meth c G 4 Q h2 (cells + rmX11_untie.cells + rmX12_untie.cells) (slots + rmX11_untie.slots + rmX12_untie.slots) 1059 (lvA i) [] := kk0.widen (by show cells + 0 + 0 ≤ cells + 10; omega) (by show slots + 0 + 0 ≤ slots + 1000; omega)
  refine q_aload_n K.1 dL_421 rfl ?_
  refine q_arg (v := 1) K.1 K.2.1 K.2.2.1 K.2.2.2.1 dL_422 dL_423 dL_424 dL_425 dL_426 rfl (by decide) (hin 1 (by decide)) ?_
  refine q_call (As := [.inl (xs (i + 1).toNatClampNeg)]) (ci := 11) K.1 dL_427 mcX11_untie wd_522 wd_523 wd_524 rfl rfl (by decide) ⟨Nat.le_of_ble_eq_true rfl, Nat.le_of_ble_eq_true rfl⟩ ⟨by show cells + 0 ≤ 600000; omega, by show slots + 0 ≤ 7302250; omega⟩ rfl (Nat.le_of_ble_eq_true rfl) (a := 0) (by rw [K.2.2.2.2.1]; decide) K.2.2.2.2.2.1 (kX11_untie l G e1) ?_
  refine q_pop K.1 dL_430 ?_
  refine q_aload_n K.1 dL_431 rfl ?_
  refine q_arg (v := 1) K.1 K.2.1 K.2.2.1 K.2.2.2.1 dL_432 dL_433 dL_434 dL_435 dL_436 rfl (by decide) (hin 1 (by decide)) ?_
  refine q_call (As := [.inl (xs (i + 1).toNatClampNeg)]) (ci := 12) K.1 dL_437 mcX12_untie wd_1237 wd_1238 wd_1239 rfl rfl (by decide) ⟨Nat.le_of_ble_eq_true rfl, Nat.le_of_ble_eq_true rfl⟩ ⟨by show cells + 0 + 0 ≤ 600000; omega, by show slots + 0 + 0 ≤ 7302250; omega⟩ rfl (Nat.le_of_ble_eq_true rfl) (a := 29) (by rw [K.2.2.2.2.1]; decide) K.2.2.2.2.2.2 (kX12_untie l G e2) ?_
  refine q_pop K.1 dL_440 ?_
  exact q_goto (tgt := 1059) K.1 dL_441 (by decide) kk
theorem lc_8 (K : LC p s m args meth c G bb L xs) (hin : ∀ v ∈ ([1, 2, 3, 4] : List Int32), vp_in (i + v) L) (e1 : fX11_weight N h 0 (xs (i + 1).toNatClampNeg) (xs (i + 2).toNatClampNeg) = some (r, h1)) (e2 : fX12_weight N h1 29 (xs (i + 1).toNatClampNeg) (xs (i + 2).toNatClampNeg) = some (r', h2)) (hc : cells + 10 ≤ 600000) (hs : slots + 1000 ≤ 7302250) (kk0 : VL bb p l e room_1 s m args below meth c G 4 Q h2 (cells + 10) (slots + 1000) 1059 (lvA i) []) : VL bb p l e room_1 s m args below meth c G 4 Q h cells slots 444 (lvA i) [] := by
  have kk : VL bb p l e room_1 s m args below meth c G 4 Q h2 (cells + rmX11_weight.cells + rmX12_weight.cells) (slots + rmX11_weight.slots + rmX12_weight.slots) 1059 (lvA i) [] := kk0.widen (by show cells + 0 + 0 ≤ cells + 10; omega) (by show slots + 0 + 0 ≤ slots + 1000; omega)
  refine q_aload_n K.1 dL_444 rfl ?_
  refine q_arg (v := 1) K.1 K.2.1 K.2.2.1 K.2.2.2.1 dL_445 dL_446 dL_447 dL_448 dL_449 rfl (by decide) (hin 1 (by decide)) ?_
  refine q_arg (v := 2) K.1 K.2.1 K.2.2.1 K.2.2.2.1 dL_450 dL_451 dL_452 dL_453 dL_454 rfl (by decide) (hin 2 (by decide)) ?_
  refine q_call (As := [.inl (xs (i + 1).toNatClampNeg), .inl (xs (i + 2).toNatClampNeg)]) (ci := 11) K.1 dL_455 mcX11_weight wd_535 wd_536 wd_537 rfl rfl (by decide) ⟨Nat.le_of_ble_eq_true rfl, Nat.le_of_ble_eq_true rfl⟩ ⟨by show cells + 0 ≤ 600000; omega, by show slots + 0 ≤ 7302250; omega⟩ rfl (Nat.le_of_ble_eq_true rfl) (a := 0) (by rw [K.2.2.2.2.1]; decide) K.2.2.2.2.2.1 (kX11_weight l G e1) ?_
  refine q_pop K.1 dL_458 ?_
  refine q_aload_n K.1 dL_459 rfl ?_
  refine q_arg (v := 1) K.1 K.2.1 K.2.2.1 K.2.2.2.1 dL_460 dL_461 dL_462 dL_463 dL_464 rfl (by decide) (hin 1 (by decide)) ?_
  refine q_arg (v := 2) K.1 K.2.1 K.2.2.1 K.2.2.2.1 dL_465 dL_466 dL_467 dL_468 dL_469 rfl (by decide) (hin 2 (by decide)) ?_
  refine q_call (As := [.inl (xs (i + 1).toNatClampNeg), .inl (xs (i + 2).toNatClampNeg)]) (ci := 12) K.1 dL_470 mcX12_weight wd_1245 wd_1246 wd_1247 rfl rfl (by decide) ⟨Nat.le_of_ble_eq_true rfl, Nat.le_of_ble_eq_true rfl⟩ ⟨by show cells + 0 + 0 ≤ 600000; omega, by show slots + 0 + 0 ≤ 7302250; omega⟩ rfl (Nat.le_of_ble_eq_true rfl) (a := 29) (by rw [K.2.2.2.2.1]; decide) K.2.2.2.2.2.2 (kX12_weight l G e2) ?_
  refine q_pop K.1 dL_473 ?_
  exact q_goto (tgt := 1059) K.1 dL_474 (by decide) kk
theorem lc_9 (K : LC p s m args meth c G bb L xs) (hin : ∀ v ∈ ([1, 2, 3, 4] : List Int32), vp_in (i + v) L) (e1 : fX11_bound N h 0 (xs (i + 1).toNatClampNeg) = some (r, h1)) (e2 : fX12_bound N h1 29 (xs (i + 1).toNatClampNeg) = some (r', h2)) (hc : cells + 10 ≤ 600000) (hs : slots + 1000 ≤ 7302250) (kk0 : VL bb p l e room_1 s m args below meth c G 4 Q h2 (cells + 10) (slots + 1000) 1059 (lvA i) []) : VL bb p l e room_1 s m args below meth c G 4 Q h cells slots 477 (lvA i) [] := by
  have kk : VL bb p l e room_1 s m args below meth c G 4 Q h2 (cells + rmX11_bound.cells + rmX12_bound.cells) (slots + rmX11_bound.slots + rmX12_bound.slots) 1059 (lvA i) [] := kk0.widen (by show cells + 0 + 0 ≤ cells + 10; omega) (by show slots + 0 + 0 ≤ slots + 1000; omega)
  refine q_aload_n K.1 dL_477 rfl ?_
  refine q_arg (v := 1) K.1 K.2.1 K.2.2.1 K.2.2.2.1 dL_478 dL_479 dL_480 dL_481 dL_482 rfl (by decide) (hin 1 (by decide)) ?_
  refine q_call (As := [.inl (xs (i + 1).toNatClampNeg)]) (ci := 11) K.1 dL_483 mcX11_bound wd_543 wd_544 wd_545 rfl rfl (by decide) ⟨Nat.le_of_ble_eq_true rfl, Nat.le_of_ble_eq_true rfl⟩ ⟨by show cells + 0 ≤ 600000; omega, by show slots + 0 ≤ 7302250; omega⟩ rfl (Nat.le_of_ble_eq_true rfl) (a := 0) (by rw [K.2.2.2.2.1]; decide) K.2.2.2.2.2.1 (kX11_bound l G e1) ?_
  refine q_pop K.1 dL_486 ?_
  refine q_aload_n K.1 dL_487 rfl ?_
  refine q_arg (v := 1) K.1 K.2.1 K.2.2.1 K.2.2.2.1 dL_488 dL_489 dL_490 dL_491 dL_492 rfl (by decide) (hin 1 (by decide)) ?_
  refine q_call (As := [.inl (xs (i + 1).toNatClampNeg)]) (ci := 12) K.1 dL_493 mcX12_bound wd_1253 wd_1254 wd_1255 rfl rfl (by decide) ⟨Nat.le_of_ble_eq_true rfl, Nat.le_of_ble_eq_true rfl⟩ ⟨by show cells + 0 + 0 ≤ 600000; omega, by show slots + 0 + 0 ≤ 7302250; omega⟩ rfl (Nat.le_of_ble_eq_true rfl) (a := 29) (by rw [K.2.2.2.2.1]; decide) K.2.2.2.2.2.2 (kX12_bound l G e2) ?_
  refine q_pop K.1 dL_496 ?_
  exact q_goto (tgt := 1059) K.1 dL_497 (by decide) kk
theorem lc_10 (K : LC p s m args meth c G bb L xs) (hin : ∀ v ∈ ([1, 2, 3, 4] : List Int32), vp_in (i + v) L) (e1 : fX11_pull N h 0  = some (r, h1)) (e2 : fX12_pull N h1 29  = some (r', h2)) (hc : cells + 10 ≤ 600000) (hs : slots + 1000 ≤ 7302250) (kk0 : VL bb p l e room_1 s m args below meth c G 4 Q h2 (cells + 10) (slots + 1000) 1059 (lvA i) []) : VL bb p l e room_1 s m args below meth c G 4 Q h cells slots 500 (lvA i) [] := by
  have kk : VL bb p l e room_1 s m args below meth c G 4 Q h2 (cells + rmX11_pull.cells + rmX12_pull.cells) (slots + rmX11_pull.slots + rmX12_pull.slots) 1059 (lvA i) [] := kk0.widen (by show cells + 0 + 0 ≤ cells + 10; omega) (by show slots + 0 + 0 ≤ slots + 1000; omega)
  refine q_aload_n K.1 dL_500 rfl ?_
  refine q_call (As := []) (ci := 11) K.1 dL_501 mcX11_pull wd_551 wd_552 wd_553 rfl rfl (by decide) ⟨Nat.le_of_ble_eq_true rfl, Nat.le_of_ble_eq_true rfl⟩ ⟨by show cells + 0 ≤ 600000; omega, by show slots + 0 ≤ 7302250; omega⟩ rfl (Nat.le_of_ble_eq_true rfl) (a := 0) (by rw [K.2.2.2.2.1]; decide) K.2.2.2.2.2.1 (kX11_pull l G e1) ?_
  refine q_pop K.1 dL_504 ?_
  refine q_aload_n K.1 dL_505 rfl ?_
  refine q_call (As := []) (ci := 12) K.1 dL_506 mcX12_pull wd_1257 wd_1258 wd_1259 rfl rfl (by decide) ⟨Nat.le_of_ble_eq_true rfl, Nat.le_of_ble_eq_true rfl⟩ ⟨by show cells + 0 + 0 ≤ 600000; omega, by show slots + 0 + 0 ≤ 7302250; omega⟩ rfl (Nat.le_of_ble_eq_true rfl) (a := 29) (by rw [K.2.2.2.2.1]; decide) K.2.2.2.2.2.2 (kX12_pull l G e2) ?_
  refine q_pop K.1 dL_509 ?_
  exact q_goto (tgt := 1059) K.1 dL_510 (by decide) kk
theorem lc_11 (K : LC p s m args meth c G bb L xs) (hin : ∀ v ∈ ([1, 2, 3, 4] : List Int32), vp_in (i + v) L) (e1 : fX11_turn N h 0 (xs (i + 1).toNatClampNeg) = some (r, h1)) (e2 : fX12_turn N h1 29 (xs (i + 1).toNatClampNeg) = some (r', h2)) (hc : cells + 10 ≤ 600000) (hs : slots + 1000 ≤ 7302250) (kk0 : VL bb p l e room_1 s m args below meth c G 4 Q h2 (cells + 10) (slots + 1000) 1059 (lvA i) []) : VL bb p l e room_1 s m args below meth c G 4 Q h cells slots 513 (lvA i) [] := by
  have kk : VL bb p l e room_1 s m args below meth c G 4 Q h2 (cells + rmX11_turn.cells + rmX12_turn.cells) (slots + rmX11_turn.slots + rmX12_turn.slots) 1059 (lvA i) [] := kk0.widen (by show cells + 0 + 0 ≤ cells + 10; omega) (by show slots + 0 + 0 ≤ slots + 1000; omega)
  refine q_aload_n K.1 dL_513 rfl ?_
  refine q_arg (v := 1) K.1 K.2.1 K.2.2.1 K.2.2.2.1 dL_514 dL_515 dL_516 dL_517 dL_518 rfl (by decide) (hin 1 (by decide)) ?_
  refine q_call (As := [.inl (xs (i + 1).toNatClampNeg)]) (ci := 11) K.1 dL_519 mcX11_turn wd_582 wd_583 wd_584 rfl rfl (by decide) ⟨Nat.le_of_ble_eq_true rfl, Nat.le_of_ble_eq_true rfl⟩ ⟨by show cells + 0 ≤ 600000; omega, by show slots + 0 ≤ 7302250; omega⟩ rfl (Nat.le_of_ble_eq_true rfl) (a := 0) (by rw [K.2.2.2.2.1]; decide) K.2.2.2.2.2.1 (kX11_turn l G e1) ?_
  refine q_pop K.1 dL_522 ?_
  refine q_aload_n K.1 dL_523 rfl ?_
  refine q_arg (v := 1) K.1 K.2.1 K.2.2.1 K.2.2.2.1 dL_524 dL_525 dL_526 dL_527 dL_528 rfl (by decide) (hin 1 (by decide)) ?_
  refine q_call (As := [.inl (xs (i + 1).toNatClampNeg)]) (ci := 12) K.1 dL_529 mcX12_turn wd_1261 wd_1262 wd_1263 rfl rfl (by decide) ⟨Nat.le_of_ble_eq_true rfl, Nat.le_of_ble_eq_true rfl⟩ ⟨by show cells + 0 + 0 ≤ 600000; omega, by show slots + 0 + 0 ≤ 7302250; omega⟩ rfl (Nat.le_of_ble_eq_true rfl) (a := 29) (by rw [K.2.2.2.2.1]; decide) K.2.2.2.2.2.2 (kX12_turn l G e2) ?_
  refine q_pop K.1 dL_532 ?_
  exact q_goto (tgt := 1059) K.1 dL_533 (by decide) kk
theorem lc_12 (K : LC p s m args meth c G bb L xs) (hin : ∀ v ∈ ([1, 2, 3, 4] : List Int32), vp_in (i + v) L) (e1 : fX11_stopped N h 0 (xs (i + 1).toNatClampNeg) = some (r, h1)) (e2 : fX12_stopped N h1 29 (xs (i + 1).toNatClampNeg) = some (r', h2)) (hc : cells + 10 ≤ 600000) (hs : slots + 1000 ≤ 7302250) (kk0 : VL bb p l e room_1 s m args below meth c G 4 Q h2 (cells + 10) (slots + 1000) 1059 (lvA i) []) : VL bb p l e room_1 s m args below meth c G 4 Q h cells slots 536 (lvA i) [] := by
  have kk : VL bb p l e room_1 s m args below meth c G 4 Q h2 (cells + rmX11_stopped.cells + rmX12_stopped.cells) (slots + rmX11_stopped.slots + rmX12_stopped.slots) 1059 (lvA i) [] := kk0.widen (by show cells + 0 + 0 ≤ cells + 10; omega) (by show slots + 0 + 0 ≤ slots + 1000; omega)
  refine q_aload_n K.1 dL_536 rfl ?_
  refine q_arg (v := 1) K.1 K.2.1 K.2.2.1 K.2.2.2.1 dL_537 dL_538 dL_539 dL_540 dL_541 rfl (by decide) (hin 1 (by decide)) ?_
  refine q_call (As := [.inl (xs (i + 1).toNatClampNeg)]) (ci := 11) K.1 dL_542 mcX11_stopped wd_650 wd_651 wd_652 rfl rfl (by decide) ⟨Nat.le_of_ble_eq_true rfl, Nat.le_of_ble_eq_true rfl⟩ ⟨by show cells + 0 ≤ 600000; omega, by show slots + 0 ≤ 7302250; omega⟩ rfl (Nat.le_of_ble_eq_true rfl) (a := 0) (by rw [K.2.2.2.2.1]; decide) K.2.2.2.2.2.1 (kX11_stopped l G e1) ?_
  refine q_pop K.1 dL_545 ?_
  refine q_aload_n K.1 dL_546 rfl ?_
  refine q_arg (v := 1) K.1 K.2.1 K.2.2.1 K.2.2.2.1 dL_547 dL_548 dL_549 dL_550 dL_551 rfl (by decide) (hin 1 (by decide)) ?_
  refine q_call (As := [.inl (xs (i + 1).toNatClampNeg)]) (ci := 12) K.1 dL_552 mcX12_stopped wd_1289 wd_1290 wd_1291 rfl rfl (by decide) ⟨Nat.le_of_ble_eq_true rfl, Nat.le_of_ble_eq_true rfl⟩ ⟨by show cells + 0 + 0 ≤ 600000; omega, by show slots + 0 + 0 ≤ 7302250; omega⟩ rfl (Nat.le_of_ble_eq_true rfl) (a := 29) (by rw [K.2.2.2.2.1]; decide) K.2.2.2.2.2.2 (kX12_stopped l G e2) ?_
  refine q_pop K.1 dL_555 ?_
  exact q_goto (tgt := 1059) K.1 dL_556 (by decide) kk
theorem lc_13 (K : LC p s m args meth c G bb L xs) (hin : ∀ v ∈ ([1, 2, 3, 4] : List Int32), vp_in (i + v) L) (e1 : fX11_free N h 0 (xs (i + 1).toNatClampNeg) = some (r, h1)) (e2 : fX12_free N h1 29 (xs (i + 1).toNatClampNeg) = some (r', h2)) (hc : cells + 10 ≤ 600000) (hs : slots + 1000 ≤ 7302250) (kk0 : VL bb p l e room_1 s m args below meth c G 4 Q h2 (cells + 10) (slots + 1000) 1059 (lvA i) []) : VL bb p l e room_1 s m args below meth c G 4 Q h cells slots 559 (lvA i) [] := by
  have kk : VL bb p l e room_1 s m args below meth c G 4 Q h2 (cells + rmX11_free.cells + rmX12_free.cells) (slots + rmX11_free.slots + rmX12_free.slots) 1059 (lvA i) [] := kk0.widen (by show cells + 0 + 0 ≤ cells + 10; omega) (by show slots + 0 + 0 ≤ slots + 1000; omega)
  refine q_aload_n K.1 dL_559 rfl ?_
  refine q_arg (v := 1) K.1 K.2.1 K.2.2.1 K.2.2.2.1 dL_560 dL_561 dL_562 dL_563 dL_564 rfl (by decide) (hin 1 (by decide)) ?_
  refine q_call (As := [.inl (xs (i + 1).toNatClampNeg)]) (ci := 11) K.1 dL_565 mcX11_free wd_658 wd_659 wd_660 rfl rfl (by decide) ⟨Nat.le_of_ble_eq_true rfl, Nat.le_of_ble_eq_true rfl⟩ ⟨by show cells + 0 ≤ 600000; omega, by show slots + 0 ≤ 7302250; omega⟩ rfl (Nat.le_of_ble_eq_true rfl) (a := 0) (by rw [K.2.2.2.2.1]; decide) K.2.2.2.2.2.1 (kX11_free l G e1) ?_
  refine q_pop K.1 dL_568 ?_
  refine q_aload_n K.1 dL_569 rfl ?_
  refine q_arg (v := 1) K.1 K.2.1 K.2.2.1 K.2.2.2.1 dL_570 dL_571 dL_572 dL_573 dL_574 rfl (by decide) (hin 1 (by decide)) ?_
  refine q_call (As := [.inl (xs (i + 1).toNatClampNeg)]) (ci := 12) K.1 dL_575 mcX12_free wd_1293 wd_1294 wd_1295 rfl rfl (by decide) ⟨Nat.le_of_ble_eq_true rfl, Nat.le_of_ble_eq_true rfl⟩ ⟨by show cells + 0 + 0 ≤ 600000; omega, by show slots + 0 + 0 ≤ 7302250; omega⟩ rfl (Nat.le_of_ble_eq_true rfl) (a := 29) (by rw [K.2.2.2.2.1]; decide) K.2.2.2.2.2.2 (kX12_free l G e2) ?_
  refine q_pop K.1 dL_578 ?_
  exact q_goto (tgt := 1059) K.1 dL_579 (by decide) kk
theorem lc_14 (K : LC p s m args meth c G bb L xs) (hin : ∀ v ∈ ([1, 2, 3, 4] : List Int32), vp_in (i + v) L) (e1 : fX11_snap N h 0 (xs (i + 1).toNatClampNeg) = some (r, h1)) (e2 : fX12_snap N h1 29 (xs (i + 1).toNatClampNeg) = some (r', h2)) (hc : cells + 10 ≤ 600000) (hs : slots + 1000 ≤ 7302250) (kk0 : VL bb p l e room_1 s m args below meth c G 4 Q h2 (cells + 10) (slots + 1000) 1059 (lvA i) []) : VL bb p l e room_1 s m args below meth c G 4 Q h cells slots 582 (lvA i) [] := by
  have kk : VL bb p l e room_1 s m args below meth c G 4 Q h2 (cells + rmX11_snap.cells + rmX12_snap.cells) (slots + rmX11_snap.slots + rmX12_snap.slots) 1059 (lvA i) [] := kk0.widen (by show cells + 0 + 0 ≤ cells + 10; omega) (by show slots + 0 + 0 ≤ slots + 1000; omega)
  refine q_aload_n K.1 dL_582 rfl ?_
  refine q_arg (v := 1) K.1 K.2.1 K.2.2.1 K.2.2.2.1 dL_583 dL_584 dL_585 dL_586 dL_587 rfl (by decide) (hin 1 (by decide)) ?_
  refine q_call (As := [.inl (xs (i + 1).toNatClampNeg)]) (ci := 11) K.1 dL_588 mcX11_snap wd_663 wd_664 wd_665 rfl rfl (by decide) ⟨Nat.le_of_ble_eq_true rfl, Nat.le_of_ble_eq_true rfl⟩ ⟨by show cells + 0 ≤ 600000; omega, by show slots + 0 ≤ 7302250; omega⟩ rfl (Nat.le_of_ble_eq_true rfl) (a := 0) (by rw [K.2.2.2.2.1]; decide) K.2.2.2.2.2.1 (kX11_snap l G e1) ?_
  refine q_pop K.1 dL_591 ?_
  refine q_aload_n K.1 dL_592 rfl ?_
  refine q_arg (v := 1) K.1 K.2.1 K.2.2.1 K.2.2.2.1 dL_593 dL_594 dL_595 dL_596 dL_597 rfl (by decide) (hin 1 (by decide)) ?_
  refine q_call (As := [.inl (xs (i + 1).toNatClampNeg)]) (ci := 12) K.1 dL_598 mcX12_snap wd_1305 wd_1306 wd_1307 rfl rfl (by decide) ⟨Nat.le_of_ble_eq_true rfl, Nat.le_of_ble_eq_true rfl⟩ ⟨by show cells + 0 + 0 ≤ 600000; omega, by show slots + 0 + 0 ≤ 7302250; omega⟩ rfl (Nat.le_of_ble_eq_true rfl) (a := 29) (by rw [K.2.2.2.2.1]; decide) K.2.2.2.2.2.2 (kX12_snap l G e2) ?_
  refine q_pop K.1 dL_601 ?_
  exact q_goto (tgt := 1059) K.1 dL_602 (by decide) kk
theorem lc_15 (K : LC p s m args meth c G bb L xs) (hin : ∀ v ∈ ([1, 2, 3, 4] : List Int32), vp_in (i + v) L) (e1 : fX11_hold N h 0 (xs (i + 1).toNatClampNeg) = some (r, h1)) (e2 : fX12_hold N h1 29 (xs (i + 1).toNatClampNeg) = some (r', h2)) (hc : cells + 10 ≤ 600000) (hs : slots + 1000 ≤ 7302250) (kk0 : VL bb p l e room_1 s m args below meth c G 4 Q h2 (cells + 10) (slots + 1000) 1059 (lvA i) []) : VL bb p l e room_1 s m args below meth c G 4 Q h cells slots 605 (lvA i) [] := by
  have kk : VL bb p l e room_1 s m args below meth c G 4 Q h2 (cells + rmX11_hold.cells + rmX12_hold.cells) (slots + rmX11_hold.slots + rmX12_hold.slots) 1059 (lvA i) [] := kk0.widen (by show cells + 0 + 0 ≤ cells + 10; omega) (by show slots + 0 + 0 ≤ slots + 1000; omega)
  refine q_aload_n K.1 dL_605 rfl ?_
  refine q_arg (v := 1) K.1 K.2.1 K.2.2.1 K.2.2.2.1 dL_606 dL_607 dL_608 dL_609 dL_610 rfl (by decide) (hin 1 (by decide)) ?_
  refine q_call (As := [.inl (xs (i + 1).toNatClampNeg)]) (ci := 11) K.1 dL_611 mcX11_hold wd_683 wd_684 wd_685 rfl rfl (by decide) ⟨Nat.le_of_ble_eq_true rfl, Nat.le_of_ble_eq_true rfl⟩ ⟨by show cells + 0 ≤ 600000; omega, by show slots + 0 ≤ 7302250; omega⟩ rfl (Nat.le_of_ble_eq_true rfl) (a := 0) (by rw [K.2.2.2.2.1]; decide) K.2.2.2.2.2.1 (kX11_hold l G e1) ?_
  refine q_pop K.1 dL_614 ?_
  refine q_aload_n K.1 dL_615 rfl ?_
  refine q_arg (v := 1) K.1 K.2.1 K.2.2.1 K.2.2.2.1 dL_616 dL_617 dL_618 dL_619 dL_620 rfl (by decide) (hin 1 (by decide)) ?_
  refine q_call (As := [.inl (xs (i + 1).toNatClampNeg)]) (ci := 12) K.1 dL_621 mcX12_hold wd_1297 wd_1298 wd_1299 rfl rfl (by decide) ⟨Nat.le_of_ble_eq_true rfl, Nat.le_of_ble_eq_true rfl⟩ ⟨by show cells + 0 + 0 ≤ 600000; omega, by show slots + 0 + 0 ≤ 7302250; omega⟩ rfl (Nat.le_of_ble_eq_true rfl) (a := 29) (by rw [K.2.2.2.2.1]; decide) K.2.2.2.2.2.2 (kX12_hold l G e2) ?_
  refine q_pop K.1 dL_624 ?_
  exact q_goto (tgt := 1059) K.1 dL_625 (by decide) kk
theorem lc_16 (K : LC p s m args meth c G bb L xs) (hin : ∀ v ∈ ([1, 2, 3, 4] : List Int32), vp_in (i + v) L) (e1 : fX11_scene N h 0 (xs (i + 1).toNatClampNeg) (xs (i + 2).toNatClampNeg) (xs (i + 3).toNatClampNeg) = some (r, h1)) (e2 : fX12_scene N h1 29 (xs (i + 1).toNatClampNeg) (xs (i + 2).toNatClampNeg) (xs (i + 3).toNatClampNeg) = some (r', h2)) (hc : cells + 10 ≤ 600000) (hs : slots + 1000 ≤ 7302250) (kk0 : VL bb p l e room_1 s m args below meth c G 4 Q h2 (cells + 10) (slots + 1000) 1059 (lvA i) []) : VL bb p l e room_1 s m args below meth c G 4 Q h cells slots 628 (lvA i) [] := by
  have kk : VL bb p l e room_1 s m args below meth c G 4 Q h2 (cells + rmX11_scene.cells + rmX12_scene.cells) (slots + rmX11_scene.slots + rmX12_scene.slots) 1059 (lvA i) [] := kk0.widen (by show cells + 0 + 0 ≤ cells + 10; omega) (by show slots + 0 + 0 ≤ slots + 1000; omega)
  refine q_aload_n K.1 dL_628 rfl ?_
  refine q_arg (v := 1) K.1 K.2.1 K.2.2.1 K.2.2.2.1 dL_629 dL_630 dL_631 dL_632 dL_633 rfl (by decide) (hin 1 (by decide)) ?_
  refine q_arg (v := 2) K.1 K.2.1 K.2.2.1 K.2.2.2.1 dL_634 dL_635 dL_636 dL_637 dL_638 rfl (by decide) (hin 2 (by decide)) ?_
  refine q_arg (v := 3) K.1 K.2.1 K.2.2.1 K.2.2.2.1 dL_639 dL_640 dL_641 dL_642 dL_643 rfl (by decide) (hin 3 (by decide)) ?_
  refine q_call (As := [.inl (xs (i + 1).toNatClampNeg), .inl (xs (i + 2).toNatClampNeg), .inl (xs (i + 3).toNatClampNeg)]) (ci := 11) K.1 dL_644 mcX11_scene wd_691 wd_692 wd_693 rfl rfl (by decide) ⟨Nat.le_of_ble_eq_true rfl, Nat.le_of_ble_eq_true rfl⟩ ⟨by show cells + 0 ≤ 600000; omega, by show slots + 0 ≤ 7302250; omega⟩ rfl (Nat.le_of_ble_eq_true rfl) (a := 0) (by rw [K.2.2.2.2.1]; decide) K.2.2.2.2.2.1 (kX11_scene l G e1) ?_
  refine q_pop K.1 dL_647 ?_
  refine q_aload_n K.1 dL_648 rfl ?_
  refine q_arg (v := 1) K.1 K.2.1 K.2.2.1 K.2.2.2.1 dL_649 dL_650 dL_651 dL_652 dL_653 rfl (by decide) (hin 1 (by decide)) ?_
  refine q_arg (v := 2) K.1 K.2.1 K.2.2.1 K.2.2.2.1 dL_654 dL_655 dL_656 dL_657 dL_658 rfl (by decide) (hin 2 (by decide)) ?_
  refine q_arg (v := 3) K.1 K.2.1 K.2.2.1 K.2.2.2.1 dL_659 dL_660 dL_661 dL_662 dL_663 rfl (by decide) (hin 3 (by decide)) ?_
  refine q_call (As := [.inl (xs (i + 1).toNatClampNeg), .inl (xs (i + 2).toNatClampNeg), .inl (xs (i + 3).toNatClampNeg)]) (ci := 12) K.1 dL_664 mcX12_scene wd_1309 wd_1310 wd_1311 rfl rfl (by decide) ⟨Nat.le_of_ble_eq_true rfl, Nat.le_of_ble_eq_true rfl⟩ ⟨by show cells + 0 + 0 ≤ 600000; omega, by show slots + 0 + 0 ≤ 7302250; omega⟩ rfl (Nat.le_of_ble_eq_true rfl) (a := 29) (by rw [K.2.2.2.2.1]; decide) K.2.2.2.2.2.2 (kX12_scene l G e2) ?_
  refine q_pop K.1 dL_667 ?_
  exact q_goto (tgt := 1059) K.1 dL_668 (by decide) kk
theorem lc_17 (K : LC p s m args meth c G bb L xs) (hin : ∀ v ∈ ([1, 2, 3, 4] : List Int32), vp_in (i + v) L) (e1 : fX11_change N h 0 (xs (i + 1).toNatClampNeg) (xs (i + 2).toNatClampNeg) = some (r, h1)) (e2 : fX12_change N h1 29 (xs (i + 1).toNatClampNeg) (xs (i + 2).toNatClampNeg) = some (r', h2)) (hc : cells + 10 ≤ 600000) (hs : slots + 1000 ≤ 7302250) (kk0 : VL bb p l e room_1 s m args below meth c G 4 Q h2 (cells + 10) (slots + 1000) 1059 (lvA i) []) : VL bb p l e room_1 s m args below meth c G 4 Q h cells slots 671 (lvA i) [] := by
  have kk : VL bb p l e room_1 s m args below meth c G 4 Q h2 (cells + rmX11_change.cells + rmX12_change.cells) (slots + rmX11_change.slots + rmX12_change.slots) 1059 (lvA i) [] := kk0.widen (by show cells + 0 + 0 ≤ cells + 10; omega) (by show slots + 0 + 0 ≤ slots + 1000; omega)
  refine q_aload_n K.1 dL_671 rfl ?_
  refine q_arg (v := 1) K.1 K.2.1 K.2.2.1 K.2.2.2.1 dL_672 dL_673 dL_674 dL_675 dL_676 rfl (by decide) (hin 1 (by decide)) ?_
  refine q_arg (v := 2) K.1 K.2.1 K.2.2.1 K.2.2.2.1 dL_677 dL_678 dL_679 dL_680 dL_681 rfl (by decide) (hin 2 (by decide)) ?_
  refine q_call (As := [.inl (xs (i + 1).toNatClampNeg), .inl (xs (i + 2).toNatClampNeg)]) (ci := 11) K.1 dL_682 mcX11_change wd_700 wd_701 wd_702 rfl rfl (by decide) ⟨Nat.le_of_ble_eq_true rfl, Nat.le_of_ble_eq_true rfl⟩ ⟨by show cells + 0 ≤ 600000; omega, by show slots + 0 ≤ 7302250; omega⟩ rfl (Nat.le_of_ble_eq_true rfl) (a := 0) (by rw [K.2.2.2.2.1]; decide) K.2.2.2.2.2.1 (kX11_change l G e1) ?_
  refine q_pop K.1 dL_685 ?_
  refine q_aload_n K.1 dL_686 rfl ?_
  refine q_arg (v := 1) K.1 K.2.1 K.2.2.1 K.2.2.2.1 dL_687 dL_688 dL_689 dL_690 dL_691 rfl (by decide) (hin 1 (by decide)) ?_
  refine q_arg (v := 2) K.1 K.2.1 K.2.2.1 K.2.2.2.1 dL_692 dL_693 dL_694 dL_695 dL_696 rfl (by decide) (hin 2 (by decide)) ?_
  refine q_call (As := [.inl (xs (i + 1).toNatClampNeg), .inl (xs (i + 2).toNatClampNeg)]) (ci := 12) K.1 dL_697 mcX12_change wd_1313 wd_1314 wd_1315 rfl rfl (by decide) ⟨Nat.le_of_ble_eq_true rfl, Nat.le_of_ble_eq_true rfl⟩ ⟨by show cells + 0 + 0 ≤ 600000; omega, by show slots + 0 + 0 ≤ 7302250; omega⟩ rfl (Nat.le_of_ble_eq_true rfl) (a := 29) (by rw [K.2.2.2.2.1]; decide) K.2.2.2.2.2.2 (kX12_change l G e2) ?_
  refine q_pop K.1 dL_700 ?_
  exact q_goto (tgt := 1059) K.1 dL_701 (by decide) kk
theorem lc_18 (K : LC p s m args meth c G bb L xs) (hin : ∀ v ∈ ([1, 2, 3, 4] : List Int32), vp_in (i + v) L) (e1 : fX11_told N h 0 (xs (i + 1).toNatClampNeg) (xs (i + 2).toNatClampNeg) = some (r, h1)) (e2 : fX12_told N h1 29 (xs (i + 1).toNatClampNeg) (xs (i + 2).toNatClampNeg) = some (r', h2)) (hc : cells + 10 ≤ 600000) (hs : slots + 1000 ≤ 7302250) (kk0 : VL bb p l e room_1 s m args below meth c G 4 Q h2 (cells + 10) (slots + 1000) 1059 (lvA i) []) : VL bb p l e room_1 s m args below meth c G 4 Q h cells slots 704 (lvA i) [] := by
  have kk : VL bb p l e room_1 s m args below meth c G 4 Q h2 (cells + rmX11_told.cells + rmX12_told.cells) (slots + rmX11_told.slots + rmX12_told.slots) 1059 (lvA i) [] := kk0.widen (by show cells + 0 + 0 ≤ cells + 10; omega) (by show slots + 0 + 0 ≤ slots + 1000; omega)
  refine q_aload_n K.1 dL_704 rfl ?_
  refine q_arg (v := 1) K.1 K.2.1 K.2.2.1 K.2.2.2.1 dL_705 dL_706 dL_707 dL_708 dL_709 rfl (by decide) (hin 1 (by decide)) ?_
  refine q_arg (v := 2) K.1 K.2.1 K.2.2.1 K.2.2.2.1 dL_710 dL_711 dL_712 dL_713 dL_714 rfl (by decide) (hin 2 (by decide)) ?_
  refine q_call (As := [.inl (xs (i + 1).toNatClampNeg), .inl (xs (i + 2).toNatClampNeg)]) (ci := 11) K.1 dL_715 mcX11_told wd_729 wd_730 wd_731 rfl rfl (by decide) ⟨Nat.le_of_ble_eq_true rfl, Nat.le_of_ble_eq_true rfl⟩ ⟨by show cells + 0 ≤ 600000; omega, by show slots + 0 ≤ 7302250; omega⟩ rfl (Nat.le_of_ble_eq_true rfl) (a := 0) (by rw [K.2.2.2.2.1]; decide) K.2.2.2.2.2.1 (kX11_told l G e1) ?_
  refine q_pop K.1 dL_718 ?_
  refine q_aload_n K.1 dL_719 rfl ?_
  refine q_arg (v := 1) K.1 K.2.1 K.2.2.1 K.2.2.2.1 dL_720 dL_721 dL_722 dL_723 dL_724 rfl (by decide) (hin 1 (by decide)) ?_
  refine q_arg (v := 2) K.1 K.2.1 K.2.2.1 K.2.2.2.1 dL_725 dL_726 dL_727 dL_728 dL_729 rfl (by decide) (hin 2 (by decide)) ?_
  refine q_call (As := [.inl (xs (i + 1).toNatClampNeg), .inl (xs (i + 2).toNatClampNeg)]) (ci := 12) K.1 dL_730 mcX12_told wd_1325 wd_1326 wd_1327 rfl rfl (by decide) ⟨Nat.le_of_ble_eq_true rfl, Nat.le_of_ble_eq_true rfl⟩ ⟨by show cells + 0 + 0 ≤ 600000; omega, by show slots + 0 + 0 ≤ 7302250; omega⟩ rfl (Nat.le_of_ble_eq_true rfl) (a := 29) (by rw [K.2.2.2.2.1]; decide) K.2.2.2.2.2.2 (kX12_told l G e2) ?_
  refine q_pop K.1 dL_733 ?_
  exact q_goto (tgt := 1059) K.1 dL_734 (by decide) kk
theorem lc_19 (K : LC p s m args meth c G bb L xs) (hin : ∀ v ∈ ([1, 2, 3, 4] : List Int32), vp_in (i + v) L) (e1 : fX11_work N h 0 (xs (i + 1).toNatClampNeg) = some (r, h1)) (e2 : fX12_work N h1 29 (xs (i + 1).toNatClampNeg) = some (r', h2)) (hc : cells + 10 ≤ 600000) (hs : slots + 1000 ≤ 7302250) (kk0 : VL bb p l e room_1 s m args below meth c G 4 Q h2 (cells + 10) (slots + 1000) 1059 (lvA i) []) : VL bb p l e room_1 s m args below meth c G 4 Q h cells slots 737 (lvA i) [] := by
  have kk : VL bb p l e room_1 s m args below meth c G 4 Q h2 (cells + rmX11_work.cells + rmX12_work.cells) (slots + rmX11_work.slots + rmX12_work.slots) 1059 (lvA i) [] := kk0.widen (by show cells + 0 + 0 ≤ cells + 10; omega) (by show slots + 0 + 0 ≤ slots + 1000; omega)
  refine q_aload_n K.1 dL_737 rfl ?_
  refine q_arg (v := 1) K.1 K.2.1 K.2.2.1 K.2.2.2.1 dL_738 dL_739 dL_740 dL_741 dL_742 rfl (by decide) (hin 1 (by decide)) ?_
  refine q_call (As := [.inl (xs (i + 1).toNatClampNeg)]) (ci := 11) K.1 dL_743 mcX11_work wd_738 wd_739 wd_740 rfl rfl (by decide) ⟨Nat.le_of_ble_eq_true rfl, Nat.le_of_ble_eq_true rfl⟩ ⟨by show cells + 0 ≤ 600000; omega, by show slots + 0 ≤ 7302250; omega⟩ rfl (Nat.le_of_ble_eq_true rfl) (a := 0) (by rw [K.2.2.2.2.1]; decide) K.2.2.2.2.2.1 (kX11_work l G e1) ?_
  refine q_pop K.1 dL_746 ?_
  refine q_aload_n K.1 dL_747 rfl ?_
  refine q_arg (v := 1) K.1 K.2.1 K.2.2.1 K.2.2.2.1 dL_748 dL_749 dL_750 dL_751 dL_752 rfl (by decide) (hin 1 (by decide)) ?_
  refine q_call (As := [.inl (xs (i + 1).toNatClampNeg)]) (ci := 12) K.1 dL_753 mcX12_work wd_1329 wd_1330 wd_1331 rfl rfl (by decide) ⟨Nat.le_of_ble_eq_true rfl, Nat.le_of_ble_eq_true rfl⟩ ⟨by show cells + 0 + 0 ≤ 600000; omega, by show slots + 0 + 0 ≤ 7302250; omega⟩ rfl (Nat.le_of_ble_eq_true rfl) (a := 29) (by rw [K.2.2.2.2.1]; decide) K.2.2.2.2.2.2 (kX12_work l G e2) ?_
  refine q_pop K.1 dL_756 ?_
  exact q_goto (tgt := 1059) K.1 dL_757 (by decide) kk
theorem lc_20 (K : LC p s m args meth c G bb L xs) (hin : ∀ v ∈ ([1, 2, 3, 4] : List Int32), vp_in (i + v) L) (e1 : fX11_men N h 0 (xs (i + 1).toNatClampNeg) = some (r, h1)) (e2 : fX12_men N h1 29 (xs (i + 1).toNatClampNeg) = some (r', h2)) (hc : cells + 10 ≤ 600000) (hs : slots + 1000 ≤ 7302250) (kk0 : VL bb p l e room_1 s m args below meth c G 4 Q h2 (cells + 10) (slots + 1000) 1059 (lvA i) []) : VL bb p l e room_1 s m args below meth c G 4 Q h cells slots 760 (lvA i) [] := by
  have kk : VL bb p l e room_1 s m args below meth c G 4 Q h2 (cells + rmX11_men.cells + rmX12_men.cells) (slots + rmX11_men.slots + rmX12_men.slots) 1059 (lvA i) [] := kk0.widen (by show cells + 0 + 0 ≤ cells + 10; omega) (by show slots + 0 + 0 ≤ slots + 1000; omega)
  refine q_aload_n K.1 dL_760 rfl ?_
  refine q_arg (v := 1) K.1 K.2.1 K.2.2.1 K.2.2.2.1 dL_761 dL_762 dL_763 dL_764 dL_765 rfl (by decide) (hin 1 (by decide)) ?_
  refine q_call (As := [.inl (xs (i + 1).toNatClampNeg)]) (ci := 11) K.1 dL_766 mcX11_men wd_750 wd_751 wd_752 rfl rfl (by decide) ⟨Nat.le_of_ble_eq_true rfl, Nat.le_of_ble_eq_true rfl⟩ ⟨by show cells + 0 ≤ 600000; omega, by show slots + 0 ≤ 7302250; omega⟩ rfl (Nat.le_of_ble_eq_true rfl) (a := 0) (by rw [K.2.2.2.2.1]; decide) K.2.2.2.2.2.1 (kX11_men l G e1) ?_
  refine q_pop K.1 dL_769 ?_
  refine q_aload_n K.1 dL_770 rfl ?_
  refine q_arg (v := 1) K.1 K.2.1 K.2.2.1 K.2.2.2.1 dL_771 dL_772 dL_773 dL_774 dL_775 rfl (by decide) (hin 1 (by decide)) ?_
  refine q_call (As := [.inl (xs (i + 1).toNatClampNeg)]) (ci := 12) K.1 dL_776 mcX12_men wd_1333 wd_1334 wd_1335 rfl rfl (by decide) ⟨Nat.le_of_ble_eq_true rfl, Nat.le_of_ble_eq_true rfl⟩ ⟨by show cells + 0 + 0 ≤ 600000; omega, by show slots + 0 + 0 ≤ 7302250; omega⟩ rfl (Nat.le_of_ble_eq_true rfl) (a := 29) (by rw [K.2.2.2.2.1]; decide) K.2.2.2.2.2.2 (kX12_men l G e2) ?_
  refine q_pop K.1 dL_779 ?_
  exact q_goto (tgt := 1059) K.1 dL_780 (by decide) kk
theorem lc_21 (K : LC p s m args meth c G bb L xs) (hin : ∀ v ∈ ([1, 2, 3, 4] : List Int32), vp_in (i + v) L) (e1 : fX11_feed N h 0 (xs (i + 1).toNatClampNeg) (xs (i + 2).toNatClampNeg) = some (r, h1)) (e2 : fX12_feed N h1 29 (xs (i + 1).toNatClampNeg) (xs (i + 2).toNatClampNeg) = some (r', h2)) (hc : cells + 10 ≤ 600000) (hs : slots + 1000 ≤ 7302250) (kk0 : VL bb p l e room_1 s m args below meth c G 4 Q h2 (cells + 10) (slots + 1000) 1059 (lvA i) []) : VL bb p l e room_1 s m args below meth c G 4 Q h cells slots 783 (lvA i) [] := by
  have kk : VL bb p l e room_1 s m args below meth c G 4 Q h2 (cells + rmX11_feed.cells + rmX12_feed.cells) (slots + rmX11_feed.slots + rmX12_feed.slots) 1059 (lvA i) [] := kk0.widen (by show cells + 0 + 0 ≤ cells + 10; omega) (by show slots + 0 + 0 ≤ slots + 1000; omega)
  refine q_aload_n K.1 dL_783 rfl ?_
  refine q_arg (v := 1) K.1 K.2.1 K.2.2.1 K.2.2.2.1 dL_784 dL_785 dL_786 dL_787 dL_788 rfl (by decide) (hin 1 (by decide)) ?_
  refine q_arg (v := 2) K.1 K.2.1 K.2.2.1 K.2.2.2.1 dL_789 dL_790 dL_791 dL_792 dL_793 rfl (by decide) (hin 2 (by decide)) ?_
  refine q_call (As := [.inl (xs (i + 1).toNatClampNeg), .inl (xs (i + 2).toNatClampNeg)]) (ci := 11) K.1 dL_794 mcX11_feed wd_780 wd_781 wd_782 rfl rfl (by decide) ⟨Nat.le_of_ble_eq_true rfl, Nat.le_of_ble_eq_true rfl⟩ ⟨by show cells + 0 ≤ 600000; omega, by show slots + 0 ≤ 7302250; omega⟩ rfl (Nat.le_of_ble_eq_true rfl) (a := 0) (by rw [K.2.2.2.2.1]; decide) K.2.2.2.2.2.1 (kX11_feed l G e1) ?_
  refine q_pop K.1 dL_797 ?_
  refine q_aload_n K.1 dL_798 rfl ?_
  refine q_arg (v := 1) K.1 K.2.1 K.2.2.1 K.2.2.2.1 dL_799 dL_800 dL_801 dL_802 dL_803 rfl (by decide) (hin 1 (by decide)) ?_
  refine q_arg (v := 2) K.1 K.2.1 K.2.2.1 K.2.2.2.1 dL_804 dL_805 dL_806 dL_807 dL_808 rfl (by decide) (hin 2 (by decide)) ?_
  refine q_call (As := [.inl (xs (i + 1).toNatClampNeg), .inl (xs (i + 2).toNatClampNeg)]) (ci := 12) K.1 dL_809 mcX12_feed wd_1341 wd_1342 wd_1343 rfl rfl (by decide) ⟨Nat.le_of_ble_eq_true rfl, Nat.le_of_ble_eq_true rfl⟩ ⟨by show cells + 0 + 0 ≤ 600000; omega, by show slots + 0 + 0 ≤ 7302250; omega⟩ rfl (Nat.le_of_ble_eq_true rfl) (a := 29) (by rw [K.2.2.2.2.1]; decide) K.2.2.2.2.2.2 (kX12_feed l G e2) ?_
  refine q_pop K.1 dL_812 ?_
  exact q_goto (tgt := 1059) K.1 dL_813 (by decide) kk
theorem lc_22 (K : LC p s m args meth c G bb L xs) (hin : ∀ v ∈ ([1, 2, 3, 4] : List Int32), vp_in (i + v) L) (e1 : fX11_play N h 0  = some (r, h1)) (e2 : fX12_play N h1 29  = some (r', h2)) (hc : cells + 10 ≤ 600000) (hs : slots + 1000 ≤ 7302250) (kk0 : VL bb p l e room_1 s m args below meth c G 4 Q h2 (cells + 10) (slots + 1000) 1059 (lvA i) []) : VL bb p l e room_1 s m args below meth c G 4 Q h cells slots 816 (lvA i) [] := by
  have kk : VL bb p l e room_1 s m args below meth c G 4 Q h2 (cells + rmX11_play.cells + rmX12_play.cells) (slots + rmX11_play.slots + rmX12_play.slots) 1059 (lvA i) [] := kk0.widen (by show cells + 0 + 0 ≤ cells + 10; omega) (by show slots + 0 + 0 ≤ slots + 1000; omega)
  refine q_aload_n K.1 dL_816 rfl ?_
  refine q_call (As := []) (ci := 11) K.1 dL_817 mcX11_play wd_789 wd_790 wd_791 rfl rfl (by decide) ⟨Nat.le_of_ble_eq_true rfl, Nat.le_of_ble_eq_true rfl⟩ ⟨by show cells + 0 ≤ 600000; omega, by show slots + 0 ≤ 7302250; omega⟩ rfl (Nat.le_of_ble_eq_true rfl) (a := 0) (by rw [K.2.2.2.2.1]; decide) K.2.2.2.2.2.1 (kX11_play l G e1) ?_
  refine q_pop K.1 dL_820 ?_
  refine q_aload_n K.1 dL_821 rfl ?_
  refine q_call (As := []) (ci := 12) K.1 dL_822 mcX12_play wd_1345 wd_1346 wd_1347 rfl rfl (by decide) ⟨Nat.le_of_ble_eq_true rfl, Nat.le_of_ble_eq_true rfl⟩ ⟨by show cells + 0 + 0 ≤ 600000; omega, by show slots + 0 + 0 ≤ 7302250; omega⟩ rfl (Nat.le_of_ble_eq_true rfl) (a := 29) (by rw [K.2.2.2.2.1]; decide) K.2.2.2.2.2.2 (kX12_play l G e2) ?_
  refine q_pop K.1 dL_825 ?_
  exact q_goto (tgt := 1059) K.1 dL_826 (by decide) kk
theorem lc_23 (K : LC p s m args meth c G bb L xs) (hin : ∀ v ∈ ([1, 2, 3, 4] : List Int32), vp_in (i + v) L) (e1 : fX11_back N h 0  = some (r, h1)) (e2 : fX12_back N h1 29  = some (r', h2)) (hc : cells + 10 ≤ 600000) (hs : slots + 1000 ≤ 7302250) (kk0 : VL bb p l e room_1 s m args below meth c G 4 Q h2 (cells + 10) (slots + 1000) 1059 (lvA i) []) : VL bb p l e room_1 s m args below meth c G 4 Q h cells slots 829 (lvA i) [] := by
  have kk : VL bb p l e room_1 s m args below meth c G 4 Q h2 (cells + rmX11_back.cells + rmX12_back.cells) (slots + rmX11_back.slots + rmX12_back.slots) 1059 (lvA i) [] := kk0.widen (by show cells + 0 + 0 ≤ cells + 10; omega) (by show slots + 0 + 0 ≤ slots + 1000; omega)
  refine q_aload_n K.1 dL_829 rfl ?_
  refine q_call (As := []) (ci := 11) K.1 dL_830 mcX11_back wd_833 wd_834 wd_835 rfl rfl (by decide) ⟨Nat.le_of_ble_eq_true rfl, Nat.le_of_ble_eq_true rfl⟩ ⟨by show cells + 0 ≤ 600000; omega, by show slots + 0 ≤ 7302250; omega⟩ rfl (Nat.le_of_ble_eq_true rfl) (a := 0) (by rw [K.2.2.2.2.1]; decide) K.2.2.2.2.2.1 (kX11_back l G e1) ?_
  refine q_pop K.1 dL_833 ?_
  refine q_aload_n K.1 dL_834 rfl ?_
  refine q_call (As := []) (ci := 12) K.1 dL_835 mcX12_back wd_1365 wd_1366 wd_1367 rfl rfl (by decide) ⟨Nat.le_of_ble_eq_true rfl, Nat.le_of_ble_eq_true rfl⟩ ⟨by show cells + 0 + 0 ≤ 600000; omega, by show slots + 0 + 0 ≤ 7302250; omega⟩ rfl (Nat.le_of_ble_eq_true rfl) (a := 29) (by rw [K.2.2.2.2.1]; decide) K.2.2.2.2.2.2 (kX12_back l G e2) ?_
  refine q_pop K.1 dL_838 ?_
  exact q_goto (tgt := 1059) K.1 dL_839 (by decide) kk
theorem lc_24 (K : LC p s m args meth c G bb L xs) (hin : ∀ v ∈ ([1, 2, 3, 4] : List Int32), vp_in (i + v) L) (e1 : fX11_candle N h 0 (xs (i + 1).toNatClampNeg) = some (r, h1)) (e2 : fX12_candle N h1 29 (xs (i + 1).toNatClampNeg) = some (r', h2)) (hc : cells + 10 ≤ 600000) (hs : slots + 1000 ≤ 7302250) (kk0 : VL bb p l e room_1 s m args below meth c G 4 Q h2 (cells + 10) (slots + 1000) 1059 (lvA i) []) : VL bb p l e room_1 s m args below meth c G 4 Q h cells slots 842 (lvA i) [] := by
  have kk : VL bb p l e room_1 s m args below meth c G 4 Q h2 (cells + rmX11_candle.cells + rmX12_candle.cells) (slots + rmX11_candle.slots + rmX12_candle.slots) 1059 (lvA i) [] := kk0.widen (by show cells + 0 + 0 ≤ cells + 10; omega) (by show slots + 0 + 0 ≤ slots + 1000; omega)
  refine q_aload_n K.1 dL_842 rfl ?_
  refine q_arg (v := 1) K.1 K.2.1 K.2.2.1 K.2.2.2.1 dL_843 dL_844 dL_845 dL_846 dL_847 rfl (by decide) (hin 1 (by decide)) ?_
  refine q_call (As := [.inl (xs (i + 1).toNatClampNeg)]) (ci := 11) K.1 dL_848 mcX11_candle wd_841 wd_842 wd_843 rfl rfl (by decide) ⟨Nat.le_of_ble_eq_true rfl, Nat.le_of_ble_eq_true rfl⟩ ⟨by show cells + 0 ≤ 600000; omega, by show slots + 0 ≤ 7302250; omega⟩ rfl (Nat.le_of_ble_eq_true rfl) (a := 0) (by rw [K.2.2.2.2.1]; decide) K.2.2.2.2.2.1 (kX11_candle l G e1) ?_
  refine q_pop K.1 dL_851 ?_
  refine q_aload_n K.1 dL_852 rfl ?_
  refine q_arg (v := 1) K.1 K.2.1 K.2.2.1 K.2.2.2.1 dL_853 dL_854 dL_855 dL_856 dL_857 rfl (by decide) (hin 1 (by decide)) ?_
  refine q_call (As := [.inl (xs (i + 1).toNatClampNeg)]) (ci := 12) K.1 dL_858 mcX12_candle wd_1369 wd_1370 wd_1371 rfl rfl (by decide) ⟨Nat.le_of_ble_eq_true rfl, Nat.le_of_ble_eq_true rfl⟩ ⟨by show cells + 0 + 0 ≤ 600000; omega, by show slots + 0 + 0 ≤ 7302250; omega⟩ rfl (Nat.le_of_ble_eq_true rfl) (a := 29) (by rw [K.2.2.2.2.1]; decide) K.2.2.2.2.2.2 (kX12_candle l G e2) ?_
  refine q_pop K.1 dL_861 ?_
  exact q_goto (tgt := 1059) K.1 dL_862 (by decide) kk
theorem lc_25 (K : LC p s m args meth c G bb L xs) (hin : ∀ v ∈ ([1, 2, 3, 4] : List Int32), vp_in (i + v) L) (e1 : fX11_minutes N h 0 (xs (i + 1).toNatClampNeg) = some (r, h1)) (e2 : fX12_minutes N h1 29 (xs (i + 1).toNatClampNeg) = some (r', h2)) (hc : cells + 10 ≤ 600000) (hs : slots + 1000 ≤ 7302250) (kk0 : VL bb p l e room_1 s m args below meth c G 4 Q h2 (cells + 10) (slots + 1000) 1059 (lvA i) []) : VL bb p l e room_1 s m args below meth c G 4 Q h cells slots 865 (lvA i) [] := by
  have kk : VL bb p l e room_1 s m args below meth c G 4 Q h2 (cells + rmX11_minutes.cells + rmX12_minutes.cells) (slots + rmX11_minutes.slots + rmX12_minutes.slots) 1059 (lvA i) [] := kk0.widen (by show cells + 0 + 0 ≤ cells + 10; omega) (by show slots + 0 + 0 ≤ slots + 1000; omega)
  refine q_aload_n K.1 dL_865 rfl ?_
  refine q_arg (v := 1) K.1 K.2.1 K.2.2.1 K.2.2.2.1 dL_866 dL_867 dL_868 dL_869 dL_870 rfl (by decide) (hin 1 (by decide)) ?_
  refine q_call (As := [.inl (xs (i + 1).toNatClampNeg)]) (ci := 11) K.1 dL_871 mcX11_minutes wd_850 wd_851 wd_852 rfl rfl (by decide) ⟨Nat.le_of_ble_eq_true rfl, Nat.le_of_ble_eq_true rfl⟩ ⟨by show cells + 0 ≤ 600000; omega, by show slots + 0 ≤ 7302250; omega⟩ rfl (Nat.le_of_ble_eq_true rfl) (a := 0) (by rw [K.2.2.2.2.1]; decide) K.2.2.2.2.2.1 (kX11_minutes l G e1) ?_
  refine q_pop K.1 dL_874 ?_
  refine q_aload_n K.1 dL_875 rfl ?_
  refine q_arg (v := 1) K.1 K.2.1 K.2.2.1 K.2.2.2.1 dL_876 dL_877 dL_878 dL_879 dL_880 rfl (by decide) (hin 1 (by decide)) ?_
  refine q_call (As := [.inl (xs (i + 1).toNatClampNeg)]) (ci := 12) K.1 dL_881 mcX12_minutes wd_1373 wd_1374 wd_1375 rfl rfl (by decide) ⟨Nat.le_of_ble_eq_true rfl, Nat.le_of_ble_eq_true rfl⟩ ⟨by show cells + 0 + 0 ≤ 600000; omega, by show slots + 0 + 0 ≤ 7302250; omega⟩ rfl (Nat.le_of_ble_eq_true rfl) (a := 29) (by rw [K.2.2.2.2.1]; decide) K.2.2.2.2.2.2 (kX12_minutes l G e2) ?_
  refine q_pop K.1 dL_884 ?_
  exact q_goto (tgt := 1059) K.1 dL_885 (by decide) kk
theorem lc_26 (K : LC p s m args meth c G bb L xs) (hin : ∀ v ∈ ([1, 2, 3, 4] : List Int32), vp_in (i + v) L) (e1 : fX11_trim N h 0 (xs (i + 1).toNatClampNeg) = some (r, h1)) (e2 : fX12_trim N h1 29 (xs (i + 1).toNatClampNeg) = some (r', h2)) (hc : cells + 10 ≤ 600000) (hs : slots + 1000 ≤ 7302250) (kk0 : VL bb p l e room_1 s m args below meth c G 4 Q h2 (cells + 10) (slots + 1000) 1059 (lvA i) []) : VL bb p l e room_1 s m args below meth c G 4 Q h cells slots 888 (lvA i) [] := by
  have kk : VL bb p l e room_1 s m args below meth c G 4 Q h2 (cells + rmX11_trim.cells + rmX12_trim.cells) (slots + rmX11_trim.slots + rmX12_trim.slots) 1059 (lvA i) [] := kk0.widen (by show cells + 0 + 0 ≤ cells + 10; omega) (by show slots + 0 + 0 ≤ slots + 1000; omega)
  refine q_aload_n K.1 dL_888 rfl ?_
  refine q_arg (v := 1) K.1 K.2.1 K.2.2.1 K.2.2.2.1 dL_889 dL_890 dL_891 dL_892 dL_893 rfl (by decide) (hin 1 (by decide)) ?_
  refine q_call (As := [.inl (xs (i + 1).toNatClampNeg)]) (ci := 11) K.1 dL_894 mcX11_trim wd_858 wd_859 wd_860 rfl rfl (by decide) ⟨Nat.le_of_ble_eq_true rfl, Nat.le_of_ble_eq_true rfl⟩ ⟨by show cells + 0 ≤ 600000; omega, by show slots + 0 ≤ 7302250; omega⟩ rfl (Nat.le_of_ble_eq_true rfl) (a := 0) (by rw [K.2.2.2.2.1]; decide) K.2.2.2.2.2.1 (kX11_trim l G e1) ?_
  refine q_pop K.1 dL_897 ?_
  refine q_aload_n K.1 dL_898 rfl ?_
  refine q_arg (v := 1) K.1 K.2.1 K.2.2.1 K.2.2.2.1 dL_899 dL_900 dL_901 dL_902 dL_903 rfl (by decide) (hin 1 (by decide)) ?_
  refine q_call (As := [.inl (xs (i + 1).toNatClampNeg)]) (ci := 12) K.1 dL_904 mcX12_trim wd_1377 wd_1378 wd_1379 rfl rfl (by decide) ⟨Nat.le_of_ble_eq_true rfl, Nat.le_of_ble_eq_true rfl⟩ ⟨by show cells + 0 + 0 ≤ 600000; omega, by show slots + 0 + 0 ≤ 7302250; omega⟩ rfl (Nat.le_of_ble_eq_true rfl) (a := 29) (by rw [K.2.2.2.2.1]; decide) K.2.2.2.2.2.2 (kX12_trim l G e2) ?_
  refine q_pop K.1 dL_907 ?_
  exact q_goto (tgt := 1059) K.1 dL_908 (by decide) kk
theorem lc_27 (K : LC p s m args meth c G bb L xs) (hin : ∀ v ∈ ([1, 2, 3, 4] : List Int32), vp_in (i + v) L) (e1 : fX11_light N h 0 (xs (i + 1).toNatClampNeg) = some (r, h1)) (e2 : fX12_light N h1 29 (xs (i + 1).toNatClampNeg) = some (r', h2)) (hc : cells + 10 ≤ 600000) (hs : slots + 1000 ≤ 7302250) (kk0 : VL bb p l e room_1 s m args below meth c G 4 Q h2 (cells + 10) (slots + 1000) 1059 (lvA i) []) : VL bb p l e room_1 s m args below meth c G 4 Q h cells slots 911 (lvA i) [] := by
  have kk : VL bb p l e room_1 s m args below meth c G 4 Q h2 (cells + rmX11_light.cells + rmX12_light.cells) (slots + rmX11_light.slots + rmX12_light.slots) 1059 (lvA i) [] := kk0.widen (by show cells + 0 + 0 ≤ cells + 10; omega) (by show slots + 0 + 0 ≤ slots + 1000; omega)
  refine q_aload_n K.1 dL_911 rfl ?_
  refine q_arg (v := 1) K.1 K.2.1 K.2.2.1 K.2.2.2.1 dL_912 dL_913 dL_914 dL_915 dL_916 rfl (by decide) (hin 1 (by decide)) ?_
  refine q_call (As := [.inl (xs (i + 1).toNatClampNeg)]) (ci := 11) K.1 dL_917 mcX11_light wd_866 wd_867 wd_868 rfl rfl (by decide) ⟨Nat.le_of_ble_eq_true rfl, Nat.le_of_ble_eq_true rfl⟩ ⟨by show cells + 0 ≤ 600000; omega, by show slots + 0 ≤ 7302250; omega⟩ rfl (Nat.le_of_ble_eq_true rfl) (a := 0) (by rw [K.2.2.2.2.1]; decide) K.2.2.2.2.2.1 (kX11_light l G e1) ?_
  refine q_pop K.1 dL_920 ?_
  refine q_aload_n K.1 dL_921 rfl ?_
  refine q_arg (v := 1) K.1 K.2.1 K.2.2.1 K.2.2.2.1 dL_922 dL_923 dL_924 dL_925 dL_926 rfl (by decide) (hin 1 (by decide)) ?_
  refine q_call (As := [.inl (xs (i + 1).toNatClampNeg)]) (ci := 12) K.1 dL_927 mcX12_light wd_1385 wd_1386 wd_1387 rfl rfl (by decide) ⟨Nat.le_of_ble_eq_true rfl, Nat.le_of_ble_eq_true rfl⟩ ⟨by show cells + 0 + 0 ≤ 600000; omega, by show slots + 0 + 0 ≤ 7302250; omega⟩ rfl (Nat.le_of_ble_eq_true rfl) (a := 29) (by rw [K.2.2.2.2.1]; decide) K.2.2.2.2.2.2 (kX12_light l G e2) ?_
  refine q_pop K.1 dL_930 ?_
  exact q_goto (tgt := 1059) K.1 dL_931 (by decide) kk
theorem lc_28 (K : LC p s m args meth c G bb L xs) (hin : ∀ v ∈ ([1, 2, 3, 4] : List Int32), vp_in (i + v) L) (e1 : fX11_flat N h 0 (xs (i + 1).toNatClampNeg) (xs (i + 2).toNatClampNeg) = some (r, h1)) (e2 : fX12_flat N h1 29 (xs (i + 1).toNatClampNeg) (xs (i + 2).toNatClampNeg) = some (r', h2)) (hc : cells + 10 ≤ 600000) (hs : slots + 1000 ≤ 7302250) (kk0 : VL bb p l e room_1 s m args below meth c G 4 Q h2 (cells + 10) (slots + 1000) 1059 (lvA i) []) : VL bb p l e room_1 s m args below meth c G 4 Q h cells slots 934 (lvA i) [] := by
  have kk : VL bb p l e room_1 s m args below meth c G 4 Q h2 (cells + rmX11_flat.cells + rmX12_flat.cells) (slots + rmX11_flat.slots + rmX12_flat.slots) 1059 (lvA i) [] := kk0.widen (by show cells + 1 + 0 ≤ cells + 10; omega) (by show slots + 3 + 0 ≤ slots + 1000; omega)
  refine q_aload_n K.1 dL_934 rfl ?_
  refine q_arg (v := 1) K.1 K.2.1 K.2.2.1 K.2.2.2.1 dL_935 dL_936 dL_937 dL_938 dL_939 rfl (by decide) (hin 1 (by decide)) ?_
  refine q_arg (v := 2) K.1 K.2.1 K.2.2.1 K.2.2.2.1 dL_940 dL_941 dL_942 dL_943 dL_944 rfl (by decide) (hin 2 (by decide)) ?_
  refine q_call (As := [.inl (xs (i + 1).toNatClampNeg), .inl (xs (i + 2).toNatClampNeg)]) (ci := 11) K.1 dL_945 mcX11_flat wd_882 wd_883 wd_884 rfl rfl (by decide) ⟨Nat.le_of_ble_eq_true rfl, Nat.le_of_ble_eq_true rfl⟩ ⟨by show cells + 1 ≤ 600000; omega, by show slots + 3 ≤ 7302250; omega⟩ rfl (Nat.le_of_ble_eq_true rfl) (a := 0) (by rw [K.2.2.2.2.1]; decide) K.2.2.2.2.2.1 (kX11_flat l G e1) ?_
  refine q_pop K.1 dL_948 ?_
  refine q_aload_n K.1 dL_949 rfl ?_
  refine q_arg (v := 1) K.1 K.2.1 K.2.2.1 K.2.2.2.1 dL_950 dL_951 dL_952 dL_953 dL_954 rfl (by decide) (hin 1 (by decide)) ?_
  refine q_arg (v := 2) K.1 K.2.1 K.2.2.1 K.2.2.2.1 dL_955 dL_956 dL_957 dL_958 dL_959 rfl (by decide) (hin 2 (by decide)) ?_
  refine q_call (As := [.inl (xs (i + 1).toNatClampNeg), .inl (xs (i + 2).toNatClampNeg)]) (ci := 12) K.1 dL_960 mcX12_flat wd_1389 wd_1390 wd_1391 rfl rfl (by decide) ⟨Nat.le_of_ble_eq_true rfl, Nat.le_of_ble_eq_true rfl⟩ ⟨by show cells + 1 + 0 ≤ 600000; omega, by show slots + 3 + 0 ≤ 7302250; omega⟩ rfl (Nat.le_of_ble_eq_true rfl) (a := 29) (by rw [K.2.2.2.2.1]; decide) K.2.2.2.2.2.2 (kX12_flat l G e2) ?_
  refine q_pop K.1 dL_963 ?_
  exact q_goto (tgt := 1059) K.1 dL_964 (by decide) kk
theorem lc_29 (K : LC p s m args meth c G bb L xs) (hin : ∀ v ∈ ([1, 2, 3, 4] : List Int32), vp_in (i + v) L) (e1 : fX11_want N h 0 (xs (i + 1).toNatClampNeg) (xs (i + 2).toNatClampNeg) = some (r, h1)) (e2 : fX12_want N h1 29 (xs (i + 1).toNatClampNeg) (xs (i + 2).toNatClampNeg) = some (r', h2)) (hc : cells + 10 ≤ 600000) (hs : slots + 1000 ≤ 7302250) (kk0 : VL bb p l e room_1 s m args below meth c G 4 Q h2 (cells + 10) (slots + 1000) 1059 (lvA i) []) : VL bb p l e room_1 s m args below meth c G 4 Q h cells slots 967 (lvA i) [] := by
  have kk : VL bb p l e room_1 s m args below meth c G 4 Q h2 (cells + rmX11_want.cells + rmX12_want.cells) (slots + rmX11_want.slots + rmX12_want.slots) 1059 (lvA i) [] := kk0.widen (by show cells + 1 + 0 ≤ cells + 10; omega) (by show slots + 3 + 0 ≤ slots + 1000; omega)
  refine q_aload_n K.1 dL_967 rfl ?_
  refine q_arg (v := 1) K.1 K.2.1 K.2.2.1 K.2.2.2.1 dL_968 dL_969 dL_970 dL_971 dL_972 rfl (by decide) (hin 1 (by decide)) ?_
  refine q_arg (v := 2) K.1 K.2.1 K.2.2.1 K.2.2.2.1 dL_973 dL_974 dL_975 dL_976 dL_977 rfl (by decide) (hin 2 (by decide)) ?_
  refine q_call (As := [.inl (xs (i + 1).toNatClampNeg), .inl (xs (i + 2).toNatClampNeg)]) (ci := 11) K.1 dL_978 mcX11_want wd_909 wd_910 wd_911 rfl rfl (by decide) ⟨Nat.le_of_ble_eq_true rfl, Nat.le_of_ble_eq_true rfl⟩ ⟨by show cells + 1 ≤ 600000; omega, by show slots + 3 ≤ 7302250; omega⟩ rfl (Nat.le_of_ble_eq_true rfl) (a := 0) (by rw [K.2.2.2.2.1]; decide) K.2.2.2.2.2.1 (kX11_want l G e1) ?_
  refine q_pop K.1 dL_981 ?_
  refine q_aload_n K.1 dL_982 rfl ?_
  refine q_arg (v := 1) K.1 K.2.1 K.2.2.1 K.2.2.2.1 dL_983 dL_984 dL_985 dL_986 dL_987 rfl (by decide) (hin 1 (by decide)) ?_
  refine q_arg (v := 2) K.1 K.2.1 K.2.2.1 K.2.2.2.1 dL_988 dL_989 dL_990 dL_991 dL_992 rfl (by decide) (hin 2 (by decide)) ?_
  refine q_call (As := [.inl (xs (i + 1).toNatClampNeg), .inl (xs (i + 2).toNatClampNeg)]) (ci := 12) K.1 dL_993 mcX12_want wd_1396 wd_1397 wd_1398 rfl rfl (by decide) ⟨Nat.le_of_ble_eq_true rfl, Nat.le_of_ble_eq_true rfl⟩ ⟨by show cells + 1 + 0 ≤ 600000; omega, by show slots + 3 + 0 ≤ 7302250; omega⟩ rfl (Nat.le_of_ble_eq_true rfl) (a := 29) (by rw [K.2.2.2.2.1]; decide) K.2.2.2.2.2.2 (kX12_want l G e2) ?_
  refine q_pop K.1 dL_996 ?_
  exact q_goto (tgt := 1059) K.1 dL_997 (by decide) kk
theorem lc_30 (K : LC p s m args meth c G bb L xs) (hin : ∀ v ∈ ([1, 2, 3, 4] : List Int32), vp_in (i + v) L) (e1 : fX11_paint N h 0  = some (r, h1)) (e2 : fX12_paint N h1 29  = some (r', h2)) (hc : cells + 10 ≤ 600000) (hs : slots + 1000 ≤ 7302250) (kk0 : VL bb p l e room_1 s m args below meth c G 4 Q h2 (cells + 10) (slots + 1000) 1059 (lvA i) []) : VL bb p l e room_1 s m args below meth c G 4 Q h cells slots 1000 (lvA i) [] := by
  have kk : VL bb p l e room_1 s m args below meth c G 4 Q h2 (cells + rmX11_paint.cells + rmX12_paint.cells) (slots + rmX11_paint.slots + rmX12_paint.slots) 1059 (lvA i) [] := kk0.widen (by show cells + 0 + 0 ≤ cells + 10; omega) (by show slots + 0 + 0 ≤ slots + 1000; omega)
  refine q_aload_n K.1 dL_1000 rfl ?_
  refine q_call (As := []) (ci := 11) K.1 dL_1001 mcX11_paint wd_917 wd_918 wd_919 rfl rfl (by decide) ⟨Nat.le_of_ble_eq_true rfl, Nat.le_of_ble_eq_true rfl⟩ ⟨by show cells + 0 ≤ 600000; omega, by show slots + 0 ≤ 7302250; omega⟩ rfl (Nat.le_of_ble_eq_true rfl) (a := 0) (by rw [K.2.2.2.2.1]; decide) K.2.2.2.2.2.1 (kX11_paint l G e1) ?_
  refine q_pop K.1 dL_1004 ?_
  refine q_aload_n K.1 dL_1005 rfl ?_
  refine q_call (As := []) (ci := 12) K.1 dL_1006 mcX12_paint wd_1400 wd_1401 wd_1402 rfl rfl (by decide) ⟨Nat.le_of_ble_eq_true rfl, Nat.le_of_ble_eq_true rfl⟩ ⟨by show cells + 0 + 0 ≤ 600000; omega, by show slots + 0 + 0 ≤ 7302250; omega⟩ rfl (Nat.le_of_ble_eq_true rfl) (a := 29) (by rw [K.2.2.2.2.1]; decide) K.2.2.2.2.2.2 (kX12_paint l G e2) ?_
  refine q_pop K.1 dL_1009 ?_
  exact q_goto (tgt := 1059) K.1 dL_1010 (by decide) kk
theorem lc_31 (K : LC p s m args meth c G bb L xs) (hin : ∀ v ∈ ([1, 2, 3, 4] : List Int32), vp_in (i + v) L) (e1 : fX11_given N h 0 (xs (i + 1).toNatClampNeg) = some (r, h1)) (e2 : fX12_given N h1 29 (xs (i + 1).toNatClampNeg) = some (r', h2)) (hc : cells + 10 ≤ 600000) (hs : slots + 1000 ≤ 7302250) (kk0 : VL bb p l e room_1 s m args below meth c G 4 Q h2 (cells + 10) (slots + 1000) 1059 (lvA i) []) : VL bb p l e room_1 s m args below meth c G 4 Q h cells slots 1013 (lvA i) [] := by
  have kk : VL bb p l e room_1 s m args below meth c G 4 Q h2 (cells + rmX11_given.cells + rmX12_given.cells) (slots + rmX11_given.slots + rmX12_given.slots) 1059 (lvA i) [] := kk0.widen (by show cells + 0 + 0 ≤ cells + 10; omega) (by show slots + 0 + 0 ≤ slots + 1000; omega)
  refine q_aload_n K.1 dL_1013 rfl ?_
  refine q_arg (v := 1) K.1 K.2.1 K.2.2.1 K.2.2.2.1 dL_1014 dL_1015 dL_1016 dL_1017 dL_1018 rfl (by decide) (hin 1 (by decide)) ?_
  refine q_call (As := [.inl (xs (i + 1).toNatClampNeg)]) (ci := 11) K.1 dL_1019 mcX11_given wd_961 wd_962 wd_963 rfl rfl (by decide) ⟨Nat.le_of_ble_eq_true rfl, Nat.le_of_ble_eq_true rfl⟩ ⟨by show cells + 0 ≤ 600000; omega, by show slots + 0 ≤ 7302250; omega⟩ rfl (Nat.le_of_ble_eq_true rfl) (a := 0) (by rw [K.2.2.2.2.1]; decide) K.2.2.2.2.2.1 (kX11_given l G e1) ?_
  refine q_pop K.1 dL_1022 ?_
  refine q_aload_n K.1 dL_1023 rfl ?_
  refine q_arg (v := 1) K.1 K.2.1 K.2.2.1 K.2.2.2.1 dL_1024 dL_1025 dL_1026 dL_1027 dL_1028 rfl (by decide) (hin 1 (by decide)) ?_
  refine q_call (As := [.inl (xs (i + 1).toNatClampNeg)]) (ci := 12) K.1 dL_1029 mcX12_given wd_1419 wd_1420 wd_1421 rfl rfl (by decide) ⟨Nat.le_of_ble_eq_true rfl, Nat.le_of_ble_eq_true rfl⟩ ⟨by show cells + 0 + 0 ≤ 600000; omega, by show slots + 0 + 0 ≤ 7302250; omega⟩ rfl (Nat.le_of_ble_eq_true rfl) (a := 29) (by rw [K.2.2.2.2.1]; decide) K.2.2.2.2.2.2 (kX12_given l G e2) ?_
  refine q_pop K.1 dL_1032 ?_
  exact q_goto (tgt := 1059) K.1 dL_1033 (by decide) kk
theorem lc_32 (K : LC p s m args meth c G bb L xs) (hin : ∀ v ∈ ([1, 2, 3, 4] : List Int32), vp_in (i + v) L) (e1 : fX11_count N h 0 (xs (i + 1).toNatClampNeg) = some (r, h1)) (e2 : fX12_count N h1 29 (xs (i + 1).toNatClampNeg) = some (r, h2)) (hc : cells + 10 ≤ 600000) (hs : slots + 1000 ≤ 7302250) (kk0 : VL bb p l e room_1 s m args below meth c G 4 Q h2 (cells + 10) (slots + 1000) 1059 (lvA i) []) : VL bb p l e room_1 s m args below meth c G 4 Q h cells slots 1036 (lvA i) [] := by
  have kk : VL bb p l e room_1 s m args below meth c G 4 Q h2 (cells + rmX11_count.cells + rmX12_count.cells) (slots + rmX11_count.slots + rmX12_count.slots) 1059 (lvA i) [] := kk0.widen (by show cells + 0 + 0 ≤ cells + 10; omega) (by show slots + 0 + 0 ≤ slots + 1000; omega)
  refine q_aload_n K.1 dL_1036 rfl ?_
  refine q_arg (v := 1) K.1 K.2.1 K.2.2.1 K.2.2.2.1 dL_1037 dL_1038 dL_1039 dL_1040 dL_1041 rfl (by decide) (hin 1 (by decide)) ?_
  refine q_call (As := [.inl (xs (i + 1).toNatClampNeg)]) (ci := 11) K.1 dL_1042 mcX11_count wd_969 wd_970 wd_971 rfl rfl (by decide) ⟨Nat.le_of_ble_eq_true rfl, Nat.le_of_ble_eq_true rfl⟩ ⟨by show cells + 0 ≤ 600000; omega, by show slots + 0 ≤ 7302250; omega⟩ rfl (Nat.le_of_ble_eq_true rfl) (a := 0) (by rw [K.2.2.2.2.1]; decide) K.2.2.2.2.2.1 (kX11_count l G e1) ?_
  refine q_aload_n K.1 dL_1045 rfl ?_
  refine q_arg (v := 1) K.1 K.2.1 K.2.2.1 K.2.2.2.1 dL_1046 dL_1047 dL_1048 dL_1049 dL_1050 rfl (by decide) (hin 1 (by decide)) ?_
  refine q_call (As := [.inl (xs (i + 1).toNatClampNeg)]) (ci := 12) K.1 dL_1051 mcX12_count wd_1423 wd_1424 wd_1425 rfl rfl (by decide) ⟨Nat.le_of_ble_eq_true rfl, Nat.le_of_ble_eq_true rfl⟩ ⟨by show cells + 0 + 0 ≤ 600000; omega, by show slots + 0 + 0 ≤ 7302250; omega⟩ rfl (Nat.le_of_ble_eq_true rfl) (a := 29) (by rw [K.2.2.2.2.1]; decide) K.2.2.2.2.2.2 (kX12_count l G e2) ?_
  exact q_icmp_eq (tgt := 1059) K.1 dL_1054 (by decide) (fun _ => kk) (fun q => absurd rfl q)
def LawOK (N K : Nat) (J : Nat → Hs → Prop) : Prop := (∀ k h, J k h → J (k + 1) h) ∧ (∀ p1 p2 p3 p4 : Int32, St0 K J (fun h => fX11_thing N h 0 p1 p2 p3 p4) (fun h => fX12_thing N h 29 p1 p2 p3 p4)) ∧ (∀ p1 p2 : Int32, St0 K J (fun h => fX11_ofThing N h 0 p1 p2) (fun h => fX12_ofThing N h 29 p1 p2)) ∧ (∀ p1 : Int32, St0 K J (fun h => fX11_on N h 0 p1) (fun h => fX12_on N h 29 p1)) ∧ (∀ p1 : Int32, St0 K J (fun h => fX11_drum N h 0 p1) (fun h => fX12_drum N h 29 p1)) ∧ (∀ p1 p2 p3 : Int32, St0 K J (fun h => fX11_rope N h 0 p1 p2 p3) (fun h => fX12_rope N h 29 p1 p2 p3)) ∧ (∀ p1 p2 : Int32, St0 K J (fun h => fX11_ofRope N h 0 p1 p2) (fun h => fX12_ofRope N h 29 p1 p2)) ∧ (∀ p1 p2 : Int32, St0 K J (fun h => fX11_tie N h 0 p1 p2) (fun h => fX12_tie N h 29 p1 p2)) ∧ (∀ p1 : Int32, St0 K J (fun h => fX11_untie N h 0 p1) (fun h => fX12_untie N h 29 p1)) ∧ (∀ p1 p2 : Int32, St0 K J (fun h => fX11_weight N h 0 p1 p2) (fun h => fX12_weight N h 29 p1 p2)) ∧ (∀ p1 : Int32, St0 K J (fun h => fX11_bound N h 0 p1) (fun h => fX12_bound N h 29 p1)) ∧ (St0 K J (fun h => fX11_pull N h 0 ) (fun h => fX12_pull N h 29 )) ∧ (∀ p1 : Int32, St0 K J (fun h => fX11_turn N h 0 p1) (fun h => fX12_turn N h 29 p1)) ∧ (∀ p1 : Int32, St0 K J (fun h => fX11_stopped N h 0 p1) (fun h => fX12_stopped N h 29 p1)) ∧ (∀ p1 : Int32, St0 K J (fun h => fX11_free N h 0 p1) (fun h => fX12_free N h 29 p1)) ∧ (∀ p1 : Int32, St0 K J (fun h => fX11_snap N h 0 p1) (fun h => fX12_snap N h 29 p1)) ∧ (∀ p1 : Int32, St0 K J (fun h => fX11_hold N h 0 p1) (fun h => fX12_hold N h 29 p1)) ∧ (∀ p1 p2 p3 : Int32, St0 K J (fun h => fX11_scene N h 0 p1 p2 p3) (fun h => fX12_scene N h 29 p1 p2 p3)) ∧ (∀ p1 p2 : Int32, St0 K J (fun h => fX11_change N h 0 p1 p2) (fun h => fX12_change N h 29 p1 p2)) ∧ (∀ p1 p2 : Int32, St0 K J (fun h => fX11_told N h 0 p1 p2) (fun h => fX12_told N h 29 p1 p2)) ∧ (∀ p1 : Int32, St0 K J (fun h => fX11_work N h 0 p1) (fun h => fX12_work N h 29 p1)) ∧ (∀ p1 : Int32, St0 K J (fun h => fX11_men N h 0 p1) (fun h => fX12_men N h 29 p1)) ∧ (∀ p1 p2 : Int32, St0 K J (fun h => fX11_feed N h 0 p1 p2) (fun h => fX12_feed N h 29 p1 p2)) ∧ (St0 K J (fun h => fX11_play N h 0 ) (fun h => fX12_play N h 29 )) ∧ (St0 K J (fun h => fX11_back N h 0 ) (fun h => fX12_back N h 29 )) ∧ (∀ p1 : Int32, St0 K J (fun h => fX11_candle N h 0 p1) (fun h => fX12_candle N h 29 p1)) ∧ (∀ p1 : Int32, St0 K J (fun h => fX11_minutes N h 0 p1) (fun h => fX12_minutes N h 29 p1)) ∧ (∀ p1 : Int32, St0 K J (fun h => fX11_trim N h 0 p1) (fun h => fX12_trim N h 29 p1)) ∧ (∀ p1 : Int32, St0 K J (fun h => fX11_light N h 0 p1) (fun h => fX12_light N h 29 p1)) ∧ (∀ p1 p2 : Int32, St0 K J (fun h => fX11_flat N h 0 p1 p2) (fun h => fX12_flat N h 29 p1 p2)) ∧ (∀ p1 p2 : Int32, St0 K J (fun h => fX11_want N h 0 p1 p2) (fun h => fX12_want N h 29 p1 p2)) ∧ (St0 K J (fun h => fX11_paint N h 0 ) (fun h => fX12_paint N h 29 )) ∧ (∀ p1 : Int32, St0 K J (fun h => fX11_given N h 0 p1) (fun h => fX12_given N h 29 p1)) ∧ (∀ p1 : Int32, St1 K J (fun h => fX11_count N h 0 p1) (fun h => fX12_count N h 29 p1))
theorem law_loop {K : Nat} {J : Nat → Hs → Prop} (hL5 : L < 5 * K + 5) (hK : K ≤ 1000) (hJ : LawOK N K J) (K0 : LC p s m args meth c G bb L xs) (kx : ∀ h cells slots (x : Int32), cells ≤ 600000 → slots ≤ 7302250 → VL bb p l e room_1 s m args below meth c G 4 Q h cells slots 1065 (lvA x) []) : ∀ (n k : Nat) (h : Hs), k + n = K → J k h → VL bb p l e room_1 s m args below meth c G 4 Q h (100 + 10 * k) (20000 + 1000 * k) 18 (lvA (iI (5 * k))) [] := by
  obtain ⟨o101, o0, o1, o2, o3, o4, o5, o6, o7, o8, o9, o10, o11, o12, o13, o14, o15, o16, o17, o18, o19, o20, o21, o22, o23, o24, o25, o26, o27, o28, o29, o30, o31, o32⟩ := hJ
  have eL : (Int32.ofNat L : Int32) = iI L := (Int32.ofInt_eq_ofNat).symm
  intro n
  induction n with
  | zero =>
    intro k h hn hk
    refine q_iload_n (i := 3) K0.1 dL_18 rfl ?_
    refine q_len K0.1 K0.2.1 K0.2.2.1 K0.2.2.2.1 dL_19 dL_20 dL_21 dL_22 ?_
    refine q_icmp_gt (tgt := 1065) K0.1 dL_23 (by decide) (fun _ => kx _ _ _ _ (by omega) (by omega)) (fun q => absurd ?_ q)
    rw [eL, l5, iI_sub, iI_lt] <;> omega
  | succ n ih =>
    intro k h hn hk
    refine q_iload_n (i := 3) K0.1 dL_18 rfl ?_
    refine q_len K0.1 K0.2.1 K0.2.2.1 K0.2.2.2.1 dL_19 dL_20 dL_21 dL_22 ?_
    refine q_icmp_gt (tgt := 1065) K0.1 dL_23 (by decide) (fun _ => kx _ _ _ _ (by omega) (by omega)) (fun q => ?_)
    have hk5 : 5 * k + 5 ≤ L := by
      refine Nat.not_lt.mp fun w => q ?_
      rw [eL, l5, iI_sub, iI_lt] <;> omega
    clear q
    have hin : ∀ v ∈ ([1, 2, 3, 4] : List Int32), vp_in (iI (5 * k) + v) L := by
      intro v hv
      simp only [List.mem_cons, List.not_mem_nil, or_false] at hv
      rcases hv with rfl | rfl | rfl | rfl <;> (simp only [lit, iI_add]; refine vp_in_iff.mpr ?_; rw [iI_t] <;> omega)
    have kk : ∀ h2, J (k + 1) h2 → VL bb p l e room_1 s m args below meth c G 4 Q h2 (100 + 10 * k + 10) (20000 + 1000 * k + 1000) 1059 (lvA (iI (5 * k))) [] := fun h2 hj => by
      refine q_iinc (v := 5) K0.1 dL_1059 rfl (by decide) (by decide) (by decide) ?_
      refine q_goto (tgt := 18) K0.1 dL_1062 (by decide) ?_
      have e9 : iI (5 * k) + 5 = iI (5 * ((k + 1 : Nat) : Int)) := by
        rw [l5, iI_add]
        congr 1
      rw [e9, show 100 + 10 * k + 10 = 100 + 10 * (k + 1) by omega, show 20000 + 1000 * k + 1000 = 20000 + 1000 * (k + 1) by omega]
      exact ih (k + 1) h2 (by omega) hj
    refine q_scr K0.1 K0.2.1 K0.2.2.1 K0.2.2.2.1 dL_26 dL_27 dL_28 rfl (by refine vp_in_iff.mpr ?_; rw [iI_t] <;> omega) ?_
    refine q_bipush (v := 63) K0.1 dL_29 (by decide) ?_
    refine q_iand K0.1 dL_31 ?_
    generalize hx : xs (iI (5 * k)).toNatClampNeg &&& 63 = x
    by_cases x0 : x = 0
    · subst x0
      obtain ⟨r, r', h1, h2, f1, f2, f4⟩ := o0 (xs (iI (5 * k) + 1).toNatClampNeg) (xs (iI (5 * k) + 2).toNatClampNeg) (xs (iI (5 * k) + 3).toNatClampNeg) (xs (iI (5 * k) + 4).toNatClampNeg) k h (by omega) hk
      exact q_tabIn (tgt := 180) (off := 148) K0.1 dL_32 (by decide) (by decide) (by decide) (by decide) (lc_0 K0 hin f1 f2 (by omega) (by omega) (kk h2 f4))
    by_cases x1 : x = 1
    · subst x1
      obtain ⟨r, r', h1, h2, f1, f2, f4⟩ := o1 (xs (iI (5 * k) + 1).toNatClampNeg) (xs (iI (5 * k) + 2).toNatClampNeg) k h (by omega) hk
      exact q_tabIn (tgt := 233) (off := 201) K0.1 dL_32 (by decide) (by decide) (by decide) (by decide) (lc_1 K0 hin f1 f2 (by omega) (by omega) (kk h2 f4))
    by_cases x2 : x = 2
    · subst x2
      obtain ⟨r, r', h1, h2, f1, f2, f4⟩ := o2 (xs (iI (5 * k) + 1).toNatClampNeg) k h (by omega) hk
      exact q_tabIn (tgt := 266) (off := 234) K0.1 dL_32 (by decide) (by decide) (by decide) (by decide) (lc_2 K0 hin f1 f2 (by omega) (by omega) (kk h2 f4))
    by_cases x3 : x = 3
    · subst x3
      obtain ⟨r, r', h1, h2, f1, f2, f4⟩ := o3 (xs (iI (5 * k) + 1).toNatClampNeg) k h (by omega) hk
      exact q_tabIn (tgt := 289) (off := 257) K0.1 dL_32 (by decide) (by decide) (by decide) (by decide) (lc_3 K0 hin f1 f2 (by omega) (by omega) (kk h2 f4))
    by_cases x4 : x = 4
    · subst x4
      obtain ⟨r, r', h1, h2, f1, f2, f4⟩ := o4 (xs (iI (5 * k) + 1).toNatClampNeg) (xs (iI (5 * k) + 2).toNatClampNeg) (xs (iI (5 * k) + 3).toNatClampNeg) k h (by omega) hk
      exact q_tabIn (tgt := 312) (off := 280) K0.1 dL_32 (by decide) (by decide) (by decide) (by decide) (lc_4 K0 hin f1 f2 (by omega) (by omega) (kk h2 f4))
    by_cases x5 : x = 5
    · subst x5
      obtain ⟨r, r', h1, h2, f1, f2, f4⟩ := o5 (xs (iI (5 * k) + 1).toNatClampNeg) (xs (iI (5 * k) + 2).toNatClampNeg) k h (by omega) hk
      exact q_tabIn (tgt := 355) (off := 323) K0.1 dL_32 (by decide) (by decide) (by decide) (by decide) (lc_5 K0 hin f1 f2 (by omega) (by omega) (kk h2 f4))
    by_cases x6 : x = 6
    · subst x6
      obtain ⟨r, r', h1, h2, f1, f2, f4⟩ := o6 (xs (iI (5 * k) + 1).toNatClampNeg) (xs (iI (5 * k) + 2).toNatClampNeg) k h (by omega) hk
      exact q_tabIn (tgt := 388) (off := 356) K0.1 dL_32 (by decide) (by decide) (by decide) (by decide) (lc_6 K0 hin f1 f2 (by omega) (by omega) (kk h2 f4))
    by_cases x7 : x = 7
    · subst x7
      obtain ⟨r, r', h1, h2, f1, f2, f4⟩ := o7 (xs (iI (5 * k) + 1).toNatClampNeg) k h (by omega) hk
      exact q_tabIn (tgt := 421) (off := 389) K0.1 dL_32 (by decide) (by decide) (by decide) (by decide) (lc_7 K0 hin f1 f2 (by omega) (by omega) (kk h2 f4))
    by_cases x8 : x = 8
    · subst x8
      obtain ⟨r, r', h1, h2, f1, f2, f4⟩ := o8 (xs (iI (5 * k) + 1).toNatClampNeg) (xs (iI (5 * k) + 2).toNatClampNeg) k h (by omega) hk
      exact q_tabIn (tgt := 444) (off := 412) K0.1 dL_32 (by decide) (by decide) (by decide) (by decide) (lc_8 K0 hin f1 f2 (by omega) (by omega) (kk h2 f4))
    by_cases x9 : x = 9
    · subst x9
      obtain ⟨r, r', h1, h2, f1, f2, f4⟩ := o9 (xs (iI (5 * k) + 1).toNatClampNeg) k h (by omega) hk
      exact q_tabIn (tgt := 477) (off := 445) K0.1 dL_32 (by decide) (by decide) (by decide) (by decide) (lc_9 K0 hin f1 f2 (by omega) (by omega) (kk h2 f4))
    by_cases x10 : x = 10
    · subst x10
      obtain ⟨r, r', h1, h2, f1, f2, f4⟩ := o10  k h (by omega) hk
      exact q_tabIn (tgt := 500) (off := 468) K0.1 dL_32 (by decide) (by decide) (by decide) (by decide) (lc_10 K0 hin f1 f2 (by omega) (by omega) (kk h2 f4))
    by_cases x11 : x = 11
    · subst x11
      obtain ⟨r, r', h1, h2, f1, f2, f4⟩ := o11 (xs (iI (5 * k) + 1).toNatClampNeg) k h (by omega) hk
      exact q_tabIn (tgt := 513) (off := 481) K0.1 dL_32 (by decide) (by decide) (by decide) (by decide) (lc_11 K0 hin f1 f2 (by omega) (by omega) (kk h2 f4))
    by_cases x12 : x = 12
    · subst x12
      obtain ⟨r, r', h1, h2, f1, f2, f4⟩ := o12 (xs (iI (5 * k) + 1).toNatClampNeg) k h (by omega) hk
      exact q_tabIn (tgt := 536) (off := 504) K0.1 dL_32 (by decide) (by decide) (by decide) (by decide) (lc_12 K0 hin f1 f2 (by omega) (by omega) (kk h2 f4))
    by_cases x13 : x = 13
    · subst x13
      obtain ⟨r, r', h1, h2, f1, f2, f4⟩ := o13 (xs (iI (5 * k) + 1).toNatClampNeg) k h (by omega) hk
      exact q_tabIn (tgt := 559) (off := 527) K0.1 dL_32 (by decide) (by decide) (by decide) (by decide) (lc_13 K0 hin f1 f2 (by omega) (by omega) (kk h2 f4))
    by_cases x14 : x = 14
    · subst x14
      obtain ⟨r, r', h1, h2, f1, f2, f4⟩ := o14 (xs (iI (5 * k) + 1).toNatClampNeg) k h (by omega) hk
      exact q_tabIn (tgt := 582) (off := 550) K0.1 dL_32 (by decide) (by decide) (by decide) (by decide) (lc_14 K0 hin f1 f2 (by omega) (by omega) (kk h2 f4))
    by_cases x15 : x = 15
    · subst x15
      obtain ⟨r, r', h1, h2, f1, f2, f4⟩ := o15 (xs (iI (5 * k) + 1).toNatClampNeg) k h (by omega) hk
      exact q_tabIn (tgt := 605) (off := 573) K0.1 dL_32 (by decide) (by decide) (by decide) (by decide) (lc_15 K0 hin f1 f2 (by omega) (by omega) (kk h2 f4))
    by_cases x16 : x = 16
    · subst x16
      obtain ⟨r, r', h1, h2, f1, f2, f4⟩ := o16 (xs (iI (5 * k) + 1).toNatClampNeg) (xs (iI (5 * k) + 2).toNatClampNeg) (xs (iI (5 * k) + 3).toNatClampNeg) k h (by omega) hk
      exact q_tabIn (tgt := 628) (off := 596) K0.1 dL_32 (by decide) (by decide) (by decide) (by decide) (lc_16 K0 hin f1 f2 (by omega) (by omega) (kk h2 f4))
    by_cases x17 : x = 17
    · subst x17
      obtain ⟨r, r', h1, h2, f1, f2, f4⟩ := o17 (xs (iI (5 * k) + 1).toNatClampNeg) (xs (iI (5 * k) + 2).toNatClampNeg) k h (by omega) hk
      exact q_tabIn (tgt := 671) (off := 639) K0.1 dL_32 (by decide) (by decide) (by decide) (by decide) (lc_17 K0 hin f1 f2 (by omega) (by omega) (kk h2 f4))
    by_cases x18 : x = 18
    · subst x18
      obtain ⟨r, r', h1, h2, f1, f2, f4⟩ := o18 (xs (iI (5 * k) + 1).toNatClampNeg) (xs (iI (5 * k) + 2).toNatClampNeg) k h (by omega) hk
      exact q_tabIn (tgt := 704) (off := 672) K0.1 dL_32 (by decide) (by decide) (by decide) (by decide) (lc_18 K0 hin f1 f2 (by omega) (by omega) (kk h2 f4))
    by_cases x19 : x = 19
    · subst x19
      obtain ⟨r, r', h1, h2, f1, f2, f4⟩ := o19 (xs (iI (5 * k) + 1).toNatClampNeg) k h (by omega) hk
      exact q_tabIn (tgt := 737) (off := 705) K0.1 dL_32 (by decide) (by decide) (by decide) (by decide) (lc_19 K0 hin f1 f2 (by omega) (by omega) (kk h2 f4))
    by_cases x20 : x = 20
    · subst x20
      obtain ⟨r, r', h1, h2, f1, f2, f4⟩ := o20 (xs (iI (5 * k) + 1).toNatClampNeg) k h (by omega) hk
      exact q_tabIn (tgt := 760) (off := 728) K0.1 dL_32 (by decide) (by decide) (by decide) (by decide) (lc_20 K0 hin f1 f2 (by omega) (by omega) (kk h2 f4))
    by_cases x21 : x = 21
    · subst x21
      obtain ⟨r, r', h1, h2, f1, f2, f4⟩ := o21 (xs (iI (5 * k) + 1).toNatClampNeg) (xs (iI (5 * k) + 2).toNatClampNeg) k h (by omega) hk
      exact q_tabIn (tgt := 783) (off := 751) K0.1 dL_32 (by decide) (by decide) (by decide) (by decide) (lc_21 K0 hin f1 f2 (by omega) (by omega) (kk h2 f4))
    by_cases x22 : x = 22
    · subst x22
      obtain ⟨r, r', h1, h2, f1, f2, f4⟩ := o22  k h (by omega) hk
      exact q_tabIn (tgt := 816) (off := 784) K0.1 dL_32 (by decide) (by decide) (by decide) (by decide) (lc_22 K0 hin f1 f2 (by omega) (by omega) (kk h2 f4))
    by_cases x23 : x = 23
    · subst x23
      obtain ⟨r, r', h1, h2, f1, f2, f4⟩ := o23  k h (by omega) hk
      exact q_tabIn (tgt := 829) (off := 797) K0.1 dL_32 (by decide) (by decide) (by decide) (by decide) (lc_23 K0 hin f1 f2 (by omega) (by omega) (kk h2 f4))
    by_cases x24 : x = 24
    · subst x24
      obtain ⟨r, r', h1, h2, f1, f2, f4⟩ := o24 (xs (iI (5 * k) + 1).toNatClampNeg) k h (by omega) hk
      exact q_tabIn (tgt := 842) (off := 810) K0.1 dL_32 (by decide) (by decide) (by decide) (by decide) (lc_24 K0 hin f1 f2 (by omega) (by omega) (kk h2 f4))
    by_cases x25 : x = 25
    · subst x25
      obtain ⟨r, r', h1, h2, f1, f2, f4⟩ := o25 (xs (iI (5 * k) + 1).toNatClampNeg) k h (by omega) hk
      exact q_tabIn (tgt := 865) (off := 833) K0.1 dL_32 (by decide) (by decide) (by decide) (by decide) (lc_25 K0 hin f1 f2 (by omega) (by omega) (kk h2 f4))
    by_cases x26 : x = 26
    · subst x26
      obtain ⟨r, r', h1, h2, f1, f2, f4⟩ := o26 (xs (iI (5 * k) + 1).toNatClampNeg) k h (by omega) hk
      exact q_tabIn (tgt := 888) (off := 856) K0.1 dL_32 (by decide) (by decide) (by decide) (by decide) (lc_26 K0 hin f1 f2 (by omega) (by omega) (kk h2 f4))
    by_cases x27 : x = 27
    · subst x27
      obtain ⟨r, r', h1, h2, f1, f2, f4⟩ := o27 (xs (iI (5 * k) + 1).toNatClampNeg) k h (by omega) hk
      exact q_tabIn (tgt := 911) (off := 879) K0.1 dL_32 (by decide) (by decide) (by decide) (by decide) (lc_27 K0 hin f1 f2 (by omega) (by omega) (kk h2 f4))
    by_cases x28 : x = 28
    · subst x28
      obtain ⟨r, r', h1, h2, f1, f2, f4⟩ := o28 (xs (iI (5 * k) + 1).toNatClampNeg) (xs (iI (5 * k) + 2).toNatClampNeg) k h (by omega) hk
      exact q_tabIn (tgt := 934) (off := 902) K0.1 dL_32 (by decide) (by decide) (by decide) (by decide) (lc_28 K0 hin f1 f2 (by omega) (by omega) (kk h2 f4))
    by_cases x29 : x = 29
    · subst x29
      obtain ⟨r, r', h1, h2, f1, f2, f4⟩ := o29 (xs (iI (5 * k) + 1).toNatClampNeg) (xs (iI (5 * k) + 2).toNatClampNeg) k h (by omega) hk
      exact q_tabIn (tgt := 967) (off := 935) K0.1 dL_32 (by decide) (by decide) (by decide) (by decide) (lc_29 K0 hin f1 f2 (by omega) (by omega) (kk h2 f4))
    by_cases x30 : x = 30
    · subst x30
      obtain ⟨r, r', h1, h2, f1, f2, f4⟩ := o30  k h (by omega) hk
      exact q_tabIn (tgt := 1000) (off := 968) K0.1 dL_32 (by decide) (by decide) (by decide) (by decide) (lc_30 K0 hin f1 f2 (by omega) (by omega) (kk h2 f4))
    by_cases x31 : x = 31
    · subst x31
      obtain ⟨r, r', h1, h2, f1, f2, f4⟩ := o31 (xs (iI (5 * k) + 1).toNatClampNeg) k h (by omega) hk
      exact q_tabIn (tgt := 1013) (off := 981) K0.1 dL_32 (by decide) (by decide) (by decide) (by decide) (lc_31 K0 hin f1 f2 (by omega) (by omega) (kk h2 f4))
    by_cases x32 : x = 32
    · subst x32
      obtain ⟨r, h1, h2, f1, f2, f4⟩ := o32 (xs (iI (5 * k) + 1).toNatClampNeg) k h (by omega) hk
      exact q_tabIn (tgt := 1036) (off := 1004) K0.1 dL_32 (by decide) (by decide) (by decide) (by decide) (lc_32 K0 hin f1 f2 (by omega) (by omega) (kk h2 f4))
    refine q_tabOut (tgt := 1059) K0.1 dL_32 (sw_out [0, 1, 2, 3, 4, 5, 6, 7, 8, 9, 10, 11, 12, 13, 14, 15, 16, 17, 18, 19, 20, 21, 22, 23, 24, 25, 26, 27, 28, 29, 30, 31, 32] (by decide) ?_) (by decide) ?_
    · intro y hy
      simp only [List.mem_cons, List.not_mem_nil, or_false] at hy
      rcases hy with rfl | rfl | rfl | rfl | rfl | rfl | rfl | rfl | rfl | rfl | rfl | rfl | rfl | rfl | rfl | rfl | rfl | rfl | rfl | rfl | rfl | rfl | rfl | rfl | rfl | rfl | rfl | rfl | rfl | rfl | rfl | rfl | rfl <;> assumption
    · exact VL.widen (by omega) (by omega) (kk h (o101 k h hk))
end Law
