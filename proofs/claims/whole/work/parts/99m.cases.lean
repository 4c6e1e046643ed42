theorem law_person {p : Program} {l : Launch} {e : Env} {s : State} {m : MethodId} {below : List Frame} {meth : Method} {c : Code} {D : va_G} {cI : ClassId} {ad : Nat → Nat} {b L i : Nat} {xs : Nat → Int32} {ls : Array Slot} {σ : St} {A : AS} (hL : LwC p s m meth c D cI ad b L i xs ls) (hC : CX A σ) (hM : MX A σ) (hN : ∀ A σ, CX A σ → MX A σ → LwS l p e s m below meth c D cI ad b ls 1249 [] σ) : LwS l p e s m below meth c D cI ad b ls 172 [] σ := by
  obtain ⟨R, hR⟩ : ∃ R : Int32 × AS, R = op_person A ((xs (i + 1))) ((xs (i + 2))) ((xs (i + 3))) := ⟨_, rfl⟩
  have hx1 : CallAt l 72 (.ref 0 :: [.int (xs (i + 1)), .int (xs (i + 2)), .int (xs (i + 3))]) σ (fun r σ1 => r = R.1 ∧ CX R.2 σ1 ∧ FrX σ σ1) := by subst hR; exact X_person hC (fun σ1 h1 h2 => ⟨rfl, h1, h2⟩)
  have hx2 : ∀ σ1, MX A σ1 → CallAt l 116 (.ref 900 :: [.int (xs (i + 1)), .int (xs (i + 2)), .int (xs (i + 3))]) σ1 (fun r σ2 => r = R.1 ∧ MX R.2 σ2 ∧ FrM σ1 σ2) := by subst hR; exact fun σ1 h => M_person h (fun σ2 h1 h2 => ⟨rfl, h1, h2⟩)
  refine ls_a1 hL dL_law_172 ?_
  refine ls_c 1 hL dL_law_173 dL_law_174 dL_law_175 rfl dL_law_176 dL_law_177 (by decide) ?_
  refine ls_c 2 hL dL_law_178 dL_law_179 dL_law_180 rfl dL_law_181 dL_law_182 (by decide) ?_
  refine ls_c 3 hL dL_law_183 dL_law_184 dL_law_185 rfl dL_law_186 dL_law_187 (by decide) ?_
  refine ls_call 72 3 0 [.int (xs (i + 1)), .int (xs (i + 2)), .int (xs (i + 3))] (st := []) hL dL_law_188 (by decide +kernel) (by decide +kernel) (by decide) (by decide) (by decide) rfl rfl rfl (Nat.le_of_ble_eq_true rfl) hx1 (fun r σ1 h1 => ?_)
  refine ls_a2 hL dL_law_191 ?_
  refine ls_c 1 hL dL_law_192 dL_law_193 dL_law_194 rfl dL_law_195 dL_law_196 (by decide) ?_
  refine ls_c 2 hL dL_law_197 dL_law_198 dL_law_199 rfl dL_law_200 dL_law_201 (by decide) ?_
  refine ls_c 3 hL dL_law_202 dL_law_203 dL_law_204 rfl dL_law_205 dL_law_206 (by decide) ?_
  refine ls_call 116 3 900 [.int (xs (i + 1)), .int (xs (i + 2)), .int (xs (i + 3))] (st := [.int r]) hL dL_law_207 (by decide +kernel) (by decide +kernel) (by decide) (by decide) (by decide) rfl rfl rfl (Nat.le_of_ble_eq_true rfl) (hx2 σ1 (hM.frx h1.2.2)) (fun r2 σ2 h2 => ?_)
  exact ls_eq hL dL_law_210 (tgt := 1249) (by decide) (h1.1.trans h2.1.symm) (hN R.2 σ2 (h1.2.1.frm h2.2.2) h2.2.1)
theorem law_marry {p : Program} {l : Launch} {e : Env} {s : State} {m : MethodId} {below : List Frame} {meth : Method} {c : Code} {D : va_G} {cI : ClassId} {ad : Nat → Nat} {b L i : Nat} {xs : Nat → Int32} {ls : Array Slot} {σ : St} {A : AS} (hL : LwC p s m meth c D cI ad b L i xs ls) (hC : CX A σ) (hM : MX A σ) (hN : ∀ A σ, CX A σ → MX A σ → LwS l p e s m below meth c D cI ad b ls 1249 [] σ) : LwS l p e s m below meth c D cI ad b ls 215 [] σ := by
  obtain ⟨R, hR⟩ : ∃ R : Int32 × AS, R = op_marry A ((xs (i + 1))) ((xs (i + 2))) := ⟨_, rfl⟩
  have hx1 : CallAt l 73 (.ref 0 :: [.int (xs (i + 1)), .int (xs (i + 2))]) σ (fun r σ1 => r = R.1 ∧ CX R.2 σ1 ∧ FrX σ σ1) := by subst hR; exact X_marry hC (fun σ1 h1 h2 => ⟨rfl, h1, h2⟩)
  have hx2 : ∀ σ1, MX A σ1 → CallAt l 122 (.ref 900 :: [.int (xs (i + 1)), .int (xs (i + 2))]) σ1 (fun r σ2 => r = R.1 ∧ MX R.2 σ2 ∧ FrM σ1 σ2) := by subst hR; exact fun σ1 h => M_marry h (fun σ2 h1 h2 => ⟨rfl, h1, h2⟩)
  refine ls_a1 hL dL_law_215 ?_
  refine ls_c 1 hL dL_law_216 dL_law_217 dL_law_218 rfl dL_law_219 dL_law_220 (by decide) ?_
  refine ls_c 2 hL dL_law_221 dL_law_222 dL_law_223 rfl dL_law_224 dL_law_225 (by decide) ?_
  refine ls_call 73 2 0 [.int (xs (i + 1)), .int (xs (i + 2))] (st := []) hL dL_law_226 (by decide +kernel) (by decide +kernel) (by decide) (by decide) (by decide) rfl rfl rfl (Nat.le_of_ble_eq_true rfl) hx1 (fun r σ1 h1 => ?_)
  refine ls_a2 hL dL_law_229 ?_
  refine ls_c 1 hL dL_law_230 dL_law_231 dL_law_232 rfl dL_law_233 dL_law_234 (by decide) ?_
  refine ls_c 2 hL dL_law_235 dL_law_236 dL_law_237 rfl dL_law_238 dL_law_239 (by decide) ?_
  refine ls_call 122 2 900 [.int (xs (i + 1)), .int (xs (i + 2))] (st := [.int r]) hL dL_law_240 (by decide +kernel) (by decide +kernel) (by decide) (by decide) (by decide) rfl rfl rfl (Nat.le_of_ble_eq_true rfl) (hx2 σ1 (hM.frx h1.2.2)) (fun r2 σ2 h2 => ?_)
  exact ls_eq hL dL_law_243 (tgt := 1249) (by decide) (h1.1.trans h2.1.symm) (hN R.2 σ2 (h1.2.1.frm h2.2.2) h2.2.1)
theorem law_adopt {p : Program} {l : Launch} {e : Env} {s : State} {m : MethodId} {below : List Frame} {meth : Method} {c : Code} {D : va_G} {cI : ClassId} {ad : Nat → Nat} {b L i : Nat} {xs : Nat → Int32} {ls : Array Slot} {σ : St} {A : AS} (hL : LwC p s m meth c D cI ad b L i xs ls) (hC : CX A σ) (hM : MX A σ) (hN : ∀ A σ, CX A σ → MX A σ → LwS l p e s m below meth c D cI ad b ls 1249 [] σ) : LwS l p e s m below meth c D cI ad b ls 248 [] σ := by
  obtain ⟨R, hR⟩ : ∃ R : Int32 × AS, R = op_adopt A ((xs (i + 1))) ((xs (i + 2))) := ⟨_, rfl⟩
  have hx1 : CallAt l 74 (.ref 0 :: [.int (xs (i + 1)), .int (xs (i + 2))]) σ (fun r σ1 => r = R.1 ∧ CX R.2 σ1 ∧ FrX σ σ1) := by subst hR; exact X_adopt hC (fun σ1 h1 h2 => ⟨rfl, h1, h2⟩)
  have hx2 : ∀ σ1, MX A σ1 → CallAt l 123 (.ref 900 :: [.int (xs (i + 1)), .int (xs (i + 2))]) σ1 (fun r σ2 => r = R.1 ∧ MX R.2 σ2 ∧ FrM σ1 σ2) := by subst hR; exact fun σ1 h => M_adopt h (fun σ2 h1 h2 => ⟨rfl, h1, h2⟩)
  refine ls_a1 hL dL_law_248 ?_
  refine ls_c 1 hL dL_law_249 dL_law_250 dL_law_251 rfl dL_law_252 dL_law_253 (by decide) ?_
  refine ls_c 2 hL dL_law_254 dL_law_255 dL_law_256 rfl dL_law_257 dL_law_258 (by decide) ?_
  refine ls_call 74 2 0 [.int (xs (i + 1)), .int (xs (i + 2))] (st := []) hL dL_law_259 (by decide +kernel) (by decide +kernel) (by decide) (by decide) (by decide) rfl rfl rfl (Nat.le_of_ble_eq_true rfl) hx1 (fun r σ1 h1 => ?_)
  refine ls_a2 hL dL_law_262 ?_
  refine ls_c 1 hL dL_law_263 dL_law_264 dL_law_265 rfl dL_law_266 dL_law_267 (by decide) ?_
  refine ls_c 2 hL dL_law_268 dL_law_269 dL_law_270 rfl dL_law_271 dL_law_272 (by decide) ?_
  refine ls_call 123 2 900 [.int (xs (i + 1)), .int (xs (i + 2))] (st := [.int r]) hL dL_law_273 (by decide +kernel) (by decide +kernel) (by decide) (by decide) (by decide) rfl rfl rfl (Nat.le_of_ble_eq_true rfl) (hx2 σ1 (hM.frx h1.2.2)) (fun r2 σ2 h2 => ?_)
  exact ls_eq hL dL_law_276 (tgt := 1249) (by decide) (h1.1.trans h2.1.symm) (hN R.2 σ2 (h1.2.1.frm h2.2.2) h2.2.1)
theorem law_god {p : Program} {l : Launch} {e : Env} {s : State} {m : MethodId} {below : List Frame} {meth : Method} {c : Code} {D : va_G} {cI : ClassId} {ad : Nat → Nat} {b L i : Nat} {xs : Nat → Int32} {ls : Array Slot} {σ : St} {A : AS} (hL : LwC p s m meth c D cI ad b L i xs ls) (hC : CX A σ) (hM : MX A σ) (hN : ∀ A σ, CX A σ → MX A σ → LwS l p e s m below meth c D cI ad b ls 1249 [] σ) : LwS l p e s m below meth c D cI ad b ls 281 [] σ := by
  obtain ⟨R, hR⟩ : ∃ R : Int32 × AS, R = op_god A ((xs (i + 1))) ((xs (i + 2))) := ⟨_, rfl⟩
  have hx1 : CallAt l 75 (.ref 0 :: [.int (xs (i + 1)), .int (xs (i + 2))]) σ (fun r σ1 => r = R.1 ∧ CX R.2 σ1 ∧ FrX σ σ1) := by subst hR; exact X_god hC (fun σ1 h1 h2 => ⟨rfl, h1, h2⟩)
  have hx2 : ∀ σ1, MX A σ1 → CallAt l 124 (.ref 900 :: [.int (xs (i + 1)), .int (xs (i + 2))]) σ1 (fun r σ2 => r = R.1 ∧ MX R.2 σ2 ∧ FrM σ1 σ2) := by subst hR; exact fun σ1 h => M_god h (fun σ2 h1 h2 => ⟨rfl, h1, h2⟩)
  refine ls_a1 hL dL_law_281 ?_
  refine ls_c 1 hL dL_law_282 dL_law_283 dL_law_284 rfl dL_law_285 dL_law_286 (by decide) ?_
  refine ls_c 2 hL dL_law_287 dL_law_288 dL_law_289 rfl dL_law_290 dL_law_291 (by decide) ?_
  refine ls_call 75 2 0 [.int (xs (i + 1)), .int (xs (i + 2))] (st := []) hL dL_law_292 (by decide +kernel) (by decide +kernel) (by decide) (by decide) (by decide) rfl rfl rfl (Nat.le_of_ble_eq_true rfl) hx1 (fun r σ1 h1 => ?_)
  refine ls_a2 hL dL_law_295 ?_
  refine ls_c 1 hL dL_law_296 dL_law_297 dL_law_298 rfl dL_law_299 dL_law_300 (by decide) ?_
  refine ls_c 2 hL dL_law_301 dL_law_302 dL_law_303 rfl dL_law_304 dL_law_305 (by decide) ?_
  refine ls_call 124 2 900 [.int (xs (i + 1)), .int (xs (i + 2))] (st := [.int r]) hL dL_law_306 (by decide +kernel) (by decide +kernel) (by decide) (by decide) (by decide) rfl rfl rfl (Nat.le_of_ble_eq_true rfl) (hx2 σ1 (hM.frx h1.2.2)) (fun r2 σ2 h2 => ?_)
  exact ls_eq hL dL_law_309 (tgt := 1249) (by decide) (h1.1.trans h2.1.symm) (hN R.2 σ2 (h1.2.1.frm h2.2.2) h2.2.1)
theorem law_told {p : Program} {l : Launch} {e : Env} {s : State} {m : MethodId} {below : List Frame} {meth : Method} {c : Code} {D : va_G} {cI : ClassId} {ad : Nat → Nat} {b L i : Nat} {xs : Nat → Int32} {ls : Array Slot} {σ : St} {A : AS} (hL : LwC p s m meth c D cI ad b L i xs ls) (hC : CX A σ) (hM : MX A σ) (hN : ∀ A σ, CX A σ → MX A σ → LwS l p e s m below meth c D cI ad b ls 1249 [] σ) : LwS l p e s m below meth c D cI ad b ls 314 [] σ := by
  obtain ⟨R, hR⟩ : ∃ R : Int32 × AS, R = op_told A ((xs (i + 1))) ((xs (i + 2))) := ⟨_, rfl⟩
  have hx1 : CallAt l 76 (.ref 0 :: [.int (xs (i + 1)), .int (xs (i + 2))]) σ (fun r σ1 => r = R.1 ∧ CX R.2 σ1 ∧ FrX σ σ1) := by subst hR; exact X_told hC (fun σ1 h1 h2 => ⟨rfl, h1, h2⟩)
  have hx2 : ∀ σ1, MX A σ1 → CallAt l 126 (.ref 900 :: [.int (xs (i + 1)), .int (xs (i + 2))]) σ1 (fun r σ2 => r = R.1 ∧ MX R.2 σ2 ∧ FrM σ1 σ2) := by subst hR; exact fun σ1 h => M_told h (fun σ2 h1 h2 => ⟨rfl, h1, h2⟩)
  refine ls_a1 hL dL_law_314 ?_
  refine ls_c 1 hL dL_law_315 dL_law_316 dL_law_317 rfl dL_law_318 dL_law_319 (by decide) ?_
  refine ls_c 2 hL dL_law_320 dL_law_321 dL_law_322 rfl dL_law_323 dL_law_324 (by decide) ?_
  refine ls_call 76 2 0 [.int (xs (i + 1)), .int (xs (i + 2))] (st := []) hL dL_law_325 (by decide +kernel) (by decide +kernel) (by decide) (by decide) (by decide) rfl rfl rfl (Nat.le_of_ble_eq_true rfl) hx1 (fun r σ1 h1 => ?_)
  refine ls_a2 hL dL_law_328 ?_
  refine ls_c 1 hL dL_law_329 dL_law_330 dL_law_331 rfl dL_law_332 dL_law_333 (by decide) ?_
  refine ls_c 2 hL dL_law_334 dL_law_335 dL_law_336 rfl dL_law_337 dL_law_338 (by decide) ?_
  refine ls_call 126 2 900 [.int (xs (i + 1)), .int (xs (i + 2))] (st := [.int r]) hL dL_law_339 (by decide +kernel) (by decide +kernel) (by decide) (by decide) (by decide) rfl rfl rfl (Nat.le_of_ble_eq_true rfl) (hx2 σ1 (hM.frx h1.2.2)) (fun r2 σ2 h2 => ?_)
  exact ls_eq hL dL_law_342 (tgt := 1249) (by decide) (h1.1.trans h2.1.symm) (hN R.2 σ2 (h1.2.1.frm h2.2.2) h2.2.1)
theorem law_kin {p : Program} {l : Launch} {e : Env} {s : State} {m : MethodId} {below : List Frame} {meth : Method} {c : Code} {D : va_G} {cI : ClassId} {ad : Nat → Nat} {b L i : Nat} {xs : Nat → Int32} {ls : Array Slot} {σ : St} {A : AS} (hL : LwC p s m meth c D cI ad b L i xs ls) (hC : CX A σ) (hM : MX A σ) (hN : ∀ A σ, CX A σ → MX A σ → LwS l p e s m below meth c D cI ad b ls 1249 [] σ) : LwS l p e s m below meth c D cI ad b ls 347 [] σ := by
  obtain ⟨R, hR⟩ : ∃ R : Int32 × AS, R = op_kin A ((xs (i + 1))) ((xs (i + 2))) := ⟨_, rfl⟩
  have hx1 : CallAt l 77 (.ref 0 :: [.int (xs (i + 1)), .int (xs (i + 2))]) σ (fun r σ1 => r = R.1 ∧ CX R.2 σ1 ∧ FrX σ σ1) := by subst hR; exact X_kin hC (fun σ1 h1 h2 => ⟨rfl, h1, h2⟩)
  have hx2 : ∀ σ1, MX A σ1 → CallAt l 131 (.ref 900 :: [.int (xs (i + 1)), .int (xs (i + 2))]) σ1 (fun r σ2 => r = R.1 ∧ MX R.2 σ2 ∧ FrM σ1 σ2) := by subst hR; exact fun σ1 h => M_kin h (fun σ2 h1 h2 => ⟨rfl, h1, h2⟩)
  refine ls_a1 hL dL_law_347 ?_
  refine ls_c 1 hL dL_law_348 dL_law_349 dL_law_350 rfl dL_law_351 dL_law_352 (by decide) ?_
  refine ls_c 2 hL dL_law_353 dL_law_354 dL_law_355 rfl dL_law_356 dL_law_357 (by decide) ?_
  refine ls_call 77 2 0 [.int (xs (i + 1)), .int (xs (i + 2))] (st := []) hL dL_law_358 (by decide +kernel) (by decide +kernel) (by decide) (by decide) (by decide) rfl rfl rfl (Nat.le_of_ble_eq_true rfl) hx1 (fun r σ1 h1 => ?_)
  refine ls_a2 hL dL_law_361 ?_
  refine ls_c 1 hL dL_law_362 dL_law_363 dL_law_364 rfl dL_law_365 dL_law_366 (by decide) ?_
  refine ls_c 2 hL dL_law_367 dL_law_368 dL_law_369 rfl dL_law_370 dL_law_371 (by decide) ?_
  refine ls_call 131 2 900 [.int (xs (i + 1)), .int (xs (i + 2))] (st := [.int r]) hL dL_law_372 (by decide +kernel) (by decide +kernel) (by decide) (by decide) (by decide) rfl rfl rfl (Nat.le_of_ble_eq_true rfl) (hx2 σ1 (hM.frx h1.2.2)) (fun r2 σ2 h2 => ?_)
  exact ls_eq hL dL_law_375 (tgt := 1249) (by decide) (h1.1.trans h2.1.symm) (hN R.2 σ2 (h1.2.1.frm h2.2.2) h2.2.1)
theorem law_thing {p : Program} {l : Launch} {e : Env} {s : State} {m : MethodId} {below : List Frame} {meth : Method} {c : Code} {D : va_G} {cI : ClassId} {ad : Nat → Nat} {b L i : Nat} {xs : Nat → Int32} {ls : Array Slot} {σ : St} {A : AS} (hL : LwC p s m meth c D cI ad b L i xs ls) (hC : CX A σ) (hM : MX A σ) (hN : ∀ A σ, CX A σ → MX A σ → LwS l p e s m below meth c D cI ad b ls 1249 [] σ) : LwS l p e s m below meth c D cI ad b ls 380 [] σ := by
  obtain ⟨R, hR⟩ : ∃ R : Int32 × AS, R = op_thing A ((xs (i + 1))) ((xs (i + 2))) ((xs (i + 3))) ((xs (i + 4))) := ⟨_, rfl⟩
  have hx1 : CallAt l 78 (.ref 0 :: [.int (xs (i + 1)), .int (xs (i + 2)), .int (xs (i + 3)), .int (xs (i + 4))]) σ (fun r σ1 => r = R.1 ∧ CX R.2 σ1 ∧ FrX σ σ1) := by subst hR; exact X_thing hC (fun σ1 h1 h2 => ⟨rfl, h1, h2⟩)
  have hx2 : ∀ σ1, MX A σ1 → CallAt l 133 (.ref 900 :: [.int (xs (i + 1)), .int (xs (i + 2)), .int (xs (i + 3)), .int (xs (i + 4))]) σ1 (fun r σ2 => r = R.1 ∧ MX R.2 σ2 ∧ FrM σ1 σ2) := by subst hR; exact fun σ1 h => M_thing h (fun σ2 h1 h2 => ⟨rfl, h1, h2⟩)
  refine ls_a1 hL dL_law_380 ?_
  refine ls_c 1 hL dL_law_381 dL_law_382 dL_law_383 rfl dL_law_384 dL_law_385 (by decide) ?_
  refine ls_c 2 hL dL_law_386 dL_law_387 dL_law_388 rfl dL_law_389 dL_law_390 (by decide) ?_
  refine ls_c 3 hL dL_law_391 dL_law_392 dL_law_393 rfl dL_law_394 dL_law_395 (by decide) ?_
  refine ls_c 4 hL dL_law_396 dL_law_397 dL_law_398 rfl dL_law_399 dL_law_400 (by decide) ?_
  refine ls_call 78 4 0 [.int (xs (i + 1)), .int (xs (i + 2)), .int (xs (i + 3)), .int (xs (i + 4))] (st := []) hL dL_law_401 (by decide +kernel) (by decide +kernel) (by decide) (by decide) (by decide) rfl rfl rfl (Nat.le_of_ble_eq_true rfl) hx1 (fun r σ1 h1 => ?_)
  refine ls_a2 hL dL_law_404 ?_
  refine ls_c 1 hL dL_law_405 dL_law_406 dL_law_407 rfl dL_law_408 dL_law_409 (by decide) ?_
  refine ls_c 2 hL dL_law_410 dL_law_411 dL_law_412 rfl dL_law_413 dL_law_414 (by decide) ?_
  refine ls_c 3 hL dL_law_415 dL_law_416 dL_law_417 rfl dL_law_418 dL_law_419 (by decide) ?_
  refine ls_c 4 hL dL_law_420 dL_law_421 dL_law_422 rfl dL_law_423 dL_law_424 (by decide) ?_
  refine ls_call 133 4 900 [.int (xs (i + 1)), .int (xs (i + 2)), .int (xs (i + 3)), .int (xs (i + 4))] (st := [.int r]) hL dL_law_425 (by decide +kernel) (by decide +kernel) (by decide) (by decide) (by decide) rfl rfl rfl (Nat.le_of_ble_eq_true rfl) (hx2 σ1 (hM.frx h1.2.2)) (fun r2 σ2 h2 => ?_)
  exact ls_eq hL dL_law_428 (tgt := 1249) (by decide) (h1.1.trans h2.1.symm) (hN R.2 σ2 (h1.2.1.frm h2.2.2) h2.2.1)
theorem law_of {p : Program} {l : Launch} {e : Env} {s : State} {m : MethodId} {below : List Frame} {meth : Method} {c : Code} {D : va_G} {cI : ClassId} {ad : Nat → Nat} {b L i : Nat} {xs : Nat → Int32} {ls : Array Slot} {σ : St} {A : AS} (hL : LwC p s m meth c D cI ad b L i xs ls) (hC : CX A σ) (hM : MX A σ) (hN : ∀ A σ, CX A σ → MX A σ → LwS l p e s m below meth c D cI ad b ls 1249 [] σ) : LwS l p e s m below meth c D cI ad b ls 433 [] σ := by
  obtain ⟨R, hR⟩ : ∃ R : Int32 × AS, R = op_of A ((xs (i + 1))) ((xs (i + 2))) := ⟨_, rfl⟩
  have hx1 : CallAt l 79 (.ref 0 :: [.int (xs (i + 1)), .int (xs (i + 2))]) σ (fun r σ1 => r = R.1 ∧ CX R.2 σ1 ∧ FrX σ σ1) := by subst hR; exact X_of hC (fun σ1 h1 h2 => ⟨rfl, h1, h2⟩)
  have hx2 : ∀ σ1, MX A σ1 → CallAt l 134 (.ref 900 :: [.int (xs (i + 1)), .int (xs (i + 2))]) σ1 (fun r σ2 => r = R.1 ∧ MX R.2 σ2 ∧ FrM σ1 σ2) := by subst hR; exact fun σ1 h => M_of h (fun σ2 h1 h2 => ⟨rfl, h1, h2⟩)
  refine ls_a1 hL dL_law_433 ?_
  refine ls_c 1 hL dL_law_434 dL_law_435 dL_law_436 rfl dL_law_437 dL_law_438 (by decide) ?_
  refine ls_c 2 hL dL_law_439 dL_law_440 dL_law_441 rfl dL_law_442 dL_law_443 (by decide) ?_
  refine ls_call 79 2 0 [.int (xs (i + 1)), .int (xs (i + 2))] (st := []) hL dL_law_444 (by decide +kernel) (by decide +kernel) (by decide) (by decide) (by decide) rfl rfl rfl (Nat.le_of_ble_eq_true rfl) hx1 (fun r σ1 h1 => ?_)
  refine ls_a2 hL dL_law_447 ?_
  refine ls_c 1 hL dL_law_448 dL_law_449 dL_law_450 rfl dL_law_451 dL_law_452 (by decide) ?_
  refine ls_c 2 hL dL_law_453 dL_law_454 dL_law_455 rfl dL_law_456 dL_law_457 (by decide) ?_
  refine ls_call 134 2 900 [.int (xs (i + 1)), .int (xs (i + 2))] (st := [.int r]) hL dL_law_458 (by decide +kernel) (by decide +kernel) (by decide) (by decide) (by decide) rfl rfl rfl (Nat.le_of_ble_eq_true rfl) (hx2 σ1 (hM.frx h1.2.2)) (fun r2 σ2 h2 => ?_)
  exact ls_eq hL dL_law_461 (tgt := 1249) (by decide) (h1.1.trans h2.1.symm) (hN R.2 σ2 (h1.2.1.frm h2.2.2) h2.2.1)
theorem law_rule {p : Program} {l : Launch} {e : Env} {s : State} {m : MethodId} {below : List Frame} {meth : Method} {c : Code} {D : va_G} {cI : ClassId} {ad : Nat → Nat} {b L i : Nat} {xs : Nat → Int32} {ls : Array Slot} {σ : St} {A : AS} (hL : LwC p s m meth c D cI ad b L i xs ls) (hC : CX A σ) (hM : MX A σ) (hN : ∀ A σ, CX A σ → MX A σ → LwS l p e s m below meth c D cI ad b ls 1249 [] σ) : LwS l p e s m below meth c D cI ad b ls 466 [] σ := by
  obtain ⟨R, hR⟩ : ∃ R : Int32 × AS, R = op_rule A ((xs (i + 1))) ((xs (i + 2))) ((xs (i + 3))) := ⟨_, rfl⟩
  have hx1 : CallAt l 80 (.ref 0 :: [.int (xs (i + 1)), .int (xs (i + 2)), .int (xs (i + 3))]) σ (fun r σ1 => r = R.1 ∧ CX R.2 σ1 ∧ FrX σ σ1) := by subst hR; exact X_rule hC (fun σ1 h1 h2 => ⟨rfl, h1, h2⟩)
  have hx2 : ∀ σ1, MX A σ1 → CallAt l 135 (.ref 900 :: [.int (xs (i + 1)), .int (xs (i + 2)), .int (xs (i + 3))]) σ1 (fun r σ2 => r = R.1 ∧ MX R.2 σ2 ∧ FrM σ1 σ2) := by subst hR; exact fun σ1 h => M_rule h (fun σ2 h1 h2 => ⟨rfl, h1, h2⟩)
  refine ls_a1 hL dL_law_466 ?_
  refine ls_c 1 hL dL_law_467 dL_law_468 dL_law_469 rfl dL_law_470 dL_law_471 (by decide) ?_
  refine ls_c 2 hL dL_law_472 dL_law_473 dL_law_474 rfl dL_law_475 dL_law_476 (by decide) ?_
  refine ls_c 3 hL dL_law_477 dL_law_478 dL_law_479 rfl dL_law_480 dL_law_481 (by decide) ?_
  refine ls_call 80 3 0 [.int (xs (i + 1)), .int (xs (i + 2)), .int (xs (i + 3))] (st := []) hL dL_law_482 (by decide +kernel) (by decide +kernel) (by decide) (by decide) (by decide) rfl rfl rfl (Nat.le_of_ble_eq_true rfl) hx1 (fun r σ1 h1 => ?_)
  refine ls_a2 hL dL_law_485 ?_
  refine ls_c 1 hL dL_law_486 dL_law_487 dL_law_488 rfl dL_law_489 dL_law_490 (by decide) ?_
  refine ls_c 2 hL dL_law_491 dL_law_492 dL_law_493 rfl dL_law_494 dL_law_495 (by decide) ?_
  refine ls_c 3 hL dL_law_496 dL_law_497 dL_law_498 rfl dL_law_499 dL_law_500 (by decide) ?_
  refine ls_call 135 3 900 [.int (xs (i + 1)), .int (xs (i + 2)), .int (xs (i + 3))] (st := [.int r]) hL dL_law_501 (by decide +kernel) (by decide +kernel) (by decide) (by decide) (by decide) rfl rfl rfl (Nat.le_of_ble_eq_true rfl) (hx2 σ1 (hM.frx h1.2.2)) (fun r2 σ2 h2 => ?_)
  exact ls_eq hL dL_law_504 (tgt := 1249) (by decide) (h1.1.trans h2.1.symm) (hN R.2 σ2 (h1.2.1.frm h2.2.2) h2.2.1)
theorem law_heir {p : Program} {l : Launch} {e : Env} {s : State} {m : MethodId} {below : List Frame} {meth : Method} {c : Code} {D : va_G} {cI : ClassId} {ad : Nat → Nat} {b L i : Nat} {xs : Nat → Int32} {ls : Array Slot} {σ : St} {A : AS} (hL : LwC p s m meth c D cI ad b L i xs ls) (hC : CX A σ) (hM : MX A σ) (hN : ∀ A σ, CX A σ → MX A σ → LwS l p e s m below meth c D cI ad b ls 1249 [] σ) : LwS l p e s m below meth c D cI ad b ls 509 [] σ := by
  obtain ⟨R, hR⟩ : ∃ R : Int32 × AS, R = op_heir A ((xs (i + 1))) ((xs (i + 2))) := ⟨_, rfl⟩
  have hx1 : CallAt l 81 (.ref 0 :: [.int (xs (i + 1)), .int (xs (i + 2))]) σ (fun r σ1 => r = R.1 ∧ CX R.2 σ1 ∧ FrX σ σ1) := by subst hR; exact X_heir hC (fun σ1 h1 h2 => ⟨rfl, h1, h2⟩)
  have hx2 : ∀ σ1, MX A σ1 → CallAt l 137 (.ref 900 :: [.int (xs (i + 1)), .int (xs (i + 2))]) σ1 (fun r σ2 => r = R.1 ∧ MX R.2 σ2 ∧ FrM σ1 σ2) := by subst hR; exact fun σ1 h => M_heir h (fun σ2 h1 h2 => ⟨rfl, h1, h2⟩)
  refine ls_a1 hL dL_law_509 ?_
  refine ls_c 1 hL dL_law_510 dL_law_511 dL_law_512 rfl dL_law_513 dL_law_514 (by decide) ?_
  refine ls_c 2 hL dL_law_515 dL_law_516 dL_law_517 rfl dL_law_518 dL_law_519 (by decide) ?_
  refine ls_call 81 2 0 [.int (xs (i + 1)), .int (xs (i + 2))] (st := []) hL dL_law_520 (by decide +kernel) (by decide +kernel) (by decide) (by decide) (by decide) rfl rfl rfl (Nat.le_of_ble_eq_true rfl) hx1 (fun r σ1 h1 => ?_)
  refine ls_a2 hL dL_law_523 ?_
  refine ls_c 1 hL dL_law_524 dL_law_525 dL_law_526 rfl dL_law_527 dL_law_528 (by decide) ?_
  refine ls_c 2 hL dL_law_529 dL_law_530 dL_law_531 rfl dL_law_532 dL_law_533 (by decide) ?_
  refine ls_call 137 2 900 [.int (xs (i + 1)), .int (xs (i + 2))] (st := [.int r]) hL dL_law_534 (by decide +kernel) (by decide +kernel) (by decide) (by decide) (by decide) rfl rfl rfl (Nat.le_of_ble_eq_true rfl) (hx2 σ1 (hM.frx h1.2.2)) (fun r2 σ2 h2 => ?_)
  exact ls_eq hL dL_law_537 (tgt := 1249) (by decide) (h1.1.trans h2.1.symm) (hN R.2 σ2 (h1.2.1.frm h2.2.2) h2.2.1)
theorem law_type {p : Program} {l : Launch} {e : Env} {s : State} {m : MethodId} {below : List Frame} {meth : Method} {c : Code} {D : va_G} {cI : ClassId} {ad : Nat → Nat} {b L i : Nat} {xs : Nat → Int32} {ls : Array Slot} {σ : St} {A : AS} (hL : LwC p s m meth c D cI ad b L i xs ls) (hC : CX A σ) (hM : MX A σ) (hN : ∀ A σ, CX A σ → MX A σ → LwS l p e s m below meth c D cI ad b ls 1249 [] σ) : LwS l p e s m below meth c D cI ad b ls 542 [] σ := by
  obtain ⟨R, hR⟩ : ∃ R : Int32 × AS, R = op_type A (((((xs (i + 1))).toInt64 <<< ((nI 32).toInt64 &&& 63)) ||| (((xs (i + 2))).toInt64 &&& 4294967295))) ((xs (i + 3))) := ⟨_, rfl⟩
  have hx1 : CallAt l 82 (.ref 0 :: [.long ((((xs (i + 1))).toInt64 <<< ((nI 32).toInt64 &&& 63)) ||| (((xs (i + 2))).toInt64 &&& 4294967295)), .int (xs (i + 3))]) σ (fun r σ1 => r = R.1 ∧ CX R.2 σ1 ∧ FrX σ σ1) := by subst hR; exact X_type hC (fun σ1 h1 h2 => ⟨rfl, h1, h2⟩)
  have hx2 : ∀ σ1, MX A σ1 → CallAt l 138 (.ref 900 :: [.long ((((xs (i + 1))).toInt64 <<< ((nI 32).toInt64 &&& 63)) ||| (((xs (i + 2))).toInt64 &&& 4294967295)), .int (xs (i + 3))]) σ1 (fun r σ2 => r = R.1 ∧ MX R.2 σ2 ∧ FrM σ1 σ2) := by subst hR; exact fun σ1 h => M_type h (fun σ2 h1 h2 => ⟨rfl, h1, h2⟩)
  refine ls_a1 hL dL_law_542 ?_
  refine ls_c 1 hL dL_law_543 dL_law_544 dL_law_545 rfl dL_law_546 dL_law_547 (by decide) ?_
  refine ls_i2l hL dL_law_548 ?_
  refine ls_push (v := nI 32) hL dL_law_549 rfl ?_
  refine ls_lshl hL dL_law_551 ?_
  refine ls_c 2 hL dL_law_552 dL_law_553 dL_law_554 rfl dL_law_555 dL_law_556 (by decide) ?_
  refine ls_i2l hL dL_law_557 ?_
  refine ls_ldc hL dL_law_558 ?_
  refine ls_land hL dL_law_561 ?_
  refine ls_lor hL dL_law_562 ?_
  refine ls_c 3 hL dL_law_563 dL_law_564 dL_law_565 rfl dL_law_566 dL_law_567 (by decide) ?_
  refine ls_call 82 2 0 [.long ((((xs (i + 1))).toInt64 <<< ((nI 32).toInt64 &&& 63)) ||| (((xs (i + 2))).toInt64 &&& 4294967295)), .int (xs (i + 3))] (st := []) hL dL_law_568 (by decide +kernel) (by decide +kernel) (by decide) (by decide) (by decide) rfl rfl rfl (Nat.le_of_ble_eq_true rfl) hx1 (fun r σ1 h1 => ?_)
  refine ls_a2 hL dL_law_571 ?_
  refine ls_c 1 hL dL_law_572 dL_law_573 dL_law_574 rfl dL_law_575 dL_law_576 (by decide) ?_
  refine ls_i2l hL dL_law_577 ?_
  refine ls_push (v := nI 32) hL dL_law_578 rfl ?_
  refine ls_lshl hL dL_law_580 ?_
  refine ls_c 2 hL dL_law_581 dL_law_582 dL_law_583 rfl dL_law_584 dL_law_585 (by decide) ?_
  refine ls_i2l hL dL_law_586 ?_
  refine ls_ldc hL dL_law_587 ?_
  refine ls_land hL dL_law_590 ?_
  refine ls_lor hL dL_law_591 ?_
  refine ls_c 3 hL dL_law_592 dL_law_593 dL_law_594 rfl dL_law_595 dL_law_596 (by decide) ?_
  refine ls_call 138 2 900 [.long ((((xs (i + 1))).toInt64 <<< ((nI 32).toInt64 &&& 63)) ||| (((xs (i + 2))).toInt64 &&& 4294967295)), .int (xs (i + 3))] (st := [.int r]) hL dL_law_597 (by decide +kernel) (by decide +kernel) (by decide) (by decide) (by decide) rfl rfl rfl (Nat.le_of_ble_eq_true rfl) (hx2 σ1 (hM.frx h1.2.2)) (fun r2 σ2 h2 => ?_)
  exact ls_eq hL dL_law_600 (tgt := 1249) (by decide) (h1.1.trans h2.1.symm) (hN R.2 σ2 (h1.2.1.frm h2.2.2) h2.2.1)
theorem law_family {p : Program} {l : Launch} {e : Env} {s : State} {m : MethodId} {below : List Frame} {meth : Method} {c : Code} {D : va_G} {cI : ClassId} {ad : Nat → Nat} {b L i : Nat} {xs : Nat → Int32} {ls : Array Slot} {σ : St} {A : AS} (hL : LwC p s m meth c D cI ad b L i xs ls) (hC : CX A σ) (hM : MX A σ) (hN : ∀ A σ, CX A σ → MX A σ → LwS l p e s m below meth c D cI ad b ls 1249 [] σ) : LwS l p e s m below meth c D cI ad b ls 605 [] σ := by
  obtain ⟨R, hR⟩ : ∃ R : Int32 × AS, R = op_family A  := ⟨_, rfl⟩
  have hx1 : CallAt l 83 (.ref 0 :: []) σ (fun r σ1 => r = R.1 ∧ CX R.2 σ1 ∧ FrX σ σ1) := by subst hR; exact X_family hC (fun σ1 h1 h2 => ⟨rfl, h1, h2⟩)
  have hx2 : ∀ σ1, MX A σ1 → CallAt l 146 (.ref 900 :: []) σ1 (fun r σ2 => r = R.1 ∧ MX R.2 σ2 ∧ FrM σ1 σ2) := by subst hR; exact fun σ1 h => M_family h (fun σ2 h1 h2 => ⟨rfl, h1, h2⟩)
  refine ls_a1 hL dL_law_605 ?_
  refine ls_call 83 0 0 [] (st := []) hL dL_law_606 (by decide +kernel) (by decide +kernel) (by decide) (by decide) (by decide) rfl rfl rfl (Nat.le_of_ble_eq_true rfl) hx1 (fun r σ1 h1 => ?_)
  refine ls_a2 hL dL_law_609 ?_
  refine ls_call 146 0 900 [] (st := [.int r]) hL dL_law_610 (by decide +kernel) (by decide +kernel) (by decide) (by decide) (by decide) rfl rfl rfl (Nat.le_of_ble_eq_true rfl) (hx2 σ1 (hM.frx h1.2.2)) (fun r2 σ2 h2 => ?_)
  exact ls_eq hL dL_law_613 (tgt := 1249) (by decide) (h1.1.trans h2.1.symm) (hN R.2 σ2 (h1.2.1.frm h2.2.2) h2.2.1)
theorem law_rules {p : Program} {l : Launch} {e : Env} {s : State} {m : MethodId} {below : List Frame} {meth : Method} {c : Code} {D : va_G} {cI : ClassId} {ad : Nat → Nat} {b L i : Nat} {xs : Nat → Int32} {ls : Array Slot} {σ : St} {A : AS} (hL : LwC p s m meth c D cI ad b L i xs ls) (hC : CX A σ) (hM : MX A σ) (hN : ∀ A σ, CX A σ → MX A σ → LwS l p e s m below meth c D cI ad b ls 1249 [] σ) : LwS l p e s m below meth c D cI ad b ls 618 [] σ := by
  obtain ⟨R, hR⟩ : ∃ R : Int32 × AS, R = op_rules A  := ⟨_, rfl⟩
  have hx1 : CallAt l 84 (.ref 0 :: []) σ (fun r σ1 => r = R.1 ∧ CX R.2 σ1 ∧ FrX σ σ1) := by subst hR; exact X_rules hC (fun σ1 h1 h2 => ⟨rfl, h1, h2⟩)
  have hx2 : ∀ σ1, MX A σ1 → CallAt l 147 (.ref 900 :: []) σ1 (fun r σ2 => r = R.1 ∧ MX R.2 σ2 ∧ FrM σ1 σ2) := by subst hR; exact fun σ1 h => M_rules h (fun σ2 h1 h2 => ⟨rfl, h1, h2⟩)
  refine ls_a1 hL dL_law_618 ?_
  refine ls_call 84 0 0 [] (st := []) hL dL_law_619 (by decide +kernel) (by decide +kernel) (by decide) (by decide) (by decide) rfl rfl rfl (Nat.le_of_ble_eq_true rfl) hx1 (fun r σ1 h1 => ?_)
  refine ls_a2 hL dL_law_622 ?_
  refine ls_call 147 0 900 [] (st := [.int r]) hL dL_law_623 (by decide +kernel) (by decide +kernel) (by decide) (by decide) (by decide) rfl rfl rfl (Nat.le_of_ble_eq_true rfl) (hx2 σ1 (hM.frx h1.2.2)) (fun r2 σ2 h2 => ?_)
  exact ls_eq hL dL_law_626 (tgt := 1249) (by decide) (h1.1.trans h2.1.symm) (hN R.2 σ2 (h1.2.1.frm h2.2.2) h2.2.1)
theorem law_count {p : Program} {l : Launch} {e : Env} {s : State} {m : MethodId} {below : List Frame} {meth : Method} {c : Code} {D : va_G} {cI : ClassId} {ad : Nat → Nat} {b L i : Nat} {xs : Nat → Int32} {ls : Array Slot} {σ : St} {A : AS} (hL : LwC p s m meth c D cI ad b L i xs ls) (hC : CX A σ) (hM : MX A σ) (hN : ∀ A σ, CX A σ → MX A σ → LwS l p e s m below meth c D cI ad b ls 1249 [] σ) : LwS l p e s m below meth c D cI ad b ls 631 [] σ := by
  obtain ⟨R, hR⟩ : ∃ R : Int32 × AS, R = op_count A ((xs (i + 1))) := ⟨_, rfl⟩
  have hx1 : CallAt l 85 (.ref 0 :: [.int (xs (i + 1))]) σ (fun r σ1 => r = R.1 ∧ CX R.2 σ1 ∧ FrX σ σ1) := by subst hR; exact X_count hC (fun σ1 h1 h2 => ⟨rfl, h1, h2⟩)
  have hx2 : ∀ σ1, MX A σ1 → CallAt l 148 (.ref 900 :: [.int (xs (i + 1))]) σ1 (fun r σ2 => r = R.1 ∧ MX R.2 σ2 ∧ FrM σ1 σ2) := by subst hR; exact fun σ1 h => M_count h (fun σ2 h1 h2 => ⟨rfl, h1, h2⟩)
  refine ls_a1 hL dL_law_631 ?_
  refine ls_c 1 hL dL_law_632 dL_law_633 dL_law_634 rfl dL_law_635 dL_law_636 (by decide) ?_
  refine ls_call 85 1 0 [.int (xs (i + 1))] (st := []) hL dL_law_637 (by decide +kernel) (by decide +kernel) (by decide) (by decide) (by decide) rfl rfl rfl (Nat.le_of_ble_eq_true rfl) hx1 (fun r σ1 h1 => ?_)
  refine ls_a2 hL dL_law_640 ?_
  refine ls_c 1 hL dL_law_641 dL_law_642 dL_law_643 rfl dL_law_644 dL_law_645 (by decide) ?_
  refine ls_call 148 1 900 [.int (xs (i + 1))] (st := [.int r]) hL dL_law_646 (by decide +kernel) (by decide +kernel) (by decide) (by decide) (by decide) rfl rfl rfl (Nat.le_of_ble_eq_true rfl) (hx2 σ1 (hM.frx h1.2.2)) (fun r2 σ2 h2 => ?_)
  exact ls_eq hL dL_law_649 (tgt := 1249) (by decide) (h1.1.trans h2.1.symm) (hN R.2 σ2 (h1.2.1.frm h2.2.2) h2.2.1)
theorem law_dies {p : Program} {l : Launch} {e : Env} {s : State} {m : MethodId} {below : List Frame} {meth : Method} {c : Code} {D : va_G} {cI : ClassId} {ad : Nat → Nat} {b L i : Nat} {xs : Nat → Int32} {ls : Array Slot} {σ : St} {A : AS} (hL : LwC p s m meth c D cI ad b L i xs ls) (hC : CX A σ) (hM : MX A σ) (hN : ∀ A σ, CX A σ → MX A σ → LwS l p e s m below meth c D cI ad b ls 1249 [] σ) : LwS l p e s m below meth c D cI ad b ls 654 [] σ := by
  obtain ⟨R, hR⟩ : ∃ R : Int32 × AS, R = op_dies A ((xs (i + 1))) := ⟨_, rfl⟩
  have hx1 : CallAt l 86 (.ref 0 :: [.int (xs (i + 1))]) σ (fun r σ1 => r = R.1 ∧ CX R.2 σ1 ∧ FrX σ σ1) := by subst hR; exact X_dies hC (fun σ1 h1 h2 => ⟨rfl, h1, h2⟩)
  have hx2 : ∀ σ1, MX A σ1 → CallAt l 151 (.ref 900 :: [.int (xs (i + 1))]) σ1 (fun r σ2 => r = R.1 ∧ MX R.2 σ2 ∧ FrM σ1 σ2) := by subst hR; exact fun σ1 h => M_dies h (fun σ2 h1 h2 => ⟨rfl, h1, h2⟩)
  refine ls_a1 hL dL_law_654 ?_
  refine ls_c 1 hL dL_law_655 dL_law_656 dL_law_657 rfl dL_law_658 dL_law_659 (by decide) ?_
  refine ls_call 86 1 0 [.int (xs (i + 1))] (st := []) hL dL_law_660 (by decide +kernel) (by decide +kernel) (by decide) (by decide) (by decide) rfl rfl rfl (Nat.le_of_ble_eq_true rfl) hx1 (fun r σ1 h1 => ?_)
  refine ls_a2 hL dL_law_663 ?_
  refine ls_c 1 hL dL_law_664 dL_law_665 dL_law_666 rfl dL_law_667 dL_law_668 (by decide) ?_
  refine ls_call 151 1 900 [.int (xs (i + 1))] (st := [.int r]) hL dL_law_669 (by decide +kernel) (by decide +kernel) (by decide) (by decide) (by decide) rfl rfl rfl (Nat.le_of_ble_eq_true rfl) (hx2 σ1 (hM.frx h1.2.2)) (fun r2 σ2 h2 => ?_)
  exact ls_eq hL dL_law_672 (tgt := 1249) (by decide) (h1.1.trans h2.1.symm) (hN R.2 σ2 (h1.2.1.frm h2.2.2) h2.2.1)
theorem law_gathers {p : Program} {l : Launch} {e : Env} {s : State} {m : MethodId} {below : List Frame} {meth : Method} {c : Code} {D : va_G} {cI : ClassId} {ad : Nat → Nat} {b L i : Nat} {xs : Nat → Int32} {ls : Array Slot} {σ : St} {A : AS} (hL : LwC p s m meth c D cI ad b L i xs ls) (hC : CX A σ) (hM : MX A σ) (hN : ∀ A σ, CX A σ → MX A σ → LwS l p e s m below meth c D cI ad b ls 1249 [] σ) : LwS l p e s m below meth c D cI ad b ls 677 [] σ := by
  obtain ⟨R, hR⟩ : ∃ R : Int32 × AS, R = op_gathers A ((xs (i + 1))) ((xs (i + 2))) := ⟨_, rfl⟩
  have hx1 : CallAt l 87 (.ref 0 :: [.int (xs (i + 1)), .int (xs (i + 2))]) σ (fun r σ1 => r = R.1 ∧ CX R.2 σ1 ∧ FrX σ σ1) := by subst hR; exact X_gathers hC (fun σ1 h1 h2 => ⟨rfl, h1, h2⟩)
  have hx2 : ∀ σ1, MX A σ1 → CallAt l 152 (.ref 900 :: [.int (xs (i + 1)), .int (xs (i + 2))]) σ1 (fun r σ2 => r = R.1 ∧ MX R.2 σ2 ∧ FrM σ1 σ2) := by subst hR; exact fun σ1 h => M_gathers h (fun σ2 h1 h2 => ⟨rfl, h1, h2⟩)
  refine ls_a1 hL dL_law_677 ?_
  refine ls_c 1 hL dL_law_678 dL_law_679 dL_law_680 rfl dL_law_681 dL_law_682 (by decide) ?_
  refine ls_c 2 hL dL_law_683 dL_law_684 dL_law_685 rfl dL_law_686 dL_law_687 (by decide) ?_
  refine ls_call 87 2 0 [.int (xs (i + 1)), .int (xs (i + 2))] (st := []) hL dL_law_688 (by decide +kernel) (by decide +kernel) (by decide) (by decide) (by decide) rfl rfl rfl (Nat.le_of_ble_eq_true rfl) hx1 (fun r σ1 h1 => ?_)
  refine ls_a2 hL dL_law_691 ?_
  refine ls_c 1 hL dL_law_692 dL_law_693 dL_law_694 rfl dL_law_695 dL_law_696 (by decide) ?_
  refine ls_c 2 hL dL_law_697 dL_law_698 dL_law_699 rfl dL_law_700 dL_law_701 (by decide) ?_
  refine ls_call 152 2 900 [.int (xs (i + 1)), .int (xs (i + 2))] (st := [.int r]) hL dL_law_702 (by decide +kernel) (by decide +kernel) (by decide) (by decide) (by decide) rfl rfl rfl (Nat.le_of_ble_eq_true rfl) (hx2 σ1 (hM.frx h1.2.2)) (fun r2 σ2 h2 => ?_)
  exact ls_eq hL dL_law_705 (tgt := 1249) (by decide) (h1.1.trans h2.1.symm) (hN R.2 σ2 (h1.2.1.frm h2.2.2) h2.2.1)
theorem law_balance {p : Program} {l : Launch} {e : Env} {s : State} {m : MethodId} {below : List Frame} {meth : Method} {c : Code} {D : va_G} {cI : ClassId} {ad : Nat → Nat} {b L i : Nat} {xs : Nat → Int32} {ls : Array Slot} {σ : St} {A : AS} (hL : LwC p s m meth c D cI ad b L i xs ls) (hC : CX A σ) (hM : MX A σ) (hN : ∀ A σ, CX A σ → MX A σ → LwS l p e s m below meth c D cI ad b ls 1249 [] σ) : LwS l p e s m below meth c D cI ad b ls 710 [] σ := by
  obtain ⟨R, hR⟩ : ∃ R : Int32 × AS, R = op_balance A ((xs (i + 1))) := ⟨_, rfl⟩
  have hx1 : CallAt l 88 (.ref 0 :: [.int (xs (i + 1))]) σ (fun r σ1 => r = R.1 ∧ CX R.2 σ1 ∧ FrX σ σ1) := by subst hR; exact X_balance hC (fun σ1 h1 h2 => ⟨rfl, h1, h2⟩)
  have hx2 : ∀ σ1, MX A σ1 → CallAt l 154 (.ref 900 :: [.int (xs (i + 1))]) σ1 (fun r σ2 => r = R.1 ∧ MX R.2 σ2 ∧ FrM σ1 σ2) := by subst hR; exact fun σ1 h => M_balance h (fun σ2 h1 h2 => ⟨rfl, h1, h2⟩)
  refine ls_a1 hL dL_law_710 ?_
  refine ls_c 1 hL dL_law_711 dL_law_712 dL_law_713 rfl dL_law_714 dL_law_715 (by decide) ?_
  refine ls_call 88 1 0 [.int (xs (i + 1))] (st := []) hL dL_law_716 (by decide +kernel) (by decide +kernel) (by decide) (by decide) (by decide) rfl rfl rfl (Nat.le_of_ble_eq_true rfl) hx1 (fun r σ1 h1 => ?_)
  refine ls_a2 hL dL_law_719 ?_
  refine ls_c 1 hL dL_law_720 dL_law_721 dL_law_722 rfl dL_law_723 dL_law_724 (by decide) ?_
  refine ls_call 154 1 900 [.int (xs (i + 1))] (st := [.int r]) hL dL_law_725 (by decide +kernel) (by decide +kernel) (by decide) (by decide) (by decide) rfl rfl rfl (Nat.le_of_ble_eq_true rfl) (hx2 σ1 (hM.frx h1.2.2)) (fun r2 σ2 h2 => ?_)
  exact ls_eq hL dL_law_728 (tgt := 1249) (by decide) (h1.1.trans h2.1.symm) (hN R.2 σ2 (h1.2.1.frm h2.2.2) h2.2.1)
theorem law_paid {p : Program} {l : Launch} {e : Env} {s : State} {m : MethodId} {below : List Frame} {meth : Method} {c : Code} {D : va_G} {cI : ClassId} {ad : Nat → Nat} {b L i : Nat} {xs : Nat → Int32} {ls : Array Slot} {σ : St} {A : AS} (hL : LwC p s m meth c D cI ad b L i xs ls) (hC : CX A σ) (hM : MX A σ) (hN : ∀ A σ, CX A σ → MX A σ → LwS l p e s m below meth c D cI ad b ls 1249 [] σ) : LwS l p e s m below meth c D cI ad b ls 733 [] σ := by
  obtain ⟨R, hR⟩ : ∃ R : Int32 × AS, R = op_paid A  := ⟨_, rfl⟩
  have hx1 : CallAt l 89 (.ref 0 :: []) σ (fun r σ1 => r = R.1 ∧ CX R.2 σ1 ∧ FrX σ σ1) := by subst hR; exact X_paid hC (fun σ1 h1 h2 => ⟨rfl, h1, h2⟩)
  have hx2 : ∀ σ1, MX A σ1 → CallAt l 155 (.ref 900 :: []) σ1 (fun r σ2 => r = R.1 ∧ MX R.2 σ2 ∧ FrM σ1 σ2) := by subst hR; exact fun σ1 h => M_paid h (fun σ2 h1 h2 => ⟨rfl, h1, h2⟩)
  refine ls_a1 hL dL_law_733 ?_
  refine ls_call 89 0 0 [] (st := []) hL dL_law_734 (by decide +kernel) (by decide +kernel) (by decide) (by decide) (by decide) rfl rfl rfl (Nat.le_of_ble_eq_true rfl) hx1 (fun r σ1 h1 => ?_)
  refine ls_a2 hL dL_law_737 ?_
  refine ls_call 155 0 900 [] (st := [.int r]) hL dL_law_738 (by decide +kernel) (by decide +kernel) (by decide) (by decide) (by decide) rfl rfl rfl (Nat.le_of_ble_eq_true rfl) (hx2 σ1 (hM.frx h1.2.2)) (fun r2 σ2 h2 => ?_)
  exact ls_eq hL dL_law_741 (tgt := 1249) (by decide) (h1.1.trans h2.1.symm) (hN R.2 σ2 (h1.2.1.frm h2.2.2) h2.2.1)
theorem law_orders {p : Program} {l : Launch} {e : Env} {s : State} {m : MethodId} {below : List Frame} {meth : Method} {c : Code} {D : va_G} {cI : ClassId} {ad : Nat → Nat} {b L i : Nat} {xs : Nat → Int32} {ls : Array Slot} {σ : St} {A : AS} (hL : LwC p s m meth c D cI ad b L i xs ls) (hC : CX A σ) (hM : MX A σ) (hN : ∀ A σ, CX A σ → MX A σ → LwS l p e s m below meth c D cI ad b ls 1249 [] σ) : LwS l p e s m below meth c D cI ad b ls 746 [] σ := by
  obtain ⟨R, hR⟩ : ∃ R : Int32 × AS, R = op_orders A ((xs (i + 1))) ((xs (i + 2))) ((xs (i + 3))) := ⟨_, rfl⟩
  have hx1 : CallAt l 90 (.ref 0 :: [.int (xs (i + 1)), .int (xs (i + 2)), .int (xs (i + 3))]) σ (fun r σ1 => r = R.1 ∧ CX R.2 σ1 ∧ FrX σ σ1) := by subst hR; exact X_orders hC (fun σ1 h1 h2 => ⟨rfl, h1, h2⟩)
  have hx2 : ∀ σ1, MX A σ1 → CallAt l 162 (.ref 900 :: [.int (xs (i + 1)), .int (xs (i + 2)), .int (xs (i + 3))]) σ1 (fun r σ2 => r = R.1 ∧ MX R.2 σ2 ∧ FrM σ1 σ2) := by subst hR; exact fun σ1 h => M_orders h (fun σ2 h1 h2 => ⟨rfl, h1, h2⟩)
  refine ls_a1 hL dL_law_746 ?_
  refine ls_c 1 hL dL_law_747 dL_law_748 dL_law_749 rfl dL_law_750 dL_law_751 (by decide) ?_
  refine ls_c 2 hL dL_law_752 dL_law_753 dL_law_754 rfl dL_law_755 dL_law_756 (by decide) ?_
  refine ls_c 3 hL dL_law_757 dL_law_758 dL_law_759 rfl dL_law_760 dL_law_761 (by decide) ?_
  refine ls_call 90 3 0 [.int (xs (i + 1)), .int (xs (i + 2)), .int (xs (i + 3))] (st := []) hL dL_law_762 (by decide +kernel) (by decide +kernel) (by decide) (by decide) (by decide) rfl rfl rfl (Nat.le_of_ble_eq_true rfl) hx1 (fun r σ1 h1 => ?_)
  refine ls_a2 hL dL_law_765 ?_
  refine ls_c 1 hL dL_law_766 dL_law_767 dL_law_768 rfl dL_law_769 dL_law_770 (by decide) ?_
  refine ls_c 2 hL dL_law_771 dL_law_772 dL_law_773 rfl dL_law_774 dL_law_775 (by decide) ?_
  refine ls_c 3 hL dL_law_776 dL_law_777 dL_law_778 rfl dL_law_779 dL_law_780 (by decide) ?_
  refine ls_call 162 3 900 [.int (xs (i + 1)), .int (xs (i + 2)), .int (xs (i + 3))] (st := [.int r]) hL dL_law_781 (by decide +kernel) (by decide +kernel) (by decide) (by decide) (by decide) rfl rfl rfl (Nat.le_of_ble_eq_true rfl) (hx2 σ1 (hM.frx h1.2.2)) (fun r2 σ2 h2 => ?_)
  exact ls_eq hL dL_law_784 (tgt := 1249) (by decide) (h1.1.trans h2.1.symm) (hN R.2 σ2 (h1.2.1.frm h2.2.2) h2.2.1)
theorem law_explained {p : Program} {l : Launch} {e : Env} {s : State} {m : MethodId} {below : List Frame} {meth : Method} {c : Code} {D : va_G} {cI : ClassId} {ad : Nat → Nat} {b L i : Nat} {xs : Nat → Int32} {ls : Array Slot} {σ : St} {A : AS} (hL : LwC p s m meth c D cI ad b L i xs ls) (hC : CX A σ) (hM : MX A σ) (hN : ∀ A σ, CX A σ → MX A σ → LwS l p e s m below meth c D cI ad b ls 1249 [] σ) : LwS l p e s m below meth c D cI ad b ls 789 [] σ := by
  obtain ⟨R, hR⟩ : ∃ R : Int32 × AS, R = op_explained A ((xs (i + 1))) := ⟨_, rfl⟩
  have hx1 : CallAt l 91 (.ref 0 :: [.int (xs (i + 1))]) σ (fun r σ1 => r = R.1 ∧ CX R.2 σ1 ∧ FrX σ σ1) := by subst hR; exact X_explained hC (fun σ1 h1 h2 => ⟨rfl, h1, h2⟩)
  have hx2 : ∀ σ1, MX A σ1 → CallAt l 169 (.ref 900 :: [.int (xs (i + 1))]) σ1 (fun r σ2 => r = R.1 ∧ MX R.2 σ2 ∧ FrM σ1 σ2) := by subst hR; exact fun σ1 h => M_explained h (fun σ2 h1 h2 => ⟨rfl, h1, h2⟩)
  refine ls_a1 hL dL_law_789 ?_
  refine ls_c 1 hL dL_law_790 dL_law_791 dL_law_792 rfl dL_law_793 dL_law_794 (by decide) ?_
  refine ls_call 91 1 0 [.int (xs (i + 1))] (st := []) hL dL_law_795 (by decide +kernel) (by decide +kernel) (by decide) (by decide) (by decide) rfl rfl rfl (Nat.le_of_ble_eq_true rfl) hx1 (fun r σ1 h1 => ?_)
  refine ls_a2 hL dL_law_798 ?_
  refine ls_c 1 hL dL_law_799 dL_law_800 dL_law_801 rfl dL_law_802 dL_law_803 (by decide) ?_
  refine ls_call 169 1 900 [.int (xs (i + 1))] (st := [.int r]) hL dL_law_804 (by decide +kernel) (by decide +kernel) (by decide) (by decide) (by decide) rfl rfl rfl (Nat.le_of_ble_eq_true rfl) (hx2 σ1 (hM.frx h1.2.2)) (fun r2 σ2 h2 => ?_)
  exact ls_eq hL dL_law_807 (tgt := 1249) (by decide) (h1.1.trans h2.1.symm) (hN R.2 σ2 (h1.2.1.frm h2.2.2) h2.2.1)
theorem law_lots {p : Program} {l : Launch} {e : Env} {s : State} {m : MethodId} {below : List Frame} {meth : Method} {c : Code} {D : va_G} {cI : ClassId} {ad : Nat → Nat} {b L i : Nat} {xs : Nat → Int32} {ls : Array Slot} {σ : St} {A : AS} (hL : LwC p s m meth c D cI ad b L i xs ls) (hC : CX A σ) (hM : MX A σ) (hN : ∀ A σ, CX A σ → MX A σ → LwS l p e s m below meth c D cI ad b ls 1249 [] σ) : LwS l p e s m below meth c D cI ad b ls 812 [] σ := by
  obtain ⟨R, hR⟩ : ∃ R : Int32 × AS, R = op_lotsG lotE A ((xs (i + 1))) := ⟨_, rfl⟩
  have hx1 : CallAt l 92 (.ref 0 :: [.int (xs (i + 1))]) σ (fun r σ1 => r = R.1 ∧ CX R.2 σ1 ∧ FrX σ σ1) := by subst hR; exact X_lots hC (fun σ1 h1 h2 => ⟨rfl, h1, h2⟩)
  have hx2 : ∀ σ1, MX A σ1 → CallAt l 172 (.ref 900 :: [.int (xs (i + 1))]) σ1 (fun r σ2 => r = R.1 ∧ MX R.2 σ2 ∧ FrM σ1 σ2) := by subst hR; exact fun σ1 h => M_lots h (fun σ2 h1 h2 => ⟨rfl, h1, h2⟩)
  refine ls_a1 hL dL_law_812 ?_
  refine ls_c 1 hL dL_law_813 dL_law_814 dL_law_815 rfl dL_law_816 dL_law_817 (by decide) ?_
  refine ls_call 92 1 0 [.int (xs (i + 1))] (st := []) hL dL_law_818 (by decide +kernel) (by decide +kernel) (by decide) (by decide) (by decide) rfl rfl rfl (Nat.le_of_ble_eq_true rfl) hx1 (fun r σ1 h1 => ?_)
  refine ls_a2 hL dL_law_821 ?_
  refine ls_c 1 hL dL_law_822 dL_law_823 dL_law_824 rfl dL_law_825 dL_law_826 (by decide) ?_
  refine ls_call 172 1 900 [.int (xs (i + 1))] (st := [.int r]) hL dL_law_827 (by decide +kernel) (by decide +kernel) (by decide) (by decide) (by decide) rfl rfl rfl (Nat.le_of_ble_eq_true rfl) (hx2 σ1 (hM.frx h1.2.2)) (fun r2 σ2 h2 => ?_)
  exact ls_eq hL dL_law_830 (tgt := 1249) (by decide) (h1.1.trans h2.1.symm) (hN R.2 σ2 (h1.2.1.frm h2.2.2) h2.2.1)
theorem law_seed {p : Program} {l : Launch} {e : Env} {s : State} {m : MethodId} {below : List Frame} {meth : Method} {c : Code} {D : va_G} {cI : ClassId} {ad : Nat → Nat} {b L i : Nat} {xs : Nat → Int32} {ls : Array Slot} {σ : St} {A : AS} (hL : LwC p s m meth c D cI ad b L i xs ls) (hC : CX A σ) (hM : MX A σ) (hN : ∀ A σ, CX A σ → MX A σ → LwS l p e s m below meth c D cI ad b ls 1249 [] σ) : LwS l p e s m below meth c D cI ad b ls 835 [] σ := by
  obtain ⟨R, hR⟩ : ∃ R : Int32 × AS, R = op_seed A ((xs (i + 1))) := ⟨_, rfl⟩
  have hx1 : CallAt l 93 (.ref 0 :: [.int (xs (i + 1))]) σ (fun r σ1 => r = R.1 ∧ CX R.2 σ1 ∧ FrX σ σ1) := by subst hR; exact X_seed hC (fun σ1 h1 h2 => ⟨rfl, h1, h2⟩)
  have hx2 : ∀ σ1, MX A σ1 → CallAt l 173 (.ref 900 :: [.int (xs (i + 1))]) σ1 (fun r σ2 => r = R.1 ∧ MX R.2 σ2 ∧ FrM σ1 σ2) := by subst hR; exact fun σ1 h => M_seed h (fun σ2 h1 h2 => ⟨rfl, h1, h2⟩)
  refine ls_a1 hL dL_law_835 ?_
  refine ls_c 1 hL dL_law_836 dL_law_837 dL_law_838 rfl dL_law_839 dL_law_840 (by decide) ?_
  refine ls_call 93 1 0 [.int (xs (i + 1))] (st := []) hL dL_law_841 (by decide +kernel) (by decide +kernel) (by decide) (by decide) (by decide) rfl rfl rfl (Nat.le_of_ble_eq_true rfl) hx1 (fun r σ1 h1 => ?_)
  refine ls_a2 hL dL_law_844 ?_
  refine ls_c 1 hL dL_law_845 dL_law_846 dL_law_847 rfl dL_law_848 dL_law_849 (by decide) ?_
  refine ls_call 173 1 900 [.int (xs (i + 1))] (st := [.int r]) hL dL_law_850 (by decide +kernel) (by decide +kernel) (by decide) (by decide) (by decide) rfl rfl rfl (Nat.le_of_ble_eq_true rfl) (hx2 σ1 (hM.frx h1.2.2)) (fun r2 σ2 h2 => ?_)
  exact ls_eq hL dL_law_853 (tgt := 1249) (by decide) (h1.1.trans h2.1.symm) (hN R.2 σ2 (h1.2.1.frm h2.2.2) h2.2.1)
theorem law_image {p : Program} {l : Launch} {e : Env} {s : State} {m : MethodId} {below : List Frame} {meth : Method} {c : Code} {D : va_G} {cI : ClassId} {ad : Nat → Nat} {b L i : Nat} {xs : Nat → Int32} {ls : Array Slot} {σ : St} {A : AS} (hL : LwC p s m meth c D cI ad b L i xs ls) (hC : CX A σ) (hM : MX A σ) (hN : ∀ A σ, CX A σ → MX A σ → LwS l p e s m below meth c D cI ad b ls 1249 [] σ) : LwS l p e s m below meth c D cI ad b ls 858 [] σ := by
  obtain ⟨R, hR⟩ : ∃ R : Int32 × AS, R = op_image A  := ⟨_, rfl⟩
  have hx1 : CallAt l 94 (.ref 0 :: []) σ (fun r σ1 => r = R.1 ∧ CX R.2 σ1 ∧ FrX σ σ1) := by subst hR; exact X_image hC (fun σ1 h1 h2 => ⟨rfl, h1, h2⟩)
  have hx2 : ∀ σ1, MX A σ1 → CallAt l 166 (.ref 900 :: []) σ1 (fun r σ2 => r = R.1 ∧ MX R.2 σ2 ∧ FrM σ1 σ2) := by subst hR; exact fun σ1 h => M_image h (fun σ2 h1 h2 => ⟨rfl, h1, h2⟩)
  refine ls_a1 hL dL_law_858 ?_
  refine ls_call 94 0 0 [] (st := []) hL dL_law_859 (by decide +kernel) (by decide +kernel) (by decide) (by decide) (by decide) rfl rfl rfl (Nat.le_of_ble_eq_true rfl) hx1 (fun r σ1 h1 => ?_)
  refine ls_a2 hL dL_law_862 ?_
  refine ls_call 166 0 900 [] (st := [.int r]) hL dL_law_863 (by decide +kernel) (by decide +kernel) (by decide) (by decide) (by decide) rfl rfl rfl (Nat.le_of_ble_eq_true rfl) (hx2 σ1 (hM.frx h1.2.2)) (fun r2 σ2 h2 => ?_)
  exact ls_eq hL dL_law_866 (tgt := 1249) (by decide) (h1.1.trans h2.1.symm) (hN R.2 σ2 (h1.2.1.frm h2.2.2) h2.2.1)
theorem law_restore {p : Program} {l : Launch} {e : Env} {s : State} {m : MethodId} {below : List Frame} {meth : Method} {c : Code} {D : va_G} {cI : ClassId} {ad : Nat → Nat} {b L i : Nat} {xs : Nat → Int32} {ls : Array Slot} {σ : St} {A : AS} (hL : LwC p s m meth c D cI ad b L i xs ls) (hC : CX A σ) (hM : MX A σ) (hN : ∀ A σ, CX A σ → MX A σ → LwS l p e s m below meth c D cI ad b ls 1249 [] σ) : LwS l p e s m below meth c D cI ad b ls 871 [] σ := by
  obtain ⟨R, hR⟩ : ∃ R : Int32 × AS, R = op_restore A  := ⟨_, rfl⟩
  have hx1 : CallAt l 95 (.ref 0 :: []) σ (fun r σ1 => r = R.1 ∧ CX R.2 σ1 ∧ FrX σ σ1) := by subst hR; exact X_restore hC (fun σ1 h1 h2 => ⟨rfl, h1, h2⟩)
  have hx2 : ∀ σ1, MX A σ1 → CallAt l 167 (.ref 900 :: []) σ1 (fun r σ2 => r = R.1 ∧ MX R.2 σ2 ∧ FrM σ1 σ2) := by subst hR; exact fun σ1 h => M_restore h (fun σ2 h1 h2 => ⟨rfl, h1, h2⟩)
  refine ls_a1 hL dL_law_871 ?_
  refine ls_call 95 0 0 [] (st := []) hL dL_law_872 (by decide +kernel) (by decide +kernel) (by decide) (by decide) (by decide) rfl rfl rfl (Nat.le_of_ble_eq_true rfl) hx1 (fun r σ1 h1 => ?_)
  refine ls_a2 hL dL_law_875 ?_
  refine ls_call 167 0 900 [] (st := [.int r]) hL dL_law_876 (by decide +kernel) (by decide +kernel) (by decide) (by decide) (by decide) rfl rfl rfl (Nat.le_of_ble_eq_true rfl) (hx2 σ1 (hM.frx h1.2.2)) (fun r2 σ2 h2 => ?_)
  exact ls_eq hL dL_law_879 (tgt := 1249) (by decide) (h1.1.trans h2.1.symm) (hN R.2 σ2 (h1.2.1.frm h2.2.2) h2.2.1)
theorem law_judged {p : Program} {l : Launch} {e : Env} {s : State} {m : MethodId} {below : List Frame} {meth : Method} {c : Code} {D : va_G} {cI : ClassId} {ad : Nat → Nat} {b L i : Nat} {xs : Nat → Int32} {ls : Array Slot} {σ : St} {A : AS} (hL : LwC p s m meth c D cI ad b L i xs ls) (hC : CX A σ) (hM : MX A σ) (hN : ∀ A σ, CX A σ → MX A σ → LwS l p e s m below meth c D cI ad b ls 1249 [] σ) : LwS l p e s m below meth c D cI ad b ls 884 [] σ := by
  obtain ⟨R, hR⟩ : ∃ R : Int32 × AS, R = op_judged A ((xs (i + 1))) ((xs (i + 2))) ((xs (i + 3))) ((xs (i + 4))) := ⟨_, rfl⟩
  have hx1 : CallAt l 96 (.ref 0 :: [.int (xs (i + 1)), .int (xs (i + 2)), .int (xs (i + 3)), .int (xs (i + 4))]) σ (fun r σ1 => r = R.1 ∧ CX R.2 σ1 ∧ FrX σ σ1) := by subst hR; exact X_judged hC (fun σ1 h1 h2 => ⟨rfl, h1, h2⟩)
  have hx2 : ∀ σ1, MX A σ1 → CallAt l 180 (.ref 900 :: [.int (xs (i + 1)), .int (xs (i + 2)), .int (xs (i + 3)), .int (xs (i + 4))]) σ1 (fun r σ2 => r = R.1 ∧ MX R.2 σ2 ∧ FrM σ1 σ2) := by subst hR; exact fun σ1 h => M_judged h (fun σ2 h1 h2 => ⟨rfl, h1, h2⟩)
  refine ls_a1 hL dL_law_884 ?_
  refine ls_c 1 hL dL_law_885 dL_law_886 dL_law_887 rfl dL_law_888 dL_law_889 (by decide) ?_
  refine ls_c 2 hL dL_law_890 dL_law_891 dL_law_892 rfl dL_law_893 dL_law_894 (by decide) ?_
  refine ls_c 3 hL dL_law_895 dL_law_896 dL_law_897 rfl dL_law_898 dL_law_899 (by decide) ?_
  refine ls_c 4 hL dL_law_900 dL_law_901 dL_law_902 rfl dL_law_903 dL_law_904 (by decide) ?_
  refine ls_call 96 4 0 [.int (xs (i + 1)), .int (xs (i + 2)), .int (xs (i + 3)), .int (xs (i + 4))] (st := []) hL dL_law_905 (by decide +kernel) (by decide +kernel) (by decide) (by decide) (by decide) rfl rfl rfl (Nat.le_of_ble_eq_true rfl) hx1 (fun r σ1 h1 => ?_)
  refine ls_a2 hL dL_law_908 ?_
  refine ls_c 1 hL dL_law_909 dL_law_910 dL_law_911 rfl dL_law_912 dL_law_913 (by decide) ?_
  refine ls_c 2 hL dL_law_914 dL_law_915 dL_law_916 rfl dL_law_917 dL_law_918 (by decide) ?_
  refine ls_c 3 hL dL_law_919 dL_law_920 dL_law_921 rfl dL_law_922 dL_law_923 (by decide) ?_
  refine ls_c 4 hL dL_law_924 dL_law_925 dL_law_926 rfl dL_law_927 dL_law_928 (by decide) ?_
  refine ls_call 180 4 900 [.int (xs (i + 1)), .int (xs (i + 2)), .int (xs (i + 3)), .int (xs (i + 4))] (st := [.int r]) hL dL_law_929 (by decide +kernel) (by decide +kernel) (by decide) (by decide) (by decide) rfl rfl rfl (Nat.le_of_ble_eq_true rfl) (hx2 σ1 (hM.frx h1.2.2)) (fun r2 σ2 h2 => ?_)
  exact ls_eq hL dL_law_932 (tgt := 1249) (by decide) (h1.1.trans h2.1.symm) (hN R.2 σ2 (h1.2.1.frm h2.2.2) h2.2.1)
theorem law_wed {p : Program} {l : Launch} {e : Env} {s : State} {m : MethodId} {below : List Frame} {meth : Method} {c : Code} {D : va_G} {cI : ClassId} {ad : Nat → Nat} {b L i : Nat} {xs : Nat → Int32} {ls : Array Slot} {σ : St} {A : AS} (hL : LwC p s m meth c D cI ad b L i xs ls) (hC : CX A σ) (hM : MX A σ) (hN : ∀ A σ, CX A σ → MX A σ → LwS l p e s m below meth c D cI ad b ls 1249 [] σ) : LwS l p e s m below meth c D cI ad b ls 937 [] σ := by
  obtain ⟨R, hR⟩ : ∃ R : Int32 × AS, R = op_wed A ((xs (i + 1))) ((xs (i + 2))) ((xs (i + 3))) ((xs (i + 4))) ((xs (i + 5))) ((xs (i + 6))) ((xs (i + 7))) := ⟨_, rfl⟩
  have hx1 : CallAt l 97 (.ref 0 :: [.int (xs (i + 1)), .int (xs (i + 2)), .int (xs (i + 3)), .int (xs (i + 4)), .int (xs (i + 5)), .int (xs (i + 6)), .int (xs (i + 7))]) σ (fun r σ1 => r = R.1 ∧ CX R.2 σ1 ∧ FrX σ σ1) := by subst hR; exact X_wed hC (fun σ1 h1 h2 => ⟨rfl, h1, h2⟩)
  have hx2 : ∀ σ1, MX A σ1 → CallAt l 184 (.ref 900 :: [.int (xs (i + 1)), .int (xs (i + 2)), .int (xs (i + 3)), .int (xs (i + 4)), .int (xs (i + 5)), .int (xs (i + 6)), .int (xs (i + 7))]) σ1 (fun r σ2 => r = R.1 ∧ MX R.2 σ2 ∧ FrM σ1 σ2) := by subst hR; exact fun σ1 h => M_wed h (fun σ2 h1 h2 => ⟨rfl, h1, h2⟩)
  refine ls_a1 hL dL_law_937 ?_
  refine ls_c 1 hL dL_law_938 dL_law_939 dL_law_940 rfl dL_law_941 dL_law_942 (by decide) ?_
  refine ls_c 2 hL dL_law_943 dL_law_944 dL_law_945 rfl dL_law_946 dL_law_947 (by decide) ?_
  refine ls_c 3 hL dL_law_948 dL_law_949 dL_law_950 rfl dL_law_951 dL_law_952 (by decide) ?_
  refine ls_c 4 hL dL_law_953 dL_law_954 dL_law_955 rfl dL_law_956 dL_law_957 (by decide) ?_
  refine ls_c 5 hL dL_law_958 dL_law_959 dL_law_960 rfl dL_law_961 dL_law_962 (by decide) ?_
  refine ls_p 6 hL dL_law_963 dL_law_964 dL_law_965 rfl dL_law_967 dL_law_968 (by decide) ?_
  refine ls_p 7 hL dL_law_969 dL_law_970 dL_law_971 rfl dL_law_973 dL_law_974 (by decide) ?_
  refine ls_call 97 7 0 [.int (xs (i + 1)), .int (xs (i + 2)), .int (xs (i + 3)), .int (xs (i + 4)), .int (xs (i + 5)), .int (xs (i + 6)), .int (xs (i + 7))] (st := []) hL dL_law_975 (by decide +kernel) (by decide +kernel) (by decide) (by decide) (by decide) rfl rfl rfl (Nat.le_of_ble_eq_true rfl) hx1 (fun r σ1 h1 => ?_)
  refine ls_a2 hL dL_law_978 ?_
  refine ls_c 1 hL dL_law_979 dL_law_980 dL_law_981 rfl dL_law_982 dL_law_983 (by decide) ?_
  refine ls_c 2 hL dL_law_984 dL_law_985 dL_law_986 rfl dL_law_987 dL_law_988 (by decide) ?_
  refine ls_c 3 hL dL_law_989 dL_law_990 dL_law_991 rfl dL_law_992 dL_law_993 (by decide) ?_
  refine ls_c 4 hL dL_law_994 dL_law_995 dL_law_996 rfl dL_law_997 dL_law_998 (by decide) ?_
  refine ls_c 5 hL dL_law_999 dL_law_1000 dL_law_1001 rfl dL_law_1002 dL_law_1003 (by decide) ?_
  refine ls_p 6 hL dL_law_1004 dL_law_1005 dL_law_1006 rfl dL_law_1008 dL_law_1009 (by decide) ?_
  refine ls_p 7 hL dL_law_1010 dL_law_1011 dL_law_1012 rfl dL_law_1014 dL_law_1015 (by decide) ?_
  refine ls_call 184 7 900 [.int (xs (i + 1)), .int (xs (i + 2)), .int (xs (i + 3)), .int (xs (i + 4)), .int (xs (i + 5)), .int (xs (i + 6)), .int (xs (i + 7))] (st := [.int r]) hL dL_law_1016 (by decide +kernel) (by decide +kernel) (by decide) (by decide) (by decide) rfl rfl rfl (Nat.le_of_ble_eq_true rfl) (hx2 σ1 (hM.frx h1.2.2)) (fun r2 σ2 h2 => ?_)
  exact ls_eq hL dL_law_1019 (tgt := 1249) (by decide) (h1.1.trans h2.1.symm) (hN R.2 σ2 (h1.2.1.frm h2.2.2) h2.2.1)
theorem law_film {p : Program} {l : Launch} {e : Env} {s : State} {m : MethodId} {below : List Frame} {meth : Method} {c : Code} {D : va_G} {cI : ClassId} {ad : Nat → Nat} {b L i : Nat} {xs : Nat → Int32} {ls : Array Slot} {σ : St} {A : AS} (hL : LwC p s m meth c D cI ad b L i xs ls) (hC : CX A σ) (hM : MX A σ) (hN : ∀ A σ, CX A σ → MX A σ → LwS l p e s m below meth c D cI ad b ls 1249 [] σ) : LwS l p e s m below meth c D cI ad b ls 1024 [] σ := by
  obtain ⟨R, hR⟩ : ∃ R : Int32 × AS, R = op_film A ((xs (i + 1))) ((xs (i + 2))) ((xs (i + 3))) := ⟨_, rfl⟩
  have hx1 : CallAt l 98 (.ref 0 :: [.int (xs (i + 1)), .int (xs (i + 2)), .int (xs (i + 3))]) σ (fun r σ1 => r = R.1 ∧ CX R.2 σ1 ∧ FrX σ σ1) := by subst hR; exact X_film hC (fun σ1 h1 h2 => ⟨rfl, h1, h2⟩)
  have hx2 : ∀ σ1, MX A σ1 → CallAt l 185 (.ref 900 :: [.int (xs (i + 1)), .int (xs (i + 2)), .int (xs (i + 3))]) σ1 (fun r σ2 => r = R.1 ∧ MX R.2 σ2 ∧ FrM σ1 σ2) := by subst hR; exact fun σ1 h => M_film h (fun σ2 h1 h2 => ⟨rfl, h1, h2⟩)
  refine ls_a1 hL dL_law_1024 ?_
  refine ls_c 1 hL dL_law_1025 dL_law_1026 dL_law_1027 rfl dL_law_1028 dL_law_1029 (by decide) ?_
  refine ls_c 2 hL dL_law_1030 dL_law_1031 dL_law_1032 rfl dL_law_1033 dL_law_1034 (by decide) ?_
  refine ls_c 3 hL dL_law_1035 dL_law_1036 dL_law_1037 rfl dL_law_1038 dL_law_1039 (by decide) ?_
  refine ls_call 98 3 0 [.int (xs (i + 1)), .int (xs (i + 2)), .int (xs (i + 3))] (st := []) hL dL_law_1040 (by decide +kernel) (by decide +kernel) (by decide) (by decide) (by decide) rfl rfl rfl (Nat.le_of_ble_eq_true rfl) hx1 (fun r σ1 h1 => ?_)
  refine ls_a2 hL dL_law_1043 ?_
  refine ls_c 1 hL dL_law_1044 dL_law_1045 dL_law_1046 rfl dL_law_1047 dL_law_1048 (by decide) ?_
  refine ls_c 2 hL dL_law_1049 dL_law_1050 dL_law_1051 rfl dL_law_1052 dL_law_1053 (by decide) ?_
  refine ls_c 3 hL dL_law_1054 dL_law_1055 dL_law_1056 rfl dL_law_1057 dL_law_1058 (by decide) ?_
  refine ls_call 185 3 900 [.int (xs (i + 1)), .int (xs (i + 2)), .int (xs (i + 3))] (st := [.int r]) hL dL_law_1059 (by decide +kernel) (by decide +kernel) (by decide) (by decide) (by decide) rfl rfl rfl (Nat.le_of_ble_eq_true rfl) (hx2 σ1 (hM.frx h1.2.2)) (fun r2 σ2 h2 => ?_)
  exact ls_eq hL dL_law_1062 (tgt := 1249) (by decide) (h1.1.trans h2.1.symm) (hN R.2 σ2 (h1.2.1.frm h2.2.2) h2.2.1)
theorem law_sheet {p : Program} {l : Launch} {e : Env} {s : State} {m : MethodId} {below : List Frame} {meth : Method} {c : Code} {D : va_G} {cI : ClassId} {ad : Nat → Nat} {b L i : Nat} {xs : Nat → Int32} {ls : Array Slot} {σ : St} {A : AS} (hL : LwC p s m meth c D cI ad b L i xs ls) (hC : CX A σ) (hM : MX A σ) (hN : ∀ A σ, CX A σ → MX A σ → LwS l p e s m below meth c D cI ad b ls 1249 [] σ) : LwS l p e s m below meth c D cI ad b ls 1067 [] σ := by
  obtain ⟨R, hR⟩ : ∃ R : Int32 × AS, R = op_sheet A ((xs (i + 1))) ((xs (i + 2))) ((xs (i + 3))) := ⟨_, rfl⟩
  have hx1 : CallAt l 99 (.ref 0 :: [.int (xs (i + 1)), .int (xs (i + 2)), .int (xs (i + 3))]) σ (fun r σ1 => r = R.1 ∧ CX R.2 σ1 ∧ FrX σ σ1) := by subst hR; exact X_sheet hC (fun σ1 h1 h2 => ⟨rfl, h1, h2⟩)
  have hx2 : ∀ σ1, MX A σ1 → CallAt l 175 (.ref 900 :: [.int (xs (i + 1)), .int (xs (i + 2)), .int (xs (i + 3))]) σ1 (fun r σ2 => r = R.1 ∧ MX R.2 σ2 ∧ FrM σ1 σ2) := by subst hR; exact fun σ1 h => M_sheet h (fun σ2 h1 h2 => ⟨rfl, h1, h2⟩)
  refine ls_a1 hL dL_law_1067 ?_
  refine ls_c 1 hL dL_law_1068 dL_law_1069 dL_law_1070 rfl dL_law_1071 dL_law_1072 (by decide) ?_
  refine ls_c 2 hL dL_law_1073 dL_law_1074 dL_law_1075 rfl dL_law_1076 dL_law_1077 (by decide) ?_
  refine ls_c 3 hL dL_law_1078 dL_law_1079 dL_law_1080 rfl dL_law_1081 dL_law_1082 (by decide) ?_
  refine ls_call 99 3 0 [.int (xs (i + 1)), .int (xs (i + 2)), .int (xs (i + 3))] (st := []) hL dL_law_1083 (by decide +kernel) (by decide +kernel) (by decide) (by decide) (by decide) rfl rfl rfl (Nat.le_of_ble_eq_true rfl) hx1 (fun r σ1 h1 => ?_)
  refine ls_a2 hL dL_law_1086 ?_
  refine ls_c 1 hL dL_law_1087 dL_law_1088 dL_law_1089 rfl dL_law_1090 dL_law_1091 (by decide) ?_
  refine ls_c 2 hL dL_law_1092 dL_law_1093 dL_law_1094 rfl dL_law_1095 dL_law_1096 (by decide) ?_
  refine ls_c 3 hL dL_law_1097 dL_law_1098 dL_law_1099 rfl dL_law_1100 dL_law_1101 (by decide) ?_
  refine ls_call 175 3 900 [.int (xs (i + 1)), .int (xs (i + 2)), .int (xs (i + 3))] (st := [.int r]) hL dL_law_1102 (by decide +kernel) (by decide +kernel) (by decide) (by decide) (by decide) rfl rfl rfl (Nat.le_of_ble_eq_true rfl) (hx2 σ1 (hM.frx h1.2.2)) (fun r2 σ2 h2 => ?_)
  exact ls_eq hL dL_law_1105 (tgt := 1249) (by decide) (h1.1.trans h2.1.symm) (hN R.2 σ2 (h1.2.1.frm h2.2.2) h2.2.1)
theorem law_drop {p : Program} {l : Launch} {e : Env} {s : State} {m : MethodId} {below : List Frame} {meth : Method} {c : Code} {D : va_G} {cI : ClassId} {ad : Nat → Nat} {b L i : Nat} {xs : Nat → Int32} {ls : Array Slot} {σ : St} {A : AS} (hL : LwC p s m meth c D cI ad b L i xs ls) (hC : CX A σ) (hM : MX A σ) (hN : ∀ A σ, CX A σ → MX A σ → LwS l p e s m below meth c D cI ad b ls 1249 [] σ) : LwS l p e s m below meth c D cI ad b ls 1110 [] σ := by
  obtain ⟨R, hR⟩ : ∃ R : Int32 × AS, R = op_drop A ((xs (i + 1))) := ⟨_, rfl⟩
  have hx1 : CallAt l 100 (.ref 0 :: [.int (xs (i + 1))]) σ (fun r σ1 => r = R.1 ∧ CX R.2 σ1 ∧ FrX σ σ1) := by subst hR; exact X_drop hC (fun σ1 h1 h2 => ⟨rfl, h1, h2⟩)
  have hx2 : ∀ σ1, MX A σ1 → CallAt l 176 (.ref 900 :: [.int (xs (i + 1))]) σ1 (fun r σ2 => r = R.1 ∧ MX R.2 σ2 ∧ FrM σ1 σ2) := by subst hR; exact fun σ1 h => M_drop h (fun σ2 h1 h2 => ⟨rfl, h1, h2⟩)
  refine ls_a1 hL dL_law_1110 ?_
  refine ls_c 1 hL dL_law_1111 dL_law_1112 dL_law_1113 rfl dL_law_1114 dL_law_1115 (by decide) ?_
  refine ls_call 100 1 0 [.int (xs (i + 1))] (st := []) hL dL_law_1116 (by decide +kernel) (by decide +kernel) (by decide) (by decide) (by decide) rfl rfl rfl (Nat.le_of_ble_eq_true rfl) hx1 (fun r σ1 h1 => ?_)
  refine ls_a2 hL dL_law_1119 ?_
  refine ls_c 1 hL dL_law_1120 dL_law_1121 dL_law_1122 rfl dL_law_1123 dL_law_1124 (by decide) ?_
  refine ls_call 176 1 900 [.int (xs (i + 1))] (st := [.int r]) hL dL_law_1125 (by decide +kernel) (by decide +kernel) (by decide) (by decide) (by decide) rfl rfl rfl (Nat.le_of_ble_eq_true rfl) (hx2 σ1 (hM.frx h1.2.2)) (fun r2 σ2 h2 => ?_)
  exact ls_eq hL dL_law_1128 (tgt := 1249) (by decide) (h1.1.trans h2.1.symm) (hN R.2 σ2 (h1.2.1.frm h2.2.2) h2.2.1)
theorem law_item {p : Program} {l : Launch} {e : Env} {s : State} {m : MethodId} {below : List Frame} {meth : Method} {c : Code} {D : va_G} {cI : ClassId} {ad : Nat → Nat} {b L i : Nat} {xs : Nat → Int32} {ls : Array Slot} {σ : St} {A : AS} (hL : LwC p s m meth c D cI ad b L i xs ls) (hC : CX A σ) (hM : MX A σ) (hN : ∀ A σ, CX A σ → MX A σ → LwS l p e s m below meth c D cI ad b ls 1249 [] σ) : LwS l p e s m below meth c D cI ad b ls 1133 [] σ := by
  obtain ⟨R, hR⟩ : ∃ R : Int32 × AS, R = op_item A ((xs (i + 1))) ((xs (i + 2))) ((xs (i + 3))) ((xs (i + 4))) := ⟨_, rfl⟩
  have hx1 : CallAt l 101 (.ref 0 :: [.int (xs (i + 1)), .int (xs (i + 2)), .int (xs (i + 3)), .int (xs (i + 4))]) σ (fun r σ1 => r = R.1 ∧ CX R.2 σ1 ∧ FrX σ σ1) := by subst hR; exact X_item hC (fun σ1 h1 h2 => ⟨rfl, h1, h2⟩)
  have hx2 : ∀ σ1, MX A σ1 → CallAt l 178 (.ref 900 :: [.int (xs (i + 1)), .int (xs (i + 2)), .int (xs (i + 3)), .int (xs (i + 4))]) σ1 (fun r σ2 => r = R.1 ∧ MX R.2 σ2 ∧ FrM σ1 σ2) := by subst hR; exact fun σ1 h => M_item h (fun σ2 h1 h2 => ⟨rfl, h1, h2⟩)
  refine ls_a1 hL dL_law_1133 ?_
  refine ls_c 1 hL dL_law_1134 dL_law_1135 dL_law_1136 rfl dL_law_1137 dL_law_1138 (by decide) ?_
  refine ls_c 2 hL dL_law_1139 dL_law_1140 dL_law_1141 rfl dL_law_1142 dL_law_1143 (by decide) ?_
  refine ls_c 3 hL dL_law_1144 dL_law_1145 dL_law_1146 rfl dL_law_1147 dL_law_1148 (by decide) ?_
  refine ls_c 4 hL dL_law_1149 dL_law_1150 dL_law_1151 rfl dL_law_1152 dL_law_1153 (by decide) ?_
  refine ls_call 101 4 0 [.int (xs (i + 1)), .int (xs (i + 2)), .int (xs (i + 3)), .int (xs (i + 4))] (st := []) hL dL_law_1154 (by decide +kernel) (by decide +kernel) (by decide) (by decide) (by decide) rfl rfl rfl (Nat.le_of_ble_eq_true rfl) hx1 (fun r σ1 h1 => ?_)
  refine ls_a2 hL dL_law_1157 ?_
  refine ls_c 1 hL dL_law_1158 dL_law_1159 dL_law_1160 rfl dL_law_1161 dL_law_1162 (by decide) ?_
  refine ls_c 2 hL dL_law_1163 dL_law_1164 dL_law_1165 rfl dL_law_1166 dL_law_1167 (by decide) ?_
  refine ls_c 3 hL dL_law_1168 dL_law_1169 dL_law_1170 rfl dL_law_1171 dL_law_1172 (by decide) ?_
  refine ls_c 4 hL dL_law_1173 dL_law_1174 dL_law_1175 rfl dL_law_1176 dL_law_1177 (by decide) ?_
  refine ls_call 178 4 900 [.int (xs (i + 1)), .int (xs (i + 2)), .int (xs (i + 3)), .int (xs (i + 4))] (st := [.int r]) hL dL_law_1178 (by decide +kernel) (by decide +kernel) (by decide) (by decide) (by decide) rfl rfl rfl (Nat.le_of_ble_eq_true rfl) (hx2 σ1 (hM.frx h1.2.2)) (fun r2 σ2 h2 => ?_)
  exact ls_eq hL dL_law_1181 (tgt := 1249) (by decide) (h1.1.trans h2.1.symm) (hN R.2 σ2 (h1.2.1.frm h2.2.2) h2.2.1)
theorem law_copy {p : Program} {l : Launch} {e : Env} {s : State} {m : MethodId} {below : List Frame} {meth : Method} {c : Code} {D : va_G} {cI : ClassId} {ad : Nat → Nat} {b L i : Nat} {xs : Nat → Int32} {ls : Array Slot} {σ : St} {A : AS} (hL : LwC p s m meth c D cI ad b L i xs ls) (hC : CX A σ) (hM : MX A σ) (hN : ∀ A σ, CX A σ → MX A σ → LwS l p e s m below meth c D cI ad b ls 1249 [] σ) : LwS l p e s m below meth c D cI ad b ls 1186 [] σ := by
  obtain ⟨R, hR⟩ : ∃ R : Int32 × AS, R = op_copy A ((xs (i + 1))) ((xs (i + 2))) ((xs (i + 3))) ((xs (i + 4))) ((xs (i + 5))) := ⟨_, rfl⟩
  have hx1 : CallAt l 102 (.ref 0 :: [.int (xs (i + 1)), .int (xs (i + 2)), .int (xs (i + 3)), .int (xs (i + 4)), .int (xs (i + 5))]) σ (fun r σ1 => r = R.1 ∧ CX R.2 σ1 ∧ FrX σ σ1) := by subst hR; exact X_copy hC (fun σ1 h1 h2 => ⟨rfl, h1, h2⟩)
  have hx2 : ∀ σ1, MX A σ1 → CallAt l 186 (.ref 900 :: [.int (xs (i + 1)), .int (xs (i + 2)), .int (xs (i + 3)), .int (xs (i + 4)), .int (xs (i + 5))]) σ1 (fun r σ2 => r = R.1 ∧ MX R.2 σ2 ∧ FrM σ1 σ2) := by subst hR; exact fun σ1 h => M_copy h (fun σ2 h1 h2 => ⟨rfl, h1, h2⟩)
  refine ls_a1 hL dL_law_1186 ?_
  refine ls_c 1 hL dL_law_1187 dL_law_1188 dL_law_1189 rfl dL_law_1190 dL_law_1191 (by decide) ?_
  refine ls_c 2 hL dL_law_1192 dL_law_1193 dL_law_1194 rfl dL_law_1195 dL_law_1196 (by decide) ?_
  refine ls_c 3 hL dL_law_1197 dL_law_1198 dL_law_1199 rfl dL_law_1200 dL_law_1201 (by decide) ?_
  refine ls_c 4 hL dL_law_1202 dL_law_1203 dL_law_1204 rfl dL_law_1205 dL_law_1206 (by decide) ?_
  refine ls_c 5 hL dL_law_1207 dL_law_1208 dL_law_1209 rfl dL_law_1210 dL_law_1211 (by decide) ?_
  refine ls_call 102 5 0 [.int (xs (i + 1)), .int (xs (i + 2)), .int (xs (i + 3)), .int (xs (i + 4)), .int (xs (i + 5))] (st := []) hL dL_law_1212 (by decide +kernel) (by decide +kernel) (by decide) (by decide) (by decide) rfl rfl rfl (Nat.le_of_ble_eq_true rfl) hx1 (fun r σ1 h1 => ?_)
  refine ls_a2 hL dL_law_1215 ?_
  refine ls_c 1 hL dL_law_1216 dL_law_1217 dL_law_1218 rfl dL_law_1219 dL_law_1220 (by decide) ?_
  refine ls_c 2 hL dL_law_1221 dL_law_1222 dL_law_1223 rfl dL_law_1224 dL_law_1225 (by decide) ?_
  refine ls_c 3 hL dL_law_1226 dL_law_1227 dL_law_1228 rfl dL_law_1229 dL_law_1230 (by decide) ?_
  refine ls_c 4 hL dL_law_1231 dL_law_1232 dL_law_1233 rfl dL_law_1234 dL_law_1235 (by decide) ?_
  refine ls_c 5 hL dL_law_1236 dL_law_1237 dL_law_1238 rfl dL_law_1239 dL_law_1240 (by decide) ?_
  refine ls_call 186 5 900 [.int (xs (i + 1)), .int (xs (i + 2)), .int (xs (i + 3)), .int (xs (i + 4)), .int (xs (i + 5))] (st := [.int r]) hL dL_law_1241 (by decide +kernel) (by decide +kernel) (by decide) (by decide) (by decide) rfl rfl rfl (Nat.le_of_ble_eq_true rfl) (hx2 σ1 (hM.frx h1.2.2)) (fun r2 σ2 h2 => ?_)
  exact ls_eq hL dL_law_1244 (tgt := 1249) (by decide) (h1.1.trans h2.1.symm) (hN R.2 σ2 (h1.2.1.frm h2.2.2) h2.2.1)
