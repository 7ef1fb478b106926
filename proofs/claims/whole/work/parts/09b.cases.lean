/-! the law: its cases -/
section ZM
variable {p : Program} {l : Launch} {e : Env} {s : State} {m : MethodId} {args : Array Value} {below : List Frame} {meth : Method} {c : Code} {H : Heap} {Q : State → Prop} {cells slots : Nat}
variable {pc : Nat} {ls : Array Slot} {rest : List Value} {wC wM : zWd} {M N : zM} {b L i : Nat} {xs : Nat → Int32}
/-- script[i + j] -/
theorem w_arg (S : CallFix p m c cL_law 4 s args zU RL) (hX : va_X b L xs s s.heap) (hbl : b < s.heap.size) (hL : LA s wC wM M N H) (hLs : L ≤ 3072) (hl : lv_has ls 4 [(3, .int (nI i)), (2, .ref (za wM 0)), (1, .ref (za wC 0)), (0, .ref b)]) {jv : Int} (j : Nat) (hj : i + j < L) (d0 : decode cL_law pc = .ok (.aload_n 0, 1)) (d1 : decode cL_law (pc + 1) = .ok (.iload_n 3, 1)) (d2 : decode cL_law (pc + 2) = .ok (.iconst jv, 1)) (hv : Int32.ofInt jv = nI j) (d3 : decode cL_law (pc + 3) = .ok (.iadd, 1)) (d4 : decode cL_law (pc + 4) = .ok (.iaload, 1))
    (kk : W p l e room_1 s m args below meth c H [] cells slots Q (F0 m (pc + 5) ls (.int (xs (i + j)) :: rest))) : W p l e room_1 s m args below meth c H [] cells slots Q (F0 m pc ls rest) := by
  obtain ⟨h1, h2⟩ := zix_some (zix_nI hj (show L < 2 ^ 31 by omega))
  refine lv_aload_n S.1 S.2.1 d0 rfl (lv_at hl 3 rfl) ?_
  refine lv_iload_n S.1 S.2.1 d1 rfl (lv_at hl 0 rfl) ?_
  refine lv_iconst (v := nI j) S.1 S.2.1 d2 hv ?_
  refine lv_iadd S.1 S.2.1 d3 ?_
  rw [nI_add]
  refine va_sld (A := fun q => s.heap.size ≤ q) S.1 S.2.1 hX hbl (fun z => Nat.not_lt.mpr z hbl) ⟨hL.2.2.1, fun q g1 _ => hL.2.2.2 q g1, fun _ h => by cases h⟩ h1 d4 ?_
  rw [h2]; exact kk
theorem lc_mood (S : CallFix p m c cL_law 4 s args zU RL) (F : LF s wC wM) (hc : cells ≤ room_1.cells) (hs : slots ≤ room_1.slots) (hX : va_X b L xs s s.heap) (hbl : b < s.heap.size) (hLs : L ≤ 3072) (hi : i + 6 ≤ L) (hL : LA s wC wM M N H) (h : Rel M N) (hl : lv_has ls 4 [(3, .int (nI i)), (2, .ref (za wM 0)), (1, .ref (za wC 0)), (0, .ref b)])
    (kk : ∀ (M N : zM) (H : Heap), LA s wC wM M N H → Rel M N → W p l e room_1 s m args below meth c H [] cells slots Q (F0 m 1526 ls [])) : W p l e room_1 s m args below meth c H [] cells slots Q (F0 m 212 ls []) := by
  refine lv_aload_n S.1 S.2.1 dL_law_212 rfl (lv_at hl 2 rfl) ?_
  refine w_arg S hX hbl hL hLs hl 1 (by omega) dL_law_213 dL_law_214 dL_law_215 (by decide) dL_law_216 dL_law_217 ?_
  refine w_arg S hX hbl hL hLs hl 2 (by omega) dL_law_218 dL_law_219 dL_law_220 (by decide) dL_law_221 dL_law_222 ?_
  obtain ⟨r, M', N', e1, e2, hr⟩ := s_mood h (xs (i + 1)) (xs (i + 2))
  refine w_callC (As := [.int (xs (i + 1)), .int (xs (i + 2))]) (rest := []) S F hL hl.1 (kX9_mood l F.1 e1) arX9_mood u212 u213 u214 u215 rfl rfl rfl (Nat.le_of_ble_eq_true rfl) (Nat.le_of_ble_eq_true rfl) hc hs rfl (Nat.le_of_ble_eq_true rfl) dL_law_223 (fun H hL => ?_)
  refine lv_aload_n S.1 S.2.1 dL_law_226 rfl (lv_at hl 1 rfl) ?_
  refine w_arg S hX hbl hL hLs hl 1 (by omega) dL_law_227 dL_law_228 dL_law_229 (by decide) dL_law_230 dL_law_231 ?_
  refine w_arg S hX hbl hL hLs hl 2 (by omega) dL_law_232 dL_law_233 dL_law_234 (by decide) dL_law_235 dL_law_236 ?_
  refine w_callM (As := [.int (xs (i + 1)), .int (xs (i + 2))]) (rest := [.int r]) S F hL hl.1 (kX10_mood l F.2.1 e2) arX10_mood u816 u817 u818 u819 rfl rfl rfl (Nat.le_of_ble_eq_true rfl) (Nat.le_of_ble_eq_true rfl) hc hs rfl (Nat.le_of_ble_eq_true rfl) dL_law_237 (fun H hL => ?_)
  refine lv_icmp_eq (tgt := 1526) S.1 S.2.1 dL_law_240 (by decide) (fun _ => kk M' N' H hL hr) (fun c6 => absurd rfl c6)
theorem lc_recall (S : CallFix p m c cL_law 4 s args zU RL) (F : LF s wC wM) (hc : cells ≤ room_1.cells) (hs : slots ≤ room_1.slots) (hX : va_X b L xs s s.heap) (hbl : b < s.heap.size) (hLs : L ≤ 3072) (hi : i + 6 ≤ L) (hL : LA s wC wM M N H) (h : Rel M N) (hl : lv_has ls 4 [(3, .int (nI i)), (2, .ref (za wM 0)), (1, .ref (za wC 0)), (0, .ref b)])
    (kk : ∀ (M N : zM) (H : Heap), LA s wC wM M N H → Rel M N → W p l e room_1 s m args below meth c H [] cells slots Q (F0 m 1526 ls [])) : W p l e room_1 s m args below meth c H [] cells slots Q (F0 m 245 ls []) := by
  refine lv_aload_n S.1 S.2.1 dL_law_245 rfl (lv_at hl 2 rfl) ?_
  refine w_arg S hX hbl hL hLs hl 1 (by omega) dL_law_246 dL_law_247 dL_law_248 (by decide) dL_law_249 dL_law_250 ?_
  refine w_arg S hX hbl hL hLs hl 2 (by omega) dL_law_251 dL_law_252 dL_law_253 (by decide) dL_law_254 dL_law_255 ?_
  obtain ⟨r, M', N', e1, e2, hr⟩ := s_recall h (xs (i + 1)) (xs (i + 2))
  refine w_callC (As := [.int (xs (i + 1)), .int (xs (i + 2))]) (rest := []) S F hL hl.1 (kX9_recall l F.1 e1) arX9_recall u227 u228 u229 u230 rfl rfl rfl (Nat.le_of_ble_eq_true rfl) (Nat.le_of_ble_eq_true rfl) hc hs rfl (Nat.le_of_ble_eq_true rfl) dL_law_256 (fun H hL => ?_)
  refine lv_aload_n S.1 S.2.1 dL_law_259 rfl (lv_at hl 1 rfl) ?_
  refine w_arg S hX hbl hL hLs hl 1 (by omega) dL_law_260 dL_law_261 dL_law_262 (by decide) dL_law_263 dL_law_264 ?_
  refine w_arg S hX hbl hL hLs hl 2 (by omega) dL_law_265 dL_law_266 dL_law_267 (by decide) dL_law_268 dL_law_269 ?_
  refine w_callM (As := [.int (xs (i + 1)), .int (xs (i + 2))]) (rest := [.int r]) S F hL hl.1 (kX10_recall l F.2.1 e2) arX10_recall u838 u839 u840 u841 rfl rfl rfl (Nat.le_of_ble_eq_true rfl) (Nat.le_of_ble_eq_true rfl) hc hs rfl (Nat.le_of_ble_eq_true rfl) dL_law_270 (fun H hL => ?_)
  refine lv_icmp_eq (tgt := 1526) S.1 S.2.1 dL_law_273 (by decide) (fun _ => kk M' N' H hL hr) (fun c6 => absurd rfl c6)
theorem lc_houseOf (S : CallFix p m c cL_law 4 s args zU RL) (F : LF s wC wM) (hc : cells ≤ room_1.cells) (hs : slots ≤ room_1.slots) (hX : va_X b L xs s s.heap) (hbl : b < s.heap.size) (hLs : L ≤ 3072) (hi : i + 6 ≤ L) (hL : LA s wC wM M N H) (h : Rel M N) (hl : lv_has ls 4 [(3, .int (nI i)), (2, .ref (za wM 0)), (1, .ref (za wC 0)), (0, .ref b)])
    (kk : ∀ (M N : zM) (H : Heap), LA s wC wM M N H → Rel M N → W p l e room_1 s m args below meth c H [] cells slots Q (F0 m 1526 ls [])) : W p l e room_1 s m args below meth c H [] cells slots Q (F0 m 278 ls []) := by
  refine lv_aload_n S.1 S.2.1 dL_law_278 rfl (lv_at hl 2 rfl) ?_
  refine w_arg S hX hbl hL hLs hl 1 (by omega) dL_law_279 dL_law_280 dL_law_281 (by decide) dL_law_282 dL_law_283 ?_
  refine w_arg S hX hbl hL hLs hl 2 (by omega) dL_law_284 dL_law_285 dL_law_286 (by decide) dL_law_287 dL_law_288 ?_
  obtain ⟨r, M', N', e1, e2, hr⟩ := s_houseOf h (xs (i + 1)) (xs (i + 2))
  refine w_callC (As := [.int (xs (i + 1)), .int (xs (i + 2))]) (rest := []) S F hL hl.1 (kX9_houseOf l F.1 e1) arX9_houseOf u235 u236 u237 u238 rfl rfl rfl (Nat.le_of_ble_eq_true rfl) (Nat.le_of_ble_eq_true rfl) hc hs rfl (Nat.le_of_ble_eq_true rfl) dL_law_289 (fun H hL => ?_)
  refine lv_aload_n S.1 S.2.1 dL_law_292 rfl (lv_at hl 1 rfl) ?_
  refine w_arg S hX hbl hL hLs hl 1 (by omega) dL_law_293 dL_law_294 dL_law_295 (by decide) dL_law_296 dL_law_297 ?_
  refine w_arg S hX hbl hL hLs hl 2 (by omega) dL_law_298 dL_law_299 dL_law_300 (by decide) dL_law_301 dL_law_302 ?_
  refine w_callM (As := [.int (xs (i + 1)), .int (xs (i + 2))]) (rest := [.int r]) S F hL hl.1 (kX10_houseOf l F.2.1 e2) arX10_houseOf u846 u847 u848 u849 rfl rfl rfl (Nat.le_of_ble_eq_true rfl) (Nat.le_of_ble_eq_true rfl) hc hs rfl (Nat.le_of_ble_eq_true rfl) dL_law_303 (fun H hL => ?_)
  refine lv_icmp_eq (tgt := 1526) S.1 S.2.1 dL_law_306 (by decide) (fun _ => kk M' N' H hL hr) (fun c6 => absurd rfl c6)
theorem lc_now (S : CallFix p m c cL_law 4 s args zU RL) (F : LF s wC wM) (hc : cells ≤ room_1.cells) (hs : slots ≤ room_1.slots) (hX : va_X b L xs s s.heap) (hbl : b < s.heap.size) (hLs : L ≤ 3072) (hi : i + 6 ≤ L) (hL : LA s wC wM M N H) (h : Rel M N) (hl : lv_has ls 4 [(3, .int (nI i)), (2, .ref (za wM 0)), (1, .ref (za wC 0)), (0, .ref b)])
    (kk : ∀ (M N : zM) (H : Heap), LA s wC wM M N H → Rel M N → W p l e room_1 s m args below meth c H [] cells slots Q (F0 m 1526 ls [])) : W p l e room_1 s m args below meth c H [] cells slots Q (F0 m 311 ls []) := by
  refine lv_aload_n S.1 S.2.1 dL_law_311 rfl (lv_at hl 2 rfl) ?_
  refine w_arg S hX hbl hL hLs hl 1 (by omega) dL_law_312 dL_law_313 dL_law_314 (by decide) dL_law_315 dL_law_316 ?_
  obtain ⟨r, M', N', e1, e2, hr⟩ := s_now h (xs (i + 1))
  refine w_callC (As := [.int (xs (i + 1))]) (rest := []) S F hL hl.1 (kX9_now l F.1 e1) arX9_now u247 u248 u249 u250 rfl rfl rfl (Nat.le_of_ble_eq_true rfl) (Nat.le_of_ble_eq_true rfl) hc hs rfl (Nat.le_of_ble_eq_true rfl) dL_law_317 (fun H hL => ?_)
  refine lv_aload_n S.1 S.2.1 dL_law_320 rfl (lv_at hl 1 rfl) ?_
  refine w_arg S hX hbl hL hLs hl 1 (by omega) dL_law_321 dL_law_322 dL_law_323 (by decide) dL_law_324 dL_law_325 ?_
  refine w_callM (As := [.int (xs (i + 1))]) (rest := [.int r]) S F hL hl.1 (kX10_now l F.2.1 e2) arX10_now u870 u871 u872 u873 rfl rfl rfl (Nat.le_of_ble_eq_true rfl) (Nat.le_of_ble_eq_true rfl) hc hs rfl (Nat.le_of_ble_eq_true rfl) dL_law_326 (fun H hL => ?_)
  refine lv_icmp_eq (tgt := 1526) S.1 S.2.1 dL_law_329 (by decide) (fun _ => kk M' N' H hL hr) (fun c6 => absurd rfl c6)
theorem lc_beard (S : CallFix p m c cL_law 4 s args zU RL) (F : LF s wC wM) (hc : cells ≤ room_1.cells) (hs : slots ≤ room_1.slots) (hX : va_X b L xs s s.heap) (hbl : b < s.heap.size) (hLs : L ≤ 3072) (hi : i + 6 ≤ L) (hL : LA s wC wM M N H) (h : Rel M N) (hl : lv_has ls 4 [(3, .int (nI i)), (2, .ref (za wM 0)), (1, .ref (za wC 0)), (0, .ref b)])
    (kk : ∀ (M N : zM) (H : Heap), LA s wC wM M N H → Rel M N → W p l e room_1 s m args below meth c H [] cells slots Q (F0 m 1526 ls [])) : W p l e room_1 s m args below meth c H [] cells slots Q (F0 m 334 ls []) := by
  refine lv_aload_n S.1 S.2.1 dL_law_334 rfl (lv_at hl 2 rfl) ?_
  refine w_arg S hX hbl hL hLs hl 1 (by omega) dL_law_335 dL_law_336 dL_law_337 (by decide) dL_law_338 dL_law_339 ?_
  obtain ⟨r, M', N', e1, e2, hr⟩ := s_beard h (xs (i + 1))
  refine w_callC (As := [.int (xs (i + 1))]) (rest := []) S F hL hl.1 (kX9_beard l F.1 e1) arX9_beard u267 u268 u269 u270 rfl rfl rfl (Nat.le_of_ble_eq_true rfl) (Nat.le_of_ble_eq_true rfl) hc hs rfl (Nat.le_of_ble_eq_true rfl) dL_law_340 (fun H hL => ?_)
  refine lv_aload_n S.1 S.2.1 dL_law_343 rfl (lv_at hl 1 rfl) ?_
  refine w_arg S hX hbl hL hLs hl 1 (by omega) dL_law_344 dL_law_345 dL_law_346 (by decide) dL_law_347 dL_law_348 ?_
  refine w_callM (As := [.int (xs (i + 1))]) (rest := [.int r]) S F hL hl.1 (kX10_beard l F.2.1 e2) arX10_beard u897 u898 u899 u900 rfl rfl rfl (Nat.le_of_ble_eq_true rfl) (Nat.le_of_ble_eq_true rfl) hc hs rfl (Nat.le_of_ble_eq_true rfl) dL_law_349 (fun H hL => ?_)
  refine lv_icmp_eq (tgt := 1526) S.1 S.2.1 dL_law_352 (by decide) (fun _ => kk M' N' H hL hr) (fun c6 => absurd rfl c6)
theorem lc_of (S : CallFix p m c cL_law 4 s args zU RL) (F : LF s wC wM) (hc : cells ≤ room_1.cells) (hs : slots ≤ room_1.slots) (hX : va_X b L xs s s.heap) (hbl : b < s.heap.size) (hLs : L ≤ 3072) (hi : i + 6 ≤ L) (hL : LA s wC wM M N H) (h : Rel M N) (hl : lv_has ls 4 [(3, .int (nI i)), (2, .ref (za wM 0)), (1, .ref (za wC 0)), (0, .ref b)])
    (kk : ∀ (M N : zM) (H : Heap), LA s wC wM M N H → Rel M N → W p l e room_1 s m args below meth c H [] cells slots Q (F0 m 1526 ls [])) : W p l e room_1 s m args below meth c H [] cells slots Q (F0 m 357 ls []) := by
  refine lv_aload_n S.1 S.2.1 dL_law_357 rfl (lv_at hl 2 rfl) ?_
  refine w_arg S hX hbl hL hLs hl 1 (by omega) dL_law_358 dL_law_359 dL_law_360 (by decide) dL_law_361 dL_law_362 ?_
  refine w_arg S hX hbl hL hLs hl 2 (by omega) dL_law_363 dL_law_364 dL_law_365 (by decide) dL_law_366 dL_law_367 ?_
  obtain ⟨r, M', N', e1, e2, hr⟩ := s_of h (xs (i + 1)) (xs (i + 2))
  refine w_callC (As := [.int (xs (i + 1)), .int (xs (i + 2))]) (rest := []) S F hL hl.1 (kX9_of l F.1 e1) arX9_of u278 u279 u280 u281 rfl rfl rfl (Nat.le_of_ble_eq_true rfl) (Nat.le_of_ble_eq_true rfl) hc hs rfl (Nat.le_of_ble_eq_true rfl) dL_law_368 (fun H hL => ?_)
  refine lv_aload_n S.1 S.2.1 dL_law_371 rfl (lv_at hl 1 rfl) ?_
  refine w_arg S hX hbl hL hLs hl 1 (by omega) dL_law_372 dL_law_373 dL_law_374 (by decide) dL_law_375 dL_law_376 ?_
  refine w_arg S hX hbl hL hLs hl 2 (by omega) dL_law_377 dL_law_378 dL_law_379 (by decide) dL_law_380 dL_law_381 ?_
  refine w_callM (As := [.int (xs (i + 1)), .int (xs (i + 2))]) (rest := [.int r]) S F hL hl.1 (kX10_of l F.2.1 e2) arX10_of u909 u910 u911 u912 rfl rfl rfl (Nat.le_of_ble_eq_true rfl) (Nat.le_of_ble_eq_true rfl) hc hs rfl (Nat.le_of_ble_eq_true rfl) dL_law_382 (fun H hL => ?_)
  refine lv_icmp_eq (tgt := 1526) S.1 S.2.1 dL_law_385 (by decide) (fun _ => kk M' N' H hL hr) (fun c6 => absurd rfl c6)
theorem lc_can (S : CallFix p m c cL_law 4 s args zU RL) (F : LF s wC wM) (hc : cells ≤ room_1.cells) (hs : slots ≤ room_1.slots) (hX : va_X b L xs s s.heap) (hbl : b < s.heap.size) (hLs : L ≤ 3072) (hi : i + 6 ≤ L) (hL : LA s wC wM M N H) (h : Rel M N) (hl : lv_has ls 4 [(3, .int (nI i)), (2, .ref (za wM 0)), (1, .ref (za wC 0)), (0, .ref b)])
    (kk : ∀ (M N : zM) (H : Heap), LA s wC wM M N H → Rel M N → W p l e room_1 s m args below meth c H [] cells slots Q (F0 m 1526 ls [])) : W p l e room_1 s m args below meth c H [] cells slots Q (F0 m 390 ls []) := by
  refine lv_aload_n S.1 S.2.1 dL_law_390 rfl (lv_at hl 2 rfl) ?_
  refine w_arg S hX hbl hL hLs hl 1 (by omega) dL_law_391 dL_law_392 dL_law_393 (by decide) dL_law_394 dL_law_395 ?_
  refine w_arg S hX hbl hL hLs hl 2 (by omega) dL_law_396 dL_law_397 dL_law_398 (by decide) dL_law_399 dL_law_400 ?_
  refine w_arg S hX hbl hL hLs hl 3 (by omega) dL_law_401 dL_law_402 dL_law_403 (by decide) dL_law_404 dL_law_405 ?_
  obtain ⟨r, M', N', e1, e2, hr⟩ := s_can h (xs (i + 1)) (xs (i + 2)) (xs (i + 3))
  refine w_callC (As := [.int (xs (i + 1)), .int (xs (i + 2)), .int (xs (i + 3))]) (rest := []) S F hL hl.1 (kX9_can l F.1 e1) arX9_can u337 u338 u339 u340 rfl rfl rfl (Nat.le_of_ble_eq_true rfl) (Nat.le_of_ble_eq_true rfl) hc hs rfl (Nat.le_of_ble_eq_true rfl) dL_law_406 (fun H hL => ?_)
  refine lv_aload_n S.1 S.2.1 dL_law_409 rfl (lv_at hl 1 rfl) ?_
  refine w_arg S hX hbl hL hLs hl 1 (by omega) dL_law_410 dL_law_411 dL_law_412 (by decide) dL_law_413 dL_law_414 ?_
  refine w_arg S hX hbl hL hLs hl 2 (by omega) dL_law_415 dL_law_416 dL_law_417 (by decide) dL_law_418 dL_law_419 ?_
  refine w_arg S hX hbl hL hLs hl 3 (by omega) dL_law_420 dL_law_421 dL_law_422 (by decide) dL_law_423 dL_law_424 ?_
  refine w_callM (As := [.int (xs (i + 1)), .int (xs (i + 2)), .int (xs (i + 3))]) (rest := [.int r]) S F hL hl.1 (kX10_can l F.2.1 e2) arX10_can u921 u922 u923 u924 rfl rfl rfl (Nat.le_of_ble_eq_true rfl) (Nat.le_of_ble_eq_true rfl) hc hs rfl (Nat.le_of_ble_eq_true rfl) dL_law_425 (fun H hL => ?_)
  refine lv_icmp_eq (tgt := 1526) S.1 S.2.1 dL_law_428 (by decide) (fun _ => kk M' N' H hL hr) (fun c6 => absurd rfl c6)
theorem lc_set (S : CallFix p m c cL_law 4 s args zU RL) (F : LF s wC wM) (hc : cells ≤ room_1.cells) (hs : slots ≤ room_1.slots) (hX : va_X b L xs s s.heap) (hbl : b < s.heap.size) (hLs : L ≤ 3072) (hi : i + 6 ≤ L) (hL : LA s wC wM M N H) (h : Rel M N) (hl : lv_has ls 4 [(3, .int (nI i)), (2, .ref (za wM 0)), (1, .ref (za wC 0)), (0, .ref b)])
    (kk : ∀ (M N : zM) (H : Heap), LA s wC wM M N H → Rel M N → W p l e room_1 s m args below meth c H [] cells slots Q (F0 m 1526 ls [])) : W p l e room_1 s m args below meth c H [] cells slots Q (F0 m 433 ls []) := by
  refine lv_aload_n S.1 S.2.1 dL_law_433 rfl (lv_at hl 2 rfl) ?_
  refine w_arg S hX hbl hL hLs hl 1 (by omega) dL_law_434 dL_law_435 dL_law_436 (by decide) dL_law_437 dL_law_438 ?_
  refine w_arg S hX hbl hL hLs hl 2 (by omega) dL_law_439 dL_law_440 dL_law_441 (by decide) dL_law_442 dL_law_443 ?_
  refine w_arg S hX hbl hL hLs hl 3 (by omega) dL_law_444 dL_law_445 dL_law_446 (by decide) dL_law_447 dL_law_448 ?_
  obtain ⟨r, M', N', e1, e2, hr⟩ := s_set h (xs (i + 1)) (xs (i + 2)) (xs (i + 3))
  refine w_callC (As := [.int (xs (i + 1)), .int (xs (i + 2)), .int (xs (i + 3))]) (rest := []) S F hL hl.1 (kX9_set l F.1 e1) arX9_set u395 u396 u397 u398 rfl rfl rfl (Nat.le_of_ble_eq_true rfl) (Nat.le_of_ble_eq_true rfl) hc hs rfl (Nat.le_of_ble_eq_true rfl) dL_law_449 (fun H hL => ?_)
  refine lv_aload_n S.1 S.2.1 dL_law_452 rfl (lv_at hl 1 rfl) ?_
  refine w_arg S hX hbl hL hLs hl 1 (by omega) dL_law_453 dL_law_454 dL_law_455 (by decide) dL_law_456 dL_law_457 ?_
  refine w_arg S hX hbl hL hLs hl 2 (by omega) dL_law_458 dL_law_459 dL_law_460 (by decide) dL_law_461 dL_law_462 ?_
  refine w_arg S hX hbl hL hLs hl 3 (by omega) dL_law_463 dL_law_464 dL_law_465 (by decide) dL_law_466 dL_law_467 ?_
  refine w_callM (As := [.int (xs (i + 1)), .int (xs (i + 2)), .int (xs (i + 3))]) (rest := [.int r]) S F hL hl.1 (kX10_set l F.2.1 e2) arX10_set u933 u934 u935 u936 rfl rfl rfl (Nat.le_of_ble_eq_true rfl) (Nat.le_of_ble_eq_true rfl) hc hs rfl (Nat.le_of_ble_eq_true rfl) dL_law_468 (fun H hL => ?_)
  refine lv_icmp_eq (tgt := 1526) S.1 S.2.1 dL_law_471 (by decide) (fun _ => kk M' N' H hL hr) (fun c6 => absurd rfl c6)
theorem lc_turn (S : CallFix p m c cL_law 4 s args zU RL) (F : LF s wC wM) (hc : cells ≤ room_1.cells) (hs : slots ≤ room_1.slots) (hX : va_X b L xs s s.heap) (hbl : b < s.heap.size) (hLs : L ≤ 3072) (hi : i + 6 ≤ L) (hL : LA s wC wM M N H) (h : Rel M N) (hl : lv_has ls 4 [(3, .int (nI i)), (2, .ref (za wM 0)), (1, .ref (za wC 0)), (0, .ref b)])
    (kk : ∀ (M N : zM) (H : Heap), LA s wC wM M N H → Rel M N → W p l e room_1 s m args below meth c H [] cells slots Q (F0 m 1526 ls [])) : W p l e room_1 s m args below meth c H [] cells slots Q (F0 m 476 ls []) := by
  refine lv_aload_n S.1 S.2.1 dL_law_476 rfl (lv_at hl 2 rfl) ?_
  refine w_arg S hX hbl hL hLs hl 1 (by omega) dL_law_477 dL_law_478 dL_law_479 (by decide) dL_law_480 dL_law_481 ?_
  refine w_arg S hX hbl hL hLs hl 2 (by omega) dL_law_482 dL_law_483 dL_law_484 (by decide) dL_law_485 dL_law_486 ?_
  obtain ⟨r, M', N', e1, e2, hr⟩ := s_turn h (xs (i + 1)) (xs (i + 2))
  refine w_callC (As := [.int (xs (i + 1)), .int (xs (i + 2))]) (rest := []) S F hL hl.1 (kX9_turn l F.1 e1) arX9_turn u399 u400 u401 u402 rfl rfl rfl (Nat.le_of_ble_eq_true rfl) (Nat.le_of_ble_eq_true rfl) hc hs rfl (Nat.le_of_ble_eq_true rfl) dL_law_487 (fun H hL => ?_)
  refine lv_aload_n S.1 S.2.1 dL_law_490 rfl (lv_at hl 1 rfl) ?_
  refine w_arg S hX hbl hL hLs hl 1 (by omega) dL_law_491 dL_law_492 dL_law_493 (by decide) dL_law_494 dL_law_495 ?_
  refine w_arg S hX hbl hL hLs hl 2 (by omega) dL_law_496 dL_law_497 dL_law_498 (by decide) dL_law_499 dL_law_500 ?_
  refine w_callM (As := [.int (xs (i + 1)), .int (xs (i + 2))]) (rest := [.int r]) S F hL hl.1 (kX10_turn l F.2.1 e2) arX10_turn u939 u940 u941 u942 rfl rfl rfl (Nat.le_of_ble_eq_true rfl) (Nat.le_of_ble_eq_true rfl) hc hs rfl (Nat.le_of_ble_eq_true rfl) dL_law_501 (fun H hL => ?_)
  refine lv_icmp_eq (tgt := 1526) S.1 S.2.1 dL_law_504 (by decide) (fun _ => kk M' N' H hL hr) (fun c6 => absurd rfl c6)
theorem lc_as (S : CallFix p m c cL_law 4 s args zU RL) (F : LF s wC wM) (hc : cells ≤ room_1.cells) (hs : slots ≤ room_1.slots) (hX : va_X b L xs s s.heap) (hbl : b < s.heap.size) (hLs : L ≤ 3072) (hi : i + 6 ≤ L) (hL : LA s wC wM M N H) (h : Rel M N) (hl : lv_has ls 4 [(3, .int (nI i)), (2, .ref (za wM 0)), (1, .ref (za wC 0)), (0, .ref b)])
    (kk : ∀ (M N : zM) (H : Heap), LA s wC wM M N H → Rel M N → W p l e room_1 s m args below meth c H [] cells slots Q (F0 m 1526 ls [])) : W p l e room_1 s m args below meth c H [] cells slots Q (F0 m 509 ls []) := by
  refine lv_aload_n S.1 S.2.1 dL_law_509 rfl (lv_at hl 2 rfl) ?_
  refine w_arg S hX hbl hL hLs hl 1 (by omega) dL_law_510 dL_law_511 dL_law_512 (by decide) dL_law_513 dL_law_514 ?_
  refine w_arg S hX hbl hL hLs hl 2 (by omega) dL_law_515 dL_law_516 dL_law_517 (by decide) dL_law_518 dL_law_519 ?_
  obtain ⟨r, M', N', e1, e2, hr⟩ := s_as h (xs (i + 1)) (xs (i + 2))
  refine w_callC (As := [.int (xs (i + 1)), .int (xs (i + 2))]) (rest := []) S F hL hl.1 (kX9_as l F.1 e1) arX9_as u403 u404 u405 u406 rfl rfl rfl (Nat.le_of_ble_eq_true rfl) (Nat.le_of_ble_eq_true rfl) hc hs rfl (Nat.le_of_ble_eq_true rfl) dL_law_520 (fun H hL => ?_)
  refine lv_aload_n S.1 S.2.1 dL_law_523 rfl (lv_at hl 1 rfl) ?_
  refine w_arg S hX hbl hL hLs hl 1 (by omega) dL_law_524 dL_law_525 dL_law_526 (by decide) dL_law_527 dL_law_528 ?_
  refine w_arg S hX hbl hL hLs hl 2 (by omega) dL_law_529 dL_law_530 dL_law_531 (by decide) dL_law_532 dL_law_533 ?_
  refine w_callM (As := [.int (xs (i + 1)), .int (xs (i + 2))]) (rest := [.int r]) S F hL hl.1 (kX10_as l F.2.1 e2) arX10_as u943 u944 u945 u946 rfl rfl rfl (Nat.le_of_ble_eq_true rfl) (Nat.le_of_ble_eq_true rfl) hc hs rfl (Nat.le_of_ble_eq_true rfl) dL_law_534 (fun H hL => ?_)
  refine lv_icmp_eq (tgt := 1526) S.1 S.2.1 dL_law_537 (by decide) (fun _ => kk M' N' H hL hr) (fun c6 => absurd rfl c6)
theorem lc_wearer (S : CallFix p m c cL_law 4 s args zU RL) (F : LF s wC wM) (hc : cells ≤ room_1.cells) (hs : slots ≤ room_1.slots) (hX : va_X b L xs s s.heap) (hbl : b < s.heap.size) (hLs : L ≤ 3072) (hi : i + 6 ≤ L) (hL : LA s wC wM M N H) (h : Rel M N) (hl : lv_has ls 4 [(3, .int (nI i)), (2, .ref (za wM 0)), (1, .ref (za wC 0)), (0, .ref b)])
    (kk : ∀ (M N : zM) (H : Heap), LA s wC wM M N H → Rel M N → W p l e room_1 s m args below meth c H [] cells slots Q (F0 m 1526 ls [])) : W p l e room_1 s m args below meth c H [] cells slots Q (F0 m 542 ls []) := by
  refine lv_aload_n S.1 S.2.1 dL_law_542 rfl (lv_at hl 2 rfl) ?_
  refine w_arg S hX hbl hL hLs hl 1 (by omega) dL_law_543 dL_law_544 dL_law_545 (by decide) dL_law_546 dL_law_547 ?_
  obtain ⟨r, M', N', e1, e2, hr⟩ := s_wearer h (xs (i + 1))
  refine w_callC (As := [.int (xs (i + 1))]) (rest := []) S F hL hl.1 (kX9_wearer l F.1 e1) arX9_wearer u412 u413 u414 u415 rfl rfl rfl (Nat.le_of_ble_eq_true rfl) (Nat.le_of_ble_eq_true rfl) hc hs rfl (Nat.le_of_ble_eq_true rfl) dL_law_548 (fun H hL => ?_)
  refine lv_aload_n S.1 S.2.1 dL_law_551 rfl (lv_at hl 1 rfl) ?_
  refine w_arg S hX hbl hL hLs hl 1 (by omega) dL_law_552 dL_law_553 dL_law_554 (by decide) dL_law_555 dL_law_556 ?_
  refine w_callM (As := [.int (xs (i + 1))]) (rest := [.int r]) S F hL hl.1 (kX10_wearer l F.2.1 e2) arX10_wearer u951 u952 u953 u954 rfl rfl rfl (Nat.le_of_ble_eq_true rfl) (Nat.le_of_ble_eq_true rfl) hc hs rfl (Nat.le_of_ble_eq_true rfl) dL_law_557 (fun H hL => ?_)
  refine lv_icmp_eq (tgt := 1526) S.1 S.2.1 dL_law_560 (by decide) (fun _ => kk M' N' H hL hr) (fun c6 => absurd rfl c6)
theorem lc_wearerOf (S : CallFix p m c cL_law 4 s args zU RL) (F : LF s wC wM) (hc : cells ≤ room_1.cells) (hs : slots ≤ room_1.slots) (hX : va_X b L xs s s.heap) (hbl : b < s.heap.size) (hLs : L ≤ 3072) (hi : i + 6 ≤ L) (hL : LA s wC wM M N H) (h : Rel M N) (hl : lv_has ls 4 [(3, .int (nI i)), (2, .ref (za wM 0)), (1, .ref (za wC 0)), (0, .ref b)])
    (kk : ∀ (M N : zM) (H : Heap), LA s wC wM M N H → Rel M N → W p l e room_1 s m args below meth c H [] cells slots Q (F0 m 1526 ls [])) : W p l e room_1 s m args below meth c H [] cells slots Q (F0 m 565 ls []) := by
  refine lv_aload_n S.1 S.2.1 dL_law_565 rfl (lv_at hl 2 rfl) ?_
  refine w_arg S hX hbl hL hLs hl 1 (by omega) dL_law_566 dL_law_567 dL_law_568 (by decide) dL_law_569 dL_law_570 ?_
  refine w_arg S hX hbl hL hLs hl 2 (by omega) dL_law_571 dL_law_572 dL_law_573 (by decide) dL_law_574 dL_law_575 ?_
  obtain ⟨r, M', N', e1, e2, hr⟩ := s_wearerOf h (xs (i + 1)) (xs (i + 2))
  refine w_callC (As := [.int (xs (i + 1)), .int (xs (i + 2))]) (rest := []) S F hL hl.1 (kX9_wearerOf l F.1 e1) arX9_wearerOf u420 u421 u422 u423 rfl rfl rfl (Nat.le_of_ble_eq_true rfl) (Nat.le_of_ble_eq_true rfl) hc hs rfl (Nat.le_of_ble_eq_true rfl) dL_law_576 (fun H hL => ?_)
  refine lv_aload_n S.1 S.2.1 dL_law_579 rfl (lv_at hl 1 rfl) ?_
  refine w_arg S hX hbl hL hLs hl 1 (by omega) dL_law_580 dL_law_581 dL_law_582 (by decide) dL_law_583 dL_law_584 ?_
  refine w_arg S hX hbl hL hLs hl 2 (by omega) dL_law_585 dL_law_586 dL_law_587 (by decide) dL_law_588 dL_law_589 ?_
  refine w_callM (As := [.int (xs (i + 1)), .int (xs (i + 2))]) (rest := [.int r]) S F hL hl.1 (kX10_wearerOf l F.2.1 e2) arX10_wearerOf u960 u961 u962 u963 rfl rfl rfl (Nat.le_of_ble_eq_true rfl) (Nat.le_of_ble_eq_true rfl) hc hs rfl (Nat.le_of_ble_eq_true rfl) dL_law_590 (fun H hL => ?_)
  refine lv_icmp_eq (tgt := 1526) S.1 S.2.1 dL_law_593 (by decide) (fun _ => kk M' N' H hL hr) (fun c6 => absurd rfl c6)
theorem lc_give (S : CallFix p m c cL_law 4 s args zU RL) (F : LF s wC wM) (hc : cells ≤ room_1.cells) (hs : slots ≤ room_1.slots) (hX : va_X b L xs s s.heap) (hbl : b < s.heap.size) (hLs : L ≤ 3072) (hi : i + 6 ≤ L) (hL : LA s wC wM M N H) (h : Rel M N) (hl : lv_has ls 4 [(3, .int (nI i)), (2, .ref (za wM 0)), (1, .ref (za wC 0)), (0, .ref b)])
    (kk : ∀ (M N : zM) (H : Heap), LA s wC wM M N H → Rel M N → W p l e room_1 s m args below meth c H [] cells slots Q (F0 m 1526 ls [])) : W p l e room_1 s m args below meth c H [] cells slots Q (F0 m 598 ls []) := by
  refine lv_aload_n S.1 S.2.1 dL_law_598 rfl (lv_at hl 2 rfl) ?_
  refine w_arg S hX hbl hL hLs hl 1 (by omega) dL_law_599 dL_law_600 dL_law_601 (by decide) dL_law_602 dL_law_603 ?_
  refine w_arg S hX hbl hL hLs hl 2 (by omega) dL_law_604 dL_law_605 dL_law_606 (by decide) dL_law_607 dL_law_608 ?_
  refine w_arg S hX hbl hL hLs hl 3 (by omega) dL_law_609 dL_law_610 dL_law_611 (by decide) dL_law_612 dL_law_613 ?_
  obtain ⟨r, M', N', e1, e2, hr⟩ := s_give h (xs (i + 1)) (xs (i + 2)) (xs (i + 3))
  refine w_callC (As := [.int (xs (i + 1)), .int (xs (i + 2)), .int (xs (i + 3))]) (rest := []) S F hL hl.1 (kX9_give l F.1 e1) arX9_give u429 u430 u431 u432 rfl rfl rfl (Nat.le_of_ble_eq_true rfl) (Nat.le_of_ble_eq_true rfl) hc hs rfl (Nat.le_of_ble_eq_true rfl) dL_law_614 (fun H hL => ?_)
  refine lv_aload_n S.1 S.2.1 dL_law_617 rfl (lv_at hl 1 rfl) ?_
  refine w_arg S hX hbl hL hLs hl 1 (by omega) dL_law_618 dL_law_619 dL_law_620 (by decide) dL_law_621 dL_law_622 ?_
  refine w_arg S hX hbl hL hLs hl 2 (by omega) dL_law_623 dL_law_624 dL_law_625 (by decide) dL_law_626 dL_law_627 ?_
  refine w_arg S hX hbl hL hLs hl 3 (by omega) dL_law_628 dL_law_629 dL_law_630 (by decide) dL_law_631 dL_law_632 ?_
  refine w_callM (As := [.int (xs (i + 1)), .int (xs (i + 2)), .int (xs (i + 3))]) (rest := [.int r]) S F hL hl.1 (kX10_give l F.2.1 e2) arX10_give u973 u974 u975 u976 rfl rfl rfl (Nat.le_of_ble_eq_true rfl) (Nat.le_of_ble_eq_true rfl) hc hs rfl (Nat.le_of_ble_eq_true rfl) dL_law_633 (fun H hL => ?_)
  refine lv_icmp_eq (tgt := 1526) S.1 S.2.1 dL_law_636 (by decide) (fun _ => kk M' N' H hL hr) (fun c6 => absurd rfl c6)
theorem lc_hire (S : CallFix p m c cL_law 4 s args zU RL) (F : LF s wC wM) (hc : cells ≤ room_1.cells) (hs : slots ≤ room_1.slots) (hX : va_X b L xs s s.heap) (hbl : b < s.heap.size) (hLs : L ≤ 3072) (hi : i + 6 ≤ L) (hL : LA s wC wM M N H) (h : Rel M N) (hl : lv_has ls 4 [(3, .int (nI i)), (2, .ref (za wM 0)), (1, .ref (za wC 0)), (0, .ref b)])
    (kk : ∀ (M N : zM) (H : Heap), LA s wC wM M N H → Rel M N → W p l e room_1 s m args below meth c H [] cells slots Q (F0 m 1526 ls [])) : W p l e room_1 s m args below meth c H [] cells slots Q (F0 m 641 ls []) := by
  refine lv_aload_n S.1 S.2.1 dL_law_641 rfl (lv_at hl 2 rfl) ?_
  refine w_arg S hX hbl hL hLs hl 1 (by omega) dL_law_642 dL_law_643 dL_law_644 (by decide) dL_law_645 dL_law_646 ?_
  refine w_arg S hX hbl hL hLs hl 2 (by omega) dL_law_647 dL_law_648 dL_law_649 (by decide) dL_law_650 dL_law_651 ?_
  obtain ⟨r, M', N', e1, e2, hr⟩ := s_hire h (xs (i + 1)) (xs (i + 2))
  refine w_callC (As := [.int (xs (i + 1)), .int (xs (i + 2))]) (rest := []) S F hL hl.1 (kX9_hire l F.1 e1) arX9_hire u433 u434 u435 u436 rfl rfl rfl (Nat.le_of_ble_eq_true rfl) (Nat.le_of_ble_eq_true rfl) hc hs rfl (Nat.le_of_ble_eq_true rfl) dL_law_652 (fun H hL => ?_)
  refine lv_aload_n S.1 S.2.1 dL_law_655 rfl (lv_at hl 1 rfl) ?_
  refine w_arg S hX hbl hL hLs hl 1 (by omega) dL_law_656 dL_law_657 dL_law_658 (by decide) dL_law_659 dL_law_660 ?_
  refine w_arg S hX hbl hL hLs hl 2 (by omega) dL_law_661 dL_law_662 dL_law_663 (by decide) dL_law_664 dL_law_665 ?_
  refine w_callM (As := [.int (xs (i + 1)), .int (xs (i + 2))]) (rest := [.int r]) S F hL hl.1 (kX10_hire l F.2.1 e2) arX10_hire u977 u978 u979 u980 rfl rfl rfl (Nat.le_of_ble_eq_true rfl) (Nat.le_of_ble_eq_true rfl) hc hs rfl (Nat.le_of_ble_eq_true rfl) dL_law_666 (fun H hL => ?_)
  refine lv_icmp_eq (tgt := 1526) S.1 S.2.1 dL_law_669 (by decide) (fun _ => kk M' N' H hL hr) (fun c6 => absurd rfl c6)
theorem lc_back (S : CallFix p m c cL_law 4 s args zU RL) (F : LF s wC wM) (hc : cells ≤ room_1.cells) (hs : slots ≤ room_1.slots) (hX : va_X b L xs s s.heap) (hbl : b < s.heap.size) (hLs : L ≤ 3072) (hi : i + 6 ≤ L) (hL : LA s wC wM M N H) (h : Rel M N) (hl : lv_has ls 4 [(3, .int (nI i)), (2, .ref (za wM 0)), (1, .ref (za wC 0)), (0, .ref b)])
    (kk : ∀ (M N : zM) (H : Heap), LA s wC wM M N H → Rel M N → W p l e room_1 s m args below meth c H [] cells slots Q (F0 m 1526 ls [])) : W p l e room_1 s m args below meth c H [] cells slots Q (F0 m 674 ls []) := by
  refine lv_aload_n S.1 S.2.1 dL_law_674 rfl (lv_at hl 2 rfl) ?_
  refine w_arg S hX hbl hL hLs hl 1 (by omega) dL_law_675 dL_law_676 dL_law_677 (by decide) dL_law_678 dL_law_679 ?_
  obtain ⟨r, M', N', e1, e2, hr⟩ := s_back h (xs (i + 1))
  refine w_callC (As := [.int (xs (i + 1))]) (rest := []) S F hL hl.1 (kX9_back l F.1 e1) arX9_back u441 u442 u443 u444 rfl rfl rfl (Nat.le_of_ble_eq_true rfl) (Nat.le_of_ble_eq_true rfl) hc hs rfl (Nat.le_of_ble_eq_true rfl) dL_law_680 (fun H hL => ?_)
  refine lv_aload_n S.1 S.2.1 dL_law_683 rfl (lv_at hl 1 rfl) ?_
  refine w_arg S hX hbl hL hLs hl 1 (by omega) dL_law_684 dL_law_685 dL_law_686 (by decide) dL_law_687 dL_law_688 ?_
  refine w_callM (As := [.int (xs (i + 1))]) (rest := [.int r]) S F hL hl.1 (kX10_back l F.2.1 e2) arX10_back u982 u983 u984 u985 rfl rfl rfl (Nat.le_of_ble_eq_true rfl) (Nat.le_of_ble_eq_true rfl) hc hs rfl (Nat.le_of_ble_eq_true rfl) dL_law_689 (fun H hL => ?_)
  refine lv_icmp_eq (tgt := 1526) S.1 S.2.1 dL_law_692 (by decide) (fun _ => kk M' N' H hL hr) (fun c6 => absurd rfl c6)
theorem lc_nights (S : CallFix p m c cL_law 4 s args zU RL) (F : LF s wC wM) (hc : cells ≤ room_1.cells) (hs : slots ≤ room_1.slots) (hX : va_X b L xs s s.heap) (hbl : b < s.heap.size) (hLs : L ≤ 3072) (hi : i + 6 ≤ L) (hL : LA s wC wM M N H) (h : Rel M N) (hl : lv_has ls 4 [(3, .int (nI i)), (2, .ref (za wM 0)), (1, .ref (za wC 0)), (0, .ref b)])
    (kk : ∀ (M N : zM) (H : Heap), LA s wC wM M N H → Rel M N → W p l e room_1 s m args below meth c H [] cells slots Q (F0 m 1526 ls [])) : W p l e room_1 s m args below meth c H [] cells slots Q (F0 m 697 ls []) := by
  refine lv_aload_n S.1 S.2.1 dL_law_697 rfl (lv_at hl 2 rfl) ?_
  refine w_arg S hX hbl hL hLs hl 1 (by omega) dL_law_698 dL_law_699 dL_law_700 (by decide) dL_law_701 dL_law_702 ?_
  obtain ⟨r, M', N', e1, e2, hr⟩ := s_nights h (xs (i + 1))
  refine w_callC (As := [.int (xs (i + 1))]) (rest := []) S F hL hl.1 (kX9_nights l F.1 e1) arX9_nights u449 u450 u451 u452 rfl rfl rfl (Nat.le_of_ble_eq_true rfl) (Nat.le_of_ble_eq_true rfl) hc hs rfl (Nat.le_of_ble_eq_true rfl) dL_law_703 (fun H hL => ?_)
  refine lv_aload_n S.1 S.2.1 dL_law_706 rfl (lv_at hl 1 rfl) ?_
  refine w_arg S hX hbl hL hLs hl 1 (by omega) dL_law_707 dL_law_708 dL_law_709 (by decide) dL_law_710 dL_law_711 ?_
  refine w_callM (As := [.int (xs (i + 1))]) (rest := [.int r]) S F hL hl.1 (kX10_nights l F.2.1 e2) arX10_nights u986 u987 u988 u989 rfl rfl rfl (Nat.le_of_ble_eq_true rfl) (Nat.le_of_ble_eq_true rfl) hc hs rfl (Nat.le_of_ble_eq_true rfl) dL_law_712 (fun H hL => ?_)
  refine lv_icmp_eq (tgt := 1526) S.1 S.2.1 dL_law_715 (by decide) (fun _ => kk M' N' H hL hr) (fun c6 => absurd rfl c6)
theorem lc_on (S : CallFix p m c cL_law 4 s args zU RL) (F : LF s wC wM) (hc : cells ≤ room_1.cells) (hs : slots ≤ room_1.slots) (hX : va_X b L xs s s.heap) (hbl : b < s.heap.size) (hLs : L ≤ 3072) (hi : i + 6 ≤ L) (hL : LA s wC wM M N H) (h : Rel M N) (hl : lv_has ls 4 [(3, .int (nI i)), (2, .ref (za wM 0)), (1, .ref (za wC 0)), (0, .ref b)])
    (kk : ∀ (M N : zM) (H : Heap), LA s wC wM M N H → Rel M N → W p l e room_1 s m args below meth c H [] cells slots Q (F0 m 1526 ls [])) : W p l e room_1 s m args below meth c H [] cells slots Q (F0 m 720 ls []) := by
  refine lv_aload_n S.1 S.2.1 dL_law_720 rfl (lv_at hl 2 rfl) ?_
  refine w_arg S hX hbl hL hLs hl 1 (by omega) dL_law_721 dL_law_722 dL_law_723 (by decide) dL_law_724 dL_law_725 ?_
  refine w_arg S hX hbl hL hLs hl 2 (by omega) dL_law_726 dL_law_727 dL_law_728 (by decide) dL_law_729 dL_law_730 ?_
  refine w_arg S hX hbl hL hLs hl 3 (by omega) dL_law_731 dL_law_732 dL_law_733 (by decide) dL_law_734 dL_law_735 ?_
  obtain ⟨r, M', N', e1, e2, hr⟩ := s_on h (xs (i + 1)) (xs (i + 2)) (xs (i + 3))
  refine w_callC (As := [.int (xs (i + 1)), .int (xs (i + 2)), .int (xs (i + 3))]) (rest := []) S F hL hl.1 (kX9_on l F.1 e1) arX9_on u480 u481 u482 u483 rfl rfl rfl (Nat.le_of_ble_eq_true rfl) (Nat.le_of_ble_eq_true rfl) hc hs rfl (Nat.le_of_ble_eq_true rfl) dL_law_736 (fun H hL => ?_)
  refine lv_aload_n S.1 S.2.1 dL_law_739 rfl (lv_at hl 1 rfl) ?_
  refine w_arg S hX hbl hL hLs hl 1 (by omega) dL_law_740 dL_law_741 dL_law_742 (by decide) dL_law_743 dL_law_744 ?_
  refine w_arg S hX hbl hL hLs hl 2 (by omega) dL_law_745 dL_law_746 dL_law_747 (by decide) dL_law_748 dL_law_749 ?_
  refine w_arg S hX hbl hL hLs hl 3 (by omega) dL_law_750 dL_law_751 dL_law_752 (by decide) dL_law_753 dL_law_754 ?_
  refine w_callM (As := [.int (xs (i + 1)), .int (xs (i + 2)), .int (xs (i + 3))]) (rest := [.int r]) S F hL hl.1 (kX10_on l F.2.1 e2) arX10_on u1011 u1012 u1013 u1014 rfl rfl rfl (Nat.le_of_ble_eq_true rfl) (Nat.le_of_ble_eq_true rfl) hc hs rfl (Nat.le_of_ble_eq_true rfl) dL_law_755 (fun H hL => ?_)
  refine lv_icmp_eq (tgt := 1526) S.1 S.2.1 dL_law_758 (by decide) (fun _ => kk M' N' H hL hr) (fun c6 => absurd rfl c6)
theorem lc_then (S : CallFix p m c cL_law 4 s args zU RL) (F : LF s wC wM) (hc : cells ≤ room_1.cells) (hs : slots ≤ room_1.slots) (hX : va_X b L xs s s.heap) (hbl : b < s.heap.size) (hLs : L ≤ 3072) (hi : i + 6 ≤ L) (hL : LA s wC wM M N H) (h : Rel M N) (hl : lv_has ls 4 [(3, .int (nI i)), (2, .ref (za wM 0)), (1, .ref (za wC 0)), (0, .ref b)])
    (kk : ∀ (M N : zM) (H : Heap), LA s wC wM M N H → Rel M N → W p l e room_1 s m args below meth c H [] cells slots Q (F0 m 1526 ls [])) : W p l e room_1 s m args below meth c H [] cells slots Q (F0 m 763 ls []) := by
  refine lv_aload_n S.1 S.2.1 dL_law_763 rfl (lv_at hl 2 rfl) ?_
  refine w_arg S hX hbl hL hLs hl 1 (by omega) dL_law_764 dL_law_765 dL_law_766 (by decide) dL_law_767 dL_law_768 ?_
  refine w_arg S hX hbl hL hLs hl 2 (by omega) dL_law_769 dL_law_770 dL_law_771 (by decide) dL_law_772 dL_law_773 ?_
  refine w_arg S hX hbl hL hLs hl 3 (by omega) dL_law_774 dL_law_775 dL_law_776 (by decide) dL_law_777 dL_law_778 ?_
  obtain ⟨r, M', N', e1, e2, hr⟩ := s_then h (xs (i + 1)) (xs (i + 2)) (xs (i + 3))
  refine w_callC (As := [.int (xs (i + 1)), .int (xs (i + 2)), .int (xs (i + 3))]) (rest := []) S F hL hl.1 (kX9_then l F.1 e1) arX9_then u495 u496 u497 u498 rfl rfl rfl (Nat.le_of_ble_eq_true rfl) (Nat.le_of_ble_eq_true rfl) hc hs rfl (Nat.le_of_ble_eq_true rfl) dL_law_779 (fun H hL => ?_)
  refine lv_aload_n S.1 S.2.1 dL_law_782 rfl (lv_at hl 1 rfl) ?_
  refine w_arg S hX hbl hL hLs hl 1 (by omega) dL_law_783 dL_law_784 dL_law_785 (by decide) dL_law_786 dL_law_787 ?_
  refine w_arg S hX hbl hL hLs hl 2 (by omega) dL_law_788 dL_law_789 dL_law_790 (by decide) dL_law_791 dL_law_792 ?_
  refine w_arg S hX hbl hL hLs hl 3 (by omega) dL_law_793 dL_law_794 dL_law_795 (by decide) dL_law_796 dL_law_797 ?_
  refine w_callM (As := [.int (xs (i + 1)), .int (xs (i + 2)), .int (xs (i + 3))]) (rest := [.int r]) S F hL hl.1 (kX10_then l F.2.1 e2) arX10_then u1035 u1036 u1037 u1038 rfl rfl rfl (Nat.le_of_ble_eq_true rfl) (Nat.le_of_ble_eq_true rfl) hc hs rfl (Nat.le_of_ble_eq_true rfl) dL_law_798 (fun H hL => ?_)
  refine lv_icmp_eq (tgt := 1526) S.1 S.2.1 dL_law_801 (by decide) (fun _ => kk M' N' H hL hr) (fun c6 => absurd rfl c6)
theorem lc_fond (S : CallFix p m c cL_law 4 s args zU RL) (F : LF s wC wM) (hc : cells ≤ room_1.cells) (hs : slots ≤ room_1.slots) (hX : va_X b L xs s s.heap) (hbl : b < s.heap.size) (hLs : L ≤ 3072) (hi : i + 6 ≤ L) (hL : LA s wC wM M N H) (h : Rel M N) (hl : lv_has ls 4 [(3, .int (nI i)), (2, .ref (za wM 0)), (1, .ref (za wC 0)), (0, .ref b)])
    (kk : ∀ (M N : zM) (H : Heap), LA s wC wM M N H → Rel M N → W p l e room_1 s m args below meth c H [] cells slots Q (F0 m 1526 ls [])) : W p l e room_1 s m args below meth c H [] cells slots Q (F0 m 806 ls []) := by
  refine lv_aload_n S.1 S.2.1 dL_law_806 rfl (lv_at hl 2 rfl) ?_
  refine w_arg S hX hbl hL hLs hl 1 (by omega) dL_law_807 dL_law_808 dL_law_809 (by decide) dL_law_810 dL_law_811 ?_
  refine w_arg S hX hbl hL hLs hl 2 (by omega) dL_law_812 dL_law_813 dL_law_814 (by decide) dL_law_815 dL_law_816 ?_
  obtain ⟨r, M', N', e1, e2, hr⟩ := s_fond h (xs (i + 1)) (xs (i + 2))
  refine w_callC (As := [.int (xs (i + 1)), .int (xs (i + 2))]) (rest := []) S F hL hl.1 (kX9_fond l F.1 e1) arX9_fond u499 u500 u501 u502 rfl rfl rfl (Nat.le_of_ble_eq_true rfl) (Nat.le_of_ble_eq_true rfl) hc hs rfl (Nat.le_of_ble_eq_true rfl) dL_law_817 (fun H hL => ?_)
  refine lv_aload_n S.1 S.2.1 dL_law_820 rfl (lv_at hl 1 rfl) ?_
  refine w_arg S hX hbl hL hLs hl 1 (by omega) dL_law_821 dL_law_822 dL_law_823 (by decide) dL_law_824 dL_law_825 ?_
  refine w_arg S hX hbl hL hLs hl 2 (by omega) dL_law_826 dL_law_827 dL_law_828 (by decide) dL_law_829 dL_law_830 ?_
  refine w_callM (As := [.int (xs (i + 1)), .int (xs (i + 2))]) (rest := [.int r]) S F hL hl.1 (kX10_fond l F.2.1 e2) arX10_fond u1039 u1040 u1041 u1042 rfl rfl rfl (Nat.le_of_ble_eq_true rfl) (Nat.le_of_ble_eq_true rfl) hc hs rfl (Nat.le_of_ble_eq_true rfl) dL_law_831 (fun H hL => ?_)
  refine lv_icmp_eq (tgt := 1526) S.1 S.2.1 dL_law_834 (by decide) (fun _ => kk M' N' H hL hr) (fun c6 => absurd rfl c6)
theorem lc_home (S : CallFix p m c cL_law 4 s args zU RL) (F : LF s wC wM) (hc : cells ≤ room_1.cells) (hs : slots ≤ room_1.slots) (hX : va_X b L xs s s.heap) (hbl : b < s.heap.size) (hLs : L ≤ 3072) (hi : i + 6 ≤ L) (hL : LA s wC wM M N H) (h : Rel M N) (hl : lv_has ls 4 [(3, .int (nI i)), (2, .ref (za wM 0)), (1, .ref (za wC 0)), (0, .ref b)])
    (kk : ∀ (M N : zM) (H : Heap), LA s wC wM M N H → Rel M N → W p l e room_1 s m args below meth c H [] cells slots Q (F0 m 1526 ls [])) : W p l e room_1 s m args below meth c H [] cells slots Q (F0 m 839 ls []) := by
  refine lv_aload_n S.1 S.2.1 dL_law_839 rfl (lv_at hl 2 rfl) ?_
  refine w_arg S hX hbl hL hLs hl 1 (by omega) dL_law_840 dL_law_841 dL_law_842 (by decide) dL_law_843 dL_law_844 ?_
  obtain ⟨r, M', N', e1, e2, hr⟩ := s_home h (xs (i + 1))
  refine w_callC (As := [.int (xs (i + 1))]) (rest := []) S F hL hl.1 (kX9_home l F.1 e1) arX9_home u503 u504 u505 u506 rfl rfl rfl (Nat.le_of_ble_eq_true rfl) (Nat.le_of_ble_eq_true rfl) hc hs rfl (Nat.le_of_ble_eq_true rfl) dL_law_845 (fun H hL => ?_)
  refine lv_aload_n S.1 S.2.1 dL_law_848 rfl (lv_at hl 1 rfl) ?_
  refine w_arg S hX hbl hL hLs hl 1 (by omega) dL_law_849 dL_law_850 dL_law_851 (by decide) dL_law_852 dL_law_853 ?_
  refine w_callM (As := [.int (xs (i + 1))]) (rest := [.int r]) S F hL hl.1 (kX10_home l F.2.1 e2) arX10_home u1043 u1044 u1045 u1046 rfl rfl rfl (Nat.le_of_ble_eq_true rfl) (Nat.le_of_ble_eq_true rfl) hc hs rfl (Nat.le_of_ble_eq_true rfl) dL_law_854 (fun H hL => ?_)
  refine lv_icmp_eq (tgt := 1526) S.1 S.2.1 dL_law_857 (by decide) (fun _ => kk M' N' H hL hr) (fun c6 => absurd rfl c6)
theorem lc_falls (S : CallFix p m c cL_law 4 s args zU RL) (F : LF s wC wM) (hc : cells ≤ room_1.cells) (hs : slots ≤ room_1.slots) (hX : va_X b L xs s s.heap) (hbl : b < s.heap.size) (hLs : L ≤ 3072) (hi : i + 6 ≤ L) (hL : LA s wC wM M N H) (h : Rel M N) (hl : lv_has ls 4 [(3, .int (nI i)), (2, .ref (za wM 0)), (1, .ref (za wC 0)), (0, .ref b)])
    (kk : ∀ (M N : zM) (H : Heap), LA s wC wM M N H → Rel M N → W p l e room_1 s m args below meth c H [] cells slots Q (F0 m 1526 ls [])) : W p l e room_1 s m args below meth c H [] cells slots Q (F0 m 862 ls []) := by
  refine lv_aload_n S.1 S.2.1 dL_law_862 rfl (lv_at hl 2 rfl) ?_
  refine w_arg S hX hbl hL hLs hl 1 (by omega) dL_law_863 dL_law_864 dL_law_865 (by decide) dL_law_866 dL_law_867 ?_
  refine w_arg S hX hbl hL hLs hl 2 (by omega) dL_law_868 dL_law_869 dL_law_870 (by decide) dL_law_871 dL_law_872 ?_
  obtain ⟨r, M', N', e1, e2, hr⟩ := s_falls h (xs (i + 1)) (xs (i + 2))
  refine w_callC (As := [.int (xs (i + 1)), .int (xs (i + 2))]) (rest := []) S F hL hl.1 (kX9_falls l F.1 e1) arX9_falls u508 u509 u510 u511 rfl rfl rfl (Nat.le_of_ble_eq_true rfl) (Nat.le_of_ble_eq_true rfl) hc hs rfl (Nat.le_of_ble_eq_true rfl) dL_law_873 (fun H hL => ?_)
  refine lv_aload_n S.1 S.2.1 dL_law_876 rfl (lv_at hl 1 rfl) ?_
  refine w_arg S hX hbl hL hLs hl 1 (by omega) dL_law_877 dL_law_878 dL_law_879 (by decide) dL_law_880 dL_law_881 ?_
  refine w_arg S hX hbl hL hLs hl 2 (by omega) dL_law_882 dL_law_883 dL_law_884 (by decide) dL_law_885 dL_law_886 ?_
  refine w_callM (As := [.int (xs (i + 1)), .int (xs (i + 2))]) (rest := [.int r]) S F hL hl.1 (kX10_falls l F.2.1 e2) arX10_falls u1052 u1053 u1054 u1055 rfl rfl rfl (Nat.le_of_ble_eq_true rfl) (Nat.le_of_ble_eq_true rfl) hc hs rfl (Nat.le_of_ble_eq_true rfl) dL_law_887 (fun H hL => ?_)
  refine lv_icmp_eq (tgt := 1526) S.1 S.2.1 dL_law_890 (by decide) (fun _ => kk M' N' H hL hr) (fun c6 => absurd rfl c6)
theorem lc_best (S : CallFix p m c cL_law 4 s args zU RL) (F : LF s wC wM) (hc : cells ≤ room_1.cells) (hs : slots ≤ room_1.slots) (hX : va_X b L xs s s.heap) (hbl : b < s.heap.size) (hLs : L ≤ 3072) (hi : i + 6 ≤ L) (hL : LA s wC wM M N H) (h : Rel M N) (hl : lv_has ls 4 [(3, .int (nI i)), (2, .ref (za wM 0)), (1, .ref (za wC 0)), (0, .ref b)])
    (kk : ∀ (M N : zM) (H : Heap), LA s wC wM M N H → Rel M N → W p l e room_1 s m args below meth c H [] cells slots Q (F0 m 1526 ls [])) : W p l e room_1 s m args below meth c H [] cells slots Q (F0 m 895 ls []) := by
  refine lv_aload_n S.1 S.2.1 dL_law_895 rfl (lv_at hl 2 rfl) ?_
  refine w_arg S hX hbl hL hLs hl 1 (by omega) dL_law_896 dL_law_897 dL_law_898 (by decide) dL_law_899 dL_law_900 ?_
  refine w_arg S hX hbl hL hLs hl 2 (by omega) dL_law_901 dL_law_902 dL_law_903 (by decide) dL_law_904 dL_law_905 ?_
  obtain ⟨r, M', N', e1, e2, hr⟩ := s_best h (xs (i + 1)) (xs (i + 2))
  refine w_callC (As := [.int (xs (i + 1)), .int (xs (i + 2))]) (rest := []) S F hL hl.1 (kX9_best l F.1 e1) arX9_best u512 u513 u514 u515 rfl rfl rfl (Nat.le_of_ble_eq_true rfl) (Nat.le_of_ble_eq_true rfl) hc hs rfl (Nat.le_of_ble_eq_true rfl) dL_law_906 (fun H hL => ?_)
  refine lv_aload_n S.1 S.2.1 dL_law_909 rfl (lv_at hl 1 rfl) ?_
  refine w_arg S hX hbl hL hLs hl 1 (by omega) dL_law_910 dL_law_911 dL_law_912 (by decide) dL_law_913 dL_law_914 ?_
  refine w_arg S hX hbl hL hLs hl 2 (by omega) dL_law_915 dL_law_916 dL_law_917 (by decide) dL_law_918 dL_law_919 ?_
  refine w_callM (As := [.int (xs (i + 1)), .int (xs (i + 2))]) (rest := [.int r]) S F hL hl.1 (kX10_best l F.2.1 e2) arX10_best u1056 u1057 u1058 u1059 rfl rfl rfl (Nat.le_of_ble_eq_true rfl) (Nat.le_of_ble_eq_true rfl) hc hs rfl (Nat.le_of_ble_eq_true rfl) dL_law_920 (fun H hL => ?_)
  refine lv_icmp_eq (tgt := 1526) S.1 S.2.1 dL_law_923 (by decide) (fun _ => kk M' N' H hL hr) (fun c6 => absurd rfl c6)
theorem lc_round (S : CallFix p m c cL_law 4 s args zU RL) (F : LF s wC wM) (hc : cells ≤ room_1.cells) (hs : slots ≤ room_1.slots) (hX : va_X b L xs s s.heap) (hbl : b < s.heap.size) (hLs : L ≤ 3072) (hi : i + 6 ≤ L) (hL : LA s wC wM M N H) (h : Rel M N) (hl : lv_has ls 4 [(3, .int (nI i)), (2, .ref (za wM 0)), (1, .ref (za wC 0)), (0, .ref b)])
    (kk : ∀ (M N : zM) (H : Heap), LA s wC wM M N H → Rel M N → W p l e room_1 s m args below meth c H [] cells slots Q (F0 m 1526 ls [])) : W p l e room_1 s m args below meth c H [] cells slots Q (F0 m 928 ls []) := by
  refine lv_aload_n S.1 S.2.1 dL_law_928 rfl (lv_at hl 2 rfl) ?_
  refine w_arg S hX hbl hL hLs hl 1 (by omega) dL_law_929 dL_law_930 dL_law_931 (by decide) dL_law_932 dL_law_933 ?_
  refine w_arg S hX hbl hL hLs hl 2 (by omega) dL_law_934 dL_law_935 dL_law_936 (by decide) dL_law_937 dL_law_938 ?_
  obtain ⟨r, M', N', e1, e2, hr⟩ := s_round h (xs (i + 1)) (xs (i + 2))
  refine w_callC (As := [.int (xs (i + 1)), .int (xs (i + 2))]) (rest := []) S F hL hl.1 (kX9_round l F.1 e1) arX9_round u516 u517 u518 u519 rfl rfl rfl (Nat.le_of_ble_eq_true rfl) (Nat.le_of_ble_eq_true rfl) hc hs rfl (Nat.le_of_ble_eq_true rfl) dL_law_939 (fun H hL => ?_)
  refine lv_aload_n S.1 S.2.1 dL_law_942 rfl (lv_at hl 1 rfl) ?_
  refine w_arg S hX hbl hL hLs hl 1 (by omega) dL_law_943 dL_law_944 dL_law_945 (by decide) dL_law_946 dL_law_947 ?_
  refine w_arg S hX hbl hL hLs hl 2 (by omega) dL_law_948 dL_law_949 dL_law_950 (by decide) dL_law_951 dL_law_952 ?_
  refine w_callM (As := [.int (xs (i + 1)), .int (xs (i + 2))]) (rest := [.int r]) S F hL hl.1 (kX10_round l F.2.1 e2) arX10_round u1064 u1065 u1066 u1067 rfl rfl rfl (Nat.le_of_ble_eq_true rfl) (Nat.le_of_ble_eq_true rfl) hc hs rfl (Nat.le_of_ble_eq_true rfl) dL_law_953 (fun H hL => ?_)
  refine lv_icmp_eq (tgt := 1526) S.1 S.2.1 dL_law_956 (by decide) (fun _ => kk M' N' H hL hr) (fun c6 => absurd rfl c6)
theorem lc_kind (S : CallFix p m c cL_law 4 s args zU RL) (F : LF s wC wM) (hc : cells ≤ room_1.cells) (hs : slots ≤ room_1.slots) (hX : va_X b L xs s s.heap) (hbl : b < s.heap.size) (hLs : L ≤ 3072) (hi : i + 6 ≤ L) (hL : LA s wC wM M N H) (h : Rel M N) (hl : lv_has ls 4 [(3, .int (nI i)), (2, .ref (za wM 0)), (1, .ref (za wC 0)), (0, .ref b)])
    (kk : ∀ (M N : zM) (H : Heap), LA s wC wM M N H → Rel M N → W p l e room_1 s m args below meth c H [] cells slots Q (F0 m 1526 ls [])) : W p l e room_1 s m args below meth c H [] cells slots Q (F0 m 961 ls []) := by
  refine lv_aload_n S.1 S.2.1 dL_law_961 rfl (lv_at hl 2 rfl) ?_
  refine w_arg S hX hbl hL hLs hl 1 (by omega) dL_law_962 dL_law_963 dL_law_964 (by decide) dL_law_965 dL_law_966 ?_
  refine w_arg S hX hbl hL hLs hl 2 (by omega) dL_law_967 dL_law_968 dL_law_969 (by decide) dL_law_970 dL_law_971 ?_
  obtain ⟨r, M', N', e1, e2, hr⟩ := s_kind h (xs (i + 1)) (xs (i + 2))
  refine w_callC (As := [.int (xs (i + 1)), .int (xs (i + 2))]) (rest := []) S F hL hl.1 (kX9_kind l F.1 e1) arX9_kind u520 u521 u522 u523 rfl rfl rfl (Nat.le_of_ble_eq_true rfl) (Nat.le_of_ble_eq_true rfl) hc hs rfl (Nat.le_of_ble_eq_true rfl) dL_law_972 (fun H hL => ?_)
  refine lv_aload_n S.1 S.2.1 dL_law_975 rfl (lv_at hl 1 rfl) ?_
  refine w_arg S hX hbl hL hLs hl 1 (by omega) dL_law_976 dL_law_977 dL_law_978 (by decide) dL_law_979 dL_law_980 ?_
  refine w_arg S hX hbl hL hLs hl 2 (by omega) dL_law_981 dL_law_982 dL_law_983 (by decide) dL_law_984 dL_law_985 ?_
  refine w_callM (As := [.int (xs (i + 1)), .int (xs (i + 2))]) (rest := [.int r]) S F hL hl.1 (kX10_kind l F.2.1 e2) arX10_kind u1076 u1077 u1078 u1079 rfl rfl rfl (Nat.le_of_ble_eq_true rfl) (Nat.le_of_ble_eq_true rfl) hc hs rfl (Nat.le_of_ble_eq_true rfl) dL_law_986 (fun H hL => ?_)
  refine lv_icmp_eq (tgt := 1526) S.1 S.2.1 dL_law_989 (by decide) (fun _ => kk M' N' H hL hr) (fun c6 => absurd rfl c6)
theorem lc_enough (S : CallFix p m c cL_law 4 s args zU RL) (F : LF s wC wM) (hc : cells ≤ room_1.cells) (hs : slots ≤ room_1.slots) (hX : va_X b L xs s s.heap) (hbl : b < s.heap.size) (hLs : L ≤ 3072) (hi : i + 6 ≤ L) (hL : LA s wC wM M N H) (h : Rel M N) (hl : lv_has ls 4 [(3, .int (nI i)), (2, .ref (za wM 0)), (1, .ref (za wC 0)), (0, .ref b)])
    (kk : ∀ (M N : zM) (H : Heap), LA s wC wM M N H → Rel M N → W p l e room_1 s m args below meth c H [] cells slots Q (F0 m 1526 ls [])) : W p l e room_1 s m args below meth c H [] cells slots Q (F0 m 994 ls []) := by
  refine lv_aload_n S.1 S.2.1 dL_law_994 rfl (lv_at hl 2 rfl) ?_
  refine w_arg S hX hbl hL hLs hl 1 (by omega) dL_law_995 dL_law_996 dL_law_997 (by decide) dL_law_998 dL_law_999 ?_
  refine w_arg S hX hbl hL hLs hl 2 (by omega) dL_law_1000 dL_law_1001 dL_law_1002 (by decide) dL_law_1003 dL_law_1004 ?_
  obtain ⟨r, M', N', e1, e2, hr⟩ := s_enough h (xs (i + 1)) (xs (i + 2))
  refine w_callC (As := [.int (xs (i + 1)), .int (xs (i + 2))]) (rest := []) S F hL hl.1 (kX9_enough l F.1 e1) arX9_enough u524 u525 u526 u527 rfl rfl rfl (Nat.le_of_ble_eq_true rfl) (Nat.le_of_ble_eq_true rfl) hc hs rfl (Nat.le_of_ble_eq_true rfl) dL_law_1005 (fun H hL => ?_)
  refine lv_aload_n S.1 S.2.1 dL_law_1008 rfl (lv_at hl 1 rfl) ?_
  refine w_arg S hX hbl hL hLs hl 1 (by omega) dL_law_1009 dL_law_1010 dL_law_1011 (by decide) dL_law_1012 dL_law_1013 ?_
  refine w_arg S hX hbl hL hLs hl 2 (by omega) dL_law_1014 dL_law_1015 dL_law_1016 (by decide) dL_law_1017 dL_law_1018 ?_
  refine w_callM (As := [.int (xs (i + 1)), .int (xs (i + 2))]) (rest := [.int r]) S F hL hl.1 (kX10_enough l F.2.1 e2) arX10_enough u1080 u1081 u1082 u1083 rfl rfl rfl (Nat.le_of_ble_eq_true rfl) (Nat.le_of_ble_eq_true rfl) hc hs rfl (Nat.le_of_ble_eq_true rfl) dL_law_1019 (fun H hL => ?_)
  refine lv_icmp_eq (tgt := 1526) S.1 S.2.1 dL_law_1022 (by decide) (fun _ => kk M' N' H hL hr) (fun c6 => absurd rfl c6)
theorem lc_please (S : CallFix p m c cL_law 4 s args zU RL) (F : LF s wC wM) (hc : cells ≤ room_1.cells) (hs : slots ≤ room_1.slots) (hX : va_X b L xs s s.heap) (hbl : b < s.heap.size) (hLs : L ≤ 3072) (hi : i + 6 ≤ L) (hL : LA s wC wM M N H) (h : Rel M N) (hl : lv_has ls 4 [(3, .int (nI i)), (2, .ref (za wM 0)), (1, .ref (za wC 0)), (0, .ref b)])
    (kk : ∀ (M N : zM) (H : Heap), LA s wC wM M N H → Rel M N → W p l e room_1 s m args below meth c H [] cells slots Q (F0 m 1526 ls [])) : W p l e room_1 s m args below meth c H [] cells slots Q (F0 m 1027 ls []) := by
  refine lv_aload_n S.1 S.2.1 dL_law_1027 rfl (lv_at hl 2 rfl) ?_
  refine w_arg S hX hbl hL hLs hl 1 (by omega) dL_law_1028 dL_law_1029 dL_law_1030 (by decide) dL_law_1031 dL_law_1032 ?_
  refine w_arg S hX hbl hL hLs hl 2 (by omega) dL_law_1033 dL_law_1034 dL_law_1035 (by decide) dL_law_1036 dL_law_1037 ?_
  refine w_arg S hX hbl hL hLs hl 3 (by omega) dL_law_1038 dL_law_1039 dL_law_1040 (by decide) dL_law_1041 dL_law_1042 ?_
  refine w_arg S hX hbl hL hLs hl 4 (by omega) dL_law_1043 dL_law_1044 dL_law_1045 (by decide) dL_law_1046 dL_law_1047 ?_
  obtain ⟨r, M', N', e1, e2, hr⟩ := s_please h (xs (i + 1)) (xs (i + 2)) (xs (i + 3)) (xs (i + 4))
  refine w_callC (As := [.int (xs (i + 1)), .int (xs (i + 2)), .int (xs (i + 3)), .int (xs (i + 4))]) (rest := []) S F hL hl.1 (kX9_please l F.1 e1) arX9_please u528 u529 u530 u531 rfl rfl rfl (Nat.le_of_ble_eq_true rfl) (Nat.le_of_ble_eq_true rfl) hc hs rfl (Nat.le_of_ble_eq_true rfl) dL_law_1048 (fun H hL => ?_)
  refine lv_aload_n S.1 S.2.1 dL_law_1051 rfl (lv_at hl 1 rfl) ?_
  refine w_arg S hX hbl hL hLs hl 1 (by omega) dL_law_1052 dL_law_1053 dL_law_1054 (by decide) dL_law_1055 dL_law_1056 ?_
  refine w_arg S hX hbl hL hLs hl 2 (by omega) dL_law_1057 dL_law_1058 dL_law_1059 (by decide) dL_law_1060 dL_law_1061 ?_
  refine w_arg S hX hbl hL hLs hl 3 (by omega) dL_law_1062 dL_law_1063 dL_law_1064 (by decide) dL_law_1065 dL_law_1066 ?_
  refine w_arg S hX hbl hL hLs hl 4 (by omega) dL_law_1067 dL_law_1068 dL_law_1069 (by decide) dL_law_1070 dL_law_1071 ?_
  refine w_callM (As := [.int (xs (i + 1)), .int (xs (i + 2)), .int (xs (i + 3)), .int (xs (i + 4))]) (rest := [.int r]) S F hL hl.1 (kX10_please l F.2.1 e2) arX10_please u1084 u1085 u1086 u1087 rfl rfl rfl (Nat.le_of_ble_eq_true rfl) (Nat.le_of_ble_eq_true rfl) hc hs rfl (Nat.le_of_ble_eq_true rfl) dL_law_1072 (fun H hL => ?_)
  refine lv_icmp_eq (tgt := 1526) S.1 S.2.1 dL_law_1075 (by decide) (fun _ => kk M' N' H hL hr) (fun c6 => absurd rfl c6)
theorem lc_richest (S : CallFix p m c cL_law 4 s args zU RL) (F : LF s wC wM) (hc : cells ≤ room_1.cells) (hs : slots ≤ room_1.slots) (hX : va_X b L xs s s.heap) (hbl : b < s.heap.size) (hLs : L ≤ 3072) (hi : i + 6 ≤ L) (hL : LA s wC wM M N H) (h : Rel M N) (hl : lv_has ls 4 [(3, .int (nI i)), (2, .ref (za wM 0)), (1, .ref (za wC 0)), (0, .ref b)])
    (kk : ∀ (M N : zM) (H : Heap), LA s wC wM M N H → Rel M N → W p l e room_1 s m args below meth c H [] cells slots Q (F0 m 1526 ls [])) : W p l e room_1 s m args below meth c H [] cells slots Q (F0 m 1080 ls []) := by
  refine lv_aload_n S.1 S.2.1 dL_law_1080 rfl (lv_at hl 2 rfl) ?_
  refine w_arg S hX hbl hL hLs hl 1 (by omega) dL_law_1081 dL_law_1082 dL_law_1083 (by decide) dL_law_1084 dL_law_1085 ?_
  obtain ⟨r, M', N', e1, e2, hr⟩ := s_richest h (xs (i + 1))
  refine w_callC (As := [.int (xs (i + 1))]) (rest := []) S F hL hl.1 (kX9_richest l F.1 e1) arX9_richest u532 u533 u534 u535 rfl rfl rfl (Nat.le_of_ble_eq_true rfl) (Nat.le_of_ble_eq_true rfl) hc hs rfl (Nat.le_of_ble_eq_true rfl) dL_law_1086 (fun H hL => ?_)
  refine lv_aload_n S.1 S.2.1 dL_law_1089 rfl (lv_at hl 1 rfl) ?_
  refine w_arg S hX hbl hL hLs hl 1 (by omega) dL_law_1090 dL_law_1091 dL_law_1092 (by decide) dL_law_1093 dL_law_1094 ?_
  refine w_callM (As := [.int (xs (i + 1))]) (rest := [.int r]) S F hL hl.1 (kX10_richest l F.2.1 e2) arX10_richest u1088 u1089 u1090 u1091 rfl rfl rfl (Nat.le_of_ble_eq_true rfl) (Nat.le_of_ble_eq_true rfl) hc hs rfl (Nat.le_of_ble_eq_true rfl) dL_law_1095 (fun H hL => ?_)
  refine lv_icmp_eq (tgt := 1526) S.1 S.2.1 dL_law_1098 (by decide) (fun _ => kk M' N' H hL hr) (fun c6 => absurd rfl c6)
theorem lc_feed (S : CallFix p m c cL_law 4 s args zU RL) (F : LF s wC wM) (hc : cells ≤ room_1.cells) (hs : slots ≤ room_1.slots) (hX : va_X b L xs s s.heap) (hbl : b < s.heap.size) (hLs : L ≤ 3072) (hi : i + 6 ≤ L) (hL : LA s wC wM M N H) (h : Rel M N) (hl : lv_has ls 4 [(3, .int (nI i)), (2, .ref (za wM 0)), (1, .ref (za wC 0)), (0, .ref b)])
    (kk : ∀ (M N : zM) (H : Heap), LA s wC wM M N H → Rel M N → W p l e room_1 s m args below meth c H [] cells slots Q (F0 m 1526 ls [])) : W p l e room_1 s m args below meth c H [] cells slots Q (F0 m 1103 ls []) := by
  refine lv_aload_n S.1 S.2.1 dL_law_1103 rfl (lv_at hl 2 rfl) ?_
  refine w_arg S hX hbl hL hLs hl 1 (by omega) dL_law_1104 dL_law_1105 dL_law_1106 (by decide) dL_law_1107 dL_law_1108 ?_
  refine w_arg S hX hbl hL hLs hl 2 (by omega) dL_law_1109 dL_law_1110 dL_law_1111 (by decide) dL_law_1112 dL_law_1113 ?_
  obtain ⟨r, M', N', e1, e2, hr⟩ := s_feed h (xs (i + 1)) (xs (i + 2))
  refine w_callC (As := [.int (xs (i + 1)), .int (xs (i + 2))]) (rest := []) S F hL hl.1 (kX9_feed l F.1 e1) arX9_feed u536 u537 u538 u539 rfl rfl rfl (Nat.le_of_ble_eq_true rfl) (Nat.le_of_ble_eq_true rfl) hc hs rfl (Nat.le_of_ble_eq_true rfl) dL_law_1114 (fun H hL => ?_)
  refine lv_aload_n S.1 S.2.1 dL_law_1117 rfl (lv_at hl 1 rfl) ?_
  refine w_arg S hX hbl hL hLs hl 1 (by omega) dL_law_1118 dL_law_1119 dL_law_1120 (by decide) dL_law_1121 dL_law_1122 ?_
  refine w_arg S hX hbl hL hLs hl 2 (by omega) dL_law_1123 dL_law_1124 dL_law_1125 (by decide) dL_law_1126 dL_law_1127 ?_
  refine w_callM (As := [.int (xs (i + 1)), .int (xs (i + 2))]) (rest := [.int r]) S F hL hl.1 (kX10_feed l F.2.1 e2) arX10_feed u1092 u1093 u1094 u1095 rfl rfl rfl (Nat.le_of_ble_eq_true rfl) (Nat.le_of_ble_eq_true rfl) hc hs rfl (Nat.le_of_ble_eq_true rfl) dL_law_1128 (fun H hL => ?_)
  refine lv_icmp_eq (tgt := 1526) S.1 S.2.1 dL_law_1131 (by decide) (fun _ => kk M' N' H hL hr) (fun c6 => absurd rfl c6)
theorem lc_wipe (S : CallFix p m c cL_law 4 s args zU RL) (F : LF s wC wM) (hc : cells ≤ room_1.cells) (hs : slots ≤ room_1.slots) (hX : va_X b L xs s s.heap) (hbl : b < s.heap.size) (hLs : L ≤ 3072) (hi : i + 6 ≤ L) (hL : LA s wC wM M N H) (h : Rel M N) (hl : lv_has ls 4 [(3, .int (nI i)), (2, .ref (za wM 0)), (1, .ref (za wC 0)), (0, .ref b)])
    (kk : ∀ (M N : zM) (H : Heap), LA s wC wM M N H → Rel M N → W p l e room_1 s m args below meth c H [] cells slots Q (F0 m 1526 ls [])) : W p l e room_1 s m args below meth c H [] cells slots Q (F0 m 1136 ls []) := by
  refine lv_aload_n S.1 S.2.1 dL_law_1136 rfl (lv_at hl 2 rfl) ?_
  obtain ⟨r, M', N', e1, e2, hr⟩ := s_wipe h
  refine w_callC (As := []) (rest := []) S F hL hl.1 (kX9_wipe l F.1 e1) arX9_wipe u544 u545 u546 u547 rfl rfl rfl (Nat.le_of_ble_eq_true rfl) (Nat.le_of_ble_eq_true rfl) hc hs rfl (Nat.le_of_ble_eq_true rfl) dL_law_1137 (fun H hL => ?_)
  refine lv_aload_n S.1 S.2.1 dL_law_1140 rfl (lv_at hl 1 rfl) ?_
  refine w_callM (As := []) (rest := [.int r]) S F hL hl.1 (kX10_wipe l F.2.1 e2) arX10_wipe u1097 u1098 u1099 u1100 rfl rfl rfl (Nat.le_of_ble_eq_true rfl) (Nat.le_of_ble_eq_true rfl) hc hs rfl (Nat.le_of_ble_eq_true rfl) dL_law_1141 (fun H hL => ?_)
  refine lv_icmp_eq (tgt := 1526) S.1 S.2.1 dL_law_1144 (by decide) (fun _ => kk M' N' H hL hr) (fun c6 => absurd rfl c6)
theorem lc_shop (S : CallFix p m c cL_law 4 s args zU RL) (F : LF s wC wM) (hc : cells ≤ room_1.cells) (hs : slots ≤ room_1.slots) (hX : va_X b L xs s s.heap) (hbl : b < s.heap.size) (hLs : L ≤ 3072) (hi : i + 6 ≤ L) (hL : LA s wC wM M N H) (h : Rel M N) (hl : lv_has ls 4 [(3, .int (nI i)), (2, .ref (za wM 0)), (1, .ref (za wC 0)), (0, .ref b)])
    (kk : ∀ (M N : zM) (H : Heap), LA s wC wM M N H → Rel M N → W p l e room_1 s m args below meth c H [] cells slots Q (F0 m 1526 ls [])) : W p l e room_1 s m args below meth c H [] cells slots Q (F0 m 1149 ls []) := by
  refine lv_aload_n S.1 S.2.1 dL_law_1149 rfl (lv_at hl 2 rfl) ?_
  obtain ⟨r, M', N', e1, e2, hr⟩ := s_shop h
  refine w_callC (As := []) (rest := []) S F hL hl.1 (kX9_shop l F.1 e1) arX9_shop u548 u549 u550 u551 rfl rfl rfl (Nat.le_of_ble_eq_true rfl) (Nat.le_of_ble_eq_true rfl) hc hs rfl (Nat.le_of_ble_eq_true rfl) dL_law_1150 (fun H hL => ?_)
  refine lv_aload_n S.1 S.2.1 dL_law_1153 rfl (lv_at hl 1 rfl) ?_
  refine w_callM (As := []) (rest := [.int r]) S F hL hl.1 (kX10_shop l F.2.1 e2) arX10_shop u1101 u1102 u1103 u1104 rfl rfl rfl (Nat.le_of_ble_eq_true rfl) (Nat.le_of_ble_eq_true rfl) hc hs rfl (Nat.le_of_ble_eq_true rfl) dL_law_1154 (fun H hL => ?_)
  refine lv_icmp_eq (tgt := 1526) S.1 S.2.1 dL_law_1157 (by decide) (fun _ => kk M' N' H hL hr) (fun c6 => absurd rfl c6)
theorem lc_sheet (S : CallFix p m c cL_law 4 s args zU RL) (F : LF s wC wM) (hc : cells ≤ room_1.cells) (hs : slots ≤ room_1.slots) (hX : va_X b L xs s s.heap) (hbl : b < s.heap.size) (hLs : L ≤ 3072) (hi : i + 6 ≤ L) (hL : LA s wC wM M N H) (h : Rel M N) (hl : lv_has ls 4 [(3, .int (nI i)), (2, .ref (za wM 0)), (1, .ref (za wC 0)), (0, .ref b)])
    (kk : ∀ (M N : zM) (H : Heap), LA s wC wM M N H → Rel M N → W p l e room_1 s m args below meth c H [] cells slots Q (F0 m 1526 ls [])) : W p l e room_1 s m args below meth c H [] cells slots Q (F0 m 1162 ls []) := by
  refine lv_aload_n S.1 S.2.1 dL_law_1162 rfl (lv_at hl 2 rfl) ?_
  refine w_arg S hX hbl hL hLs hl 1 (by omega) dL_law_1163 dL_law_1164 dL_law_1165 (by decide) dL_law_1166 dL_law_1167 ?_
  refine w_arg S hX hbl hL hLs hl 2 (by omega) dL_law_1168 dL_law_1169 dL_law_1170 (by decide) dL_law_1171 dL_law_1172 ?_
  refine w_arg S hX hbl hL hLs hl 3 (by omega) dL_law_1173 dL_law_1174 dL_law_1175 (by decide) dL_law_1176 dL_law_1177 ?_
  obtain ⟨r, M', N', e1, e2, hr⟩ := s_sheet h (xs (i + 1)) (xs (i + 2)) (xs (i + 3))
  refine w_callC (As := [.int (xs (i + 1)), .int (xs (i + 2)), .int (xs (i + 3))]) (rest := []) S F hL hl.1 (kX9_sheet l F.1 e1) arX9_sheet u685 u686 u687 u688 rfl rfl rfl (Nat.le_of_ble_eq_true rfl) (Nat.le_of_ble_eq_true rfl) hc hs rfl (Nat.le_of_ble_eq_true rfl) dL_law_1178 (fun H hL => ?_)
  refine lv_aload_n S.1 S.2.1 dL_law_1181 rfl (lv_at hl 1 rfl) ?_
  refine w_arg S hX hbl hL hLs hl 1 (by omega) dL_law_1182 dL_law_1183 dL_law_1184 (by decide) dL_law_1185 dL_law_1186 ?_
  refine w_arg S hX hbl hL hLs hl 2 (by omega) dL_law_1187 dL_law_1188 dL_law_1189 (by decide) dL_law_1190 dL_law_1191 ?_
  refine w_arg S hX hbl hL hLs hl 3 (by omega) dL_law_1192 dL_law_1193 dL_law_1194 (by decide) dL_law_1195 dL_law_1196 ?_
  refine w_callM (As := [.int (xs (i + 1)), .int (xs (i + 2)), .int (xs (i + 3))]) (rest := [.int r]) S F hL hl.1 (kX10_sheet l F.2.1 e2) arX10_sheet u1191 u1192 u1193 u1194 rfl rfl rfl (Nat.le_of_ble_eq_true rfl) (Nat.le_of_ble_eq_true rfl) hc hs rfl (Nat.le_of_ble_eq_true rfl) dL_law_1197 (fun H hL => ?_)
  refine lv_icmp_eq (tgt := 1526) S.1 S.2.1 dL_law_1200 (by decide) (fun _ => kk M' N' H hL hr) (fun c6 => absurd rfl c6)
theorem lc_copy (S : CallFix p m c cL_law 4 s args zU RL) (F : LF s wC wM) (hc : cells ≤ room_1.cells) (hs : slots ≤ room_1.slots) (hX : va_X b L xs s s.heap) (hbl : b < s.heap.size) (hLs : L ≤ 3072) (hi : i + 6 ≤ L) (hL : LA s wC wM M N H) (h : Rel M N) (hl : lv_has ls 4 [(3, .int (nI i)), (2, .ref (za wM 0)), (1, .ref (za wC 0)), (0, .ref b)])
    (kk : ∀ (M N : zM) (H : Heap), LA s wC wM M N H → Rel M N → W p l e room_1 s m args below meth c H [] cells slots Q (F0 m 1526 ls [])) : W p l e room_1 s m args below meth c H [] cells slots Q (F0 m 1279 ls []) := by
  refine lv_aload_n S.1 S.2.1 dL_law_1279 rfl (lv_at hl 2 rfl) ?_
  refine w_arg S hX hbl hL hLs hl 1 (by omega) dL_law_1280 dL_law_1281 dL_law_1282 (by decide) dL_law_1283 dL_law_1284 ?_
  refine w_arg S hX hbl hL hLs hl 2 (by omega) dL_law_1285 dL_law_1286 dL_law_1287 (by decide) dL_law_1288 dL_law_1289 ?_
  refine w_arg S hX hbl hL hLs hl 3 (by omega) dL_law_1290 dL_law_1291 dL_law_1292 (by decide) dL_law_1293 dL_law_1294 ?_
  refine w_arg S hX hbl hL hLs hl 4 (by omega) dL_law_1295 dL_law_1296 dL_law_1297 (by decide) dL_law_1298 dL_law_1299 ?_
  refine w_arg S hX hbl hL hLs hl 5 (by omega) dL_law_1300 dL_law_1301 dL_law_1302 (by decide) dL_law_1303 dL_law_1304 ?_
  obtain ⟨r, M', N', e1, e2, hr⟩ := s_copy h (xs (i + 1)) (xs (i + 2)) (xs (i + 3)) (xs (i + 4)) (xs (i + 5))
  refine w_callC (As := [.int (xs (i + 1)), .int (xs (i + 2)), .int (xs (i + 3)), .int (xs (i + 4)), .int (xs (i + 5))]) (rest := []) S F hL hl.1 (kX9_copy l F.1 e1) arX9_copy u708 u709 u710 u711 rfl rfl rfl (Nat.le_of_ble_eq_true rfl) (Nat.le_of_ble_eq_true rfl) hc hs rfl (Nat.le_of_ble_eq_true rfl) dL_law_1305 (fun H hL => ?_)
  refine lv_aload_n S.1 S.2.1 dL_law_1308 rfl (lv_at hl 1 rfl) ?_
  refine w_arg S hX hbl hL hLs hl 1 (by omega) dL_law_1309 dL_law_1310 dL_law_1311 (by decide) dL_law_1312 dL_law_1313 ?_
  refine w_arg S hX hbl hL hLs hl 2 (by omega) dL_law_1314 dL_law_1315 dL_law_1316 (by decide) dL_law_1317 dL_law_1318 ?_
  refine w_arg S hX hbl hL hLs hl 3 (by omega) dL_law_1319 dL_law_1320 dL_law_1321 (by decide) dL_law_1322 dL_law_1323 ?_
  refine w_arg S hX hbl hL hLs hl 4 (by omega) dL_law_1324 dL_law_1325 dL_law_1326 (by decide) dL_law_1327 dL_law_1328 ?_
  refine w_arg S hX hbl hL hLs hl 5 (by omega) dL_law_1329 dL_law_1330 dL_law_1331 (by decide) dL_law_1332 dL_law_1333 ?_
  refine w_callM (As := [.int (xs (i + 1)), .int (xs (i + 2)), .int (xs (i + 3)), .int (xs (i + 4)), .int (xs (i + 5))]) (rest := [.int r]) S F hL hl.1 (kX10_copy l F.2.1 e2) arX10_copy u1211 u1212 u1213 u1214 rfl rfl rfl (Nat.le_of_ble_eq_true rfl) (Nat.le_of_ble_eq_true rfl) hc hs rfl (Nat.le_of_ble_eq_true rfl) dL_law_1334 (fun H hL => ?_)
  refine lv_icmp_eq (tgt := 1526) S.1 S.2.1 dL_law_1337 (by decide) (fun _ => kk M' N' H hL hr) (fun c6 => absurd rfl c6)
theorem lc_lays (S : CallFix p m c cL_law 4 s args zU RL) (F : LF s wC wM) (hc : cells ≤ room_1.cells) (hs : slots ≤ room_1.slots) (hX : va_X b L xs s s.heap) (hbl : b < s.heap.size) (hLs : L ≤ 3072) (hi : i + 6 ≤ L) (hL : LA s wC wM M N H) (h : Rel M N) (hl : lv_has ls 4 [(3, .int (nI i)), (2, .ref (za wM 0)), (1, .ref (za wC 0)), (0, .ref b)])
    (kk : ∀ (M N : zM) (H : Heap), LA s wC wM M N H → Rel M N → W p l e room_1 s m args below meth c H [] cells slots Q (F0 m 1526 ls [])) : W p l e room_1 s m args below meth c H [] cells slots Q (F0 m 1342 ls []) := by
  refine lv_aload_n S.1 S.2.1 dL_law_1342 rfl (lv_at hl 2 rfl) ?_
  refine w_arg S hX hbl hL hLs hl 1 (by omega) dL_law_1343 dL_law_1344 dL_law_1345 (by decide) dL_law_1346 dL_law_1347 ?_
  obtain ⟨r, M', N', e1, e2, hr⟩ := s_lays h (xs (i + 1))
  refine w_callC (As := [.int (xs (i + 1))]) (rest := []) S F hL hl.1 (kX9_lays l F.1 e1) arX9_lays u717 u718 u719 u720 rfl rfl rfl (Nat.le_of_ble_eq_true rfl) (Nat.le_of_ble_eq_true rfl) hc hs rfl (Nat.le_of_ble_eq_true rfl) dL_law_1348 (fun H hL => ?_)
  refine lv_aload_n S.1 S.2.1 dL_law_1351 rfl (lv_at hl 1 rfl) ?_
  refine w_arg S hX hbl hL hLs hl 1 (by omega) dL_law_1352 dL_law_1353 dL_law_1354 (by decide) dL_law_1355 dL_law_1356 ?_
  refine w_callM (As := [.int (xs (i + 1))]) (rest := [.int r]) S F hL hl.1 (kX10_lays l F.2.1 e2) arX10_lays u1215 u1216 u1217 u1218 rfl rfl rfl (Nat.le_of_ble_eq_true rfl) (Nat.le_of_ble_eq_true rfl) hc hs rfl (Nat.le_of_ble_eq_true rfl) dL_law_1357 (fun H hL => ?_)
  refine lv_icmp_eq (tgt := 1526) S.1 S.2.1 dL_law_1360 (by decide) (fun _ => kk M' N' H hL hr) (fun c6 => absurd rfl c6)
theorem lc_book (S : CallFix p m c cL_law 4 s args zU RL) (F : LF s wC wM) (hc : cells ≤ room_1.cells) (hs : slots ≤ room_1.slots) (hX : va_X b L xs s s.heap) (hbl : b < s.heap.size) (hLs : L ≤ 3072) (hi : i + 6 ≤ L) (hL : LA s wC wM M N H) (h : Rel M N) (hl : lv_has ls 4 [(3, .int (nI i)), (2, .ref (za wM 0)), (1, .ref (za wC 0)), (0, .ref b)])
    (kk : ∀ (M N : zM) (H : Heap), LA s wC wM M N H → Rel M N → W p l e room_1 s m args below meth c H [] cells slots Q (F0 m 1526 ls [])) : W p l e room_1 s m args below meth c H [] cells slots Q (F0 m 1365 ls []) := by
  refine lv_aload_n S.1 S.2.1 dL_law_1365 rfl (lv_at hl 2 rfl) ?_
  refine w_arg S hX hbl hL hLs hl 1 (by omega) dL_law_1366 dL_law_1367 dL_law_1368 (by decide) dL_law_1369 dL_law_1370 ?_
  refine w_arg S hX hbl hL hLs hl 2 (by omega) dL_law_1371 dL_law_1372 dL_law_1373 (by decide) dL_law_1374 dL_law_1375 ?_
  obtain ⟨r, M', N', e1, e2, hr⟩ := s_book h (xs (i + 1)) (xs (i + 2))
  refine w_callC (As := [.int (xs (i + 1)), .int (xs (i + 2))]) (rest := []) S F hL hl.1 (kX9_book l F.1 e1) arX9_book u722 u723 u724 u725 rfl rfl rfl (Nat.le_of_ble_eq_true rfl) (Nat.le_of_ble_eq_true rfl) hc hs rfl (Nat.le_of_ble_eq_true rfl) dL_law_1376 (fun H hL => ?_)
  refine lv_aload_n S.1 S.2.1 dL_law_1379 rfl (lv_at hl 1 rfl) ?_
  refine w_arg S hX hbl hL hLs hl 1 (by omega) dL_law_1380 dL_law_1381 dL_law_1382 (by decide) dL_law_1383 dL_law_1384 ?_
  refine w_arg S hX hbl hL hLs hl 2 (by omega) dL_law_1385 dL_law_1386 dL_law_1387 (by decide) dL_law_1388 dL_law_1389 ?_
  refine w_callM (As := [.int (xs (i + 1)), .int (xs (i + 2))]) (rest := [.int r]) S F hL hl.1 (kX10_book l F.2.1 e2) arX10_book u1219 u1220 u1221 u1222 rfl rfl rfl (Nat.le_of_ble_eq_true rfl) (Nat.le_of_ble_eq_true rfl) hc hs rfl (Nat.le_of_ble_eq_true rfl) dL_law_1390 (fun H hL => ?_)
  refine lv_icmp_eq (tgt := 1526) S.1 S.2.1 dL_law_1393 (by decide) (fun _ => kk M' N' H hL hr) (fun c6 => absurd rfl c6)
theorem lc_read (S : CallFix p m c cL_law 4 s args zU RL) (F : LF s wC wM) (hc : cells ≤ room_1.cells) (hs : slots ≤ room_1.slots) (hX : va_X b L xs s s.heap) (hbl : b < s.heap.size) (hLs : L ≤ 3072) (hi : i + 6 ≤ L) (hL : LA s wC wM M N H) (h : Rel M N) (hl : lv_has ls 4 [(3, .int (nI i)), (2, .ref (za wM 0)), (1, .ref (za wC 0)), (0, .ref b)])
    (kk : ∀ (M N : zM) (H : Heap), LA s wC wM M N H → Rel M N → W p l e room_1 s m args below meth c H [] cells slots Q (F0 m 1526 ls [])) : W p l e room_1 s m args below meth c H [] cells slots Q (F0 m 1398 ls []) := by
  refine lv_aload_n S.1 S.2.1 dL_law_1398 rfl (lv_at hl 2 rfl) ?_
  refine w_arg S hX hbl hL hLs hl 1 (by omega) dL_law_1399 dL_law_1400 dL_law_1401 (by decide) dL_law_1402 dL_law_1403 ?_
  refine w_arg S hX hbl hL hLs hl 2 (by omega) dL_law_1404 dL_law_1405 dL_law_1406 (by decide) dL_law_1407 dL_law_1408 ?_
  refine w_arg S hX hbl hL hLs hl 3 (by omega) dL_law_1409 dL_law_1410 dL_law_1411 (by decide) dL_law_1412 dL_law_1413 ?_
  obtain ⟨r, M', N', e1, e2, hr⟩ := s_read h (xs (i + 1)) (xs (i + 2)) (xs (i + 3))
  refine w_callC (As := [.int (xs (i + 1)), .int (xs (i + 2)), .int (xs (i + 3))]) (rest := []) S F hL hl.1 (kX9_read l F.1 e1) arX9_read u726 u727 u728 u729 rfl rfl rfl (Nat.le_of_ble_eq_true rfl) (Nat.le_of_ble_eq_true rfl) hc hs rfl (Nat.le_of_ble_eq_true rfl) dL_law_1414 (fun H hL => ?_)
  refine lv_aload_n S.1 S.2.1 dL_law_1417 rfl (lv_at hl 1 rfl) ?_
  refine w_arg S hX hbl hL hLs hl 1 (by omega) dL_law_1418 dL_law_1419 dL_law_1420 (by decide) dL_law_1421 dL_law_1422 ?_
  refine w_arg S hX hbl hL hLs hl 2 (by omega) dL_law_1423 dL_law_1424 dL_law_1425 (by decide) dL_law_1426 dL_law_1427 ?_
  refine w_arg S hX hbl hL hLs hl 3 (by omega) dL_law_1428 dL_law_1429 dL_law_1430 (by decide) dL_law_1431 dL_law_1432 ?_
  refine w_callM (As := [.int (xs (i + 1)), .int (xs (i + 2)), .int (xs (i + 3))]) (rest := [.int r]) S F hL hl.1 (kX10_read l F.2.1 e2) arX10_read u1223 u1224 u1225 u1226 rfl rfl rfl (Nat.le_of_ble_eq_true rfl) (Nat.le_of_ble_eq_true rfl) hc hs rfl (Nat.le_of_ble_eq_true rfl) dL_law_1433 (fun H hL => ?_)
  refine lv_icmp_eq (tgt := 1526) S.1 S.2.1 dL_law_1436 (by decide) (fun _ => kk M' N' H hL hr) (fun c6 => absurd rfl c6)
theorem lc_image (S : CallFix p m c cL_law 4 s args zU RL) (F : LF s wC wM) (hc : cells ≤ room_1.cells) (hs : slots ≤ room_1.slots) (hX : va_X b L xs s s.heap) (hbl : b < s.heap.size) (hLs : L ≤ 3072) (hi : i + 6 ≤ L) (hL : LA s wC wM M N H) (h : Rel M N) (hl : lv_has ls 4 [(3, .int (nI i)), (2, .ref (za wM 0)), (1, .ref (za wC 0)), (0, .ref b)])
    (kk : ∀ (M N : zM) (H : Heap), LA s wC wM M N H → Rel M N → W p l e room_1 s m args below meth c H [] cells slots Q (F0 m 1526 ls [])) : W p l e room_1 s m args below meth c H [] cells slots Q (F0 m 1441 ls []) := by
  refine lv_aload_n S.1 S.2.1 dL_law_1441 rfl (lv_at hl 2 rfl) ?_
  obtain ⟨r, M', N', e1, e2, hr⟩ := s_image h
  refine w_callC (As := []) (rest := []) S F hL hl.1 (kX9_image l F.1 e1) arX9_image u734 u735 u736 u737 rfl rfl rfl (Nat.le_of_ble_eq_true rfl) (Nat.le_of_ble_eq_true rfl) hc hs rfl (Nat.le_of_ble_eq_true rfl) dL_law_1442 (fun H hL => ?_)
  refine lv_aload_n S.1 S.2.1 dL_law_1445 rfl (lv_at hl 1 rfl) ?_
  refine w_callM (As := []) (rest := [.int r]) S F hL hl.1 (kX10_image l F.2.1 e2) arX10_image u1231 u1232 u1233 u1234 rfl rfl rfl (Nat.le_of_ble_eq_true rfl) (Nat.le_of_ble_eq_true rfl) hc hs rfl (Nat.le_of_ble_eq_true rfl) dL_law_1446 (fun H hL => ?_)
  refine lv_icmp_eq (tgt := 1526) S.1 S.2.1 dL_law_1449 (by decide) (fun _ => kk M' N' H hL hr) (fun c6 => absurd rfl c6)
theorem lc_undo (S : CallFix p m c cL_law 4 s args zU RL) (F : LF s wC wM) (hc : cells ≤ room_1.cells) (hs : slots ≤ room_1.slots) (hX : va_X b L xs s s.heap) (hbl : b < s.heap.size) (hLs : L ≤ 3072) (hi : i + 6 ≤ L) (hL : LA s wC wM M N H) (h : Rel M N) (hl : lv_has ls 4 [(3, .int (nI i)), (2, .ref (za wM 0)), (1, .ref (za wC 0)), (0, .ref b)])
    (kk : ∀ (M N : zM) (H : Heap), LA s wC wM M N H → Rel M N → W p l e room_1 s m args below meth c H [] cells slots Q (F0 m 1526 ls [])) : W p l e room_1 s m args below meth c H [] cells slots Q (F0 m 1454 ls []) := by
  refine lv_aload_n S.1 S.2.1 dL_law_1454 rfl (lv_at hl 2 rfl) ?_
  obtain ⟨r, M', N', e1, e2, hr⟩ := s_undo h
  refine w_callC (As := []) (rest := []) S F hL hl.1 (kX9_undo l F.1 e1) arX9_undo u738 u739 u740 u741 rfl rfl rfl (Nat.le_of_ble_eq_true rfl) (Nat.le_of_ble_eq_true rfl) hc hs rfl (Nat.le_of_ble_eq_true rfl) dL_law_1455 (fun H hL => ?_)
  refine lv_aload_n S.1 S.2.1 dL_law_1458 rfl (lv_at hl 1 rfl) ?_
  refine w_callM (As := []) (rest := [.int r]) S F hL hl.1 (kX10_undo l F.2.1 e2) arX10_undo u1235 u1236 u1237 u1238 rfl rfl rfl (Nat.le_of_ble_eq_true rfl) (Nat.le_of_ble_eq_true rfl) hc hs rfl (Nat.le_of_ble_eq_true rfl) dL_law_1459 (fun H hL => ?_)
  refine lv_icmp_eq (tgt := 1526) S.1 S.2.1 dL_law_1462 (by decide) (fun _ => kk M' N' H hL hr) (fun c6 => absurd rfl c6)
theorem lc_tear (S : CallFix p m c cL_law 4 s args zU RL) (F : LF s wC wM) (hc : cells ≤ room_1.cells) (hs : slots ≤ room_1.slots) (hX : va_X b L xs s s.heap) (hbl : b < s.heap.size) (hLs : L ≤ 3072) (hi : i + 6 ≤ L) (hL : LA s wC wM M N H) (h : Rel M N) (hl : lv_has ls 4 [(3, .int (nI i)), (2, .ref (za wM 0)), (1, .ref (za wC 0)), (0, .ref b)])
    (kk : ∀ (M N : zM) (H : Heap), LA s wC wM M N H → Rel M N → W p l e room_1 s m args below meth c H [] cells slots Q (F0 m 1526 ls [])) : W p l e room_1 s m args below meth c H [] cells slots Q (F0 m 1467 ls []) := by
  refine lv_aload_n S.1 S.2.1 dL_law_1467 rfl (lv_at hl 2 rfl) ?_
  obtain ⟨r, M', N', e1, e2, hr⟩ := s_tear h
  refine w_callC (As := []) (rest := []) S F hL hl.1 (kX9_tear l F.1 e1) arX9_tear u742 u743 u744 u745 rfl rfl rfl (Nat.le_of_ble_eq_true rfl) (Nat.le_of_ble_eq_true rfl) hc hs rfl (Nat.le_of_ble_eq_true rfl) dL_law_1468 (fun H hL => ?_)
  refine lv_aload_n S.1 S.2.1 dL_law_1471 rfl (lv_at hl 1 rfl) ?_
  refine w_callM (As := []) (rest := [.int r]) S F hL hl.1 (kX10_tear l F.2.1 e2) arX10_tear u1239 u1240 u1241 u1242 rfl rfl rfl (Nat.le_of_ble_eq_true rfl) (Nat.le_of_ble_eq_true rfl) hc hs rfl (Nat.le_of_ble_eq_true rfl) dL_law_1472 (fun H hL => ?_)
  refine lv_icmp_eq (tgt := 1526) S.1 S.2.1 dL_law_1475 (by decide) (fun _ => kk M' N' H hL hr) (fun c6 => absurd rfl c6)
theorem lc_count (S : CallFix p m c cL_law 4 s args zU RL) (F : LF s wC wM) (hc : cells ≤ room_1.cells) (hs : slots ≤ room_1.slots) (hX : va_X b L xs s s.heap) (hbl : b < s.heap.size) (hLs : L ≤ 3072) (hi : i + 6 ≤ L) (hL : LA s wC wM M N H) (h : Rel M N) (hl : lv_has ls 4 [(3, .int (nI i)), (2, .ref (za wM 0)), (1, .ref (za wC 0)), (0, .ref b)])
    (kk : ∀ (M N : zM) (H : Heap), LA s wC wM M N H → Rel M N → W p l e room_1 s m args below meth c H [] cells slots Q (F0 m 1526 ls [])) : W p l e room_1 s m args below meth c H [] cells slots Q (F0 m 1480 ls []) := by
  refine lv_aload_n S.1 S.2.1 dL_law_1480 rfl (lv_at hl 2 rfl) ?_
  refine w_arg S hX hbl hL hLs hl 1 (by omega) dL_law_1481 dL_law_1482 dL_law_1483 (by decide) dL_law_1484 dL_law_1485 ?_
  obtain ⟨r, M', N', e1, e2, hr⟩ := s_count h (xs (i + 1))
  refine w_callC (As := [.int (xs (i + 1))]) (rest := []) S F hL hl.1 (kX9_count l F.1 e1) arX9_count u746 u747 u748 u749 rfl rfl rfl (Nat.le_of_ble_eq_true rfl) (Nat.le_of_ble_eq_true rfl) hc hs rfl (Nat.le_of_ble_eq_true rfl) dL_law_1486 (fun H hL => ?_)
  refine lv_aload_n S.1 S.2.1 dL_law_1489 rfl (lv_at hl 1 rfl) ?_
  refine w_arg S hX hbl hL hLs hl 1 (by omega) dL_law_1490 dL_law_1491 dL_law_1492 (by decide) dL_law_1493 dL_law_1494 ?_
  refine w_callM (As := [.int (xs (i + 1))]) (rest := [.int r]) S F hL hl.1 (kX10_count l F.2.1 e2) arX10_count u1243 u1244 u1245 u1246 rfl rfl rfl (Nat.le_of_ble_eq_true rfl) (Nat.le_of_ble_eq_true rfl) hc hs rfl (Nat.le_of_ble_eq_true rfl) dL_law_1495 (fun H hL => ?_)
  refine lv_icmp_eq (tgt := 1526) S.1 S.2.1 dL_law_1498 (by decide) (fun _ => kk M' N' H hL hr) (fun c6 => absurd rfl c6)
theorem lc_status (S : CallFix p m c cL_law 4 s args zU RL) (F : LF s wC wM) (hc : cells ≤ room_1.cells) (hs : slots ≤ room_1.slots) (hX : va_X b L xs s s.heap) (hbl : b < s.heap.size) (hLs : L ≤ 3072) (hi : i + 6 ≤ L) (hL : LA s wC wM M N H) (h : Rel M N) (hl : lv_has ls 4 [(3, .int (nI i)), (2, .ref (za wM 0)), (1, .ref (za wC 0)), (0, .ref b)])
    (kk : ∀ (M N : zM) (H : Heap), LA s wC wM M N H → Rel M N → W p l e room_1 s m args below meth c H [] cells slots Q (F0 m 1526 ls [])) : W p l e room_1 s m args below meth c H [] cells slots Q (F0 m 1503 ls []) := by
  refine lv_aload_n S.1 S.2.1 dL_law_1503 rfl (lv_at hl 2 rfl) ?_
  refine w_arg S hX hbl hL hLs hl 1 (by omega) dL_law_1504 dL_law_1505 dL_law_1506 (by decide) dL_law_1507 dL_law_1508 ?_
  obtain ⟨r, M', N', e1, e2, hr⟩ := s_status h (xs (i + 1))
  refine w_callC (As := [.int (xs (i + 1))]) (rest := []) S F hL hl.1 (kX9_status l F.1 e1) arX9_status u754 u755 u756 u757 rfl rfl rfl (Nat.le_of_ble_eq_true rfl) (Nat.le_of_ble_eq_true rfl) hc hs rfl (Nat.le_of_ble_eq_true rfl) dL_law_1509 (fun H hL => ?_)
  refine lv_aload_n S.1 S.2.1 dL_law_1512 rfl (lv_at hl 1 rfl) ?_
  refine w_arg S hX hbl hL hLs hl 1 (by omega) dL_law_1513 dL_law_1514 dL_law_1515 (by decide) dL_law_1516 dL_law_1517 ?_
  refine w_callM (As := [.int (xs (i + 1))]) (rest := [.int r]) S F hL hl.1 (kX10_status l F.2.1 e2) arX10_status u1251 u1252 u1253 u1254 rfl rfl rfl (Nat.le_of_ble_eq_true rfl) (Nat.le_of_ble_eq_true rfl) hc hs rfl (Nat.le_of_ble_eq_true rfl) dL_law_1518 (fun H hL => ?_)
  refine lv_icmp_eq (tgt := 1526) S.1 S.2.1 dL_law_1521 (by decide) (fun _ => kk M' N' H hL hr) (fun c6 => absurd rfl c6)
end ZM
