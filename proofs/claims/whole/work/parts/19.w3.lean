set_option maxRecDepth 20000 in
theorem lc_0 {K : Kx} (C : Cx K cL_law RL) (hR : RmOk K 11) {b L : Nat} {xs : Nat → Int32} (hX : SX K b L xs) (hL : L ≤ 3072) {i : Nat} (hi : i + 6 ≤ L) {σ : St} (hI : Iy σ) (cont : ∀ σ', Iy σ' → TW K 1749 (Ll K b i) [] σ') : TW K 216 (Ll K b i) [] σ := by
  refine tw_aload_n (i := 1) (z := 1) (r := (8, 0)) C dL_law_216 rfl rfl ?_
  refine tw_aload_b (i := 0) (z := 0) C dL_law_217 rfl rfl ?_
  refine tw_iload_n (i := 3) (z := 3) C dL_law_218 rfl rfl ?_
  refine tw_iconst (v := 1) C dL_law_219 (by decide) ?_
  refine tw_iadd C dL_law_220 ?_
  refine tw_script (j := i + 1) C hX (by omega) (by omega) (nI_add i 1) dL_law_221 ?_
  refine tw_aload_b (i := 0) (z := 0) C dL_law_222 rfl rfl ?_
  refine tw_iload_n (i := 3) (z := 3) C dL_law_223 rfl rfl ?_
  refine tw_iconst (v := 2) C dL_law_224 (by decide) ?_
  refine tw_iadd C dL_law_225 ?_
  refine tw_script (j := i + 2) C hX (by omega) (by omega) (nI_add i 2) dL_law_226 ?_
  obtain ⟨v, s1, s2, e1, e2, hI2⟩ := oy_type hI (xs (i + 1)) (xs (i + 2))
  refine tw_callV (As := [.int (xs (i + 1)), .int (xs (i + 2))]) (rest := []) (r := (8, 0)) C hR (kX8_type K.1 _ (by omega) σ (xs (i + 1)) (xs (i + 2)) e1) mi_X8_type is_X8_type se_X8_type ml_RL_13 (wcells_mem (f := 8) (j := 0) (by decide) (by decide)) rfl rfl rfl rfl (Nat.le_of_ble_eq_true rfl) dL_law_227 ?_
  show TW K 230 (Ll K b i) [.int v] s1
  refine tw_aload_n (i := 2) (z := 2) (r := (9, 0)) C dL_law_230 rfl rfl ?_
  refine tw_aload_b (i := 0) (z := 0) C dL_law_231 rfl rfl ?_
  refine tw_iload_n (i := 3) (z := 3) C dL_law_232 rfl rfl ?_
  refine tw_iconst (v := 1) C dL_law_233 (by decide) ?_
  refine tw_iadd C dL_law_234 ?_
  refine tw_script (j := i + 1) C hX (by omega) (by omega) (nI_add i 1) dL_law_235 ?_
  refine tw_aload_b (i := 0) (z := 0) C dL_law_236 rfl rfl ?_
  refine tw_iload_n (i := 3) (z := 3) C dL_law_237 rfl rfl ?_
  refine tw_iconst (v := 2) C dL_law_238 (by decide) ?_
  refine tw_iadd C dL_law_239 ?_
  refine tw_script (j := i + 2) C hX (by omega) (by omega) (nI_add i 2) dL_law_240 ?_
  refine tw_callV (As := [.int (xs (i + 1)), .int (xs (i + 2))]) (rest := [.int v]) (r := (9, 0)) C hR (kX9_type K.1 _ (by omega) s1 (xs (i + 1)) (xs (i + 2)) e2) mi_X9_type is_X9_type se_X9_type ml_RL_17 (wcells_mem (f := 9) (j := 0) (by decide) (by decide)) rfl rfl rfl rfl (Nat.le_of_ble_eq_true rfl) dL_law_241 ?_
  show TW K 244 (Ll K b i) [.int v, .int v] s2
  exact tw_ic_eq (tgt := 1749) C dL_law_244 (by decide) (fun _ => cont s2 hI2) (fun hne => absurd rfl hne)
set_option maxRecDepth 20000 in
theorem lc_1 {K : Kx} (C : Cx K cL_law RL) (hR : RmOk K 11) {b L : Nat} {xs : Nat → Int32} (hX : SX K b L xs) (hL : L ≤ 3072) {i : Nat} (hi : i + 6 ≤ L) {σ : St} (hI : Iy σ) (cont : ∀ σ', Iy σ' → TW K 1749 (Ll K b i) [] σ') : TW K 249 (Ll K b i) [] σ := by
  refine tw_aload_n (i := 1) (z := 1) (r := (8, 0)) C dL_law_249 rfl rfl ?_
  refine tw_aload_b (i := 0) (z := 0) C dL_law_250 rfl rfl ?_
  refine tw_iload_n (i := 3) (z := 3) C dL_law_251 rfl rfl ?_
  refine tw_iconst (v := 1) C dL_law_252 (by decide) ?_
  refine tw_iadd C dL_law_253 ?_
  refine tw_script (j := i + 1) C hX (by omega) (by omega) (nI_add i 1) dL_law_254 ?_
  obtain ⟨v, s1, s2, e1, e2, hI2⟩ := oy_wipe hI (xs (i + 1))
  refine tw_callV (As := [.int (xs (i + 1))]) (rest := []) (r := (8, 0)) C hR (kX8_wipe K.1 _ (by omega) σ (xs (i + 1)) e1) mi_X8_wipe is_X8_wipe se_X8_wipe ml_RL_18 (wcells_mem (f := 8) (j := 0) (by decide) (by decide)) rfl rfl rfl rfl (Nat.le_of_ble_eq_true rfl) dL_law_255 ?_
  show TW K 258 (Ll K b i) [.int v] s1
  refine tw_aload_n (i := 2) (z := 2) (r := (9, 0)) C dL_law_258 rfl rfl ?_
  refine tw_aload_b (i := 0) (z := 0) C dL_law_259 rfl rfl ?_
  refine tw_iload_n (i := 3) (z := 3) C dL_law_260 rfl rfl ?_
  refine tw_iconst (v := 1) C dL_law_261 (by decide) ?_
  refine tw_iadd C dL_law_262 ?_
  refine tw_script (j := i + 1) C hX (by omega) (by omega) (nI_add i 1) dL_law_263 ?_
  refine tw_callV (As := [.int (xs (i + 1))]) (rest := [.int v]) (r := (9, 0)) C hR (kX9_wipe K.1 _ (by omega) s1 (xs (i + 1)) e2) mi_X9_wipe is_X9_wipe se_X9_wipe ml_RL_22 (wcells_mem (f := 9) (j := 0) (by decide) (by decide)) rfl rfl rfl rfl (Nat.le_of_ble_eq_true rfl) dL_law_264 ?_
  show TW K 267 (Ll K b i) [.int v, .int v] s2
  exact tw_ic_eq (tgt := 1749) C dL_law_267 (by decide) (fun _ => cont s2 hI2) (fun hne => absurd rfl hne)
set_option maxRecDepth 20000 in
theorem lc_2 {K : Kx} (C : Cx K cL_law RL) (hR : RmOk K 11) {b L : Nat} {xs : Nat → Int32} (hX : SX K b L xs) (hL : L ≤ 3072) {i : Nat} (hi : i + 6 ≤ L) {σ : St} (hI : Iy σ) (cont : ∀ σ', Iy σ' → TW K 1749 (Ll K b i) [] σ') : TW K 272 (Ll K b i) [] σ := by
  refine tw_aload_n (i := 1) (z := 1) (r := (8, 0)) C dL_law_272 rfl rfl ?_
  refine tw_aload_b (i := 0) (z := 0) C dL_law_273 rfl rfl ?_
  refine tw_iload_n (i := 3) (z := 3) C dL_law_274 rfl rfl ?_
  refine tw_iconst (v := 1) C dL_law_275 (by decide) ?_
  refine tw_iadd C dL_law_276 ?_
  refine tw_script (j := i + 1) C hX (by omega) (by omega) (nI_add i 1) dL_law_277 ?_
  obtain ⟨v, s2, e1, e2, hI2⟩ := oy_fault hI (xs (i + 1))
  refine tw_callV (As := [.int (xs (i + 1))]) (rest := []) (r := (8, 0)) C hR (kX8_fault K.1 _ (by omega) σ (xs (i + 1)) e1) mi_X8_fault is_X8_fault se_X8_fault ml_RL_23 (wcells_mem (f := 8) (j := 0) (by decide) (by decide)) rfl rfl rfl rfl (Nat.le_of_ble_eq_true rfl) dL_law_278 ?_
  show TW K 281 (Ll K b i) [.int v] σ
  refine tw_aload_n (i := 2) (z := 2) (r := (9, 0)) C dL_law_281 rfl rfl ?_
  refine tw_aload_b (i := 0) (z := 0) C dL_law_282 rfl rfl ?_
  refine tw_iload_n (i := 3) (z := 3) C dL_law_283 rfl rfl ?_
  refine tw_iconst (v := 1) C dL_law_284 (by decide) ?_
  refine tw_iadd C dL_law_285 ?_
  refine tw_script (j := i + 1) C hX (by omega) (by omega) (nI_add i 1) dL_law_286 ?_
  refine tw_callV (As := [.int (xs (i + 1))]) (rest := [.int v]) (r := (9, 0)) C hR (kX9_fault K.1 _ (by omega) σ (xs (i + 1)) e2) mi_X9_fault is_X9_fault se_X9_fault ml_RL_26 (wcells_mem (f := 9) (j := 0) (by decide) (by decide)) rfl rfl rfl rfl (Nat.le_of_ble_eq_true rfl) dL_law_287 ?_
  show TW K 290 (Ll K b i) [.int v, .int v] s2
  exact tw_ic_eq (tgt := 1749) C dL_law_290 (by decide) (fun _ => cont s2 hI2) (fun hne => absurd rfl hne)
set_option maxRecDepth 20000 in
theorem lc_3 {K : Kx} (C : Cx K cL_law RL) (hR : RmOk K 11) {b L : Nat} {xs : Nat → Int32} (hX : SX K b L xs) (hL : L ≤ 3072) {i : Nat} (hi : i + 6 ≤ L) {σ : St} (hI : Iy σ) (cont : ∀ σ', Iy σ' → TW K 1749 (Ll K b i) [] σ') : TW K 295 (Ll K b i) [] σ := by
  refine tw_aload_n (i := 1) (z := 1) (r := (8, 0)) C dL_law_295 rfl rfl ?_
  refine tw_aload_b (i := 0) (z := 0) C dL_law_296 rfl rfl ?_
  refine tw_iload_n (i := 3) (z := 3) C dL_law_297 rfl rfl ?_
  refine tw_iconst (v := 1) C dL_law_298 (by decide) ?_
  refine tw_iadd C dL_law_299 ?_
  refine tw_script (j := i + 1) C hX (by omega) (by omega) (nI_add i 1) dL_law_300 ?_
  refine tw_aload_b (i := 0) (z := 0) C dL_law_301 rfl rfl ?_
  refine tw_iload_n (i := 3) (z := 3) C dL_law_302 rfl rfl ?_
  refine tw_iconst (v := 2) C dL_law_303 (by decide) ?_
  refine tw_iadd C dL_law_304 ?_
  refine tw_script (j := i + 2) C hX (by omega) (by omega) (nI_add i 2) dL_law_305 ?_
  obtain ⟨v, s2, e1, e2, hI2⟩ := oy_item hI (xs (i + 1)) (xs (i + 2))
  refine tw_callV (As := [.int (xs (i + 1)), .int (xs (i + 2))]) (rest := []) (r := (8, 0)) C hR (kX8_item K.1 _ (by omega) σ (xs (i + 1)) (xs (i + 2)) e1) mi_X8_item is_X8_item se_X8_item ml_RL_27 (wcells_mem (f := 8) (j := 0) (by decide) (by decide)) rfl rfl rfl rfl (Nat.le_of_ble_eq_true rfl) dL_law_306 ?_
  show TW K 309 (Ll K b i) [.int v] σ
  refine tw_aload_n (i := 2) (z := 2) (r := (9, 0)) C dL_law_309 rfl rfl ?_
  refine tw_aload_b (i := 0) (z := 0) C dL_law_310 rfl rfl ?_
  refine tw_iload_n (i := 3) (z := 3) C dL_law_311 rfl rfl ?_
  refine tw_iconst (v := 1) C dL_law_312 (by decide) ?_
  refine tw_iadd C dL_law_313 ?_
  refine tw_script (j := i + 1) C hX (by omega) (by omega) (nI_add i 1) dL_law_314 ?_
  refine tw_aload_b (i := 0) (z := 0) C dL_law_315 rfl rfl ?_
  refine tw_iload_n (i := 3) (z := 3) C dL_law_316 rfl rfl ?_
  refine tw_iconst (v := 2) C dL_law_317 (by decide) ?_
  refine tw_iadd C dL_law_318 ?_
  refine tw_script (j := i + 2) C hX (by omega) (by omega) (nI_add i 2) dL_law_319 ?_
  refine tw_callV (As := [.int (xs (i + 1)), .int (xs (i + 2))]) (rest := [.int v]) (r := (9, 0)) C hR (kX9_item K.1 _ (by omega) σ (xs (i + 1)) (xs (i + 2)) e2) mi_X9_item is_X9_item se_X9_item ml_RL_30 (wcells_mem (f := 9) (j := 0) (by decide) (by decide)) rfl rfl rfl rfl (Nat.le_of_ble_eq_true rfl) dL_law_320 ?_
  show TW K 323 (Ll K b i) [.int v, .int v] s2
  exact tw_ic_eq (tgt := 1749) C dL_law_323 (by decide) (fun _ => cont s2 hI2) (fun hne => absurd rfl hne)
set_option maxRecDepth 20000 in
theorem lc_4 {K : Kx} (C : Cx K cL_law RL) (hR : RmOk K 11) {b L : Nat} {xs : Nat → Int32} (hX : SX K b L xs) (hL : L ≤ 3072) {i : Nat} (hi : i + 6 ≤ L) {σ : St} (hI : Iy σ) (cont : ∀ σ', Iy σ' → TW K 1749 (Ll K b i) [] σ') : TW K 328 (Ll K b i) [] σ := by
  refine tw_aload_n (i := 1) (z := 1) (r := (8, 0)) C dL_law_328 rfl rfl ?_
  refine tw_aload_b (i := 0) (z := 0) C dL_law_329 rfl rfl ?_
  refine tw_iload_n (i := 3) (z := 3) C dL_law_330 rfl rfl ?_
  refine tw_iconst (v := 1) C dL_law_331 (by decide) ?_
  refine tw_iadd C dL_law_332 ?_
  refine tw_script (j := i + 1) C hX (by omega) (by omega) (nI_add i 1) dL_law_333 ?_
  refine tw_aload_b (i := 0) (z := 0) C dL_law_334 rfl rfl ?_
  refine tw_iload_n (i := 3) (z := 3) C dL_law_335 rfl rfl ?_
  refine tw_iconst (v := 2) C dL_law_336 (by decide) ?_
  refine tw_iadd C dL_law_337 ?_
  refine tw_script (j := i + 2) C hX (by omega) (by omega) (nI_add i 2) dL_law_338 ?_
  refine tw_aload_b (i := 0) (z := 0) C dL_law_339 rfl rfl ?_
  refine tw_iload_n (i := 3) (z := 3) C dL_law_340 rfl rfl ?_
  refine tw_iconst (v := 3) C dL_law_341 (by decide) ?_
  refine tw_iadd C dL_law_342 ?_
  refine tw_script (j := i + 3) C hX (by omega) (by omega) (nI_add i 3) dL_law_343 ?_
  obtain ⟨v, s2, e1, e2, hI2⟩ := oy_why hI (xs (i + 1)) (xs (i + 2)) (xs (i + 3))
  refine tw_callV (As := [.int (xs (i + 1)), .int (xs (i + 2)), .int (xs (i + 3))]) (rest := []) (r := (8, 0)) C hR (kX8_why K.1 _ (by omega) σ (xs (i + 1)) (xs (i + 2)) (xs (i + 3)) e1) mi_X8_why is_X8_why se_X8_why ml_RL_31 (wcells_mem (f := 8) (j := 0) (by decide) (by decide)) rfl rfl rfl rfl (Nat.le_of_ble_eq_true rfl) dL_law_344 ?_
  show TW K 347 (Ll K b i) [.int v] σ
  refine tw_aload_n (i := 2) (z := 2) (r := (9, 0)) C dL_law_347 rfl rfl ?_
  refine tw_aload_b (i := 0) (z := 0) C dL_law_348 rfl rfl ?_
  refine tw_iload_n (i := 3) (z := 3) C dL_law_349 rfl rfl ?_
  refine tw_iconst (v := 1) C dL_law_350 (by decide) ?_
  refine tw_iadd C dL_law_351 ?_
  refine tw_script (j := i + 1) C hX (by omega) (by omega) (nI_add i 1) dL_law_352 ?_
  refine tw_aload_b (i := 0) (z := 0) C dL_law_353 rfl rfl ?_
  refine tw_iload_n (i := 3) (z := 3) C dL_law_354 rfl rfl ?_
  refine tw_iconst (v := 2) C dL_law_355 (by decide) ?_
  refine tw_iadd C dL_law_356 ?_
  refine tw_script (j := i + 2) C hX (by omega) (by omega) (nI_add i 2) dL_law_357 ?_
  refine tw_aload_b (i := 0) (z := 0) C dL_law_358 rfl rfl ?_
  refine tw_iload_n (i := 3) (z := 3) C dL_law_359 rfl rfl ?_
  refine tw_iconst (v := 3) C dL_law_360 (by decide) ?_
  refine tw_iadd C dL_law_361 ?_
  refine tw_script (j := i + 3) C hX (by omega) (by omega) (nI_add i 3) dL_law_362 ?_
  refine tw_callV (As := [.int (xs (i + 1)), .int (xs (i + 2)), .int (xs (i + 3))]) (rest := [.int v]) (r := (9, 0)) C hR (kX9_why K.1 _ (by omega) σ (xs (i + 1)) (xs (i + 2)) (xs (i + 3)) e2) mi_X9_why is_X9_why se_X9_why ml_RL_35 (wcells_mem (f := 9) (j := 0) (by decide) (by decide)) rfl rfl rfl rfl (Nat.le_of_ble_eq_true rfl) dL_law_363 ?_
  show TW K 366 (Ll K b i) [.int v, .int v] s2
  exact tw_ic_eq (tgt := 1749) C dL_law_366 (by decide) (fun _ => cont s2 hI2) (fun hne => absurd rfl hne)
set_option maxRecDepth 20000 in
theorem lc_5 {K : Kx} (C : Cx K cL_law RL) (hR : RmOk K 11) {b L : Nat} {xs : Nat → Int32} (hX : SX K b L xs) (hL : L ≤ 3072) {i : Nat} (hi : i + 6 ≤ L) {σ : St} (hI : Iy σ) (cont : ∀ σ', Iy σ' → TW K 1749 (Ll K b i) [] σ') : TW K 371 (Ll K b i) [] σ := by
  refine tw_aload_n (i := 1) (z := 1) (r := (8, 0)) C dL_law_371 rfl rfl ?_
  refine tw_aload_b (i := 0) (z := 0) C dL_law_372 rfl rfl ?_
  refine tw_iload_n (i := 3) (z := 3) C dL_law_373 rfl rfl ?_
  refine tw_iconst (v := 1) C dL_law_374 (by decide) ?_
  refine tw_iadd C dL_law_375 ?_
  refine tw_script (j := i + 1) C hX (by omega) (by omega) (nI_add i 1) dL_law_376 ?_
  refine tw_aload_b (i := 0) (z := 0) C dL_law_377 rfl rfl ?_
  refine tw_iload_n (i := 3) (z := 3) C dL_law_378 rfl rfl ?_
  refine tw_iconst (v := 2) C dL_law_379 (by decide) ?_
  refine tw_iadd C dL_law_380 ?_
  refine tw_script (j := i + 2) C hX (by omega) (by omega) (nI_add i 2) dL_law_381 ?_
  obtain ⟨v, s2, e1, e2, hI2⟩ := oy_differ hI (xs (i + 1)) (xs (i + 2))
  refine tw_callV (As := [.int (xs (i + 1)), .int (xs (i + 2))]) (rest := []) (r := (8, 0)) C hR (kX8_differ K.1 _ (by omega) σ (xs (i + 1)) (xs (i + 2)) e1) mi_X8_differ is_X8_differ se_X8_differ ml_RL_36 (wcells_mem (f := 8) (j := 0) (by decide) (by decide)) rfl rfl rfl rfl (Nat.le_of_ble_eq_true rfl) dL_law_382 ?_
  show TW K 385 (Ll K b i) [.int v] σ
  refine tw_aload_n (i := 2) (z := 2) (r := (9, 0)) C dL_law_385 rfl rfl ?_
  refine tw_aload_b (i := 0) (z := 0) C dL_law_386 rfl rfl ?_
  refine tw_iload_n (i := 3) (z := 3) C dL_law_387 rfl rfl ?_
  refine tw_iconst (v := 1) C dL_law_388 (by decide) ?_
  refine tw_iadd C dL_law_389 ?_
  refine tw_script (j := i + 1) C hX (by omega) (by omega) (nI_add i 1) dL_law_390 ?_
  refine tw_aload_b (i := 0) (z := 0) C dL_law_391 rfl rfl ?_
  refine tw_iload_n (i := 3) (z := 3) C dL_law_392 rfl rfl ?_
  refine tw_iconst (v := 2) C dL_law_393 (by decide) ?_
  refine tw_iadd C dL_law_394 ?_
  refine tw_script (j := i + 2) C hX (by omega) (by omega) (nI_add i 2) dL_law_395 ?_
  refine tw_callV (As := [.int (xs (i + 1)), .int (xs (i + 2))]) (rest := [.int v]) (r := (9, 0)) C hR (kX9_differ K.1 _ (by omega) σ (xs (i + 1)) (xs (i + 2)) e2) mi_X9_differ is_X9_differ se_X9_differ ml_RL_39 (wcells_mem (f := 9) (j := 0) (by decide) (by decide)) rfl rfl rfl rfl (Nat.le_of_ble_eq_true rfl) dL_law_396 ?_
  show TW K 399 (Ll K b i) [.int v, .int v] s2
  exact tw_ic_eq (tgt := 1749) C dL_law_399 (by decide) (fun _ => cont s2 hI2) (fun hne => absurd rfl hne)
set_option maxRecDepth 20000 in
theorem lc_6 {K : Kx} (C : Cx K cL_law RL) (hR : RmOk K 11) {b L : Nat} {xs : Nat → Int32} (hX : SX K b L xs) (hL : L ≤ 3072) {i : Nat} (hi : i + 6 ≤ L) {σ : St} (hI : Iy σ) (cont : ∀ σ', Iy σ' → TW K 1749 (Ll K b i) [] σ') : TW K 404 (Ll K b i) [] σ := by
  refine tw_aload_n (i := 1) (z := 1) (r := (8, 0)) C dL_law_404 rfl rfl ?_
  refine tw_aload_b (i := 0) (z := 0) C dL_law_405 rfl rfl ?_
  refine tw_iload_n (i := 3) (z := 3) C dL_law_406 rfl rfl ?_
  refine tw_iconst (v := 1) C dL_law_407 (by decide) ?_
  refine tw_iadd C dL_law_408 ?_
  refine tw_script (j := i + 1) C hX (by omega) (by omega) (nI_add i 1) dL_law_409 ?_
  refine tw_aload_b (i := 0) (z := 0) C dL_law_410 rfl rfl ?_
  refine tw_iload_n (i := 3) (z := 3) C dL_law_411 rfl rfl ?_
  refine tw_iconst (v := 2) C dL_law_412 (by decide) ?_
  refine tw_iadd C dL_law_413 ?_
  refine tw_script (j := i + 2) C hX (by omega) (by omega) (nI_add i 2) dL_law_414 ?_
  obtain ⟨v, s1, s2, e1, e2, hI2⟩ := oy_match hI (xs (i + 1)) (xs (i + 2))
  refine tw_callV (As := [.int (xs (i + 1)), .int (xs (i + 2))]) (rest := []) (r := (8, 0)) C hR (kX8_match K.1 _ (by omega) σ (xs (i + 1)) (xs (i + 2)) e1) mi_X8_match is_X8_match se_X8_match ml_RL_40 (wcells_mem (f := 8) (j := 0) (by decide) (by decide)) rfl rfl rfl rfl (Nat.le_of_ble_eq_true rfl) dL_law_415 ?_
  show TW K 418 (Ll K b i) [.int v] s1
  refine tw_aload_n (i := 2) (z := 2) (r := (9, 0)) C dL_law_418 rfl rfl ?_
  refine tw_aload_b (i := 0) (z := 0) C dL_law_419 rfl rfl ?_
  refine tw_iload_n (i := 3) (z := 3) C dL_law_420 rfl rfl ?_
  refine tw_iconst (v := 1) C dL_law_421 (by decide) ?_
  refine tw_iadd C dL_law_422 ?_
  refine tw_script (j := i + 1) C hX (by omega) (by omega) (nI_add i 1) dL_law_423 ?_
  refine tw_aload_b (i := 0) (z := 0) C dL_law_424 rfl rfl ?_
  refine tw_iload_n (i := 3) (z := 3) C dL_law_425 rfl rfl ?_
  refine tw_iconst (v := 2) C dL_law_426 (by decide) ?_
  refine tw_iadd C dL_law_427 ?_
  refine tw_script (j := i + 2) C hX (by omega) (by omega) (nI_add i 2) dL_law_428 ?_
  refine tw_callV (As := [.int (xs (i + 1)), .int (xs (i + 2))]) (rest := [.int v]) (r := (9, 0)) C hR (kX9_match K.1 _ (by omega) s1 (xs (i + 1)) (xs (i + 2)) e2) mi_X9_match is_X9_match se_X9_match ml_RL_43 (wcells_mem (f := 9) (j := 0) (by decide) (by decide)) rfl rfl rfl rfl (Nat.le_of_ble_eq_true rfl) dL_law_429 ?_
  show TW K 432 (Ll K b i) [.int v, .int v] s2
  exact tw_ic_eq (tgt := 1749) C dL_law_432 (by decide) (fun _ => cont s2 hI2) (fun hne => absurd rfl hne)
set_option maxRecDepth 20000 in
theorem lc_7 {K : Kx} (C : Cx K cL_law RL) (hR : RmOk K 11) {b L : Nat} {xs : Nat → Int32} (hX : SX K b L xs) (hL : L ≤ 3072) {i : Nat} (hi : i + 6 ≤ L) {σ : St} (hI : Iy σ) (cont : ∀ σ', Iy σ' → TW K 1749 (Ll K b i) [] σ') : TW K 437 (Ll K b i) [] σ := by
  refine tw_aload_n (i := 1) (z := 1) (r := (8, 0)) C dL_law_437 rfl rfl ?_
  refine tw_aload_b (i := 0) (z := 0) C dL_law_438 rfl rfl ?_
  refine tw_iload_n (i := 3) (z := 3) C dL_law_439 rfl rfl ?_
  refine tw_iconst (v := 1) C dL_law_440 (by decide) ?_
  refine tw_iadd C dL_law_441 ?_
  refine tw_script (j := i + 1) C hX (by omega) (by omega) (nI_add i 1) dL_law_442 ?_
  refine tw_aload_b (i := 0) (z := 0) C dL_law_443 rfl rfl ?_
  refine tw_iload_n (i := 3) (z := 3) C dL_law_444 rfl rfl ?_
  refine tw_iconst (v := 2) C dL_law_445 (by decide) ?_
  refine tw_iadd C dL_law_446 ?_
  refine tw_script (j := i + 2) C hX (by omega) (by omega) (nI_add i 2) dL_law_447 ?_
  obtain ⟨v, s1, s2, e1, e2, hI2⟩ := oy_verdicts hI (xs (i + 1)) (xs (i + 2))
  refine tw_callV (As := [.int (xs (i + 1)), .int (xs (i + 2))]) (rest := []) (r := (8, 0)) C hR (kX8_verdicts K.1 _ (by omega) σ (xs (i + 1)) (xs (i + 2)) e1) mi_X8_verdicts is_X8_verdicts se_X8_verdicts ml_RL_44 (wcells_mem (f := 8) (j := 0) (by decide) (by decide)) rfl rfl rfl rfl (Nat.le_of_ble_eq_true rfl) dL_law_448 ?_
  show TW K 451 (Ll K b i) [.int v] s1
  refine tw_aload_n (i := 2) (z := 2) (r := (9, 0)) C dL_law_451 rfl rfl ?_
  refine tw_aload_b (i := 0) (z := 0) C dL_law_452 rfl rfl ?_
  refine tw_iload_n (i := 3) (z := 3) C dL_law_453 rfl rfl ?_
  refine tw_iconst (v := 1) C dL_law_454 (by decide) ?_
  refine tw_iadd C dL_law_455 ?_
  refine tw_script (j := i + 1) C hX (by omega) (by omega) (nI_add i 1) dL_law_456 ?_
  refine tw_aload_b (i := 0) (z := 0) C dL_law_457 rfl rfl ?_
  refine tw_iload_n (i := 3) (z := 3) C dL_law_458 rfl rfl ?_
  refine tw_iconst (v := 2) C dL_law_459 (by decide) ?_
  refine tw_iadd C dL_law_460 ?_
  refine tw_script (j := i + 2) C hX (by omega) (by omega) (nI_add i 2) dL_law_461 ?_
  refine tw_callV (As := [.int (xs (i + 1)), .int (xs (i + 2))]) (rest := [.int v]) (r := (9, 0)) C hR (kX9_verdicts K.1 _ (by omega) s1 (xs (i + 1)) (xs (i + 2)) e2) mi_X9_verdicts is_X9_verdicts se_X9_verdicts ml_RL_47 (wcells_mem (f := 9) (j := 0) (by decide) (by decide)) rfl rfl rfl rfl (Nat.le_of_ble_eq_true rfl) dL_law_462 ?_
  show TW K 465 (Ll K b i) [.int v, .int v] s2
  exact tw_ic_eq (tgt := 1749) C dL_law_465 (by decide) (fun _ => cont s2 hI2) (fun hne => absurd rfl hne)
set_option maxRecDepth 20000 in
theorem lc_8 {K : Kx} (C : Cx K cL_law RL) (hR : RmOk K 11) {b L : Nat} {xs : Nat → Int32} (hX : SX K b L xs) (hL : L ≤ 3072) {i : Nat} (hi : i + 6 ≤ L) {σ : St} (hI : Iy σ) (cont : ∀ σ', Iy σ' → TW K 1749 (Ll K b i) [] σ') : TW K 470 (Ll K b i) [] σ := by
  refine tw_aload_n (i := 1) (z := 1) (r := (8, 0)) C dL_law_470 rfl rfl ?_
  refine tw_aload_b (i := 0) (z := 0) C dL_law_471 rfl rfl ?_
  refine tw_iload_n (i := 3) (z := 3) C dL_law_472 rfl rfl ?_
  refine tw_iconst (v := 1) C dL_law_473 (by decide) ?_
  refine tw_iadd C dL_law_474 ?_
  refine tw_script (j := i + 1) C hX (by omega) (by omega) (nI_add i 1) dL_law_475 ?_
  refine tw_aload_b (i := 0) (z := 0) C dL_law_476 rfl rfl ?_
  refine tw_iload_n (i := 3) (z := 3) C dL_law_477 rfl rfl ?_
  refine tw_iconst (v := 2) C dL_law_478 (by decide) ?_
  refine tw_iadd C dL_law_479 ?_
  refine tw_script (j := i + 2) C hX (by omega) (by omega) (nI_add i 2) dL_law_480 ?_
  refine tw_aload_b (i := 0) (z := 0) C dL_law_481 rfl rfl ?_
  refine tw_iload_n (i := 3) (z := 3) C dL_law_482 rfl rfl ?_
  refine tw_iconst (v := 3) C dL_law_483 (by decide) ?_
  refine tw_iadd C dL_law_484 ?_
  refine tw_script (j := i + 3) C hX (by omega) (by omega) (nI_add i 3) dL_law_485 ?_
  refine tw_aload_b (i := 0) (z := 0) C dL_law_486 rfl rfl ?_
  refine tw_iload_n (i := 3) (z := 3) C dL_law_487 rfl rfl ?_
  refine tw_iconst (v := 4) C dL_law_488 (by decide) ?_
  refine tw_iadd C dL_law_489 ?_
  refine tw_script (j := i + 4) C hX (by omega) (by omega) (nI_add i 4) dL_law_490 ?_
  refine tw_aload_b (i := 0) (z := 0) C dL_law_491 rfl rfl ?_
  refine tw_iload_n (i := 3) (z := 3) C dL_law_492 rfl rfl ?_
  refine tw_iconst (v := 5) C dL_law_493 (by decide) ?_
  refine tw_iadd C dL_law_494 ?_
  refine tw_script (j := i + 5) C hX (by omega) (by omega) (nI_add i 5) dL_law_495 ?_
  obtain ⟨v, s1, s2, e1, e2, hI2⟩ := oy_played hI (xs (i + 1)) (xs (i + 2)) (xs (i + 3)) (xs (i + 4)) (xs (i + 5))
  refine tw_callV (As := [.int (xs (i + 1)), .int (xs (i + 2)), .int (xs (i + 3)), .int (xs (i + 4)), .int (xs (i + 5))]) (rest := []) (r := (8, 0)) C hR (kX8_played K.1 _ (by omega) σ (xs (i + 1)) (xs (i + 2)) (xs (i + 3)) (xs (i + 4)) (xs (i + 5)) e1) mi_X8_played is_X8_played se_X8_played ml_RL_48 (wcells_mem (f := 8) (j := 0) (by decide) (by decide)) rfl rfl rfl rfl (Nat.le_of_ble_eq_true rfl) dL_law_496 ?_
  show TW K 499 (Ll K b i) [.int v] s1
  refine tw_aload_n (i := 2) (z := 2) (r := (9, 0)) C dL_law_499 rfl rfl ?_
  refine tw_aload_b (i := 0) (z := 0) C dL_law_500 rfl rfl ?_
  refine tw_iload_n (i := 3) (z := 3) C dL_law_501 rfl rfl ?_
  refine tw_iconst (v := 1) C dL_law_502 (by decide) ?_
  refine tw_iadd C dL_law_503 ?_
  refine tw_script (j := i + 1) C hX (by omega) (by omega) (nI_add i 1) dL_law_504 ?_
  refine tw_aload_b (i := 0) (z := 0) C dL_law_505 rfl rfl ?_
  refine tw_iload_n (i := 3) (z := 3) C dL_law_506 rfl rfl ?_
  refine tw_iconst (v := 2) C dL_law_507 (by decide) ?_
  refine tw_iadd C dL_law_508 ?_
  refine tw_script (j := i + 2) C hX (by omega) (by omega) (nI_add i 2) dL_law_509 ?_
  refine tw_aload_b (i := 0) (z := 0) C dL_law_510 rfl rfl ?_
  refine tw_iload_n (i := 3) (z := 3) C dL_law_511 rfl rfl ?_
  refine tw_iconst (v := 3) C dL_law_512 (by decide) ?_
  refine tw_iadd C dL_law_513 ?_
  refine tw_script (j := i + 3) C hX (by omega) (by omega) (nI_add i 3) dL_law_514 ?_
  refine tw_aload_b (i := 0) (z := 0) C dL_law_515 rfl rfl ?_
  refine tw_iload_n (i := 3) (z := 3) C dL_law_516 rfl rfl ?_
  refine tw_iconst (v := 4) C dL_law_517 (by decide) ?_
  refine tw_iadd C dL_law_518 ?_
  refine tw_script (j := i + 4) C hX (by omega) (by omega) (nI_add i 4) dL_law_519 ?_
  refine tw_aload_b (i := 0) (z := 0) C dL_law_520 rfl rfl ?_
  refine tw_iload_n (i := 3) (z := 3) C dL_law_521 rfl rfl ?_
  refine tw_iconst (v := 5) C dL_law_522 (by decide) ?_
  refine tw_iadd C dL_law_523 ?_
  refine tw_script (j := i + 5) C hX (by omega) (by omega) (nI_add i 5) dL_law_524 ?_
  refine tw_callV (As := [.int (xs (i + 1)), .int (xs (i + 2)), .int (xs (i + 3)), .int (xs (i + 4)), .int (xs (i + 5))]) (rest := [.int v]) (r := (9, 0)) C hR (kX9_played K.1 _ (by omega) s1 (xs (i + 1)) (xs (i + 2)) (xs (i + 3)) (xs (i + 4)) (xs (i + 5)) e2) mi_X9_played is_X9_played se_X9_played ml_RL_52 (wcells_mem (f := 9) (j := 0) (by decide) (by decide)) rfl rfl rfl rfl (Nat.le_of_ble_eq_true rfl) dL_law_525 ?_
  show TW K 528 (Ll K b i) [.int v, .int v] s2
  exact tw_ic_eq (tgt := 1749) C dL_law_528 (by decide) (fun _ => cont s2 hI2) (fun hne => absurd rfl hne)
set_option maxRecDepth 20000 in
theorem lc_9 {K : Kx} (C : Cx K cL_law RL) (hR : RmOk K 11) {b L : Nat} {xs : Nat → Int32} (hX : SX K b L xs) (hL : L ≤ 3072) {i : Nat} (hi : i + 6 ≤ L) {σ : St} (hI : Iy σ) (cont : ∀ σ', Iy σ' → TW K 1749 (Ll K b i) [] σ') : TW K 533 (Ll K b i) [] σ := by
  refine tw_aload_n (i := 1) (z := 1) (r := (8, 0)) C dL_law_533 rfl rfl ?_
  refine tw_aload_b (i := 0) (z := 0) C dL_law_534 rfl rfl ?_
  refine tw_iload_n (i := 3) (z := 3) C dL_law_535 rfl rfl ?_
  refine tw_iconst (v := 1) C dL_law_536 (by decide) ?_
  refine tw_iadd C dL_law_537 ?_
  refine tw_script (j := i + 1) C hX (by omega) (by omega) (nI_add i 1) dL_law_538 ?_
  refine tw_aload_b (i := 0) (z := 0) C dL_law_539 rfl rfl ?_
  refine tw_iload_n (i := 3) (z := 3) C dL_law_540 rfl rfl ?_
  refine tw_iconst (v := 2) C dL_law_541 (by decide) ?_
  refine tw_iadd C dL_law_542 ?_
  refine tw_script (j := i + 2) C hX (by omega) (by omega) (nI_add i 2) dL_law_543 ?_
  refine tw_aload_b (i := 0) (z := 0) C dL_law_544 rfl rfl ?_
  refine tw_iload_n (i := 3) (z := 3) C dL_law_545 rfl rfl ?_
  refine tw_iconst (v := 3) C dL_law_546 (by decide) ?_
  refine tw_iadd C dL_law_547 ?_
  refine tw_script (j := i + 3) C hX (by omega) (by omega) (nI_add i 3) dL_law_548 ?_
  obtain ⟨v, s1, s2, e1, e2, hI2⟩ := oy_goes hI (xs (i + 1)) (xs (i + 2)) (xs (i + 3))
  refine tw_callV (As := [.int (xs (i + 1)), .int (xs (i + 2)), .int (xs (i + 3))]) (rest := []) (r := (8, 0)) C hR (kX8_goes K.1 _ (by omega) σ (xs (i + 1)) (xs (i + 2)) (xs (i + 3)) e1) mi_X8_goes is_X8_goes se_X8_goes ml_RL_53 (wcells_mem (f := 8) (j := 0) (by decide) (by decide)) rfl rfl rfl rfl (Nat.le_of_ble_eq_true rfl) dL_law_549 ?_
  show TW K 552 (Ll K b i) [.int v] s1
  refine tw_aload_n (i := 2) (z := 2) (r := (9, 0)) C dL_law_552 rfl rfl ?_
  refine tw_aload_b (i := 0) (z := 0) C dL_law_553 rfl rfl ?_
  refine tw_iload_n (i := 3) (z := 3) C dL_law_554 rfl rfl ?_
  refine tw_iconst (v := 1) C dL_law_555 (by decide) ?_
  refine tw_iadd C dL_law_556 ?_
  refine tw_script (j := i + 1) C hX (by omega) (by omega) (nI_add i 1) dL_law_557 ?_
  refine tw_aload_b (i := 0) (z := 0) C dL_law_558 rfl rfl ?_
  refine tw_iload_n (i := 3) (z := 3) C dL_law_559 rfl rfl ?_
  refine tw_iconst (v := 2) C dL_law_560 (by decide) ?_
  refine tw_iadd C dL_law_561 ?_
  refine tw_script (j := i + 2) C hX (by omega) (by omega) (nI_add i 2) dL_law_562 ?_
  refine tw_aload_b (i := 0) (z := 0) C dL_law_563 rfl rfl ?_
  refine tw_iload_n (i := 3) (z := 3) C dL_law_564 rfl rfl ?_
  refine tw_iconst (v := 3) C dL_law_565 (by decide) ?_
  refine tw_iadd C dL_law_566 ?_
  refine tw_script (j := i + 3) C hX (by omega) (by omega) (nI_add i 3) dL_law_567 ?_
  refine tw_callV (As := [.int (xs (i + 1)), .int (xs (i + 2)), .int (xs (i + 3))]) (rest := [.int v]) (r := (9, 0)) C hR (kX9_goes K.1 _ (by omega) s1 (xs (i + 1)) (xs (i + 2)) (xs (i + 3)) e2) mi_X9_goes is_X9_goes se_X9_goes ml_RL_56 (wcells_mem (f := 9) (j := 0) (by decide) (by decide)) rfl rfl rfl rfl (Nat.le_of_ble_eq_true rfl) dL_law_568 ?_
  show TW K 571 (Ll K b i) [.int v, .int v] s2
  exact tw_ic_eq (tgt := 1749) C dL_law_571 (by decide) (fun _ => cont s2 hI2) (fun hne => absurd rfl hne)
set_option maxRecDepth 20000 in
theorem lc_10 {K : Kx} (C : Cx K cL_law RL) (hR : RmOk K 11) {b L : Nat} {xs : Nat → Int32} (hX : SX K b L xs) (hL : L ≤ 3072) {i : Nat} (hi : i + 6 ≤ L) {σ : St} (hI : Iy σ) (cont : ∀ σ', Iy σ' → TW K 1749 (Ll K b i) [] σ') : TW K 576 (Ll K b i) [] σ := by
  refine tw_aload_n (i := 1) (z := 1) (r := (8, 0)) C dL_law_576 rfl rfl ?_
  refine tw_aload_b (i := 0) (z := 0) C dL_law_577 rfl rfl ?_
  refine tw_iload_n (i := 3) (z := 3) C dL_law_578 rfl rfl ?_
  refine tw_iconst (v := 1) C dL_law_579 (by decide) ?_
  refine tw_iadd C dL_law_580 ?_
  refine tw_script (j := i + 1) C hX (by omega) (by omega) (nI_add i 1) dL_law_581 ?_
  refine tw_aload_b (i := 0) (z := 0) C dL_law_582 rfl rfl ?_
  refine tw_iload_n (i := 3) (z := 3) C dL_law_583 rfl rfl ?_
  refine tw_iconst (v := 2) C dL_law_584 (by decide) ?_
  refine tw_iadd C dL_law_585 ?_
  refine tw_script (j := i + 2) C hX (by omega) (by omega) (nI_add i 2) dL_law_586 ?_
  obtain ⟨v, s1, s2, e1, e2, hI2⟩ := oy_turned hI (xs (i + 1)) (xs (i + 2))
  refine tw_callV (As := [.int (xs (i + 1)), .int (xs (i + 2))]) (rest := []) (r := (8, 0)) C hR (kX8_turned K.1 _ (by omega) σ (xs (i + 1)) (xs (i + 2)) e1) mi_X8_turned is_X8_turned se_X8_turned ml_RL_57 (wcells_mem (f := 8) (j := 0) (by decide) (by decide)) rfl rfl rfl rfl (Nat.le_of_ble_eq_true rfl) dL_law_587 ?_
  show TW K 590 (Ll K b i) [.int v] s1
  refine tw_aload_n (i := 2) (z := 2) (r := (9, 0)) C dL_law_590 rfl rfl ?_
  refine tw_aload_b (i := 0) (z := 0) C dL_law_591 rfl rfl ?_
  refine tw_iload_n (i := 3) (z := 3) C dL_law_592 rfl rfl ?_
  refine tw_iconst (v := 1) C dL_law_593 (by decide) ?_
  refine tw_iadd C dL_law_594 ?_
  refine tw_script (j := i + 1) C hX (by omega) (by omega) (nI_add i 1) dL_law_595 ?_
  refine tw_aload_b (i := 0) (z := 0) C dL_law_596 rfl rfl ?_
  refine tw_iload_n (i := 3) (z := 3) C dL_law_597 rfl rfl ?_
  refine tw_iconst (v := 2) C dL_law_598 (by decide) ?_
  refine tw_iadd C dL_law_599 ?_
  refine tw_script (j := i + 2) C hX (by omega) (by omega) (nI_add i 2) dL_law_600 ?_
  refine tw_callV (As := [.int (xs (i + 1)), .int (xs (i + 2))]) (rest := [.int v]) (r := (9, 0)) C hR (kX9_turned K.1 _ (by omega) s1 (xs (i + 1)) (xs (i + 2)) e2) mi_X9_turned is_X9_turned se_X9_turned ml_RL_60 (wcells_mem (f := 9) (j := 0) (by decide) (by decide)) rfl rfl rfl rfl (Nat.le_of_ble_eq_true rfl) dL_law_601 ?_
  show TW K 604 (Ll K b i) [.int v, .int v] s2
  exact tw_ic_eq (tgt := 1749) C dL_law_604 (by decide) (fun _ => cont s2 hI2) (fun hne => absurd rfl hne)
set_option maxRecDepth 20000 in
theorem lc_11 {K : Kx} (C : Cx K cL_law RL) (hR : RmOk K 11) {b L : Nat} {xs : Nat → Int32} (hX : SX K b L xs) (hL : L ≤ 3072) {i : Nat} (hi : i + 6 ≤ L) {σ : St} (hI : Iy σ) (cont : ∀ σ', Iy σ' → TW K 1749 (Ll K b i) [] σ') : TW K 609 (Ll K b i) [] σ := by
  refine tw_aload_n (i := 1) (z := 1) (r := (8, 0)) C dL_law_609 rfl rfl ?_
  refine tw_aload_b (i := 0) (z := 0) C dL_law_610 rfl rfl ?_
  refine tw_iload_n (i := 3) (z := 3) C dL_law_611 rfl rfl ?_
  refine tw_iconst (v := 1) C dL_law_612 (by decide) ?_
  refine tw_iadd C dL_law_613 ?_
  refine tw_script (j := i + 1) C hX (by omega) (by omega) (nI_add i 1) dL_law_614 ?_
  refine tw_aload_b (i := 0) (z := 0) C dL_law_615 rfl rfl ?_
  refine tw_iload_n (i := 3) (z := 3) C dL_law_616 rfl rfl ?_
  refine tw_iconst (v := 2) C dL_law_617 (by decide) ?_
  refine tw_iadd C dL_law_618 ?_
  refine tw_script (j := i + 2) C hX (by omega) (by omega) (nI_add i 2) dL_law_619 ?_
  obtain ⟨v, s1, s2, e1, e2, hI2⟩ := oy_found hI (xs (i + 1)) (xs (i + 2))
  refine tw_callV (As := [.int (xs (i + 1)), .int (xs (i + 2))]) (rest := []) (r := (8, 0)) C hR (kX8_found K.1 _ (by omega) σ (xs (i + 1)) (xs (i + 2)) e1) mi_X8_found is_X8_found se_X8_found ml_RL_61 (wcells_mem (f := 8) (j := 0) (by decide) (by decide)) rfl rfl rfl rfl (Nat.le_of_ble_eq_true rfl) dL_law_620 ?_
  show TW K 623 (Ll K b i) [.int v] s1
  refine tw_aload_n (i := 2) (z := 2) (r := (9, 0)) C dL_law_623 rfl rfl ?_
  refine tw_aload_b (i := 0) (z := 0) C dL_law_624 rfl rfl ?_
  refine tw_iload_n (i := 3) (z := 3) C dL_law_625 rfl rfl ?_
  refine tw_iconst (v := 1) C dL_law_626 (by decide) ?_
  refine tw_iadd C dL_law_627 ?_
  refine tw_script (j := i + 1) C hX (by omega) (by omega) (nI_add i 1) dL_law_628 ?_
  refine tw_aload_b (i := 0) (z := 0) C dL_law_629 rfl rfl ?_
  refine tw_iload_n (i := 3) (z := 3) C dL_law_630 rfl rfl ?_
  refine tw_iconst (v := 2) C dL_law_631 (by decide) ?_
  refine tw_iadd C dL_law_632 ?_
  refine tw_script (j := i + 2) C hX (by omega) (by omega) (nI_add i 2) dL_law_633 ?_
  refine tw_callV (As := [.int (xs (i + 1)), .int (xs (i + 2))]) (rest := [.int v]) (r := (9, 0)) C hR (kX9_found K.1 _ (by omega) s1 (xs (i + 1)) (xs (i + 2)) e2) mi_X9_found is_X9_found se_X9_found ml_RL_64 (wcells_mem (f := 9) (j := 0) (by decide) (by decide)) rfl rfl rfl rfl (Nat.le_of_ble_eq_true rfl) dL_law_634 ?_
  show TW K 637 (Ll K b i) [.int v, .int v] s2
  exact tw_ic_eq (tgt := 1749) C dL_law_637 (by decide) (fun _ => cont s2 hI2) (fun hne => absurd rfl hne)
set_option maxRecDepth 20000 in
theorem lc_12 {K : Kx} (C : Cx K cL_law RL) (hR : RmOk K 11) {b L : Nat} {xs : Nat → Int32} (hX : SX K b L xs) (hL : L ≤ 3072) {i : Nat} (hi : i + 6 ≤ L) {σ : St} (hI : Iy σ) (cont : ∀ σ', Iy σ' → TW K 1749 (Ll K b i) [] σ') : TW K 642 (Ll K b i) [] σ := by
  refine tw_aload_n (i := 1) (z := 1) (r := (8, 0)) C dL_law_642 rfl rfl ?_
  refine tw_aload_b (i := 0) (z := 0) C dL_law_643 rfl rfl ?_
  refine tw_iload_n (i := 3) (z := 3) C dL_law_644 rfl rfl ?_
  refine tw_iconst (v := 1) C dL_law_645 (by decide) ?_
  refine tw_iadd C dL_law_646 ?_
  refine tw_script (j := i + 1) C hX (by omega) (by omega) (nI_add i 1) dL_law_647 ?_
  refine tw_aload_b (i := 0) (z := 0) C dL_law_648 rfl rfl ?_
  refine tw_iload_n (i := 3) (z := 3) C dL_law_649 rfl rfl ?_
  refine tw_iconst (v := 2) C dL_law_650 (by decide) ?_
  refine tw_iadd C dL_law_651 ?_
  refine tw_script (j := i + 2) C hX (by omega) (by omega) (nI_add i 2) dL_law_652 ?_
  obtain ⟨v, s1, s2, e1, e2, hI2⟩ := oy_fits hI (xs (i + 1)) (xs (i + 2))
  refine tw_callV (As := [.int (xs (i + 1)), .int (xs (i + 2))]) (rest := []) (r := (8, 0)) C hR (kX8_fits K.1 _ (by omega) σ (xs (i + 1)) (xs (i + 2)) e1) mi_X8_fits is_X8_fits se_X8_fits ml_RL_65 (wcells_mem (f := 8) (j := 0) (by decide) (by decide)) rfl rfl rfl rfl (Nat.le_of_ble_eq_true rfl) dL_law_653 ?_
  show TW K 656 (Ll K b i) [.int v] s1
  refine tw_aload_n (i := 2) (z := 2) (r := (9, 0)) C dL_law_656 rfl rfl ?_
  refine tw_aload_b (i := 0) (z := 0) C dL_law_657 rfl rfl ?_
  refine tw_iload_n (i := 3) (z := 3) C dL_law_658 rfl rfl ?_
  refine tw_iconst (v := 1) C dL_law_659 (by decide) ?_
  refine tw_iadd C dL_law_660 ?_
  refine tw_script (j := i + 1) C hX (by omega) (by omega) (nI_add i 1) dL_law_661 ?_
  refine tw_aload_b (i := 0) (z := 0) C dL_law_662 rfl rfl ?_
  refine tw_iload_n (i := 3) (z := 3) C dL_law_663 rfl rfl ?_
  refine tw_iconst (v := 2) C dL_law_664 (by decide) ?_
  refine tw_iadd C dL_law_665 ?_
  refine tw_script (j := i + 2) C hX (by omega) (by omega) (nI_add i 2) dL_law_666 ?_
  refine tw_callV (As := [.int (xs (i + 1)), .int (xs (i + 2))]) (rest := [.int v]) (r := (9, 0)) C hR (kX9_fits K.1 _ (by omega) s1 (xs (i + 1)) (xs (i + 2)) e2) mi_X9_fits is_X9_fits se_X9_fits ml_RL_68 (wcells_mem (f := 9) (j := 0) (by decide) (by decide)) rfl rfl rfl rfl (Nat.le_of_ble_eq_true rfl) dL_law_667 ?_
  show TW K 670 (Ll K b i) [.int v, .int v] s2
  exact tw_ic_eq (tgt := 1749) C dL_law_670 (by decide) (fun _ => cont s2 hI2) (fun hne => absurd rfl hne)
set_option maxRecDepth 20000 in
theorem lc_13 {K : Kx} (C : Cx K cL_law RL) (hR : RmOk K 11) {b L : Nat} {xs : Nat → Int32} (hX : SX K b L xs) (hL : L ≤ 3072) {i : Nat} (hi : i + 6 ≤ L) {σ : St} (hI : Iy σ) (cont : ∀ σ', Iy σ' → TW K 1749 (Ll K b i) [] σ') : TW K 675 (Ll K b i) [] σ := by
  refine tw_aload_n (i := 1) (z := 1) (r := (8, 0)) C dL_law_675 rfl rfl ?_
  obtain ⟨v, s1, s2, e1, e2, hI2⟩ := oy_fitting hI 
  refine tw_callV (As := []) (rest := []) (r := (8, 0)) C hR (kX8_fitting K.1 _ (by omega) σ  e1) mi_X8_fitting is_X8_fitting se_X8_fitting ml_RL_69 (wcells_mem (f := 8) (j := 0) (by decide) (by decide)) rfl rfl rfl rfl (Nat.le_of_ble_eq_true rfl) dL_law_676 ?_
  show TW K 679 (Ll K b i) [.int v] s1
  refine tw_aload_n (i := 2) (z := 2) (r := (9, 0)) C dL_law_679 rfl rfl ?_
  refine tw_callV (As := []) (rest := [.int v]) (r := (9, 0)) C hR (kX9_fitting K.1 _ (by omega) s1  e2) mi_X9_fitting is_X9_fitting se_X9_fitting ml_RL_73 (wcells_mem (f := 9) (j := 0) (by decide) (by decide)) rfl rfl rfl rfl (Nat.le_of_ble_eq_true rfl) dL_law_680 ?_
  show TW K 683 (Ll K b i) [.int v, .int v] s2
  exact tw_ic_eq (tgt := 1749) C dL_law_683 (by decide) (fun _ => cont s2 hI2) (fun hne => absurd rfl hne)
set_option maxRecDepth 20000 in
theorem lc_14 {K : Kx} (C : Cx K cL_law RL) (hR : RmOk K 11) {b L : Nat} {xs : Nat → Int32} (hX : SX K b L xs) (hL : L ≤ 3072) {i : Nat} (hi : i + 6 ≤ L) {σ : St} (hI : Iy σ) (cont : ∀ σ', Iy σ' → TW K 1749 (Ll K b i) [] σ') : TW K 688 (Ll K b i) [] σ := by
  refine tw_aload_n (i := 1) (z := 1) (r := (8, 0)) C dL_law_688 rfl rfl ?_
  refine tw_aload_b (i := 0) (z := 0) C dL_law_689 rfl rfl ?_
  refine tw_iload_n (i := 3) (z := 3) C dL_law_690 rfl rfl ?_
  refine tw_iconst (v := 1) C dL_law_691 (by decide) ?_
  refine tw_iadd C dL_law_692 ?_
  refine tw_script (j := i + 1) C hX (by omega) (by omega) (nI_add i 1) dL_law_693 ?_
  refine tw_aload_b (i := 0) (z := 0) C dL_law_694 rfl rfl ?_
  refine tw_iload_n (i := 3) (z := 3) C dL_law_695 rfl rfl ?_
  refine tw_iconst (v := 2) C dL_law_696 (by decide) ?_
  refine tw_iadd C dL_law_697 ?_
  refine tw_script (j := i + 2) C hX (by omega) (by omega) (nI_add i 2) dL_law_698 ?_
  obtain ⟨v, s1, s2, e1, e2, hI2⟩ := oy_parts hI (xs (i + 1)) (xs (i + 2))
  refine tw_callV (As := [.int (xs (i + 1)), .int (xs (i + 2))]) (rest := []) (r := (8, 0)) C hR (kX8_parts K.1 _ (by omega) σ (xs (i + 1)) (xs (i + 2)) e1) mi_X8_parts is_X8_parts se_X8_parts ml_RL_74 (wcells_mem (f := 8) (j := 0) (by decide) (by decide)) rfl rfl rfl rfl (Nat.le_of_ble_eq_true rfl) dL_law_699 ?_
  show TW K 702 (Ll K b i) [.int v] s1
  refine tw_aload_n (i := 2) (z := 2) (r := (9, 0)) C dL_law_702 rfl rfl ?_
  refine tw_aload_b (i := 0) (z := 0) C dL_law_703 rfl rfl ?_
  refine tw_iload_n (i := 3) (z := 3) C dL_law_704 rfl rfl ?_
  refine tw_iconst (v := 1) C dL_law_705 (by decide) ?_
  refine tw_iadd C dL_law_706 ?_
  refine tw_script (j := i + 1) C hX (by omega) (by omega) (nI_add i 1) dL_law_707 ?_
  refine tw_aload_b (i := 0) (z := 0) C dL_law_708 rfl rfl ?_
  refine tw_iload_n (i := 3) (z := 3) C dL_law_709 rfl rfl ?_
  refine tw_iconst (v := 2) C dL_law_710 (by decide) ?_
  refine tw_iadd C dL_law_711 ?_
  refine tw_script (j := i + 2) C hX (by omega) (by omega) (nI_add i 2) dL_law_712 ?_
  refine tw_callV (As := [.int (xs (i + 1)), .int (xs (i + 2))]) (rest := [.int v]) (r := (9, 0)) C hR (kX9_parts K.1 _ (by omega) s1 (xs (i + 1)) (xs (i + 2)) e2) mi_X9_parts is_X9_parts se_X9_parts ml_RL_77 (wcells_mem (f := 9) (j := 0) (by decide) (by decide)) rfl rfl rfl rfl (Nat.le_of_ble_eq_true rfl) dL_law_713 ?_
  show TW K 716 (Ll K b i) [.int v, .int v] s2
  exact tw_ic_eq (tgt := 1749) C dL_law_716 (by decide) (fun _ => cont s2 hI2) (fun hne => absurd rfl hne)
set_option maxRecDepth 20000 in
theorem lc_15 {K : Kx} (C : Cx K cL_law RL) (hR : RmOk K 11) {b L : Nat} {xs : Nat → Int32} (hX : SX K b L xs) (hL : L ≤ 3072) {i : Nat} (hi : i + 6 ≤ L) {σ : St} (hI : Iy σ) (cont : ∀ σ', Iy σ' → TW K 1749 (Ll K b i) [] σ') : TW K 721 (Ll K b i) [] σ := by
  refine tw_aload_n (i := 1) (z := 1) (r := (8, 0)) C dL_law_721 rfl rfl ?_
  refine tw_aload_b (i := 0) (z := 0) C dL_law_722 rfl rfl ?_
  refine tw_iload_n (i := 3) (z := 3) C dL_law_723 rfl rfl ?_
  refine tw_iconst (v := 1) C dL_law_724 (by decide) ?_
  refine tw_iadd C dL_law_725 ?_
  refine tw_script (j := i + 1) C hX (by omega) (by omega) (nI_add i 1) dL_law_726 ?_
  refine tw_aload_b (i := 0) (z := 0) C dL_law_727 rfl rfl ?_
  refine tw_iload_n (i := 3) (z := 3) C dL_law_728 rfl rfl ?_
  refine tw_iconst (v := 2) C dL_law_729 (by decide) ?_
  refine tw_iadd C dL_law_730 ?_
  refine tw_script (j := i + 2) C hX (by omega) (by omega) (nI_add i 2) dL_law_731 ?_
  refine tw_aload_b (i := 0) (z := 0) C dL_law_732 rfl rfl ?_
  refine tw_iload_n (i := 3) (z := 3) C dL_law_733 rfl rfl ?_
  refine tw_iconst (v := 3) C dL_law_734 (by decide) ?_
  refine tw_iadd C dL_law_735 ?_
  refine tw_script (j := i + 3) C hX (by omega) (by omega) (nI_add i 3) dL_law_736 ?_
  obtain ⟨v, s1, s2, e1, e2, hI2⟩ := oy_parting hI (xs (i + 1)) (xs (i + 2)) (xs (i + 3))
  refine tw_callV (As := [.int (xs (i + 1)), .int (xs (i + 2)), .int (xs (i + 3))]) (rest := []) (r := (8, 0)) C hR (kX8_parting K.1 _ (by omega) σ (xs (i + 1)) (xs (i + 2)) (xs (i + 3)) e1) mi_X8_parting is_X8_parting se_X8_parting ml_RL_78 (wcells_mem (f := 8) (j := 0) (by decide) (by decide)) rfl rfl rfl rfl (Nat.le_of_ble_eq_true rfl) dL_law_737 ?_
  show TW K 740 (Ll K b i) [.int v] s1
  refine tw_aload_n (i := 2) (z := 2) (r := (9, 0)) C dL_law_740 rfl rfl ?_
  refine tw_aload_b (i := 0) (z := 0) C dL_law_741 rfl rfl ?_
  refine tw_iload_n (i := 3) (z := 3) C dL_law_742 rfl rfl ?_
  refine tw_iconst (v := 1) C dL_law_743 (by decide) ?_
  refine tw_iadd C dL_law_744 ?_
  refine tw_script (j := i + 1) C hX (by omega) (by omega) (nI_add i 1) dL_law_745 ?_
  refine tw_aload_b (i := 0) (z := 0) C dL_law_746 rfl rfl ?_
  refine tw_iload_n (i := 3) (z := 3) C dL_law_747 rfl rfl ?_
  refine tw_iconst (v := 2) C dL_law_748 (by decide) ?_
  refine tw_iadd C dL_law_749 ?_
  refine tw_script (j := i + 2) C hX (by omega) (by omega) (nI_add i 2) dL_law_750 ?_
  refine tw_aload_b (i := 0) (z := 0) C dL_law_751 rfl rfl ?_
  refine tw_iload_n (i := 3) (z := 3) C dL_law_752 rfl rfl ?_
  refine tw_iconst (v := 3) C dL_law_753 (by decide) ?_
  refine tw_iadd C dL_law_754 ?_
  refine tw_script (j := i + 3) C hX (by omega) (by omega) (nI_add i 3) dL_law_755 ?_
  refine tw_callV (As := [.int (xs (i + 1)), .int (xs (i + 2)), .int (xs (i + 3))]) (rest := [.int v]) (r := (9, 0)) C hR (kX9_parting K.1 _ (by omega) s1 (xs (i + 1)) (xs (i + 2)) (xs (i + 3)) e2) mi_X9_parting is_X9_parting se_X9_parting ml_RL_81 (wcells_mem (f := 9) (j := 0) (by decide) (by decide)) rfl rfl rfl rfl (Nat.le_of_ble_eq_true rfl) dL_law_756 ?_
  show TW K 759 (Ll K b i) [.int v, .int v] s2
  exact tw_ic_eq (tgt := 1749) C dL_law_759 (by decide) (fun _ => cont s2 hI2) (fun hne => absurd rfl hne)
set_option maxRecDepth 20000 in
theorem lc_16 {K : Kx} (C : Cx K cL_law RL) (hR : RmOk K 11) {b L : Nat} {xs : Nat → Int32} (hX : SX K b L xs) (hL : L ≤ 3072) {i : Nat} (hi : i + 6 ≤ L) {σ : St} (hI : Iy σ) (cont : ∀ σ', Iy σ' → TW K 1749 (Ll K b i) [] σ') : TW K 764 (Ll K b i) [] σ := by
  refine tw_aload_n (i := 1) (z := 1) (r := (8, 0)) C dL_law_764 rfl rfl ?_
  refine tw_aload_b (i := 0) (z := 0) C dL_law_765 rfl rfl ?_
  refine tw_iload_n (i := 3) (z := 3) C dL_law_766 rfl rfl ?_
  refine tw_iconst (v := 1) C dL_law_767 (by decide) ?_
  refine tw_iadd C dL_law_768 ?_
  refine tw_script (j := i + 1) C hX (by omega) (by omega) (nI_add i 1) dL_law_769 ?_
  refine tw_aload_b (i := 0) (z := 0) C dL_law_770 rfl rfl ?_
  refine tw_iload_n (i := 3) (z := 3) C dL_law_771 rfl rfl ?_
  refine tw_iconst (v := 2) C dL_law_772 (by decide) ?_
  refine tw_iadd C dL_law_773 ?_
  refine tw_script (j := i + 2) C hX (by omega) (by omega) (nI_add i 2) dL_law_774 ?_
  obtain ⟨v, s1, s2, e1, e2, hI2⟩ := oy_fewest hI (xs (i + 1)) (xs (i + 2))
  refine tw_callV (As := [.int (xs (i + 1)), .int (xs (i + 2))]) (rest := []) (r := (8, 0)) C hR (kX8_fewest K.1 _ (by omega) σ (xs (i + 1)) (xs (i + 2)) e1) mi_X8_fewest is_X8_fewest se_X8_fewest ml_RL_82 (wcells_mem (f := 8) (j := 0) (by decide) (by decide)) rfl rfl rfl rfl (Nat.le_of_ble_eq_true rfl) dL_law_775 ?_
  show TW K 778 (Ll K b i) [.int v] s1
  refine tw_aload_n (i := 2) (z := 2) (r := (9, 0)) C dL_law_778 rfl rfl ?_
  refine tw_aload_b (i := 0) (z := 0) C dL_law_779 rfl rfl ?_
  refine tw_iload_n (i := 3) (z := 3) C dL_law_780 rfl rfl ?_
  refine tw_iconst (v := 1) C dL_law_781 (by decide) ?_
  refine tw_iadd C dL_law_782 ?_
  refine tw_script (j := i + 1) C hX (by omega) (by omega) (nI_add i 1) dL_law_783 ?_
  refine tw_aload_b (i := 0) (z := 0) C dL_law_784 rfl rfl ?_
  refine tw_iload_n (i := 3) (z := 3) C dL_law_785 rfl rfl ?_
  refine tw_iconst (v := 2) C dL_law_786 (by decide) ?_
  refine tw_iadd C dL_law_787 ?_
  refine tw_script (j := i + 2) C hX (by omega) (by omega) (nI_add i 2) dL_law_788 ?_
  refine tw_callV (As := [.int (xs (i + 1)), .int (xs (i + 2))]) (rest := [.int v]) (r := (9, 0)) C hR (kX9_fewest K.1 _ (by omega) s1 (xs (i + 1)) (xs (i + 2)) e2) mi_X9_fewest is_X9_fewest se_X9_fewest ml_RL_85 (wcells_mem (f := 9) (j := 0) (by decide) (by decide)) rfl rfl rfl rfl (Nat.le_of_ble_eq_true rfl) dL_law_789 ?_
  show TW K 792 (Ll K b i) [.int v, .int v] s2
  exact tw_ic_eq (tgt := 1749) C dL_law_792 (by decide) (fun _ => cont s2 hI2) (fun hne => absurd rfl hne)
set_option maxRecDepth 20000 in
theorem lc_17 {K : Kx} (C : Cx K cL_law RL) (hR : RmOk K 11) {b L : Nat} {xs : Nat → Int32} (hX : SX K b L xs) (hL : L ≤ 3072) {i : Nat} (hi : i + 6 ≤ L) {σ : St} (hI : Iy σ) (cont : ∀ σ', Iy σ' → TW K 1749 (Ll K b i) [] σ') : TW K 797 (Ll K b i) [] σ := by
  refine tw_aload_n (i := 1) (z := 1) (r := (8, 0)) C dL_law_797 rfl rfl ?_
  refine tw_aload_b (i := 0) (z := 0) C dL_law_798 rfl rfl ?_
  refine tw_iload_n (i := 3) (z := 3) C dL_law_799 rfl rfl ?_
  refine tw_iconst (v := 1) C dL_law_800 (by decide) ?_
  refine tw_iadd C dL_law_801 ?_
  refine tw_script (j := i + 1) C hX (by omega) (by omega) (nI_add i 1) dL_law_802 ?_
  refine tw_aload_b (i := 0) (z := 0) C dL_law_803 rfl rfl ?_
  refine tw_iload_n (i := 3) (z := 3) C dL_law_804 rfl rfl ?_
  refine tw_iconst (v := 2) C dL_law_805 (by decide) ?_
  refine tw_iadd C dL_law_806 ?_
  refine tw_script (j := i + 2) C hX (by omega) (by omega) (nI_add i 2) dL_law_807 ?_
  obtain ⟨v, s1, s2, e1, e2, hI2⟩ := oy_club hI (xs (i + 1)) (xs (i + 2))
  refine tw_callV (As := [.int (xs (i + 1)), .int (xs (i + 2))]) (rest := []) (r := (8, 0)) C hR (kX8_club K.1 _ (by omega) σ (xs (i + 1)) (xs (i + 2)) e1) mi_X8_club is_X8_club se_X8_club ml_RL_86 (wcells_mem (f := 8) (j := 0) (by decide) (by decide)) rfl rfl rfl rfl (Nat.le_of_ble_eq_true rfl) dL_law_808 ?_
  show TW K 811 (Ll K b i) [.int v] s1
  refine tw_aload_n (i := 2) (z := 2) (r := (9, 0)) C dL_law_811 rfl rfl ?_
  refine tw_aload_b (i := 0) (z := 0) C dL_law_812 rfl rfl ?_
  refine tw_iload_n (i := 3) (z := 3) C dL_law_813 rfl rfl ?_
  refine tw_iconst (v := 1) C dL_law_814 (by decide) ?_
  refine tw_iadd C dL_law_815 ?_
  refine tw_script (j := i + 1) C hX (by omega) (by omega) (nI_add i 1) dL_law_816 ?_
  refine tw_aload_b (i := 0) (z := 0) C dL_law_817 rfl rfl ?_
  refine tw_iload_n (i := 3) (z := 3) C dL_law_818 rfl rfl ?_
  refine tw_iconst (v := 2) C dL_law_819 (by decide) ?_
  refine tw_iadd C dL_law_820 ?_
  refine tw_script (j := i + 2) C hX (by omega) (by omega) (nI_add i 2) dL_law_821 ?_
  refine tw_callV (As := [.int (xs (i + 1)), .int (xs (i + 2))]) (rest := [.int v]) (r := (9, 0)) C hR (kX9_club K.1 _ (by omega) s1 (xs (i + 1)) (xs (i + 2)) e2) mi_X9_club is_X9_club se_X9_club ml_RL_89 (wcells_mem (f := 9) (j := 0) (by decide) (by decide)) rfl rfl rfl rfl (Nat.le_of_ble_eq_true rfl) dL_law_822 ?_
  show TW K 825 (Ll K b i) [.int v, .int v] s2
  exact tw_ic_eq (tgt := 1749) C dL_law_825 (by decide) (fun _ => cont s2 hI2) (fun hne => absurd rfl hne)
set_option maxRecDepth 20000 in
theorem lc_18 {K : Kx} (C : Cx K cL_law RL) (hR : RmOk K 11) {b L : Nat} {xs : Nat → Int32} (hX : SX K b L xs) (hL : L ≤ 3072) {i : Nat} (hi : i + 6 ≤ L) {σ : St} (hI : Iy σ) (cont : ∀ σ', Iy σ' → TW K 1749 (Ll K b i) [] σ') : TW K 830 (Ll K b i) [] σ := by
  refine tw_aload_n (i := 1) (z := 1) (r := (8, 0)) C dL_law_830 rfl rfl ?_
  refine tw_aload_b (i := 0) (z := 0) C dL_law_831 rfl rfl ?_
  refine tw_iload_n (i := 3) (z := 3) C dL_law_832 rfl rfl ?_
  refine tw_iconst (v := 1) C dL_law_833 (by decide) ?_
  refine tw_iadd C dL_law_834 ?_
  refine tw_script (j := i + 1) C hX (by omega) (by omega) (nI_add i 1) dL_law_835 ?_
  refine tw_aload_b (i := 0) (z := 0) C dL_law_836 rfl rfl ?_
  refine tw_iload_n (i := 3) (z := 3) C dL_law_837 rfl rfl ?_
  refine tw_iconst (v := 2) C dL_law_838 (by decide) ?_
  refine tw_iadd C dL_law_839 ?_
  refine tw_script (j := i + 2) C hX (by omega) (by omega) (nI_add i 2) dL_law_840 ?_
  refine tw_aload_b (i := 0) (z := 0) C dL_law_841 rfl rfl ?_
  refine tw_iload_n (i := 3) (z := 3) C dL_law_842 rfl rfl ?_
  refine tw_iconst (v := 3) C dL_law_843 (by decide) ?_
  refine tw_iadd C dL_law_844 ?_
  refine tw_script (j := i + 3) C hX (by omega) (by omega) (nI_add i 3) dL_law_845 ?_
  obtain ⟨v, s1, s2, e1, e2, hI2⟩ := oy_change hI (xs (i + 1)) (xs (i + 2)) (xs (i + 3))
  refine tw_callV (As := [.int (xs (i + 1)), .int (xs (i + 2)), .int (xs (i + 3))]) (rest := []) (r := (8, 0)) C hR (kX8_change K.1 _ (by omega) σ (xs (i + 1)) (xs (i + 2)) (xs (i + 3)) e1) mi_X8_change is_X8_change se_X8_change ml_RL_90 (wcells_mem (f := 8) (j := 0) (by decide) (by decide)) rfl rfl rfl rfl (Nat.le_of_ble_eq_true rfl) dL_law_846 ?_
  show TW K 849 (Ll K b i) [.int v] s1
  refine tw_aload_n (i := 2) (z := 2) (r := (9, 0)) C dL_law_849 rfl rfl ?_
  refine tw_aload_b (i := 0) (z := 0) C dL_law_850 rfl rfl ?_
  refine tw_iload_n (i := 3) (z := 3) C dL_law_851 rfl rfl ?_
  refine tw_iconst (v := 1) C dL_law_852 (by decide) ?_
  refine tw_iadd C dL_law_853 ?_
  refine tw_script (j := i + 1) C hX (by omega) (by omega) (nI_add i 1) dL_law_854 ?_
  refine tw_aload_b (i := 0) (z := 0) C dL_law_855 rfl rfl ?_
  refine tw_iload_n (i := 3) (z := 3) C dL_law_856 rfl rfl ?_
  refine tw_iconst (v := 2) C dL_law_857 (by decide) ?_
  refine tw_iadd C dL_law_858 ?_
  refine tw_script (j := i + 2) C hX (by omega) (by omega) (nI_add i 2) dL_law_859 ?_
  refine tw_aload_b (i := 0) (z := 0) C dL_law_860 rfl rfl ?_
  refine tw_iload_n (i := 3) (z := 3) C dL_law_861 rfl rfl ?_
  refine tw_iconst (v := 3) C dL_law_862 (by decide) ?_
  refine tw_iadd C dL_law_863 ?_
  refine tw_script (j := i + 3) C hX (by omega) (by omega) (nI_add i 3) dL_law_864 ?_
  refine tw_callV (As := [.int (xs (i + 1)), .int (xs (i + 2)), .int (xs (i + 3))]) (rest := [.int v]) (r := (9, 0)) C hR (kX9_change K.1 _ (by omega) s1 (xs (i + 1)) (xs (i + 2)) (xs (i + 3)) e2) mi_X9_change is_X9_change se_X9_change ml_RL_93 (wcells_mem (f := 9) (j := 0) (by decide) (by decide)) rfl rfl rfl rfl (Nat.le_of_ble_eq_true rfl) dL_law_865 ?_
  show TW K 868 (Ll K b i) [.int v, .int v] s2
  exact tw_ic_eq (tgt := 1749) C dL_law_868 (by decide) (fun _ => cont s2 hI2) (fun hne => absurd rfl hne)
set_option maxRecDepth 20000 in
theorem lc_19 {K : Kx} (C : Cx K cL_law RL) (hR : RmOk K 11) {b L : Nat} {xs : Nat → Int32} (hX : SX K b L xs) (hL : L ≤ 3072) {i : Nat} (hi : i + 6 ≤ L) {σ : St} (hI : Iy σ) (cont : ∀ σ', Iy σ' → TW K 1749 (Ll K b i) [] σ') : TW K 873 (Ll K b i) [] σ := by
  refine tw_aload_n (i := 1) (z := 1) (r := (8, 0)) C dL_law_873 rfl rfl ?_
  refine tw_aload_b (i := 0) (z := 0) C dL_law_874 rfl rfl ?_
  refine tw_iload_n (i := 3) (z := 3) C dL_law_875 rfl rfl ?_
  refine tw_iconst (v := 1) C dL_law_876 (by decide) ?_
  refine tw_iadd C dL_law_877 ?_
  refine tw_script (j := i + 1) C hX (by omega) (by omega) (nI_add i 1) dL_law_878 ?_
  refine tw_aload_b (i := 0) (z := 0) C dL_law_879 rfl rfl ?_
  refine tw_iload_n (i := 3) (z := 3) C dL_law_880 rfl rfl ?_
  refine tw_iconst (v := 2) C dL_law_881 (by decide) ?_
  refine tw_iadd C dL_law_882 ?_
  refine tw_script (j := i + 2) C hX (by omega) (by omega) (nI_add i 2) dL_law_883 ?_
  obtain ⟨v, s2, e1, e2, hI2⟩ := oy_agree hI (xs (i + 1)) (xs (i + 2))
  refine tw_callV (As := [.int (xs (i + 1)), .int (xs (i + 2))]) (rest := []) (r := (8, 0)) C hR (kX8_agree K.1 _ (by omega) σ (xs (i + 1)) (xs (i + 2)) e1) mi_X8_agree is_X8_agree se_X8_agree ml_RL_94 (wcells_mem (f := 8) (j := 0) (by decide) (by decide)) rfl rfl rfl rfl (Nat.le_of_ble_eq_true rfl) dL_law_884 ?_
  show TW K 887 (Ll K b i) [.int v] σ
  refine tw_aload_n (i := 2) (z := 2) (r := (9, 0)) C dL_law_887 rfl rfl ?_
  refine tw_aload_b (i := 0) (z := 0) C dL_law_888 rfl rfl ?_
  refine tw_iload_n (i := 3) (z := 3) C dL_law_889 rfl rfl ?_
  refine tw_iconst (v := 1) C dL_law_890 (by decide) ?_
  refine tw_iadd C dL_law_891 ?_
  refine tw_script (j := i + 1) C hX (by omega) (by omega) (nI_add i 1) dL_law_892 ?_
  refine tw_aload_b (i := 0) (z := 0) C dL_law_893 rfl rfl ?_
  refine tw_iload_n (i := 3) (z := 3) C dL_law_894 rfl rfl ?_
  refine tw_iconst (v := 2) C dL_law_895 (by decide) ?_
  refine tw_iadd C dL_law_896 ?_
  refine tw_script (j := i + 2) C hX (by omega) (by omega) (nI_add i 2) dL_law_897 ?_
  refine tw_callV (As := [.int (xs (i + 1)), .int (xs (i + 2))]) (rest := [.int v]) (r := (9, 0)) C hR (kX9_agree K.1 _ (by omega) σ (xs (i + 1)) (xs (i + 2)) e2) mi_X9_agree is_X9_agree se_X9_agree ml_RL_97 (wcells_mem (f := 9) (j := 0) (by decide) (by decide)) rfl rfl rfl rfl (Nat.le_of_ble_eq_true rfl) dL_law_898 ?_
  show TW K 901 (Ll K b i) [.int v, .int v] s2
  exact tw_ic_eq (tgt := 1749) C dL_law_901 (by decide) (fun _ => cont s2 hI2) (fun hne => absurd rfl hne)
