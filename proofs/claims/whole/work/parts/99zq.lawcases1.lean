/-! the law's entry: its cases -/
theorem lg_cmp_self (x : Int64) : lg_cmp x x = 0 := by
  unfold lg_cmp
  rw [if_neg (show ¬ x > x by intro h; rw [gt_iff_lt, Int64.lt_iff_toInt_lt] at h; omega), if_pos rfl]
section
variable {V : VT} {Q : State → Prop} {b L : Nat} {xs : Nat → Int32}
set_option maxHeartbeats 1000000 in
theorem law_c0 {i : Nat} {w : WD} (hC : CX V code R_law 4 ret 60) (hn : 106 ≤ (vRo V).cells ∧ 26231 ≤ (vRo V).slots) (hX : SX V b L xs) (hL : L ≤ 3072) (hi : i + 6 ≤ L) (h : Rel RLaw w) (kk : ∀ w2, Rel RLaw w2 → ZP V Q (106, 26231) 4 (mk (vBs V) w2) (lvL (vBs V) b i) 1240 []) : ZP V Q (106, 26231) 4 (mk (vBs V) w) (lvL (vBs V) b i) 188 [] := by
  by_cases hz : xs (i + 2) = 0
  · obtain ⟨r, w1, w2, e1, e2, hR⟩ := op_fact RLaw_LOK h (b := vBs V) (xs (i + 1)) (0 : Int32)
    refine z_aload_n hC 2 dW_188 rfl rfl ?_
    refine k_arg 1 hC hX hi hL (by decide) rfl rfl (by decide) dW_189 dW_190 dW_191 dW_192 dW_193 ?_
    refine k_arg 2 hC hX hi hL (by decide) rfl rfl (by decide) dW_194 dW_195 dW_196 dW_197 dW_198 ?_
    refine k_if0_yes 206 hC hz dW_199 (by decide) ?_
    refine z_iconst hC (0 : Int32) dW_206 (by decide) ?_
    refine k_cVi (v := (r, mk (vBs V) w1)) hC (ci := 11) rfl lmW_13 (ctX11_fact (vLa V) (vDa V) (vTg V) (vBs V) (vSa V) (mk (vBs V) w) (vBs V + 0) (xs (i + 1)) (0 : Int32)) (by decide) hn dW_207 rfl rfl (Nat.le_of_ble_eq_true rfl) (isO_mk iO11 _ _) e1 ?_
    refine z_aload_n hC 1 dW_210 rfl rfl ?_
    refine k_arg 1 hC hX hi hL (by decide) rfl rfl (by decide) dW_211 dW_212 dW_213 dW_214 dW_215 ?_
    refine k_arg 2 hC hX hi hL (by decide) rfl rfl (by decide) dW_216 dW_217 dW_218 dW_219 dW_220 ?_
    refine k_if0_yes 228 hC hz dW_221 (by decide) ?_
    refine z_iconst hC (0 : Int32) dW_228 (by decide) ?_
    refine k_cVi (v := (r, mk (vBs V) w2)) hC (ci := 12) rfl lmW_17 (ctX12_fact (vLa V) (vDa V) (vTg V) (vBs V) (vSa V) (mk (vBs V) w1) (vBs V + 77) (xs (i + 1)) (0 : Int32)) (by decide) hn dW_229 rfl rfl (Nat.le_of_ble_eq_true rfl) (isO_mk iO12 _ _) e2 ?_
    refine k_eq_yes 1240 hC rfl dW_232 (by decide) ?_
    exact kk _ hR
  · obtain ⟨r, w1, w2, e1, e2, hR⟩ := op_fact RLaw_LOK h (b := vBs V) (xs (i + 1)) (1 : Int32)
    refine z_aload_n hC 2 dW_188 rfl rfl ?_
    refine k_arg 1 hC hX hi hL (by decide) rfl rfl (by decide) dW_189 dW_190 dW_191 dW_192 dW_193 ?_
    refine k_arg 2 hC hX hi hL (by decide) rfl rfl (by decide) dW_194 dW_195 dW_196 dW_197 dW_198 ?_
    refine k_if0_no 206 hC hz dW_199 (by decide) ?_
    refine z_iconst hC (1 : Int32) dW_202 (by decide) ?_
    refine z_goto hC 207 dW_203 (by decide) ?_
    refine k_cVi (v := (r, mk (vBs V) w1)) hC (ci := 11) rfl lmW_13 (ctX11_fact (vLa V) (vDa V) (vTg V) (vBs V) (vSa V) (mk (vBs V) w) (vBs V + 0) (xs (i + 1)) (1 : Int32)) (by decide) hn dW_207 rfl rfl (Nat.le_of_ble_eq_true rfl) (isO_mk iO11 _ _) e1 ?_
    refine z_aload_n hC 1 dW_210 rfl rfl ?_
    refine k_arg 1 hC hX hi hL (by decide) rfl rfl (by decide) dW_211 dW_212 dW_213 dW_214 dW_215 ?_
    refine k_arg 2 hC hX hi hL (by decide) rfl rfl (by decide) dW_216 dW_217 dW_218 dW_219 dW_220 ?_
    refine k_if0_no 228 hC hz dW_221 (by decide) ?_
    refine z_iconst hC (1 : Int32) dW_224 (by decide) ?_
    refine z_goto hC 229 dW_225 (by decide) ?_
    refine k_cVi (v := (r, mk (vBs V) w2)) hC (ci := 12) rfl lmW_17 (ctX12_fact (vLa V) (vDa V) (vTg V) (vBs V) (vSa V) (mk (vBs V) w1) (vBs V + 77) (xs (i + 1)) (1 : Int32)) (by decide) hn dW_229 rfl rfl (Nat.le_of_ble_eq_true rfl) (isO_mk iO12 _ _) e2 ?_
    refine k_eq_yes 1240 hC rfl dW_232 (by decide) ?_
    exact kk _ hR
set_option maxHeartbeats 1000000 in
theorem law_c1 {i : Nat} {w : WD} (hC : CX V code R_law 4 ret 60) (hn : 106 ≤ (vRo V).cells ∧ 26231 ≤ (vRo V).slots) (hX : SX V b L xs) (hL : L ≤ 3072) (hi : i + 6 ≤ L) (h : Rel RLaw w) (kk : ∀ w2, Rel RLaw w2 → ZP V Q (106, 26231) 4 (mk (vBs V) w2) (lvL (vBs V) b i) 1240 []) : ZP V Q (106, 26231) 4 (mk (vBs V) w) (lvL (vBs V) b i) 237 [] := by
  obtain ⟨r, w1, w2, e1, e2, hR⟩ := op_price RLaw_LOK h (b := vBs V) (xs (i + 1)) (xs (i + 2))
  refine z_aload_n hC 2 dW_237 rfl rfl ?_
  refine k_arg 1 hC hX hi hL (by decide) rfl rfl (by decide) dW_238 dW_239 dW_240 dW_241 dW_242 ?_
  refine k_arg 2 hC hX hi hL (by decide) rfl rfl (by decide) dW_243 dW_244 dW_245 dW_246 dW_247 ?_
  refine k_cVi (v := (r, mk (vBs V) w1)) hC (ci := 11) rfl lmW_18 (ctX11_price (vLa V) (vDa V) (vTg V) (vBs V) (vSa V) (mk (vBs V) w) (vBs V + 0) (xs (i + 1)) (xs (i + 2))) (by decide) hn dW_248 rfl rfl (Nat.le_of_ble_eq_true rfl) (isO_mk iO11 _ _) e1 ?_
  refine z_aload_n hC 1 dW_251 rfl rfl ?_
  refine k_arg 1 hC hX hi hL (by decide) rfl rfl (by decide) dW_252 dW_253 dW_254 dW_255 dW_256 ?_
  refine k_arg 2 hC hX hi hL (by decide) rfl rfl (by decide) dW_257 dW_258 dW_259 dW_260 dW_261 ?_
  refine k_cVi (v := (r, mk (vBs V) w2)) hC (ci := 12) rfl lmW_22 (ctX12_price (vLa V) (vDa V) (vTg V) (vBs V) (vSa V) (mk (vBs V) w1) (vBs V + 77) (xs (i + 1)) (xs (i + 2))) (by decide) hn dW_262 rfl rfl (Nat.le_of_ble_eq_true rfl) (isO_mk iO12 _ _) e2 ?_
  refine k_eq_yes 1240 hC rfl dW_265 (by decide) ?_
  exact kk _ hR
set_option maxHeartbeats 1000000 in
theorem law_c2 {i : Nat} {w : WD} (hC : CX V code R_law 4 ret 60) (hn : 106 ≤ (vRo V).cells ∧ 26231 ≤ (vRo V).slots) (hX : SX V b L xs) (hL : L ≤ 3072) (hi : i + 6 ≤ L) (h : Rel RLaw w) (kk : ∀ w2, Rel RLaw w2 → ZP V Q (106, 26231) 4 (mk (vBs V) w2) (lvL (vBs V) b i) 1240 []) : ZP V Q (106, 26231) 4 (mk (vBs V) w) (lvL (vBs V) b i) 270 [] := by
  obtain ⟨r, w1, w2, e1, e2, hR⟩ := op_feed RLaw_LOK h (b := vBs V) (xs (i + 1)) (xs (i + 2)) (xs (i + 3)) (xs (i + 4)) (xs (i + 5))
  refine z_aload_n hC 2 dW_270 rfl rfl ?_
  refine k_arg 1 hC hX hi hL (by decide) rfl rfl (by decide) dW_271 dW_272 dW_273 dW_274 dW_275 ?_
  refine k_arg 2 hC hX hi hL (by decide) rfl rfl (by decide) dW_276 dW_277 dW_278 dW_279 dW_280 ?_
  refine k_arg 3 hC hX hi hL (by decide) rfl rfl (by decide) dW_281 dW_282 dW_283 dW_284 dW_285 ?_
  refine k_arg 4 hC hX hi hL (by decide) rfl rfl (by decide) dW_286 dW_287 dW_288 dW_289 dW_290 ?_
  refine k_arg 5 hC hX hi hL (by decide) rfl rfl (by decide) dW_291 dW_292 dW_293 dW_294 dW_295 ?_
  refine k_cVi (v := (r, mk (vBs V) w1)) hC (ci := 11) rfl lmW_23 (ctX11_feed (vLa V) (vDa V) (vTg V) (vBs V) (vSa V) (mk (vBs V) w) (vBs V + 0) (xs (i + 1)) (xs (i + 2)) (xs (i + 3)) (xs (i + 4)) (xs (i + 5))) (by decide) hn dW_296 rfl rfl (Nat.le_of_ble_eq_true rfl) (isO_mk iO11 _ _) e1 ?_
  refine z_aload_n hC 1 dW_299 rfl rfl ?_
  refine k_arg 1 hC hX hi hL (by decide) rfl rfl (by decide) dW_300 dW_301 dW_302 dW_303 dW_304 ?_
  refine k_arg 2 hC hX hi hL (by decide) rfl rfl (by decide) dW_305 dW_306 dW_307 dW_308 dW_309 ?_
  refine k_arg 3 hC hX hi hL (by decide) rfl rfl (by decide) dW_310 dW_311 dW_312 dW_313 dW_314 ?_
  refine k_arg 4 hC hX hi hL (by decide) rfl rfl (by decide) dW_315 dW_316 dW_317 dW_318 dW_319 ?_
  refine k_arg 5 hC hX hi hL (by decide) rfl rfl (by decide) dW_320 dW_321 dW_322 dW_323 dW_324 ?_
  refine k_cVi (v := (r, mk (vBs V) w2)) hC (ci := 12) rfl lmW_27 (ctX12_feed (vLa V) (vDa V) (vTg V) (vBs V) (vSa V) (mk (vBs V) w1) (vBs V + 77) (xs (i + 1)) (xs (i + 2)) (xs (i + 3)) (xs (i + 4)) (xs (i + 5))) (by decide) hn dW_325 rfl rfl (Nat.le_of_ble_eq_true rfl) (isO_mk iO12 _ _) e2 ?_
  refine k_eq_yes 1240 hC rfl dW_328 (by decide) ?_
  exact kk _ hR
set_option maxHeartbeats 1000000 in
theorem law_c3 {i : Nat} {w : WD} (hC : CX V code R_law 4 ret 60) (hn : 106 ≤ (vRo V).cells ∧ 26231 ≤ (vRo V).slots) (hX : SX V b L xs) (hL : L ≤ 3072) (hi : i + 6 ≤ L) (h : Rel RLaw w) (kk : ∀ w2, Rel RLaw w2 → ZP V Q (106, 26231) 4 (mk (vBs V) w2) (lvL (vBs V) b i) 1240 []) : ZP V Q (106, 26231) 4 (mk (vBs V) w) (lvL (vBs V) b i) 333 [] := by
  obtain ⟨r, w1, w2, e1, e2, hR⟩ := op_law h (b := vBs V) (xs (i + 1))
  refine z_aload_n hC 2 dW_333 rfl rfl ?_
  refine k_arg 1 hC hX hi hL (by decide) rfl rfl (by decide) dW_334 dW_335 dW_336 dW_337 dW_338 ?_
  refine k_cVi (v := (r, mk (vBs V) w1)) hC (ci := 11) rfl lmW_28 (ctX11_law (vLa V) (vDa V) (vTg V) (vBs V) (vSa V) (mk (vBs V) w) (vBs V + 0) (xs (i + 1))) (by decide) hn dW_339 rfl rfl (Nat.le_of_ble_eq_true rfl) (isO_mk iO11 _ _) e1 ?_
  refine z_aload_n hC 1 dW_342 rfl rfl ?_
  refine k_arg 1 hC hX hi hL (by decide) rfl rfl (by decide) dW_343 dW_344 dW_345 dW_346 dW_347 ?_
  refine k_cVi (v := (r, mk (vBs V) w2)) hC (ci := 12) rfl lmW_32 (ctX12_law (vLa V) (vDa V) (vTg V) (vBs V) (vSa V) (mk (vBs V) w1) (vBs V + 77) (xs (i + 1))) (by decide) hn dW_348 rfl rfl (Nat.le_of_ble_eq_true rfl) (isO_mk iO12 _ _) e2 ?_
  refine k_eq_yes 1240 hC rfl dW_351 (by decide) ?_
  exact kk _ hR
set_option maxHeartbeats 1000000 in
theorem law_c4 {i : Nat} {w : WD} (hC : CX V code R_law 4 ret 60) (hn : 106 ≤ (vRo V).cells ∧ 26231 ≤ (vRo V).slots) (hX : SX V b L xs) (hL : L ≤ 3072) (hi : i + 6 ≤ L) (h : Rel RLaw w) (kk : ∀ w2, Rel RLaw w2 → ZP V Q (106, 26231) 4 (mk (vBs V) w2) (lvL (vBs V) b i) 1240 []) : ZP V Q (106, 26231) 4 (mk (vBs V) w) (lvL (vBs V) b i) 356 [] := by
  obtain ⟨r, w1, w2, e1, e2, hR⟩ := op_wish h (b := vBs V) (xs (i + 1)) (xs (i + 2))
  refine z_aload_n hC 2 dW_356 rfl rfl ?_
  refine k_arg 1 hC hX hi hL (by decide) rfl rfl (by decide) dW_357 dW_358 dW_359 dW_360 dW_361 ?_
  refine k_arg 2 hC hX hi hL (by decide) rfl rfl (by decide) dW_362 dW_363 dW_364 dW_365 dW_366 ?_
  refine k_cVi (v := (r, mk (vBs V) w1)) hC (ci := 11) rfl lmW_33 (ctX11_wish (vLa V) (vDa V) (vTg V) (vBs V) (vSa V) (mk (vBs V) w) (vBs V + 0) (xs (i + 1)) (xs (i + 2))) (by decide) hn dW_367 rfl rfl (Nat.le_of_ble_eq_true rfl) (isO_mk iO11 _ _) e1 ?_
  refine z_aload_n hC 1 dW_370 rfl rfl ?_
  refine k_arg 1 hC hX hi hL (by decide) rfl rfl (by decide) dW_371 dW_372 dW_373 dW_374 dW_375 ?_
  refine k_arg 2 hC hX hi hL (by decide) rfl rfl (by decide) dW_376 dW_377 dW_378 dW_379 dW_380 ?_
  refine k_cVi (v := (r, mk (vBs V) w2)) hC (ci := 12) rfl lmW_37 (ctX12_wish (vLa V) (vDa V) (vTg V) (vBs V) (vSa V) (mk (vBs V) w1) (vBs V + 77) (xs (i + 1)) (xs (i + 2))) (by decide) hn dW_381 rfl rfl (Nat.le_of_ble_eq_true rfl) (isO_mk iO12 _ _) e2 ?_
  refine k_eq_yes 1240 hC rfl dW_384 (by decide) ?_
  exact kk _ hR
set_option maxHeartbeats 1000000 in
theorem law_c5 {i : Nat} {w : WD} (hC : CX V code R_law 4 ret 60) (hn : 106 ≤ (vRo V).cells ∧ 26231 ≤ (vRo V).slots) (hX : SX V b L xs) (hL : L ≤ 3072) (hi : i + 6 ≤ L) (h : Rel RLaw w) (kk : ∀ w2, Rel RLaw w2 → ZP V Q (106, 26231) 4 (mk (vBs V) w2) (lvL (vBs V) b i) 1240 []) : ZP V Q (106, 26231) 4 (mk (vBs V) w) (lvL (vBs V) b i) 389 [] := by
  obtain ⟨r, w1, w2, e1, e2, hR⟩ := op_clause h (b := vBs V) (xs (i + 1)) (xs (i + 2))
  refine z_aload_n hC 2 dW_389 rfl rfl ?_
  refine k_arg 1 hC hX hi hL (by decide) rfl rfl (by decide) dW_390 dW_391 dW_392 dW_393 dW_394 ?_
  refine k_arg 2 hC hX hi hL (by decide) rfl rfl (by decide) dW_395 dW_396 dW_397 dW_398 dW_399 ?_
  refine k_cVi (v := (r, mk (vBs V) w1)) hC (ci := 11) rfl lmW_38 (ctX11_clause (vLa V) (vDa V) (vTg V) (vBs V) (vSa V) (mk (vBs V) w) (vBs V + 0) (xs (i + 1)) (xs (i + 2))) (by decide) hn dW_400 rfl rfl (Nat.le_of_ble_eq_true rfl) (isO_mk iO11 _ _) e1 ?_
  refine z_aload_n hC 1 dW_403 rfl rfl ?_
  refine k_arg 1 hC hX hi hL (by decide) rfl rfl (by decide) dW_404 dW_405 dW_406 dW_407 dW_408 ?_
  refine k_arg 2 hC hX hi hL (by decide) rfl rfl (by decide) dW_409 dW_410 dW_411 dW_412 dW_413 ?_
  refine k_cVi (v := (r, mk (vBs V) w2)) hC (ci := 12) rfl lmW_41 (ctX12_clause (vLa V) (vDa V) (vTg V) (vBs V) (vSa V) (mk (vBs V) w1) (vBs V + 77) (xs (i + 1)) (xs (i + 2))) (by decide) hn dW_414 rfl rfl (Nat.le_of_ble_eq_true rfl) (isO_mk iO12 _ _) e2 ?_
  refine k_eq_yes 1240 hC rfl dW_417 (by decide) ?_
  exact kk _ hR
set_option maxHeartbeats 1000000 in
theorem law_c6 {i : Nat} {w : WD} (hC : CX V code R_law 4 ret 60) (hn : 106 ≤ (vRo V).cells ∧ 26231 ≤ (vRo V).slots) (hX : SX V b L xs) (hL : L ≤ 3072) (hi : i + 6 ≤ L) (h : Rel RLaw w) (kk : ∀ w2, Rel RLaw w2 → ZP V Q (106, 26231) 4 (mk (vBs V) w2) (lvL (vBs V) b i) 1240 []) : ZP V Q (106, 26231) 4 (mk (vBs V) w) (lvL (vBs V) b i) 422 [] := by
  obtain ⟨r, w1, w2, e1, e2, hR⟩ := op_drop RLaw_LOK h (b := vBs V) (xs (i + 1))
  refine z_aload_n hC 2 dW_422 rfl rfl ?_
  refine k_arg 1 hC hX hi hL (by decide) rfl rfl (by decide) dW_423 dW_424 dW_425 dW_426 dW_427 ?_
  refine k_cVi (v := (r, mk (vBs V) w1)) hC (ci := 11) rfl lmW_42 (ctX11_drop (vLa V) (vDa V) (vTg V) (vBs V) (vSa V) (mk (vBs V) w) (vBs V + 0) (xs (i + 1))) (by decide) hn dW_428 rfl rfl (Nat.le_of_ble_eq_true rfl) (isO_mk iO11 _ _) e1 ?_
  refine z_aload_n hC 1 dW_431 rfl rfl ?_
  refine k_arg 1 hC hX hi hL (by decide) rfl rfl (by decide) dW_432 dW_433 dW_434 dW_435 dW_436 ?_
  refine k_cVi (v := (r, mk (vBs V) w2)) hC (ci := 12) rfl lmW_46 (ctX12_drop (vLa V) (vDa V) (vTg V) (vBs V) (vSa V) (mk (vBs V) w1) (vBs V + 77) (xs (i + 1))) (by decide) hn dW_437 rfl rfl (Nat.le_of_ble_eq_true rfl) (isO_mk iO12 _ _) e2 ?_
  refine k_eq_yes 1240 hC rfl dW_440 (by decide) ?_
  exact kk _ hR
set_option maxHeartbeats 1000000 in
theorem law_c7 {i : Nat} {w : WD} (hC : CX V code R_law 4 ret 60) (hn : 106 ≤ (vRo V).cells ∧ 26231 ≤ (vRo V).slots) (hX : SX V b L xs) (hL : L ≤ 3072) (hi : i + 6 ≤ L) (h : Rel RLaw w) (kk : ∀ w2, Rel RLaw w2 → ZP V Q (106, 26231) 4 (mk (vBs V) w2) (lvL (vBs V) b i) 1240 []) : ZP V Q (106, 26231) 4 (mk (vBs V) w) (lvL (vBs V) b i) 445 [] := by
  obtain ⟨r, w1, w2, e1, e2, hR⟩ := op_wished h (b := vBs V) (xs (i + 1))
  refine z_aload_n hC 2 dW_445 rfl rfl ?_
  refine k_arg 1 hC hX hi hL (by decide) rfl rfl (by decide) dW_446 dW_447 dW_448 dW_449 dW_450 ?_
  refine k_cVi (v := (r, mk (vBs V) w1)) hC (ci := 11) rfl lmW_47 (ctX11_wished (vLa V) (vDa V) (vTg V) (vBs V) (vSa V) (mk (vBs V) w) (vBs V + 0) (xs (i + 1))) (by decide) hn dW_451 rfl rfl (Nat.le_of_ble_eq_true rfl) (isO_mk iO11 _ _) e1 ?_
  refine z_aload_n hC 1 dW_454 rfl rfl ?_
  refine k_arg 1 hC hX hi hL (by decide) rfl rfl (by decide) dW_455 dW_456 dW_457 dW_458 dW_459 ?_
  refine k_cVi (v := (r, mk (vBs V) w2)) hC (ci := 12) rfl lmW_50 (ctX12_wished (vLa V) (vDa V) (vTg V) (vBs V) (vSa V) (mk (vBs V) w1) (vBs V + 77) (xs (i + 1))) (by decide) hn dW_460 rfl rfl (Nat.le_of_ble_eq_true rfl) (isO_mk iO12 _ _) e2 ?_
  refine k_eq_yes 1240 hC rfl dW_463 (by decide) ?_
  exact kk _ hR
set_option maxHeartbeats 1000000 in
theorem law_c8 {i : Nat} {w : WD} (hC : CX V code R_law 4 ret 60) (hn : 106 ≤ (vRo V).cells ∧ 26231 ≤ (vRo V).slots) (hX : SX V b L xs) (hL : L ≤ 3072) (hi : i + 6 ≤ L) (h : Rel RLaw w) (kk : ∀ w2, Rel RLaw w2 → ZP V Q (106, 26231) 4 (mk (vBs V) w2) (lvL (vBs V) b i) 1240 []) : ZP V Q (106, 26231) 4 (mk (vBs V) w) (lvL (vBs V) b i) 468 [] := by
  obtain ⟨r, w1, w2, e1, e2, hR⟩ := op_tried h (b := vBs V) (xs (i + 1)) (xs (i + 2))
  refine z_aload_n hC 2 dW_468 rfl rfl ?_
  refine k_arg 1 hC hX hi hL (by decide) rfl rfl (by decide) dW_469 dW_470 dW_471 dW_472 dW_473 ?_
  refine k_arg 2 hC hX hi hL (by decide) rfl rfl (by decide) dW_474 dW_475 dW_476 dW_477 dW_478 ?_
  refine k_cVi (v := (r, mk (vBs V) w1)) hC (ci := 11) rfl lmW_51 (ctX11_tried (vLa V) (vDa V) (vTg V) (vBs V) (vSa V) (mk (vBs V) w) (vBs V + 0) (xs (i + 1)) (xs (i + 2))) (by decide) hn dW_479 rfl rfl (Nat.le_of_ble_eq_true rfl) (isO_mk iO11 _ _) e1 ?_
  refine z_aload_n hC 1 dW_482 rfl rfl ?_
  refine k_arg 1 hC hX hi hL (by decide) rfl rfl (by decide) dW_483 dW_484 dW_485 dW_486 dW_487 ?_
  refine k_arg 2 hC hX hi hL (by decide) rfl rfl (by decide) dW_488 dW_489 dW_490 dW_491 dW_492 ?_
  refine k_cVi (v := (r, mk (vBs V) w2)) hC (ci := 12) rfl lmW_54 (ctX12_tried (vLa V) (vDa V) (vTg V) (vBs V) (vSa V) (mk (vBs V) w1) (vBs V + 77) (xs (i + 1)) (xs (i + 2))) (by decide) hn dW_493 rfl rfl (Nat.le_of_ble_eq_true rfl) (isO_mk iO12 _ _) e2 ?_
  refine k_eq_yes 1240 hC rfl dW_496 (by decide) ?_
  exact kk _ hR
set_option maxHeartbeats 1000000 in
theorem law_c9 {i : Nat} {w : WD} (hC : CX V code R_law 4 ret 60) (hn : 106 ≤ (vRo V).cells ∧ 26231 ≤ (vRo V).slots) (hX : SX V b L xs) (hL : L ≤ 3072) (hi : i + 6 ≤ L) (h : Rel RLaw w) (kk : ∀ w2, Rel RLaw w2 → ZP V Q (106, 26231) 4 (mk (vBs V) w2) (lvL (vBs V) b i) 1240 []) : ZP V Q (106, 26231) 4 (mk (vBs V) w) (lvL (vBs V) b i) 501 [] := by
  obtain ⟨r, w1, w2, e1, e2, hR⟩ := op_days RLaw_LOK h (b := vBs V) (xs (i + 1))
  refine z_aload_n hC 2 dW_501 rfl rfl ?_
  refine k_arg 1 hC hX hi hL (by decide) rfl rfl (by decide) dW_502 dW_503 dW_504 dW_505 dW_506 ?_
  refine k_cVi (v := (r, mk (vBs V) w1)) hC (ci := 11) rfl lmW_55 (ctX11_days (vLa V) (vDa V) (vTg V) (vBs V) (vSa V) (mk (vBs V) w) (vBs V + 0) (xs (i + 1))) (by decide) hn dW_507 rfl rfl (Nat.le_of_ble_eq_true rfl) (isO_mk iO11 _ _) e1 ?_
  refine z_aload_n hC 1 dW_510 rfl rfl ?_
  refine k_arg 1 hC hX hi hL (by decide) rfl rfl (by decide) dW_511 dW_512 dW_513 dW_514 dW_515 ?_
  refine k_cVi (v := (r, mk (vBs V) w2)) hC (ci := 12) rfl lmW_58 (ctX12_days (vLa V) (vDa V) (vTg V) (vBs V) (vSa V) (mk (vBs V) w1) (vBs V + 77) (xs (i + 1))) (by decide) hn dW_516 rfl rfl (Nat.le_of_ble_eq_true rfl) (isO_mk iO12 _ _) e2 ?_
  refine k_eq_yes 1240 hC rfl dW_519 (by decide) ?_
  exact kk _ hR
set_option maxHeartbeats 1000000 in
theorem law_c10 {i : Nat} {w : WD} (hC : CX V code R_law 4 ret 60) (hn : 106 ≤ (vRo V).cells ∧ 26231 ≤ (vRo V).slots) (hX : SX V b L xs) (hL : L ≤ 3072) (hi : i + 6 ≤ L) (h : Rel RLaw w) (kk : ∀ w2, Rel RLaw w2 → ZP V Q (106, 26231) 4 (mk (vBs V) w2) (lvL (vBs V) b i) 1240 []) : ZP V Q (106, 26231) 4 (mk (vBs V) w) (lvL (vBs V) b i) 524 [] := by
  obtain ⟨r, e1, e2⟩ := op_fits h (b := vBs V) (xs (i + 1))
  refine z_aload_n hC 2 dW_524 rfl rfl ?_
  refine k_arg 1 hC hX hi hL (by decide) rfl rfl (by decide) dW_525 dW_526 dW_527 dW_528 dW_529 ?_
  refine k_cVi (v := r) hC (ci := 11) rfl lmW_59 (ctX11_fits (vLa V) (vDa V) (vTg V) (vBs V) (vSa V) (mk (vBs V) w) (vBs V + 0) (xs (i + 1))) (by decide) hn dW_530 rfl rfl (Nat.le_of_ble_eq_true rfl) (isO_mk iO11 _ _) e1 ?_
  refine z_aload_n hC 1 dW_533 rfl rfl ?_
  refine k_arg 1 hC hX hi hL (by decide) rfl rfl (by decide) dW_534 dW_535 dW_536 dW_537 dW_538 ?_
  refine k_cVi (v := r) hC (ci := 12) rfl lmW_62 (ctX12_fits (vLa V) (vDa V) (vTg V) (vBs V) (vSa V) (mk (vBs V) w) (vBs V + 77) (xs (i + 1))) (by decide) hn dW_539 rfl rfl (Nat.le_of_ble_eq_true rfl) (isO_mk iO12 _ _) e2 ?_
  refine k_eq_yes 1240 hC rfl dW_542 (by decide) ?_
  exact kk _ h
set_option maxHeartbeats 1000000 in
theorem law_c11 {i : Nat} {w : WD} (hC : CX V code R_law 4 ret 60) (hn : 106 ≤ (vRo V).cells ∧ 26231 ≤ (vRo V).slots) (hX : SX V b L xs) (hL : L ≤ 3072) (hi : i + 6 ≤ L) (h : Rel RLaw w) (kk : ∀ w2, Rel RLaw w2 → ZP V Q (106, 26231) 4 (mk (vBs V) w2) (lvL (vBs V) b i) 1240 []) : ZP V Q (106, 26231) 4 (mk (vBs V) w) (lvL (vBs V) b i) 547 [] := by
  obtain ⟨r, e1, e2⟩ := op_wishIs h (b := vBs V) (xs (i + 1)) (xs (i + 2))
  refine z_aload_n hC 2 dW_547 rfl rfl ?_
  refine k_arg 1 hC hX hi hL (by decide) rfl rfl (by decide) dW_548 dW_549 dW_550 dW_551 dW_552 ?_
  refine k_arg 2 hC hX hi hL (by decide) rfl rfl (by decide) dW_553 dW_554 dW_555 dW_556 dW_557 ?_
  refine k_cVi (v := r) hC (ci := 11) rfl lmW_63 (ctX11_wishIs (vLa V) (vDa V) (vTg V) (vBs V) (vSa V) (mk (vBs V) w) (vBs V + 0) (xs (i + 1)) (xs (i + 2))) (by decide) hn dW_558 rfl rfl (Nat.le_of_ble_eq_true rfl) (isO_mk iO11 _ _) e1 ?_
  refine z_aload_n hC 1 dW_561 rfl rfl ?_
  refine k_arg 1 hC hX hi hL (by decide) rfl rfl (by decide) dW_562 dW_563 dW_564 dW_565 dW_566 ?_
  refine k_arg 2 hC hX hi hL (by decide) rfl rfl (by decide) dW_567 dW_568 dW_569 dW_570 dW_571 ?_
  refine k_cVi (v := r) hC (ci := 12) rfl lmW_66 (ctX12_wishIs (vLa V) (vDa V) (vTg V) (vBs V) (vSa V) (mk (vBs V) w) (vBs V + 77) (xs (i + 1)) (xs (i + 2))) (by decide) hn dW_572 rfl rfl (Nat.le_of_ble_eq_true rfl) (isO_mk iO12 _ _) e2 ?_
  refine k_eq_yes 1240 hC rfl dW_575 (by decide) ?_
  exact kk _ h
set_option maxHeartbeats 1000000 in
theorem law_c12 {i : Nat} {w : WD} (hC : CX V code R_law 4 ret 60) (hn : 106 ≤ (vRo V).cells ∧ 26231 ≤ (vRo V).slots) (hX : SX V b L xs) (hL : L ≤ 3072) (hi : i + 6 ≤ L) (h : Rel RLaw w) (kk : ∀ w2, Rel RLaw w2 → ZP V Q (106, 26231) 4 (mk (vBs V) w2) (lvL (vBs V) b i) 1240 []) : ZP V Q (106, 26231) 4 (mk (vBs V) w) (lvL (vBs V) b i) 580 [] := by
  obtain ⟨r, e1, e2⟩ := op_why h (b := vBs V) (xs (i + 1)) (xs (i + 2))
  refine z_aload_n hC 2 dW_580 rfl rfl ?_
  refine k_arg 1 hC hX hi hL (by decide) rfl rfl (by decide) dW_581 dW_582 dW_583 dW_584 dW_585 ?_
  refine k_arg 2 hC hX hi hL (by decide) rfl rfl (by decide) dW_586 dW_587 dW_588 dW_589 dW_590 ?_
  refine k_cVi (v := r) hC (ci := 11) rfl lmW_67 (ctX11_why (vLa V) (vDa V) (vTg V) (vBs V) (vSa V) (mk (vBs V) w) (vBs V + 0) (xs (i + 1)) (xs (i + 2))) (by decide) hn dW_591 rfl rfl (Nat.le_of_ble_eq_true rfl) (isO_mk iO11 _ _) e1 ?_
  refine z_aload_n hC 1 dW_594 rfl rfl ?_
  refine k_arg 1 hC hX hi hL (by decide) rfl rfl (by decide) dW_595 dW_596 dW_597 dW_598 dW_599 ?_
  refine k_arg 2 hC hX hi hL (by decide) rfl rfl (by decide) dW_600 dW_601 dW_602 dW_603 dW_604 ?_
  refine k_cVi (v := r) hC (ci := 12) rfl lmW_70 (ctX12_why (vLa V) (vDa V) (vTg V) (vBs V) (vSa V) (mk (vBs V) w) (vBs V + 77) (xs (i + 1)) (xs (i + 2))) (by decide) hn dW_605 rfl rfl (Nat.le_of_ble_eq_true rfl) (isO_mk iO12 _ _) e2 ?_
  refine k_eq_yes 1240 hC rfl dW_608 (by decide) ?_
  exact kk _ h
set_option maxHeartbeats 1000000 in
theorem law_c13 {i : Nat} {w : WD} (hC : CX V code R_law 4 ret 60) (hn : 106 ≤ (vRo V).cells ∧ 26231 ≤ (vRo V).slots) (hX : SX V b L xs) (hL : L ≤ 3072) (hi : i + 6 ≤ L) (h : Rel RLaw w) (kk : ∀ w2, Rel RLaw w2 → ZP V Q (106, 26231) 4 (mk (vBs V) w2) (lvL (vBs V) b i) 1240 []) : ZP V Q (106, 26231) 4 (mk (vBs V) w) (lvL (vBs V) b i) 613 [] := by
  obtain ⟨r, w1, e1, e2, hs⟩ := op_joke RLaw_LOK h (b := vBs V) (xs (i + 1))
  refine z_aload_n hC 2 dW_613 rfl rfl ?_
  refine k_arg 1 hC hX hi hL (by decide) rfl rfl (by decide) dW_614 dW_615 dW_616 dW_617 dW_618 ?_
  refine k_cVi (v := (r, mk (vBs V) w1)) hC (ci := 11) rfl lmW_71 (ctX11_joke (vLa V) (vDa V) (vTg V) (vBs V) (vSa V) (mk (vBs V) w) (vBs V + 0) (xs (i + 1))) (by decide) hn dW_619 rfl rfl (Nat.le_of_ble_eq_true rfl) (isO_mk iO11 _ _) e1 ?_
  refine z_aload_n hC 1 dW_622 rfl rfl ?_
  refine k_arg 1 hC hX hi hL (by decide) rfl rfl (by decide) dW_623 dW_624 dW_625 dW_626 dW_627 ?_
  refine k_cVi (v := r) hC (ci := 12) rfl lmW_74 (ctX12_joke (vLa V) (vDa V) (vTg V) (vBs V) (vSa V) (mk (vBs V) w1) (vBs V + 77) (xs (i + 1))) (by decide) hn dW_628 rfl rfl (Nat.le_of_ble_eq_true rfl) (isO_mk iO12 _ _) e2 ?_
  refine k_eq_yes 1240 hC rfl dW_631 (by decide) ?_
  exact kk _ (Rel_sim RLaw_LOK h hs)
set_option maxHeartbeats 1000000 in
theorem law_c14 {i : Nat} {w : WD} (hC : CX V code R_law 4 ret 60) (hn : 106 ≤ (vRo V).cells ∧ 26231 ≤ (vRo V).slots) (hX : SX V b L xs) (hL : L ≤ 3072) (hi : i + 6 ≤ L) (h : Rel RLaw w) (kk : ∀ w2, Rel RLaw w2 → ZP V Q (106, 26231) 4 (mk (vBs V) w2) (lvL (vBs V) b i) 1240 []) : ZP V Q (106, 26231) 4 (mk (vBs V) w) (lvL (vBs V) b i) 636 [] := by
  obtain ⟨r, e1, e2⟩ := op_freeing h (b := vBs V)
  refine z_aload_n hC 2 dW_636 rfl rfl ?_
  refine k_cVi (v := r) hC (ci := 11) rfl lmW_75 (ctX11_freeing (vLa V) (vDa V) (vTg V) (vBs V) (vSa V) (mk (vBs V) w) (vBs V + 0)) (by decide) hn dW_637 rfl rfl (Nat.le_of_ble_eq_true rfl) (isO_mk iO11 _ _) e1 ?_
  refine z_aload_n hC 1 dW_640 rfl rfl ?_
  refine k_cVi (v := r) hC (ci := 12) rfl lmW_79 (ctX12_freeing (vLa V) (vDa V) (vTg V) (vBs V) (vSa V) (mk (vBs V) w) (vBs V + 77)) (by decide) hn dW_641 rfl rfl (Nat.le_of_ble_eq_true rfl) (isO_mk iO12 _ _) e2 ?_
  refine k_eq_yes 1240 hC rfl dW_644 (by decide) ?_
  exact kk _ h
set_option maxHeartbeats 1000000 in
theorem law_c15 {i : Nat} {w : WD} (hC : CX V code R_law 4 ret 60) (hn : 106 ≤ (vRo V).cells ∧ 26231 ≤ (vRo V).slots) (hX : SX V b L xs) (hL : L ≤ 3072) (hi : i + 6 ≤ L) (h : Rel RLaw w) (kk : ∀ w2, Rel RLaw w2 → ZP V Q (106, 26231) 4 (mk (vBs V) w2) (lvL (vBs V) b i) 1240 []) : ZP V Q (106, 26231) 4 (mk (vBs V) w) (lvL (vBs V) b i) 649 [] := by
  obtain ⟨r, w1, w2, e1, e2, hR⟩ := op_inOrder h (b := vBs V) (xs (i + 1)) (xs (i + 2))
  refine z_aload_n hC 2 dW_649 rfl rfl ?_
  refine k_arg 1 hC hX hi hL (by decide) rfl rfl (by decide) dW_650 dW_651 dW_652 dW_653 dW_654 ?_
  refine k_arg 2 hC hX hi hL (by decide) rfl rfl (by decide) dW_655 dW_656 dW_657 dW_658 dW_659 ?_
  refine k_cVi (v := (r, mk (vBs V) w1)) hC (ci := 11) rfl lmW_80 (ctX11_inOrder (vLa V) (vDa V) (vTg V) (vBs V) (vSa V) (mk (vBs V) w) (vBs V + 0) (xs (i + 1)) (xs (i + 2))) (by decide) hn dW_660 rfl rfl (Nat.le_of_ble_eq_true rfl) (isO_mk iO11 _ _) e1 ?_
  refine z_aload_n hC 1 dW_663 rfl rfl ?_
  refine k_arg 1 hC hX hi hL (by decide) rfl rfl (by decide) dW_664 dW_665 dW_666 dW_667 dW_668 ?_
  refine k_arg 2 hC hX hi hL (by decide) rfl rfl (by decide) dW_669 dW_670 dW_671 dW_672 dW_673 ?_
  refine k_cVi (v := (r, mk (vBs V) w2)) hC (ci := 12) rfl lmW_83 (ctX12_inOrder (vLa V) (vDa V) (vTg V) (vBs V) (vSa V) (mk (vBs V) w1) (vBs V + 77) (xs (i + 1)) (xs (i + 2))) (by decide) hn dW_674 rfl rfl (Nat.le_of_ble_eq_true rfl) (isO_mk iO12 _ _) e2 ?_
  refine k_eq_yes 1240 hC rfl dW_677 (by decide) ?_
  exact kk _ hR
set_option maxHeartbeats 1000000 in
theorem law_c16 {i : Nat} {w : WD} (hC : CX V code R_law 4 ret 60) (hn : 106 ≤ (vRo V).cells ∧ 26231 ≤ (vRo V).slots) (hX : SX V b L xs) (hL : L ≤ 3072) (hi : i + 6 ≤ L) (h : Rel RLaw w) (kk : ∀ w2, Rel RLaw w2 → ZP V Q (106, 26231) 4 (mk (vBs V) w2) (lvL (vBs V) b i) 1240 []) : ZP V Q (106, 26231) 4 (mk (vBs V) w) (lvL (vBs V) b i) 682 [] := by
  obtain ⟨r, w1, w2, e1, e2, hR⟩ := op_byWishes h (b := vBs V) (xs (i + 1)) (xs (i + 2))
  refine z_aload_n hC 2 dW_682 rfl rfl ?_
  refine k_arg 1 hC hX hi hL (by decide) rfl rfl (by decide) dW_683 dW_684 dW_685 dW_686 dW_687 ?_
  refine k_arg 2 hC hX hi hL (by decide) rfl rfl (by decide) dW_688 dW_689 dW_690 dW_691 dW_692 ?_
  refine k_cVi (v := (r, mk (vBs V) w1)) hC (ci := 11) rfl lmW_84 (ctX11_byWishes (vLa V) (vDa V) (vTg V) (vBs V) (vSa V) (mk (vBs V) w) (vBs V + 0) (xs (i + 1)) (xs (i + 2))) (by decide) hn dW_693 rfl rfl (Nat.le_of_ble_eq_true rfl) (isO_mk iO11 _ _) e1 ?_
  refine z_aload_n hC 1 dW_696 rfl rfl ?_
  refine k_arg 1 hC hX hi hL (by decide) rfl rfl (by decide) dW_697 dW_698 dW_699 dW_700 dW_701 ?_
  refine k_arg 2 hC hX hi hL (by decide) rfl rfl (by decide) dW_702 dW_703 dW_704 dW_705 dW_706 ?_
  refine k_cVi (v := (r, mk (vBs V) w2)) hC (ci := 12) rfl lmW_87 (ctX12_byWishes (vLa V) (vDa V) (vTg V) (vBs V) (vSa V) (mk (vBs V) w1) (vBs V + 77) (xs (i + 1)) (xs (i + 2))) (by decide) hn dW_707 rfl rfl (Nat.le_of_ble_eq_true rfl) (isO_mk iO12 _ _) e2 ?_
  refine k_eq_yes 1240 hC rfl dW_710 (by decide) ?_
  exact kk _ hR
set_option maxHeartbeats 1000000 in
theorem law_c17 {i : Nat} {w : WD} (hC : CX V code R_law 4 ret 60) (hn : 106 ≤ (vRo V).cells ∧ 26231 ≤ (vRo V).slots) (hX : SX V b L xs) (hL : L ≤ 3072) (hi : i + 6 ≤ L) (h : Rel RLaw w) (kk : ∀ w2, Rel RLaw w2 → ZP V Q (106, 26231) 4 (mk (vBs V) w2) (lvL (vBs V) b i) 1240 []) : ZP V Q (106, 26231) 4 (mk (vBs V) w) (lvL (vBs V) b i) 715 [] := by
  obtain ⟨r, e1, e2⟩ := op_follows h (b := vBs V) (xs (i + 1)) (xs (i + 2)) (xs (i + 3))
  refine z_aload_n hC 2 dW_715 rfl rfl ?_
  refine k_arg 1 hC hX hi hL (by decide) rfl rfl (by decide) dW_716 dW_717 dW_718 dW_719 dW_720 ?_
  refine k_arg 2 hC hX hi hL (by decide) rfl rfl (by decide) dW_721 dW_722 dW_723 dW_724 dW_725 ?_
  refine k_arg 3 hC hX hi hL (by decide) rfl rfl (by decide) dW_726 dW_727 dW_728 dW_729 dW_730 ?_
  refine k_cVi (v := r) hC (ci := 11) rfl lmW_88 (ctX11_follows (vLa V) (vDa V) (vTg V) (vBs V) (vSa V) (mk (vBs V) w) (vBs V + 0) (xs (i + 1)) (xs (i + 2)) (xs (i + 3))) (by decide) hn dW_731 rfl rfl (Nat.le_of_ble_eq_true rfl) (isO_mk iO11 _ _) e1 ?_
  refine z_aload_n hC 1 dW_734 rfl rfl ?_
  refine k_arg 1 hC hX hi hL (by decide) rfl rfl (by decide) dW_735 dW_736 dW_737 dW_738 dW_739 ?_
  refine k_arg 2 hC hX hi hL (by decide) rfl rfl (by decide) dW_740 dW_741 dW_742 dW_743 dW_744 ?_
  refine k_arg 3 hC hX hi hL (by decide) rfl rfl (by decide) dW_745 dW_746 dW_747 dW_748 dW_749 ?_
  refine k_cVi (v := r) hC (ci := 12) rfl lmW_92 (ctX12_follows (vLa V) (vDa V) (vTg V) (vBs V) (vSa V) (mk (vBs V) w) (vBs V + 77) (xs (i + 1)) (xs (i + 2)) (xs (i + 3))) (by decide) hn dW_750 rfl rfl (Nat.le_of_ble_eq_true rfl) (isO_mk iO12 _ _) e2 ?_
  refine k_eq_yes 1240 hC rfl dW_753 (by decide) ?_
  exact kk _ h
end
