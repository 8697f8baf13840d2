set_option maxRecDepth 20000 in
set_option maxHeartbeats 1000000 in
theorem wb_L_law_1220 (G : zG) (n : Nat) (k18 : Nat → Nat → Int32 → zH → Option (Int32 × zH)) (hk18 : ∀ (l1 : Nat) (l2 : Nat) (l3 : Int32) (h : zH), zW G yL_law cL_law 4 (some .boolean) zvI 99 18 [(0, .ref (zsb G)), (1, .ref (zbase G + l1)), (2, .ref (zbase G + l2)), (3, .int l3)] [] h (k18 l1 l2 l3 h)) (l1 : Nat) (l2 : Nat) (l3 : Int32) (h : zH) : zW G yL_law cL_law 4 (some .boolean) zvI 99 1220 [(0, .ref (zsb G)), (1, .ref (zbase G + l1)), (2, .ref (zbase G + l2)), (3, .int l3)] [] h (fb_L_law_1220 n (zsL G) (zsX G) k18 l1 l2 l3 h) := by
  unfold fb_L_law_1220
  refine zi_iinc (j := 3) (v := l3 + 6) (l' := [(3, .int (l3 + 6)), (0, .ref (zsb G)), (1, .ref (zbase G + l1)), (2, .ref (zbase G + l2))]) dL_law_1220 rfl rfl (by decide) rfl ?_
  refine zi_goto (tgt := 18) dL_law_1223 (by decide) ?_
  refine zi_sub [1, 2, 3, 0] rfl ?_
  exact hk18 l1 l2 (l3 + 6) h
set_option maxRecDepth 20000 in
set_option maxHeartbeats 1000000 in
theorem wb_L_law_18 (G : zG) (n : Nat) (k18 : Nat → Nat → Int32 → zH → Option (Int32 × zH)) (hk18 : ∀ (l1 : Nat) (l2 : Nat) (l3 : Int32) (h : zH), zW G yL_law cL_law 4 (some .boolean) zvI 99 18 [(0, .ref (zsb G)), (1, .ref (zbase G + l1)), (2, .ref (zbase G + l2)), (3, .int l3)] [] h (k18 l1 l2 l3 h)) (l1 : Nat) (l2 : Nat) (l3 : Int32) (h : zH) : zW G yL_law cL_law 4 (some .boolean) zvI 99 18 [(0, .ref (zsb G)), (1, .ref (zbase G + l1)), (2, .ref (zbase G + l2)), (3, .int l3)] [] h (fb_L_law_18 n (zsL G) (zsX G) k18 l1 l2 l3 h) := by
  unfold fb_L_law_18
  refine zi_iload_n dL_law_18 rfl 3 rfl ?_
  refine zi_aload_n dL_law_19 rfl 0 rfl ?_
  refine zi_slen dL_law_20 ?_
  refine zi_bipush (v := 6) dL_law_21 (by decide) ?_
  refine zi_isub dL_law_23 ?_
  refine zi_icmp_gt (tgt := 1226) dL_law_24 (by decide) ?_ ?_
  · refine zi_iconst (v := 1) dL_law_1226 (by decide) ?_
    exact zi_ret1 dL_law_1227
  · refine zi_aload_n dL_law_27 rfl 0 rfl ?_
    refine zi_iload_n dL_law_28 rfl 3 rfl ?_
    refine zi_sld dL_law_29 (fun v1 => ?_)
    refine zi_bipush (v := 63) dL_law_30 (by decide) ?_
    refine zi_iand dL_law_32 ?_
    refine zi_tsw (tgt := 1220) _ dL_law_33 rfl ?_ (by decide) ?_ ?_
    · intro j q hq
      match j, hq with
      | 0, hq => cases hq; exact ⟨rfl, _, rfl, rfl⟩
      | 1, hq => cases hq; exact ⟨rfl, _, rfl, rfl⟩
      | 2, hq => cases hq; exact ⟨rfl, _, rfl, rfl⟩
      | 3, hq => cases hq; exact ⟨rfl, _, rfl, rfl⟩
      | 4, hq => cases hq; exact ⟨rfl, _, rfl, rfl⟩
      | 5, hq => cases hq; exact ⟨rfl, _, rfl, rfl⟩
      | 6, hq => cases hq; exact ⟨rfl, _, rfl, rfl⟩
      | 7, hq => cases hq; exact ⟨rfl, _, rfl, rfl⟩
      | 8, hq => cases hq; exact ⟨rfl, _, rfl, rfl⟩
      | 9, hq => cases hq; exact ⟨rfl, _, rfl, rfl⟩
      | 10, hq => cases hq; exact ⟨rfl, _, rfl, rfl⟩
      | 11, hq => cases hq; exact ⟨rfl, _, rfl, rfl⟩
      | 12, hq => cases hq; exact ⟨rfl, _, rfl, rfl⟩
      | 13, hq => cases hq; exact ⟨rfl, _, rfl, rfl⟩
      | 14, hq => cases hq; exact ⟨rfl, _, rfl, rfl⟩
      | 15, hq => cases hq; exact ⟨rfl, _, rfl, rfl⟩
      | 16, hq => cases hq; exact ⟨rfl, _, rfl, rfl⟩
      | 17, hq => cases hq; exact ⟨rfl, _, rfl, rfl⟩
      | 18, hq => cases hq; exact ⟨rfl, _, rfl, rfl⟩
      | 19, hq => cases hq; exact ⟨rfl, _, rfl, rfl⟩
      | 20, hq => cases hq; exact ⟨rfl, _, rfl, rfl⟩
      | 21, hq => cases hq; exact ⟨rfl, _, rfl, rfl⟩
      | 22, hq => cases hq; exact ⟨rfl, _, rfl, rfl⟩
      | 23, hq => cases hq; exact ⟨rfl, _, rfl, rfl⟩
      | 24, hq => cases hq; exact ⟨rfl, _, rfl, rfl⟩
      | 25, hq => cases hq; exact ⟨rfl, _, rfl, rfl⟩
      | 26, hq => cases hq; exact ⟨rfl, _, rfl, rfl⟩
      | 27, hq => cases hq; exact ⟨rfl, _, rfl, rfl⟩
      | 28, hq => cases hq; exact ⟨rfl, _, rfl, rfl⟩
      | 29, hq => cases hq; exact ⟨rfl, _, rfl, rfl⟩
      | 30, hq => cases hq; exact ⟨rfl, _, rfl, rfl⟩
      | 31, hq => cases hq; exact ⟨rfl, _, rfl, rfl⟩
      | 32, hq => cases hq; exact ⟨rfl, _, rfl, rfl⟩
      | 33, hq => cases hq; exact ⟨rfl, _, rfl, rfl⟩
      | 34, hq => cases hq; exact ⟨rfl, _, rfl, rfl⟩
      | 35, hq => cases hq; exact ⟨rfl, _, rfl, rfl⟩
      | 36, hq => cases hq; exact ⟨rfl, _, rfl, rfl⟩
      | 37, hq => cases hq; exact ⟨rfl, _, rfl, rfl⟩
      | 38, hq => cases hq; exact ⟨rfl, _, rfl, rfl⟩
      | 39, hq => cases hq; exact ⟨rfl, _, rfl, rfl⟩
      | 40, hq => cases hq; exact ⟨rfl, _, rfl, rfl⟩
      | 41, hq => cases hq; exact ⟨rfl, _, rfl, rfl⟩
      | 42, hq => cases hq; exact ⟨rfl, _, rfl, rfl⟩
      | j + 43, hq => simp at hq
    · simp only [List.forall_mem_cons, List.not_mem_nil, false_implies, implies_true, and_true]
      refine ⟨?_, ?_, ?_, ?_, ?_, ?_, ?_, ?_, ?_, ?_, ?_, ?_, ?_, ?_, ?_, ?_, ?_, ?_, ?_, ?_, ?_, ?_, ?_, ?_, ?_, ?_, ?_, ?_, ?_, ?_, ?_, ?_, ?_, ?_, ?_, ?_, ?_, ?_, ?_, ?_, ?_, ?_, ?_⟩
      · refine zi_aload_n dL_law_220 rfl 1 rfl ?_
        refine zi_aload_n dL_law_221 rfl 0 rfl ?_
        refine zi_iload_n dL_law_222 rfl 3 rfl ?_
        refine zi_iconst (v := 1) dL_law_223 (by decide) ?_
        refine zi_iadd dL_law_224 ?_
        refine zi_sld dL_law_225 (fun v2 => ?_)
        refine zi_aload_n dL_law_226 rfl 0 rfl ?_
        refine zi_iload_n dL_law_227 rfl 3 rfl ?_
        refine zi_iconst (v := 2) dL_law_228 (by decide) ?_
        refine zi_iadd dL_law_229 ?_
        refine zi_sld dL_law_230 (fun v3 => ?_)
        refine zi_callVI (As := [.int v2, .int v3]) (rest := []) (ci := 11) dL_law_231 ml_L_13 md_X11_of mv_X11_of rfl (by decide) rfl rfl (Nat.le_of_ble_eq_true rfl) (Nat.le_of_ble_eq_true rfl) (k_X11_of G n l1 v2 v3 h) (fun r4 h5 => ?_)
        refine zi_aload_n dL_law_234 rfl 2 rfl ?_
        refine zi_aload_n dL_law_235 rfl 0 rfl ?_
        refine zi_iload_n dL_law_236 rfl 3 rfl ?_
        refine zi_iconst (v := 1) dL_law_237 (by decide) ?_
        refine zi_iadd dL_law_238 ?_
        refine zi_sld dL_law_239 (fun v6 => ?_)
        refine zi_aload_n dL_law_240 rfl 0 rfl ?_
        refine zi_iload_n dL_law_241 rfl 3 rfl ?_
        refine zi_iconst (v := 2) dL_law_242 (by decide) ?_
        refine zi_iadd dL_law_243 ?_
        refine zi_sld dL_law_244 (fun v7 => ?_)
        refine zi_callVI (As := [.int v6, .int v7]) (rest := [.int r4]) (ci := 12) dL_law_245 ml_L_17 md_X12_of mv_X12_of rfl (by decide) rfl rfl (Nat.le_of_ble_eq_true rfl) (Nat.le_of_ble_eq_true rfl) (k_X12_of G n l2 v6 v7 h5) (fun r8 h9 => ?_)
        refine zi_icmp_eq (tgt := 1220) dL_law_248 (by decide) ?_ ?_
        · refine zi_sub [0, 1, 2, 3] rfl ?_
          exact wb_L_law_1220 G n k18 hk18 l1 l2 l3 h9
        · refine zi_iconst (v := 0) dL_law_251 (by decide) ?_
          exact zi_ret0 dL_law_252
      · refine zi_aload_n dL_law_253 rfl 1 rfl ?_
        refine zi_aload_n dL_law_254 rfl 0 rfl ?_
        refine zi_iload_n dL_law_255 rfl 3 rfl ?_
        refine zi_iconst (v := 1) dL_law_256 (by decide) ?_
        refine zi_iadd dL_law_257 ?_
        refine zi_sld dL_law_258 (fun v10 => ?_)
        refine zi_aload_n dL_law_259 rfl 0 rfl ?_
        refine zi_iload_n dL_law_260 rfl 3 rfl ?_
        refine zi_iconst (v := 2) dL_law_261 (by decide) ?_
        refine zi_iadd dL_law_262 ?_
        refine zi_sld dL_law_263 (fun v11 => ?_)
        refine zi_callVI (As := [.int v10, .int v11]) (rest := []) (ci := 11) dL_law_264 ml_L_18 md_X11_cell mv_X11_cell rfl (by decide) rfl rfl (Nat.le_of_ble_eq_true rfl) (Nat.le_of_ble_eq_true rfl) (k_X11_cell G n l1 v10 v11 h) (fun r12 h13 => ?_)
        refine zi_aload_n dL_law_267 rfl 2 rfl ?_
        refine zi_aload_n dL_law_268 rfl 0 rfl ?_
        refine zi_iload_n dL_law_269 rfl 3 rfl ?_
        refine zi_iconst (v := 1) dL_law_270 (by decide) ?_
        refine zi_iadd dL_law_271 ?_
        refine zi_sld dL_law_272 (fun v14 => ?_)
        refine zi_aload_n dL_law_273 rfl 0 rfl ?_
        refine zi_iload_n dL_law_274 rfl 3 rfl ?_
        refine zi_iconst (v := 2) dL_law_275 (by decide) ?_
        refine zi_iadd dL_law_276 ?_
        refine zi_sld dL_law_277 (fun v15 => ?_)
        refine zi_callVI (As := [.int v14, .int v15]) (rest := [.int r12]) (ci := 12) dL_law_278 ml_L_21 md_X12_cell mv_X12_cell rfl (by decide) rfl rfl (Nat.le_of_ble_eq_true rfl) (Nat.le_of_ble_eq_true rfl) (k_X12_cell G n l2 v14 v15 h13) (fun r16 h17 => ?_)
        refine zi_icmp_eq (tgt := 1220) dL_law_281 (by decide) ?_ ?_
        · refine zi_sub [0, 1, 2, 3] rfl ?_
          exact wb_L_law_1220 G n k18 hk18 l1 l2 l3 h17
        · refine zi_iconst (v := 0) dL_law_284 (by decide) ?_
          exact zi_ret0 dL_law_285
      · refine zi_aload_n dL_law_286 rfl 1 rfl ?_
        refine zi_aload_n dL_law_287 rfl 0 rfl ?_
        refine zi_iload_n dL_law_288 rfl 3 rfl ?_
        refine zi_iconst (v := 1) dL_law_289 (by decide) ?_
        refine zi_iadd dL_law_290 ?_
        refine zi_sld dL_law_291 (fun v18 => ?_)
        refine zi_callVI (As := [.int v18]) (rest := []) (ci := 11) dL_law_292 ml_L_22 md_X11_list mv_X11_list rfl (by decide) rfl rfl (Nat.le_of_ble_eq_true rfl) (Nat.le_of_ble_eq_true rfl) (k_X11_list G n l1 v18 h) (fun r19 h20 => ?_)
        refine zi_aload_n dL_law_295 rfl 2 rfl ?_
        refine zi_aload_n dL_law_296 rfl 0 rfl ?_
        refine zi_iload_n dL_law_297 rfl 3 rfl ?_
        refine zi_iconst (v := 1) dL_law_298 (by decide) ?_
        refine zi_iadd dL_law_299 ?_
        refine zi_sld dL_law_300 (fun v21 => ?_)
        refine zi_callVI (As := [.int v21]) (rest := [.int r19]) (ci := 12) dL_law_301 ml_L_26 md_X12_list mv_X12_list rfl (by decide) rfl rfl (Nat.le_of_ble_eq_true rfl) (Nat.le_of_ble_eq_true rfl) (k_X12_list G n l2 v21 h20) (fun r22 h23 => ?_)
        refine zi_icmp_eq (tgt := 1220) dL_law_304 (by decide) ?_ ?_
        · refine zi_sub [0, 1, 2, 3] rfl ?_
          exact wb_L_law_1220 G n k18 hk18 l1 l2 l3 h23
        · refine zi_iconst (v := 0) dL_law_307 (by decide) ?_
          exact zi_ret0 dL_law_308
      · refine zi_aload_n dL_law_309 rfl 1 rfl ?_
        refine zi_aload_n dL_law_310 rfl 0 rfl ?_
        refine zi_iload_n dL_law_311 rfl 3 rfl ?_
        refine zi_iconst (v := 1) dL_law_312 (by decide) ?_
        refine zi_iadd dL_law_313 ?_
        refine zi_sld dL_law_314 (fun v24 => ?_)
        refine zi_callVI (As := [.int v24]) (rest := []) (ci := 11) dL_law_315 ml_L_27 md_X11_find mv_X11_find rfl (by decide) rfl rfl (Nat.le_of_ble_eq_true rfl) (Nat.le_of_ble_eq_true rfl) (k_X11_find G n l1 v24 h) (fun r25 h26 => ?_)
        refine zi_aload_n dL_law_318 rfl 2 rfl ?_
        refine zi_aload_n dL_law_319 rfl 0 rfl ?_
        refine zi_iload_n dL_law_320 rfl 3 rfl ?_
        refine zi_iconst (v := 1) dL_law_321 (by decide) ?_
        refine zi_iadd dL_law_322 ?_
        refine zi_sld dL_law_323 (fun v27 => ?_)
        refine zi_callVI (As := [.int v27]) (rest := [.int r25]) (ci := 12) dL_law_324 ml_L_30 md_X12_find mv_X12_find rfl (by decide) rfl rfl (Nat.le_of_ble_eq_true rfl) (Nat.le_of_ble_eq_true rfl) (k_X12_find G n l2 v27 h26) (fun r28 h29 => ?_)
        refine zi_icmp_eq (tgt := 1220) dL_law_327 (by decide) ?_ ?_
        · refine zi_sub [0, 1, 2, 3] rfl ?_
          exact wb_L_law_1220 G n k18 hk18 l1 l2 l3 h29
        · refine zi_iconst (v := 0) dL_law_330 (by decide) ?_
          exact zi_ret0 dL_law_331
      · refine zi_aload_n dL_law_332 rfl 1 rfl ?_
        refine zi_aload_n dL_law_333 rfl 0 rfl ?_
        refine zi_iload_n dL_law_334 rfl 3 rfl ?_
        refine zi_iconst (v := 1) dL_law_335 (by decide) ?_
        refine zi_iadd dL_law_336 ?_
        refine zi_sld dL_law_337 (fun v30 => ?_)
        refine zi_callVI (As := [.int v30]) (rest := []) (ci := 11) dL_law_338 ml_L_31 md_X11_node mv_X11_node rfl (by decide) rfl rfl (Nat.le_of_ble_eq_true rfl) (Nat.le_of_ble_eq_true rfl) (k_X11_node G n l1 v30 h) (fun r31 h32 => ?_)
        refine zi_aload_n dL_law_341 rfl 2 rfl ?_
        refine zi_aload_n dL_law_342 rfl 0 rfl ?_
        refine zi_iload_n dL_law_343 rfl 3 rfl ?_
        refine zi_iconst (v := 1) dL_law_344 (by decide) ?_
        refine zi_iadd dL_law_345 ?_
        refine zi_sld dL_law_346 (fun v33 => ?_)
        refine zi_callVI (As := [.int v33]) (rest := [.int r31]) (ci := 12) dL_law_347 ml_L_34 md_X12_node mv_X12_node rfl (by decide) rfl rfl (Nat.le_of_ble_eq_true rfl) (Nat.le_of_ble_eq_true rfl) (k_X12_node G n l2 v33 h32) (fun r34 h35 => ?_)
        refine zi_icmp_eq (tgt := 1220) dL_law_350 (by decide) ?_ ?_
        · refine zi_sub [0, 1, 2, 3] rfl ?_
          exact wb_L_law_1220 G n k18 hk18 l1 l2 l3 h35
        · refine zi_iconst (v := 0) dL_law_353 (by decide) ?_
          exact zi_ret0 dL_law_354
      · refine zi_aload_n dL_law_355 rfl 1 rfl ?_
        refine zi_aload_n dL_law_356 rfl 0 rfl ?_
        refine zi_iload_n dL_law_357 rfl 3 rfl ?_
        refine zi_iconst (v := 1) dL_law_358 (by decide) ?_
        refine zi_iadd dL_law_359 ?_
        refine zi_sld dL_law_360 (fun v36 => ?_)
        refine zi_aload_n dL_law_361 rfl 0 rfl ?_
        refine zi_iload_n dL_law_362 rfl 3 rfl ?_
        refine zi_iconst (v := 2) dL_law_363 (by decide) ?_
        refine zi_iadd dL_law_364 ?_
        refine zi_sld dL_law_365 (fun v37 => ?_)
        refine zi_callVI (As := [.int v36, .int v37]) (rest := []) (ci := 11) dL_law_366 ml_L_35 md_X11_old mv_X11_old rfl (by decide) rfl rfl (Nat.le_of_ble_eq_true rfl) (Nat.le_of_ble_eq_true rfl) (k_X11_old G n l1 v36 v37 h) (fun r38 h39 => ?_)
        refine zi_aload_n dL_law_369 rfl 2 rfl ?_
        refine zi_aload_n dL_law_370 rfl 0 rfl ?_
        refine zi_iload_n dL_law_371 rfl 3 rfl ?_
        refine zi_iconst (v := 1) dL_law_372 (by decide) ?_
        refine zi_iadd dL_law_373 ?_
        refine zi_sld dL_law_374 (fun v40 => ?_)
        refine zi_aload_n dL_law_375 rfl 0 rfl ?_
        refine zi_iload_n dL_law_376 rfl 3 rfl ?_
        refine zi_iconst (v := 2) dL_law_377 (by decide) ?_
        refine zi_iadd dL_law_378 ?_
        refine zi_sld dL_law_379 (fun v41 => ?_)
        refine zi_callVI (As := [.int v40, .int v41]) (rest := [.int r38]) (ci := 12) dL_law_380 ml_L_38 md_X12_old mv_X12_old rfl (by decide) rfl rfl (Nat.le_of_ble_eq_true rfl) (Nat.le_of_ble_eq_true rfl) (k_X12_old G n l2 v40 v41 h39) (fun r42 h43 => ?_)
        refine zi_icmp_eq (tgt := 1220) dL_law_383 (by decide) ?_ ?_
        · refine zi_sub [0, 1, 2, 3] rfl ?_
          exact wb_L_law_1220 G n k18 hk18 l1 l2 l3 h43
        · refine zi_iconst (v := 0) dL_law_386 (by decide) ?_
          exact zi_ret0 dL_law_387
      · refine zi_aload_n dL_law_388 rfl 1 rfl ?_
        refine zi_aload_n dL_law_389 rfl 0 rfl ?_
        refine zi_iload_n dL_law_390 rfl 3 rfl ?_
        refine zi_iconst (v := 1) dL_law_391 (by decide) ?_
        refine zi_iadd dL_law_392 ?_
        refine zi_sld dL_law_393 (fun v44 => ?_)
        refine zi_aload_n dL_law_394 rfl 0 rfl ?_
        refine zi_iload_n dL_law_395 rfl 3 rfl ?_
        refine zi_iconst (v := 2) dL_law_396 (by decide) ?_
        refine zi_iadd dL_law_397 ?_
        refine zi_sld dL_law_398 (fun v45 => ?_)
        refine zi_callVI (As := [.int v44, .int v45]) (rest := []) (ci := 11) dL_law_399 ml_L_39 md_X11_terms mv_X11_terms rfl (by decide) rfl rfl (Nat.le_of_ble_eq_true rfl) (Nat.le_of_ble_eq_true rfl) (k_X11_terms G n l1 v44 v45 h) (fun r46 h47 => ?_)
        refine zi_aload_n dL_law_402 rfl 2 rfl ?_
        refine zi_aload_n dL_law_403 rfl 0 rfl ?_
        refine zi_iload_n dL_law_404 rfl 3 rfl ?_
        refine zi_iconst (v := 1) dL_law_405 (by decide) ?_
        refine zi_iadd dL_law_406 ?_
        refine zi_sld dL_law_407 (fun v48 => ?_)
        refine zi_aload_n dL_law_408 rfl 0 rfl ?_
        refine zi_iload_n dL_law_409 rfl 3 rfl ?_
        refine zi_iconst (v := 2) dL_law_410 (by decide) ?_
        refine zi_iadd dL_law_411 ?_
        refine zi_sld dL_law_412 (fun v49 => ?_)
        refine zi_callVI (As := [.int v48, .int v49]) (rest := [.int r46]) (ci := 12) dL_law_413 ml_L_42 md_X12_terms mv_X12_terms rfl (by decide) rfl rfl (Nat.le_of_ble_eq_true rfl) (Nat.le_of_ble_eq_true rfl) (k_X12_terms G n l2 v48 v49 h47) (fun r50 h51 => ?_)
        refine zi_icmp_eq (tgt := 1220) dL_law_416 (by decide) ?_ ?_
        · refine zi_sub [0, 1, 2, 3] rfl ?_
          exact wb_L_law_1220 G n k18 hk18 l1 l2 l3 h51
        · refine zi_iconst (v := 0) dL_law_419 (by decide) ?_
          exact zi_ret0 dL_law_420
      · refine zi_aload_n dL_law_421 rfl 1 rfl ?_
        refine zi_aload_n dL_law_422 rfl 0 rfl ?_
        refine zi_iload_n dL_law_423 rfl 3 rfl ?_
        refine zi_iconst (v := 1) dL_law_424 (by decide) ?_
        refine zi_iadd dL_law_425 ?_
        refine zi_sld dL_law_426 (fun v52 => ?_)
        refine zi_aload_n dL_law_427 rfl 0 rfl ?_
        refine zi_iload_n dL_law_428 rfl 3 rfl ?_
        refine zi_iconst (v := 2) dL_law_429 (by decide) ?_
        refine zi_iadd dL_law_430 ?_
        refine zi_sld dL_law_431 (fun v53 => ?_)
        refine zi_aload_n dL_law_432 rfl 0 rfl ?_
        refine zi_iload_n dL_law_433 rfl 3 rfl ?_
        refine zi_iconst (v := 3) dL_law_434 (by decide) ?_
        refine zi_iadd dL_law_435 ?_
        refine zi_sld dL_law_436 (fun v54 => ?_)
        refine zi_aload_n dL_law_437 rfl 0 rfl ?_
        refine zi_iload_n dL_law_438 rfl 3 rfl ?_
        refine zi_iconst (v := 4) dL_law_439 (by decide) ?_
        refine zi_iadd dL_law_440 ?_
        refine zi_sld dL_law_441 (fun v55 => ?_)
        refine zi_aload_n dL_law_442 rfl 0 rfl ?_
        refine zi_iload_n dL_law_443 rfl 3 rfl ?_
        refine zi_iconst (v := 5) dL_law_444 (by decide) ?_
        refine zi_iadd dL_law_445 ?_
        refine zi_sld dL_law_446 (fun v56 => ?_)
        refine zi_callVI (As := [.int v52, .int v53, .int v54, .int v55, .int v56]) (rest := []) (ci := 11) dL_law_447 ml_L_43 md_X11_feed mv_X11_feed rfl (by decide) rfl rfl (Nat.le_of_ble_eq_true rfl) (Nat.le_of_ble_eq_true rfl) (k_X11_feed G n l1 v52 v53 v54 v55 v56 h) (fun r57 h58 => ?_)
        refine zi_aload_n dL_law_450 rfl 2 rfl ?_
        refine zi_aload_n dL_law_451 rfl 0 rfl ?_
        refine zi_iload_n dL_law_452 rfl 3 rfl ?_
        refine zi_iconst (v := 1) dL_law_453 (by decide) ?_
        refine zi_iadd dL_law_454 ?_
        refine zi_sld dL_law_455 (fun v59 => ?_)
        refine zi_aload_n dL_law_456 rfl 0 rfl ?_
        refine zi_iload_n dL_law_457 rfl 3 rfl ?_
        refine zi_iconst (v := 2) dL_law_458 (by decide) ?_
        refine zi_iadd dL_law_459 ?_
        refine zi_sld dL_law_460 (fun v60 => ?_)
        refine zi_aload_n dL_law_461 rfl 0 rfl ?_
        refine zi_iload_n dL_law_462 rfl 3 rfl ?_
        refine zi_iconst (v := 3) dL_law_463 (by decide) ?_
        refine zi_iadd dL_law_464 ?_
        refine zi_sld dL_law_465 (fun v61 => ?_)
        refine zi_aload_n dL_law_466 rfl 0 rfl ?_
        refine zi_iload_n dL_law_467 rfl 3 rfl ?_
        refine zi_iconst (v := 4) dL_law_468 (by decide) ?_
        refine zi_iadd dL_law_469 ?_
        refine zi_sld dL_law_470 (fun v62 => ?_)
        refine zi_aload_n dL_law_471 rfl 0 rfl ?_
        refine zi_iload_n dL_law_472 rfl 3 rfl ?_
        refine zi_iconst (v := 5) dL_law_473 (by decide) ?_
        refine zi_iadd dL_law_474 ?_
        refine zi_sld dL_law_475 (fun v63 => ?_)
        refine zi_callVI (As := [.int v59, .int v60, .int v61, .int v62, .int v63]) (rest := [.int r57]) (ci := 12) dL_law_476 ml_L_47 md_X12_feed mv_X12_feed rfl (by decide) rfl rfl (Nat.le_of_ble_eq_true rfl) (Nat.le_of_ble_eq_true rfl) (k_X12_feed G n l2 v59 v60 v61 v62 v63 h58) (fun r64 h65 => ?_)
        refine zi_icmp_eq (tgt := 1220) dL_law_479 (by decide) ?_ ?_
        · refine zi_sub [0, 1, 2, 3] rfl ?_
          exact wb_L_law_1220 G n k18 hk18 l1 l2 l3 h65
        · refine zi_iconst (v := 0) dL_law_482 (by decide) ?_
          exact zi_ret0 dL_law_483
      · refine zi_aload_n dL_law_484 rfl 1 rfl ?_
        refine zi_aload_n dL_law_485 rfl 0 rfl ?_
        refine zi_iload_n dL_law_486 rfl 3 rfl ?_
        refine zi_iconst (v := 1) dL_law_487 (by decide) ?_
        refine zi_iadd dL_law_488 ?_
        refine zi_sld dL_law_489 (fun v66 => ?_)
        refine zi_callVI (As := [.int v66]) (rest := []) (ci := 11) dL_law_490 ml_L_48 md_X11_end mv_X11_end rfl (by decide) rfl rfl (Nat.le_of_ble_eq_true rfl) (Nat.le_of_ble_eq_true rfl) (k_X11_end G n l1 v66 h) (fun r67 h68 => ?_)
        refine zi_aload_n dL_law_493 rfl 2 rfl ?_
        refine zi_aload_n dL_law_494 rfl 0 rfl ?_
        refine zi_iload_n dL_law_495 rfl 3 rfl ?_
        refine zi_iconst (v := 1) dL_law_496 (by decide) ?_
        refine zi_iadd dL_law_497 ?_
        refine zi_sld dL_law_498 (fun v69 => ?_)
        refine zi_callVI (As := [.int v69]) (rest := [.int r67]) (ci := 12) dL_law_499 ml_L_51 md_X12_end mv_X12_end rfl (by decide) rfl rfl (Nat.le_of_ble_eq_true rfl) (Nat.le_of_ble_eq_true rfl) (k_X12_end G n l2 v69 h68) (fun r70 h71 => ?_)
        refine zi_icmp_eq (tgt := 1220) dL_law_502 (by decide) ?_ ?_
        · refine zi_sub [0, 1, 2, 3] rfl ?_
          exact wb_L_law_1220 G n k18 hk18 l1 l2 l3 h71
        · refine zi_iconst (v := 0) dL_law_505 (by decide) ?_
          exact zi_ret0 dL_law_506
      · refine zi_aload_n dL_law_507 rfl 1 rfl ?_
        refine zi_callVI (As := []) (rest := []) (ci := 11) dL_law_508 ml_L_52 md_X11_row mv_X11_row rfl (by decide) rfl rfl (Nat.le_of_ble_eq_true rfl) (Nat.le_of_ble_eq_true rfl) (k_X11_row G n l1 h) (fun r72 h73 => ?_)
        refine zi_aload_n dL_law_511 rfl 2 rfl ?_
        refine zi_callVI (As := []) (rest := [.int r72]) (ci := 12) dL_law_512 ml_L_56 md_X12_row mv_X12_row rfl (by decide) rfl rfl (Nat.le_of_ble_eq_true rfl) (Nat.le_of_ble_eq_true rfl) (k_X12_row G n l2 h73) (fun r74 h75 => ?_)
        refine zi_icmp_eq (tgt := 1220) dL_law_515 (by decide) ?_ ?_
        · refine zi_sub [0, 1, 2, 3] rfl ?_
          exact wb_L_law_1220 G n k18 hk18 l1 l2 l3 h75
        · refine zi_iconst (v := 0) dL_law_518 (by decide) ?_
          exact zi_ret0 dL_law_519
      · refine zi_aload_n dL_law_520 rfl 1 rfl ?_
        refine zi_callVI (As := []) (rest := []) (ci := 11) dL_law_521 ml_L_57 md_X11_tears mv_X11_tears rfl (by decide) rfl rfl (Nat.le_of_ble_eq_true rfl) (Nat.le_of_ble_eq_true rfl) (k_X11_tears G n l1 h) (fun r76 h77 => ?_)
        refine zi_aload_n dL_law_524 rfl 2 rfl ?_
        refine zi_callVI (As := []) (rest := [.int r76]) (ci := 12) dL_law_525 ml_L_60 md_X12_tears mv_X12_tears rfl (by decide) rfl rfl (Nat.le_of_ble_eq_true rfl) (Nat.le_of_ble_eq_true rfl) (k_X12_tears G n l2 h77) (fun r78 h79 => ?_)
        refine zi_icmp_eq (tgt := 1220) dL_law_528 (by decide) ?_ ?_
        · refine zi_sub [0, 1, 2, 3] rfl ?_
          exact wb_L_law_1220 G n k18 hk18 l1 l2 l3 h79
        · refine zi_iconst (v := 0) dL_law_531 (by decide) ?_
          exact zi_ret0 dL_law_532
      · refine zi_aload_n dL_law_533 rfl 1 rfl ?_
        refine zi_callVI (As := []) (rest := []) (ci := 11) dL_law_534 ml_L_61 md_X11_law mv_X11_law rfl (by decide) rfl rfl (Nat.le_of_ble_eq_true rfl) (Nat.le_of_ble_eq_true rfl) (k_X11_law G n l1 h) (fun r80 h81 => ?_)
        refine zi_aload_n dL_law_537 rfl 2 rfl ?_
        refine zi_callVI (As := []) (rest := [.int r80]) (ci := 12) dL_law_538 ml_L_64 md_X12_law mv_X12_law rfl (by decide) rfl rfl (Nat.le_of_ble_eq_true rfl) (Nat.le_of_ble_eq_true rfl) (k_X12_law G n l2 h81) (fun r82 h83 => ?_)
        refine zi_icmp_eq (tgt := 1220) dL_law_541 (by decide) ?_ ?_
        · refine zi_sub [0, 1, 2, 3] rfl ?_
          exact wb_L_law_1220 G n k18 hk18 l1 l2 l3 h83
        · refine zi_iconst (v := 0) dL_law_544 (by decide) ?_
          exact zi_ret0 dL_law_545
      · refine zi_aload_n dL_law_546 rfl 1 rfl ?_
        refine zi_callVI (As := []) (rest := []) (ci := 11) dL_law_547 ml_L_65 md_X11_orders mv_X11_orders rfl (by decide) rfl rfl (Nat.le_of_ble_eq_true rfl) (Nat.le_of_ble_eq_true rfl) (k_X11_orders G n l1 h) (fun r84 h85 => ?_)
        refine zi_aload_n dL_law_550 rfl 2 rfl ?_
        refine zi_callVI (As := []) (rest := [.int r84]) (ci := 12) dL_law_551 ml_L_68 md_X12_orders mv_X12_orders rfl (by decide) rfl rfl (Nat.le_of_ble_eq_true rfl) (Nat.le_of_ble_eq_true rfl) (k_X12_orders G n l2 h85) (fun r86 h87 => ?_)
        refine zi_icmp_eq (tgt := 1220) dL_law_554 (by decide) ?_ ?_
        · refine zi_sub [0, 1, 2, 3] rfl ?_
          exact wb_L_law_1220 G n k18 hk18 l1 l2 l3 h87
        · refine zi_iconst (v := 0) dL_law_557 (by decide) ?_
          exact zi_ret0 dL_law_558
      · refine zi_aload_n dL_law_559 rfl 1 rfl ?_
        refine zi_callVI (As := []) (rest := []) (ci := 11) dL_law_560 ml_L_69 md_X11_fault mv_X11_fault rfl (by decide) rfl rfl (Nat.le_of_ble_eq_true rfl) (Nat.le_of_ble_eq_true rfl) (k_X11_fault G n l1 h) (fun r88 h89 => ?_)
        refine zi_aload_n dL_law_563 rfl 2 rfl ?_
        refine zi_callVI (As := []) (rest := [.int r88]) (ci := 12) dL_law_564 ml_L_72 md_X12_fault mv_X12_fault rfl (by decide) rfl rfl (Nat.le_of_ble_eq_true rfl) (Nat.le_of_ble_eq_true rfl) (k_X12_fault G n l2 h89) (fun r90 h91 => ?_)
        refine zi_icmp_eq (tgt := 1220) dL_law_567 (by decide) ?_ ?_
        · refine zi_sub [0, 1, 2, 3] rfl ?_
          exact wb_L_law_1220 G n k18 hk18 l1 l2 l3 h91
        · refine zi_iconst (v := 0) dL_law_570 (by decide) ?_
          exact zi_ret0 dL_law_571
      · refine zi_aload_n dL_law_572 rfl 1 rfl ?_
        refine zi_callVI (As := []) (rest := []) (ci := 11) dL_law_573 ml_L_73 md_X11_stopped mv_X11_stopped rfl (by decide) rfl rfl (Nat.le_of_ble_eq_true rfl) (Nat.le_of_ble_eq_true rfl) (k_X11_stopped G n l1 h) (fun r92 h93 => ?_)
        refine zi_aload_n dL_law_576 rfl 2 rfl ?_
        refine zi_callVI (As := []) (rest := [.int r92]) (ci := 12) dL_law_577 ml_L_76 md_X12_stopped mv_X12_stopped rfl (by decide) rfl rfl (Nat.le_of_ble_eq_true rfl) (Nat.le_of_ble_eq_true rfl) (k_X12_stopped G n l2 h93) (fun r94 h95 => ?_)
        refine zi_icmp_eq (tgt := 1220) dL_law_580 (by decide) ?_ ?_
        · refine zi_sub [0, 1, 2, 3] rfl ?_
          exact wb_L_law_1220 G n k18 hk18 l1 l2 l3 h95
        · refine zi_iconst (v := 0) dL_law_583 (by decide) ?_
          exact zi_ret0 dL_law_584
      · refine zi_aload_n dL_law_585 rfl 1 rfl ?_
        refine zi_aload_n dL_law_586 rfl 0 rfl ?_
        refine zi_iload_n dL_law_587 rfl 3 rfl ?_
        refine zi_iconst (v := 1) dL_law_588 (by decide) ?_
        refine zi_iadd dL_law_589 ?_
        refine zi_sld dL_law_590 (fun v96 => ?_)
        refine zi_callVI (As := [.int v96]) (rest := []) (ci := 11) dL_law_591 ml_L_77 md_X11_force mv_X11_force rfl (by decide) rfl rfl (Nat.le_of_ble_eq_true rfl) (Nat.le_of_ble_eq_true rfl) (k_X11_force G n l1 v96 h) (fun r97 h98 => ?_)
        refine zi_aload_n dL_law_594 rfl 2 rfl ?_
        refine zi_aload_n dL_law_595 rfl 0 rfl ?_
        refine zi_iload_n dL_law_596 rfl 3 rfl ?_
        refine zi_iconst (v := 1) dL_law_597 (by decide) ?_
        refine zi_iadd dL_law_598 ?_
        refine zi_sld dL_law_599 (fun v99 => ?_)
        refine zi_callVI (As := [.int v99]) (rest := [.int r97]) (ci := 12) dL_law_600 ml_L_80 md_X12_force mv_X12_force rfl (by decide) rfl rfl (Nat.le_of_ble_eq_true rfl) (Nat.le_of_ble_eq_true rfl) (k_X12_force G n l2 v99 h98) (fun r100 h101 => ?_)
        refine zi_icmp_eq (tgt := 1220) dL_law_603 (by decide) ?_ ?_
        · refine zi_sub [0, 1, 2, 3] rfl ?_
          exact wb_L_law_1220 G n k18 hk18 l1 l2 l3 h101
        · refine zi_iconst (v := 0) dL_law_606 (by decide) ?_
          exact zi_ret0 dL_law_607
      · refine zi_aload_n dL_law_608 rfl 1 rfl ?_
        refine zi_aload_n dL_law_609 rfl 0 rfl ?_
        refine zi_iload_n dL_law_610 rfl 3 rfl ?_
        refine zi_iconst (v := 1) dL_law_611 (by decide) ?_
        refine zi_iadd dL_law_612 ?_
        refine zi_sld dL_law_613 (fun v102 => ?_)
        refine zi_aload_n dL_law_614 rfl 0 rfl ?_
        refine zi_iload_n dL_law_615 rfl 3 rfl ?_
        refine zi_iconst (v := 2) dL_law_616 (by decide) ?_
        refine zi_iadd dL_law_617 ?_
        refine zi_sld dL_law_618 (fun v103 => ?_)
        refine zi_callVI (As := [.int v102, .int v103]) (rest := []) (ci := 11) dL_law_619 ml_L_81 md_X11_put mv_X11_put rfl (by decide) rfl rfl (Nat.le_of_ble_eq_true rfl) (Nat.le_of_ble_eq_true rfl) (k_X11_put G n l1 v102 v103 h) (fun r104 h105 => ?_)
        refine zi_aload_n dL_law_622 rfl 2 rfl ?_
        refine zi_aload_n dL_law_623 rfl 0 rfl ?_
        refine zi_iload_n dL_law_624 rfl 3 rfl ?_
        refine zi_iconst (v := 1) dL_law_625 (by decide) ?_
        refine zi_iadd dL_law_626 ?_
        refine zi_sld dL_law_627 (fun v106 => ?_)
        refine zi_aload_n dL_law_628 rfl 0 rfl ?_
        refine zi_iload_n dL_law_629 rfl 3 rfl ?_
        refine zi_iconst (v := 2) dL_law_630 (by decide) ?_
        refine zi_iadd dL_law_631 ?_
        refine zi_sld dL_law_632 (fun v107 => ?_)
        refine zi_callVI (As := [.int v106, .int v107]) (rest := [.int r104]) (ci := 12) dL_law_633 ml_L_84 md_X12_put mv_X12_put rfl (by decide) rfl rfl (Nat.le_of_ble_eq_true rfl) (Nat.le_of_ble_eq_true rfl) (k_X12_put G n l2 v106 v107 h105) (fun r108 h109 => ?_)
        refine zi_icmp_eq (tgt := 1220) dL_law_636 (by decide) ?_ ?_
        · refine zi_sub [0, 1, 2, 3] rfl ?_
          exact wb_L_law_1220 G n k18 hk18 l1 l2 l3 h109
        · refine zi_iconst (v := 0) dL_law_639 (by decide) ?_
          exact zi_ret0 dL_law_640
      · refine zi_aload_n dL_law_641 rfl 1 rfl ?_
        refine zi_aload_n dL_law_642 rfl 0 rfl ?_
        refine zi_iload_n dL_law_643 rfl 3 rfl ?_
        refine zi_iconst (v := 1) dL_law_644 (by decide) ?_
        refine zi_iadd dL_law_645 ?_
        refine zi_sld dL_law_646 (fun v110 => ?_)
        refine zi_callVI (As := [.int v110]) (rest := []) (ci := 11) dL_law_647 ml_L_85 md_X11_drop mv_X11_drop rfl (by decide) rfl rfl (Nat.le_of_ble_eq_true rfl) (Nat.le_of_ble_eq_true rfl) (k_X11_drop G n l1 v110 h) (fun r111 h112 => ?_)
        refine zi_aload_n dL_law_650 rfl 2 rfl ?_
        refine zi_aload_n dL_law_651 rfl 0 rfl ?_
        refine zi_iload_n dL_law_652 rfl 3 rfl ?_
        refine zi_iconst (v := 1) dL_law_653 (by decide) ?_
        refine zi_iadd dL_law_654 ?_
        refine zi_sld dL_law_655 (fun v113 => ?_)
        refine zi_callVI (As := [.int v113]) (rest := [.int r111]) (ci := 12) dL_law_656 ml_L_88 md_X12_drop mv_X12_drop rfl (by decide) rfl rfl (Nat.le_of_ble_eq_true rfl) (Nat.le_of_ble_eq_true rfl) (k_X12_drop G n l2 v113 h112) (fun r114 h115 => ?_)
        refine zi_icmp_eq (tgt := 1220) dL_law_659 (by decide) ?_ ?_
        · refine zi_sub [0, 1, 2, 3] rfl ?_
          exact wb_L_law_1220 G n k18 hk18 l1 l2 l3 h115
        · refine zi_iconst (v := 0) dL_law_662 (by decide) ?_
          exact zi_ret0 dL_law_663
      · refine zi_aload_n dL_law_664 rfl 1 rfl ?_
        refine zi_aload_n dL_law_665 rfl 0 rfl ?_
        refine zi_iload_n dL_law_666 rfl 3 rfl ?_
        refine zi_iconst (v := 1) dL_law_667 (by decide) ?_
        refine zi_iadd dL_law_668 ?_
        refine zi_sld dL_law_669 (fun v116 => ?_)
        refine zi_callVI (As := [.int v116]) (rest := []) (ci := 11) dL_law_670 ml_L_89 md_X11_enter mv_X11_enter rfl (by decide) rfl rfl (Nat.le_of_ble_eq_true rfl) (Nat.le_of_ble_eq_true rfl) (k_X11_enter G n l1 v116 h) (fun r117 h118 => ?_)
        refine zi_aload_n dL_law_673 rfl 2 rfl ?_
        refine zi_aload_n dL_law_674 rfl 0 rfl ?_
        refine zi_iload_n dL_law_675 rfl 3 rfl ?_
        refine zi_iconst (v := 1) dL_law_676 (by decide) ?_
        refine zi_iadd dL_law_677 ?_
        refine zi_sld dL_law_678 (fun v119 => ?_)
        refine zi_callVI (As := [.int v119]) (rest := [.int r117]) (ci := 12) dL_law_679 ml_L_92 md_X12_enter mv_X12_enter rfl (by decide) rfl rfl (Nat.le_of_ble_eq_true rfl) (Nat.le_of_ble_eq_true rfl) (k_X12_enter G n l2 v119 h118) (fun r120 h121 => ?_)
        refine zi_icmp_eq (tgt := 1220) dL_law_682 (by decide) ?_ ?_
        · refine zi_sub [0, 1, 2, 3] rfl ?_
          exact wb_L_law_1220 G n k18 hk18 l1 l2 l3 h121
        · refine zi_iconst (v := 0) dL_law_685 (by decide) ?_
          exact zi_ret0 dL_law_686
      · refine zi_aload_n dL_law_687 rfl 1 rfl ?_
        refine zi_aload_n dL_law_688 rfl 0 rfl ?_
        refine zi_iload_n dL_law_689 rfl 3 rfl ?_
        refine zi_iconst (v := 1) dL_law_690 (by decide) ?_
        refine zi_iadd dL_law_691 ?_
        refine zi_sld dL_law_692 (fun v122 => ?_)
        refine zi_callVI (As := [.int v122]) (rest := []) (ci := 11) dL_law_693 ml_L_93 md_X11_step mv_X11_step rfl (by decide) rfl rfl (Nat.le_of_ble_eq_true rfl) (Nat.le_of_ble_eq_true rfl) (k_X11_step G n l1 v122 h) (fun r123 h124 => ?_)
        refine zi_aload_n dL_law_696 rfl 2 rfl ?_
        refine zi_aload_n dL_law_697 rfl 0 rfl ?_
        refine zi_iload_n dL_law_698 rfl 3 rfl ?_
        refine zi_iconst (v := 1) dL_law_699 (by decide) ?_
        refine zi_iadd dL_law_700 ?_
        refine zi_sld dL_law_701 (fun v125 => ?_)
        refine zi_callVI (As := [.int v125]) (rest := [.int r123]) (ci := 12) dL_law_702 ml_L_96 md_X12_step mv_X12_step rfl (by decide) rfl rfl (Nat.le_of_ble_eq_true rfl) (Nat.le_of_ble_eq_true rfl) (k_X12_step G n l2 v125 h124) (fun r126 h127 => ?_)
        refine zi_icmp_eq (tgt := 1220) dL_law_705 (by decide) ?_ ?_
        · refine zi_sub [0, 1, 2, 3] rfl ?_
          exact wb_L_law_1220 G n k18 hk18 l1 l2 l3 h127
        · refine zi_iconst (v := 0) dL_law_708 (by decide) ?_
          exact zi_ret0 dL_law_709
      · refine zi_aload_n dL_law_710 rfl 1 rfl ?_
        refine zi_aload_n dL_law_711 rfl 0 rfl ?_
        refine zi_iload_n dL_law_712 rfl 3 rfl ?_
        refine zi_iconst (v := 1) dL_law_713 (by decide) ?_
        refine zi_iadd dL_law_714 ?_
        refine zi_sld dL_law_715 (fun v128 => ?_)
        refine zi_callVI (As := [.int v128]) (rest := []) (ci := 11) dL_law_716 ml_L_97 md_X11_park mv_X11_park rfl (by decide) rfl rfl (Nat.le_of_ble_eq_true rfl) (Nat.le_of_ble_eq_true rfl) (k_X11_park G n l1 v128 h) (fun r129 h130 => ?_)
        refine zi_aload_n dL_law_719 rfl 2 rfl ?_
        refine zi_aload_n dL_law_720 rfl 0 rfl ?_
        refine zi_iload_n dL_law_721 rfl 3 rfl ?_
        refine zi_iconst (v := 1) dL_law_722 (by decide) ?_
        refine zi_iadd dL_law_723 ?_
        refine zi_sld dL_law_724 (fun v131 => ?_)
        refine zi_callVI (As := [.int v131]) (rest := [.int r129]) (ci := 12) dL_law_725 ml_L_100 md_X12_park mv_X12_park rfl (by decide) rfl rfl (Nat.le_of_ble_eq_true rfl) (Nat.le_of_ble_eq_true rfl) (k_X12_park G n l2 v131 h130) (fun r132 h133 => ?_)
        refine zi_icmp_eq (tgt := 1220) dL_law_728 (by decide) ?_ ?_
        · refine zi_sub [0, 1, 2, 3] rfl ?_
          exact wb_L_law_1220 G n k18 hk18 l1 l2 l3 h133
        · refine zi_iconst (v := 0) dL_law_731 (by decide) ?_
          exact zi_ret0 dL_law_732
      · refine zi_aload_n dL_law_733 rfl 1 rfl ?_
        refine zi_aload_n dL_law_734 rfl 0 rfl ?_
        refine zi_iload_n dL_law_735 rfl 3 rfl ?_
        refine zi_iconst (v := 1) dL_law_736 (by decide) ?_
        refine zi_iadd dL_law_737 ?_
        refine zi_sld dL_law_738 (fun v134 => ?_)
        refine zi_callVI (As := [.int v134]) (rest := []) (ci := 11) dL_law_739 ml_L_101 md_X11_leave mv_X11_leave rfl (by decide) rfl rfl (Nat.le_of_ble_eq_true rfl) (Nat.le_of_ble_eq_true rfl) (k_X11_leave G n l1 v134 h) (fun r135 h136 => ?_)
        refine zi_aload_n dL_law_742 rfl 2 rfl ?_
        refine zi_aload_n dL_law_743 rfl 0 rfl ?_
        refine zi_iload_n dL_law_744 rfl 3 rfl ?_
        refine zi_iconst (v := 1) dL_law_745 (by decide) ?_
        refine zi_iadd dL_law_746 ?_
        refine zi_sld dL_law_747 (fun v137 => ?_)
        refine zi_callVI (As := [.int v137]) (rest := [.int r135]) (ci := 12) dL_law_748 ml_L_104 md_X12_leave mv_X12_leave rfl (by decide) rfl rfl (Nat.le_of_ble_eq_true rfl) (Nat.le_of_ble_eq_true rfl) (k_X12_leave G n l2 v137 h136) (fun r138 h139 => ?_)
        refine zi_icmp_eq (tgt := 1220) dL_law_751 (by decide) ?_ ?_
        · refine zi_sub [0, 1, 2, 3] rfl ?_
          exact wb_L_law_1220 G n k18 hk18 l1 l2 l3 h139
        · refine zi_iconst (v := 0) dL_law_754 (by decide) ?_
          exact zi_ret0 dL_law_755
      · refine zi_aload_n dL_law_756 rfl 1 rfl ?_
        refine zi_aload_n dL_law_757 rfl 0 rfl ?_
        refine zi_iload_n dL_law_758 rfl 3 rfl ?_
        refine zi_iconst (v := 1) dL_law_759 (by decide) ?_
        refine zi_iadd dL_law_760 ?_
        refine zi_sld dL_law_761 (fun v140 => ?_)
        refine zi_callVI (As := [.int v140]) (rest := []) (ci := 11) dL_law_762 ml_L_105 md_X11_tick mv_X11_tick rfl (by decide) rfl rfl (Nat.le_of_ble_eq_true rfl) (Nat.le_of_ble_eq_true rfl) (k_X11_tick G n l1 v140 h) (fun r141 h142 => ?_)
        refine zi_aload_n dL_law_765 rfl 2 rfl ?_
        refine zi_aload_n dL_law_766 rfl 0 rfl ?_
        refine zi_iload_n dL_law_767 rfl 3 rfl ?_
        refine zi_iconst (v := 1) dL_law_768 (by decide) ?_
        refine zi_iadd dL_law_769 ?_
        refine zi_sld dL_law_770 (fun v143 => ?_)
        refine zi_callVI (As := [.int v143]) (rest := [.int r141]) (ci := 12) dL_law_771 ml_L_108 md_X12_tick mv_X12_tick rfl (by decide) rfl rfl (Nat.le_of_ble_eq_true rfl) (Nat.le_of_ble_eq_true rfl) (k_X12_tick G n l2 v143 h142) (fun r144 h145 => ?_)
        refine zi_icmp_eq (tgt := 1220) dL_law_774 (by decide) ?_ ?_
        · refine zi_sub [0, 1, 2, 3] rfl ?_
          exact wb_L_law_1220 G n k18 hk18 l1 l2 l3 h145
        · refine zi_iconst (v := 0) dL_law_777 (by decide) ?_
          exact zi_ret0 dL_law_778
      · refine zi_aload_n dL_law_779 rfl 1 rfl ?_
        refine zi_callVI (As := []) (rest := []) (ci := 11) dL_law_780 ml_L_109 md_X11_begin mv_X11_begin rfl (by decide) rfl rfl (Nat.le_of_ble_eq_true rfl) (Nat.le_of_ble_eq_true rfl) (k_X11_begin G n l1 h) (fun r146 h147 => ?_)
        refine zi_aload_n dL_law_783 rfl 2 rfl ?_
        refine zi_callVI (As := []) (rest := [.int r146]) (ci := 12) dL_law_784 ml_L_112 md_X12_begin mv_X12_begin rfl (by decide) rfl rfl (Nat.le_of_ble_eq_true rfl) (Nat.le_of_ble_eq_true rfl) (k_X12_begin G n l2 h147) (fun r148 h149 => ?_)
        refine zi_icmp_eq (tgt := 1220) dL_law_787 (by decide) ?_ ?_
        · refine zi_sub [0, 1, 2, 3] rfl ?_
          exact wb_L_law_1220 G n k18 hk18 l1 l2 l3 h149
        · refine zi_iconst (v := 0) dL_law_790 (by decide) ?_
          exact zi_ret0 dL_law_791
      · refine zi_aload_n dL_law_792 rfl 1 rfl ?_
        refine zi_callVI (As := []) (rest := []) (ci := 11) dL_law_793 ml_L_113 md_X11_hurry mv_X11_hurry rfl (by decide) rfl rfl (Nat.le_of_ble_eq_true rfl) (Nat.le_of_ble_eq_true rfl) (k_X11_hurry G n l1 h) (fun r150 h151 => ?_)
        refine zi_aload_n dL_law_796 rfl 2 rfl ?_
        refine zi_callVI (As := []) (rest := [.int r150]) (ci := 12) dL_law_797 ml_L_116 md_X12_hurry mv_X12_hurry rfl (by decide) rfl rfl (Nat.le_of_ble_eq_true rfl) (Nat.le_of_ble_eq_true rfl) (k_X12_hurry G n l2 h151) (fun r152 h153 => ?_)
        refine zi_icmp_eq (tgt := 1220) dL_law_800 (by decide) ?_ ?_
        · refine zi_sub [0, 1, 2, 3] rfl ?_
          exact wb_L_law_1220 G n k18 hk18 l1 l2 l3 h153
        · refine zi_iconst (v := 0) dL_law_803 (by decide) ?_
          exact zi_ret0 dL_law_804
      · refine zi_aload_n dL_law_805 rfl 1 rfl ?_
        refine zi_callVI (As := []) (rest := []) (ci := 11) dL_law_806 ml_L_117 md_X11_undo mv_X11_undo rfl (by decide) rfl rfl (Nat.le_of_ble_eq_true rfl) (Nat.le_of_ble_eq_true rfl) (k_X11_undo G n l1 h) (fun r154 h155 => ?_)
        refine zi_aload_n dL_law_809 rfl 2 rfl ?_
        refine zi_callVI (As := []) (rest := [.int r154]) (ci := 12) dL_law_810 ml_L_120 md_X12_undo mv_X12_undo rfl (by decide) rfl rfl (Nat.le_of_ble_eq_true rfl) (Nat.le_of_ble_eq_true rfl) (k_X12_undo G n l2 h155) (fun r156 h157 => ?_)
        refine zi_icmp_eq (tgt := 1220) dL_law_813 (by decide) ?_ ?_
        · refine zi_sub [0, 1, 2, 3] rfl ?_
          exact wb_L_law_1220 G n k18 hk18 l1 l2 l3 h157
        · refine zi_iconst (v := 0) dL_law_816 (by decide) ?_
          exact zi_ret0 dL_law_817
      · refine zi_aload_n dL_law_818 rfl 1 rfl ?_
        refine zi_aload_n dL_law_819 rfl 0 rfl ?_
        refine zi_iload_n dL_law_820 rfl 3 rfl ?_
        refine zi_iconst (v := 1) dL_law_821 (by decide) ?_
        refine zi_iadd dL_law_822 ?_
        refine zi_sld dL_law_823 (fun v158 => ?_)
        refine zi_aload_n dL_law_824 rfl 0 rfl ?_
        refine zi_iload_n dL_law_825 rfl 3 rfl ?_
        refine zi_iconst (v := 2) dL_law_826 (by decide) ?_
        refine zi_iadd dL_law_827 ?_
        refine zi_sld dL_law_828 (fun v159 => ?_)
        refine zi_callVI (As := [.int v158, .int v159]) (rest := []) (ci := 11) dL_law_829 ml_L_121 md_X11_sees mv_X11_sees rfl (by decide) rfl rfl (Nat.le_of_ble_eq_true rfl) (Nat.le_of_ble_eq_true rfl) (k_X11_sees G n l1 v158 v159 h) (fun r160 h161 => ?_)
        refine zi_aload_n dL_law_832 rfl 2 rfl ?_
        refine zi_aload_n dL_law_833 rfl 0 rfl ?_
        refine zi_iload_n dL_law_834 rfl 3 rfl ?_
        refine zi_iconst (v := 1) dL_law_835 (by decide) ?_
        refine zi_iadd dL_law_836 ?_
        refine zi_sld dL_law_837 (fun v162 => ?_)
        refine zi_aload_n dL_law_838 rfl 0 rfl ?_
        refine zi_iload_n dL_law_839 rfl 3 rfl ?_
        refine zi_iconst (v := 2) dL_law_840 (by decide) ?_
        refine zi_iadd dL_law_841 ?_
        refine zi_sld dL_law_842 (fun v163 => ?_)
        refine zi_callVI (As := [.int v162, .int v163]) (rest := [.int r160]) (ci := 12) dL_law_843 ml_L_124 md_X12_sees mv_X12_sees rfl (by decide) rfl rfl (Nat.le_of_ble_eq_true rfl) (Nat.le_of_ble_eq_true rfl) (k_X12_sees G n l2 v162 v163 h161) (fun r164 h165 => ?_)
        refine zi_icmp_eq (tgt := 1220) dL_law_846 (by decide) ?_ ?_
        · refine zi_sub [0, 1, 2, 3] rfl ?_
          exact wb_L_law_1220 G n k18 hk18 l1 l2 l3 h165
        · refine zi_iconst (v := 0) dL_law_849 (by decide) ?_
          exact zi_ret0 dL_law_850
      · refine zi_aload_n dL_law_851 rfl 1 rfl ?_
        refine zi_aload_n dL_law_852 rfl 0 rfl ?_
        refine zi_iload_n dL_law_853 rfl 3 rfl ?_
        refine zi_iconst (v := 1) dL_law_854 (by decide) ?_
        refine zi_iadd dL_law_855 ?_
        refine zi_sld dL_law_856 (fun v166 => ?_)
        refine zi_callVI (As := [.int v166]) (rest := []) (ci := 11) dL_law_857 ml_L_125 md_X11_reach mv_X11_reach rfl (by decide) rfl rfl (Nat.le_of_ble_eq_true rfl) (Nat.le_of_ble_eq_true rfl) (k_X11_reach G n l1 v166 h) (fun r167 h168 => ?_)
        refine zi_aload_n dL_law_860 rfl 2 rfl ?_
        refine zi_aload_n dL_law_861 rfl 0 rfl ?_
        refine zi_iload_n dL_law_862 rfl 3 rfl ?_
        refine zi_iconst (v := 1) dL_law_863 (by decide) ?_
        refine zi_iadd dL_law_864 ?_
        refine zi_sld dL_law_865 (fun v169 => ?_)
        refine zi_callVI (As := [.int v169]) (rest := [.int r167]) (ci := 12) dL_law_866 ml_L_128 md_X12_reach mv_X12_reach rfl (by decide) rfl rfl (Nat.le_of_ble_eq_true rfl) (Nat.le_of_ble_eq_true rfl) (k_X12_reach G n l2 v169 h168) (fun r170 h171 => ?_)
        refine zi_icmp_eq (tgt := 1220) dL_law_869 (by decide) ?_ ?_
        · refine zi_sub [0, 1, 2, 3] rfl ?_
          exact wb_L_law_1220 G n k18 hk18 l1 l2 l3 h171
        · refine zi_iconst (v := 0) dL_law_872 (by decide) ?_
          exact zi_ret0 dL_law_873
      · refine zi_aload_n dL_law_874 rfl 1 rfl ?_
        refine zi_callVI (As := []) (rest := []) (ci := 11) dL_law_875 ml_L_129 md_X11_holders mv_X11_holders rfl (by decide) rfl rfl (Nat.le_of_ble_eq_true rfl) (Nat.le_of_ble_eq_true rfl) (k_X11_holders G n l1 h) (fun r172 h173 => ?_)
        refine zi_aload_n dL_law_878 rfl 2 rfl ?_
        refine zi_callVI (As := []) (rest := [.int r172]) (ci := 12) dL_law_879 ml_L_132 md_X12_holders mv_X12_holders rfl (by decide) rfl rfl (Nat.le_of_ble_eq_true rfl) (Nat.le_of_ble_eq_true rfl) (k_X12_holders G n l2 h173) (fun r174 h175 => ?_)
        refine zi_icmp_eq (tgt := 1220) dL_law_882 (by decide) ?_ ?_
        · refine zi_sub [0, 1, 2, 3] rfl ?_
          exact wb_L_law_1220 G n k18 hk18 l1 l2 l3 h175
        · refine zi_iconst (v := 0) dL_law_885 (by decide) ?_
          exact zi_ret0 dL_law_886
      · refine zi_aload_n dL_law_887 rfl 1 rfl ?_
        refine zi_aload_n dL_law_888 rfl 0 rfl ?_
        refine zi_iload_n dL_law_889 rfl 3 rfl ?_
        refine zi_iconst (v := 1) dL_law_890 (by decide) ?_
        refine zi_iadd dL_law_891 ?_
        refine zi_sld dL_law_892 (fun v176 => ?_)
        refine zi_callVI (As := [.int v176]) (rest := []) (ci := 11) dL_law_893 ml_L_133 md_X11_why mv_X11_why rfl (by decide) rfl rfl (Nat.le_of_ble_eq_true rfl) (Nat.le_of_ble_eq_true rfl) (k_X11_why G n l1 v176 h) (fun r177 h178 => ?_)
        refine zi_aload_n dL_law_896 rfl 2 rfl ?_
        refine zi_aload_n dL_law_897 rfl 0 rfl ?_
        refine zi_iload_n dL_law_898 rfl 3 rfl ?_
        refine zi_iconst (v := 1) dL_law_899 (by decide) ?_
        refine zi_iadd dL_law_900 ?_
        refine zi_sld dL_law_901 (fun v179 => ?_)
        refine zi_callVI (As := [.int v179]) (rest := [.int r177]) (ci := 12) dL_law_902 ml_L_136 md_X12_why mv_X12_why rfl (by decide) rfl rfl (Nat.le_of_ble_eq_true rfl) (Nat.le_of_ble_eq_true rfl) (k_X12_why G n l2 v179 h178) (fun r180 h181 => ?_)
        refine zi_icmp_eq (tgt := 1220) dL_law_905 (by decide) ?_ ?_
        · refine zi_sub [0, 1, 2, 3] rfl ?_
          exact wb_L_law_1220 G n k18 hk18 l1 l2 l3 h181
        · refine zi_iconst (v := 0) dL_law_908 (by decide) ?_
          exact zi_ret0 dL_law_909
      · refine zi_aload_n dL_law_910 rfl 1 rfl ?_
        refine zi_callVI (As := []) (rest := []) (ci := 11) dL_law_911 ml_L_137 md_X11_least mv_X11_least rfl (by decide) rfl rfl (Nat.le_of_ble_eq_true rfl) (Nat.le_of_ble_eq_true rfl) (k_X11_least G n l1 h) (fun r182 h183 => ?_)
        refine zi_aload_n dL_law_914 rfl 2 rfl ?_
        refine zi_callVI (As := []) (rest := [.int r182]) (ci := 12) dL_law_915 ml_L_140 md_X12_least mv_X12_least rfl (by decide) rfl rfl (Nat.le_of_ble_eq_true rfl) (Nat.le_of_ble_eq_true rfl) (k_X12_least G n l2 h183) (fun r184 h185 => ?_)
        refine zi_icmp_eq (tgt := 1220) dL_law_918 (by decide) ?_ ?_
        · refine zi_sub [0, 1, 2, 3] rfl ?_
          exact wb_L_law_1220 G n k18 hk18 l1 l2 l3 h185
        · refine zi_iconst (v := 0) dL_law_921 (by decide) ?_
          exact zi_ret0 dL_law_922
      · refine zi_aload_n dL_law_923 rfl 1 rfl ?_
        refine zi_aload_n dL_law_924 rfl 0 rfl ?_
        refine zi_iload_n dL_law_925 rfl 3 rfl ?_
        refine zi_iconst (v := 1) dL_law_926 (by decide) ?_
        refine zi_iadd dL_law_927 ?_
        refine zi_sld dL_law_928 (fun v186 => ?_)
        refine zi_aload_n dL_law_929 rfl 0 rfl ?_
        refine zi_iload_n dL_law_930 rfl 3 rfl ?_
        refine zi_iconst (v := 2) dL_law_931 (by decide) ?_
        refine zi_iadd dL_law_932 ?_
        refine zi_sld dL_law_933 (fun v187 => ?_)
        refine zi_callVI (As := [.int v186, .int v187]) (rest := []) (ci := 11) dL_law_934 ml_L_141 md_X11_seen mv_X11_seen rfl (by decide) rfl rfl (Nat.le_of_ble_eq_true rfl) (Nat.le_of_ble_eq_true rfl) (k_X11_seen G n l1 v186 v187 h) (fun r188 h189 => ?_)
        refine zi_aload_n dL_law_937 rfl 2 rfl ?_
        refine zi_aload_n dL_law_938 rfl 0 rfl ?_
        refine zi_iload_n dL_law_939 rfl 3 rfl ?_
        refine zi_iconst (v := 1) dL_law_940 (by decide) ?_
        refine zi_iadd dL_law_941 ?_
        refine zi_sld dL_law_942 (fun v190 => ?_)
        refine zi_aload_n dL_law_943 rfl 0 rfl ?_
        refine zi_iload_n dL_law_944 rfl 3 rfl ?_
        refine zi_iconst (v := 2) dL_law_945 (by decide) ?_
        refine zi_iadd dL_law_946 ?_
        refine zi_sld dL_law_947 (fun v191 => ?_)
        refine zi_callVI (As := [.int v190, .int v191]) (rest := [.int r188]) (ci := 12) dL_law_948 ml_L_144 md_X12_seen mv_X12_seen rfl (by decide) rfl rfl (Nat.le_of_ble_eq_true rfl) (Nat.le_of_ble_eq_true rfl) (k_X12_seen G n l2 v190 v191 h189) (fun r192 h193 => ?_)
        refine zi_icmp_eq (tgt := 1220) dL_law_951 (by decide) ?_ ?_
        · refine zi_sub [0, 1, 2, 3] rfl ?_
          exact wb_L_law_1220 G n k18 hk18 l1 l2 l3 h193
        · refine zi_iconst (v := 0) dL_law_954 (by decide) ?_
          exact zi_ret0 dL_law_955
      · refine zi_aload_n dL_law_956 rfl 1 rfl ?_
        refine zi_callVI (As := []) (rest := []) (ci := 11) dL_law_957 ml_L_145 md_X11_forget mv_X11_forget rfl (by decide) rfl rfl (Nat.le_of_ble_eq_true rfl) (Nat.le_of_ble_eq_true rfl) (k_X11_forget G n l1 h) (fun r194 h195 => ?_)
        refine zi_aload_n dL_law_960 rfl 2 rfl ?_
        refine zi_callVI (As := []) (rest := [.int r194]) (ci := 12) dL_law_961 ml_L_148 md_X12_forget mv_X12_forget rfl (by decide) rfl rfl (Nat.le_of_ble_eq_true rfl) (Nat.le_of_ble_eq_true rfl) (k_X12_forget G n l2 h195) (fun r196 h197 => ?_)
        refine zi_icmp_eq (tgt := 1220) dL_law_964 (by decide) ?_ ?_
        · refine zi_sub [0, 1, 2, 3] rfl ?_
          exact wb_L_law_1220 G n k18 hk18 l1 l2 l3 h197
        · refine zi_iconst (v := 0) dL_law_967 (by decide) ?_
          exact zi_ret0 dL_law_968
      · refine zi_aload_n dL_law_969 rfl 1 rfl ?_
        refine zi_callVI (As := []) (rest := []) (ci := 11) dL_law_970 ml_L_149 md_X11_canBe mv_X11_canBe rfl (by decide) rfl rfl (Nat.le_of_ble_eq_true rfl) (Nat.le_of_ble_eq_true rfl) (k_X11_canBe G n l1 h) (fun r198 h199 => ?_)
        refine zi_aload_n dL_law_973 rfl 2 rfl ?_
        refine zi_callVI (As := []) (rest := [.int r198]) (ci := 12) dL_law_974 ml_L_152 md_X12_canBe mv_X12_canBe rfl (by decide) rfl rfl (Nat.le_of_ble_eq_true rfl) (Nat.le_of_ble_eq_true rfl) (k_X12_canBe G n l2 h199) (fun r200 h201 => ?_)
        refine zi_icmp_eq (tgt := 1220) dL_law_977 (by decide) ?_ ?_
        · refine zi_sub [0, 1, 2, 3] rfl ?_
          exact wb_L_law_1220 G n k18 hk18 l1 l2 l3 h201
        · refine zi_iconst (v := 0) dL_law_980 (by decide) ?_
          exact zi_ret0 dL_law_981
      · refine zi_aload_n dL_law_982 rfl 1 rfl ?_
        refine zi_aload_n dL_law_983 rfl 0 rfl ?_
        refine zi_iload_n dL_law_984 rfl 3 rfl ?_
        refine zi_iconst (v := 1) dL_law_985 (by decide) ?_
        refine zi_iadd dL_law_986 ?_
        refine zi_sld dL_law_987 (fun v202 => ?_)
        refine zi_callVI (As := [.int v202]) (rest := []) (ci := 11) dL_law_988 ml_L_153 md_X11_ask mv_X11_ask rfl (by decide) rfl rfl (Nat.le_of_ble_eq_true rfl) (Nat.le_of_ble_eq_true rfl) (k_X11_ask G n l1 v202 h) (fun r203 h204 => ?_)
        refine zi_aload_n dL_law_991 rfl 2 rfl ?_
        refine zi_aload_n dL_law_992 rfl 0 rfl ?_
        refine zi_iload_n dL_law_993 rfl 3 rfl ?_
        refine zi_iconst (v := 1) dL_law_994 (by decide) ?_
        refine zi_iadd dL_law_995 ?_
        refine zi_sld dL_law_996 (fun v205 => ?_)
        refine zi_callVI (As := [.int v205]) (rest := [.int r203]) (ci := 12) dL_law_997 ml_L_156 md_X12_ask mv_X12_ask rfl (by decide) rfl rfl (Nat.le_of_ble_eq_true rfl) (Nat.le_of_ble_eq_true rfl) (k_X12_ask G n l2 v205 h204) (fun r206 h207 => ?_)
        refine zi_icmp_eq (tgt := 1220) dL_law_1000 (by decide) ?_ ?_
        · refine zi_sub [0, 1, 2, 3] rfl ?_
          exact wb_L_law_1220 G n k18 hk18 l1 l2 l3 h207
        · refine zi_iconst (v := 0) dL_law_1003 (by decide) ?_
          exact zi_ret0 dL_law_1004
      · refine zi_aload_n dL_law_1005 rfl 1 rfl ?_
        refine zi_aload_n dL_law_1006 rfl 0 rfl ?_
        refine zi_iload_n dL_law_1007 rfl 3 rfl ?_
        refine zi_iconst (v := 1) dL_law_1008 (by decide) ?_
        refine zi_iadd dL_law_1009 ?_
        refine zi_sld dL_law_1010 (fun v208 => ?_)
        refine zi_aload_n dL_law_1011 rfl 0 rfl ?_
        refine zi_iload_n dL_law_1012 rfl 3 rfl ?_
        refine zi_iconst (v := 2) dL_law_1013 (by decide) ?_
        refine zi_iadd dL_law_1014 ?_
        refine zi_sld dL_law_1015 (fun v209 => ?_)
        refine zi_callVL (As := [.int v208, .int v209]) (rest := []) (ci := 11) dL_law_1016 ml_L_157 md_X11_few mv_X11_few rfl (by decide) rfl rfl (Nat.le_of_ble_eq_true rfl) (Nat.le_of_ble_eq_true rfl) (k_X11_few G n l1 v208 v209 h) (fun r210 h211 => ?_)
        refine zi_aload_n dL_law_1019 rfl 2 rfl ?_
        refine zi_aload_n dL_law_1020 rfl 0 rfl ?_
        refine zi_iload_n dL_law_1021 rfl 3 rfl ?_
        refine zi_iconst (v := 1) dL_law_1022 (by decide) ?_
        refine zi_iadd dL_law_1023 ?_
        refine zi_sld dL_law_1024 (fun v212 => ?_)
        refine zi_aload_n dL_law_1025 rfl 0 rfl ?_
        refine zi_iload_n dL_law_1026 rfl 3 rfl ?_
        refine zi_iconst (v := 2) dL_law_1027 (by decide) ?_
        refine zi_iadd dL_law_1028 ?_
        refine zi_sld dL_law_1029 (fun v213 => ?_)
        refine zi_callVL (As := [.int v212, .int v213]) (rest := [.long r210]) (ci := 12) dL_law_1030 ml_L_161 md_X12_few mv_X12_few rfl (by decide) rfl rfl (Nat.le_of_ble_eq_true rfl) (Nat.le_of_ble_eq_true rfl) (k_X12_few G n l2 v212 v213 h211) (fun r214 h215 => ?_)
        refine zi_lcmp dL_law_1033 ?_
        refine zi_if_eq (tgt := 1220) dL_law_1034 (by decide) ?_ ?_
        · refine zi_sub [0, 1, 2, 3] rfl ?_
          exact wb_L_law_1220 G n k18 hk18 l1 l2 l3 h215
        · refine zi_iconst (v := 0) dL_law_1037 (by decide) ?_
          exact zi_ret0 dL_law_1038
      · refine zi_aload_n dL_law_1039 rfl 1 rfl ?_
        refine zi_aload_n dL_law_1040 rfl 0 rfl ?_
        refine zi_iload_n dL_law_1041 rfl 3 rfl ?_
        refine zi_iconst (v := 1) dL_law_1042 (by decide) ?_
        refine zi_iadd dL_law_1043 ?_
        refine zi_sld dL_law_1044 (fun v216 => ?_)
        refine zi_aload_n dL_law_1045 rfl 0 rfl ?_
        refine zi_iload_n dL_law_1046 rfl 3 rfl ?_
        refine zi_iconst (v := 2) dL_law_1047 (by decide) ?_
        refine zi_iadd dL_law_1048 ?_
        refine zi_sld dL_law_1049 (fun v217 => ?_)
        refine zi_aload_n dL_law_1050 rfl 0 rfl ?_
        refine zi_iload_n dL_law_1051 rfl 3 rfl ?_
        refine zi_iconst (v := 3) dL_law_1052 (by decide) ?_
        refine zi_iadd dL_law_1053 ?_
        refine zi_sld dL_law_1054 (fun v218 => ?_)
        refine zi_callVI (As := [.int v216, .int v217, .int v218]) (rest := []) (ci := 11) dL_law_1055 ml_L_162 md_X11_compare mv_X11_compare rfl (by decide) rfl rfl (Nat.le_of_ble_eq_true rfl) (Nat.le_of_ble_eq_true rfl) (k_X11_compare G n l1 v216 v217 v218 h) (fun r219 h220 => ?_)
        refine zi_aload_n dL_law_1058 rfl 2 rfl ?_
        refine zi_aload_n dL_law_1059 rfl 0 rfl ?_
        refine zi_iload_n dL_law_1060 rfl 3 rfl ?_
        refine zi_iconst (v := 1) dL_law_1061 (by decide) ?_
        refine zi_iadd dL_law_1062 ?_
        refine zi_sld dL_law_1063 (fun v221 => ?_)
        refine zi_aload_n dL_law_1064 rfl 0 rfl ?_
        refine zi_iload_n dL_law_1065 rfl 3 rfl ?_
        refine zi_iconst (v := 2) dL_law_1066 (by decide) ?_
        refine zi_iadd dL_law_1067 ?_
        refine zi_sld dL_law_1068 (fun v222 => ?_)
        refine zi_aload_n dL_law_1069 rfl 0 rfl ?_
        refine zi_iload_n dL_law_1070 rfl 3 rfl ?_
        refine zi_iconst (v := 3) dL_law_1071 (by decide) ?_
        refine zi_iadd dL_law_1072 ?_
        refine zi_sld dL_law_1073 (fun v223 => ?_)
        refine zi_callVI (As := [.int v221, .int v222, .int v223]) (rest := [.int r219]) (ci := 12) dL_law_1074 ml_L_166 md_X12_compare mv_X12_compare rfl (by decide) rfl rfl (Nat.le_of_ble_eq_true rfl) (Nat.le_of_ble_eq_true rfl) (k_X12_compare G n l2 v221 v222 v223 h220) (fun r224 h225 => ?_)
        refine zi_icmp_eq (tgt := 1220) dL_law_1077 (by decide) ?_ ?_
        · refine zi_sub [0, 1, 2, 3] rfl ?_
          exact wb_L_law_1220 G n k18 hk18 l1 l2 l3 h225
        · refine zi_iconst (v := 0) dL_law_1080 (by decide) ?_
          exact zi_ret0 dL_law_1081
      · refine zi_aload_n dL_law_1082 rfl 1 rfl ?_
        refine zi_aload_n dL_law_1083 rfl 0 rfl ?_
        refine zi_iload_n dL_law_1084 rfl 3 rfl ?_
        refine zi_iconst (v := 1) dL_law_1085 (by decide) ?_
        refine zi_iadd dL_law_1086 ?_
        refine zi_sld dL_law_1087 (fun v226 => ?_)
        refine zi_aload_n dL_law_1088 rfl 0 rfl ?_
        refine zi_iload_n dL_law_1089 rfl 3 rfl ?_
        refine zi_iconst (v := 2) dL_law_1090 (by decide) ?_
        refine zi_iadd dL_law_1091 ?_
        refine zi_sld dL_law_1092 (fun v227 => ?_)
        refine zi_callVI (As := [.int v226, .int v227]) (rest := []) (ci := 11) dL_law_1093 ml_L_167 md_X11_days mv_X11_days rfl (by decide) rfl rfl (Nat.le_of_ble_eq_true rfl) (Nat.le_of_ble_eq_true rfl) (k_X11_days G n l1 v226 v227 h) (fun r228 h229 => ?_)
        refine zi_aload_n dL_law_1096 rfl 2 rfl ?_
        refine zi_aload_n dL_law_1097 rfl 0 rfl ?_
        refine zi_iload_n dL_law_1098 rfl 3 rfl ?_
        refine zi_iconst (v := 1) dL_law_1099 (by decide) ?_
        refine zi_iadd dL_law_1100 ?_
        refine zi_sld dL_law_1101 (fun v230 => ?_)
        refine zi_aload_n dL_law_1102 rfl 0 rfl ?_
        refine zi_iload_n dL_law_1103 rfl 3 rfl ?_
        refine zi_iconst (v := 2) dL_law_1104 (by decide) ?_
        refine zi_iadd dL_law_1105 ?_
        refine zi_sld dL_law_1106 (fun v231 => ?_)
        refine zi_callVI (As := [.int v230, .int v231]) (rest := [.int r228]) (ci := 12) dL_law_1107 ml_L_170 md_X12_days mv_X12_days rfl (by decide) rfl rfl (Nat.le_of_ble_eq_true rfl) (Nat.le_of_ble_eq_true rfl) (k_X12_days G n l2 v230 v231 h229) (fun r232 h233 => ?_)
        refine zi_icmp_eq (tgt := 1220) dL_law_1110 (by decide) ?_ ?_
        · refine zi_sub [0, 1, 2, 3] rfl ?_
          exact wb_L_law_1220 G n k18 hk18 l1 l2 l3 h233
        · refine zi_iconst (v := 0) dL_law_1113 (by decide) ?_
          exact zi_ret0 dL_law_1114
      · refine zi_aload_n dL_law_1115 rfl 1 rfl ?_
        refine zi_aload_n dL_law_1116 rfl 0 rfl ?_
        refine zi_iload_n dL_law_1117 rfl 3 rfl ?_
        refine zi_iconst (v := 1) dL_law_1118 (by decide) ?_
        refine zi_iadd dL_law_1119 ?_
        refine zi_sld dL_law_1120 (fun v234 => ?_)
        refine zi_callVI (As := [.int v234]) (rest := []) (ci := 11) dL_law_1121 ml_L_171 md_X11_drawn mv_X11_drawn rfl (by decide) rfl rfl (Nat.le_of_ble_eq_true rfl) (Nat.le_of_ble_eq_true rfl) (k_X11_drawn G n l1 v234 h) (fun r235 h236 => ?_)
        refine zi_aload_n dL_law_1124 rfl 2 rfl ?_
        refine zi_aload_n dL_law_1125 rfl 0 rfl ?_
        refine zi_iload_n dL_law_1126 rfl 3 rfl ?_
        refine zi_iconst (v := 1) dL_law_1127 (by decide) ?_
        refine zi_iadd dL_law_1128 ?_
        refine zi_sld dL_law_1129 (fun v237 => ?_)
        refine zi_callVI (As := [.int v237]) (rest := [.int r235]) (ci := 12) dL_law_1130 ml_L_174 md_X12_drawn mv_X12_drawn rfl (by decide) rfl rfl (Nat.le_of_ble_eq_true rfl) (Nat.le_of_ble_eq_true rfl) (k_X12_drawn G n l2 v237 h236) (fun r238 h239 => ?_)
        refine zi_icmp_eq (tgt := 1220) dL_law_1133 (by decide) ?_ ?_
        · refine zi_sub [0, 1, 2, 3] rfl ?_
          exact wb_L_law_1220 G n k18 hk18 l1 l2 l3 h239
        · refine zi_iconst (v := 0) dL_law_1136 (by decide) ?_
          exact zi_ret0 dL_law_1137
      · refine zi_aload_n dL_law_1138 rfl 1 rfl ?_
        refine zi_aload_n dL_law_1139 rfl 0 rfl ?_
        refine zi_iload_n dL_law_1140 rfl 3 rfl ?_
        refine zi_iconst (v := 1) dL_law_1141 (by decide) ?_
        refine zi_iadd dL_law_1142 ?_
        refine zi_sld dL_law_1143 (fun v240 => ?_)
        refine zi_callVI (As := [.int v240]) (rest := []) (ci := 11) dL_law_1144 ml_L_175 md_X11_image mv_X11_image rfl (by decide) rfl rfl (Nat.le_of_ble_eq_true rfl) (Nat.le_of_ble_eq_true rfl) (k_X11_image G n l1 v240 h) (fun r241 h242 => ?_)
        refine zi_aload_n dL_law_1147 rfl 2 rfl ?_
        refine zi_aload_n dL_law_1148 rfl 0 rfl ?_
        refine zi_iload_n dL_law_1149 rfl 3 rfl ?_
        refine zi_iconst (v := 1) dL_law_1150 (by decide) ?_
        refine zi_iadd dL_law_1151 ?_
        refine zi_sld dL_law_1152 (fun v243 => ?_)
        refine zi_callVI (As := [.int v243]) (rest := [.int r241]) (ci := 12) dL_law_1153 ml_L_178 md_X12_image mv_X12_image rfl (by decide) rfl rfl (Nat.le_of_ble_eq_true rfl) (Nat.le_of_ble_eq_true rfl) (k_X12_image G n l2 v243 h242) (fun r244 h245 => ?_)
        refine zi_icmp_eq (tgt := 1220) dL_law_1156 (by decide) ?_ ?_
        · refine zi_sub [0, 1, 2, 3] rfl ?_
          exact wb_L_law_1220 G n k18 hk18 l1 l2 l3 h245
        · refine zi_iconst (v := 0) dL_law_1159 (by decide) ?_
          exact zi_ret0 dL_law_1160
      · refine zi_aload_n dL_law_1161 rfl 1 rfl ?_
        refine zi_aload_n dL_law_1162 rfl 0 rfl ?_
        refine zi_iload_n dL_law_1163 rfl 3 rfl ?_
        refine zi_iconst (v := 1) dL_law_1164 (by decide) ?_
        refine zi_iadd dL_law_1165 ?_
        refine zi_sld dL_law_1166 (fun v246 => ?_)
        refine zi_callVI (As := [.int v246]) (rest := []) (ci := 11) dL_law_1167 ml_L_179 md_X11_back mv_X11_back rfl (by decide) rfl rfl (Nat.le_of_ble_eq_true rfl) (Nat.le_of_ble_eq_true rfl) (k_X11_back G n l1 v246 h) (fun r247 h248 => ?_)
        refine zi_aload_n dL_law_1170 rfl 2 rfl ?_
        refine zi_aload_n dL_law_1171 rfl 0 rfl ?_
        refine zi_iload_n dL_law_1172 rfl 3 rfl ?_
        refine zi_iconst (v := 1) dL_law_1173 (by decide) ?_
        refine zi_iadd dL_law_1174 ?_
        refine zi_sld dL_law_1175 (fun v249 => ?_)
        refine zi_callVI (As := [.int v249]) (rest := [.int r247]) (ci := 12) dL_law_1176 ml_L_182 md_X12_back mv_X12_back rfl (by decide) rfl rfl (Nat.le_of_ble_eq_true rfl) (Nat.le_of_ble_eq_true rfl) (k_X12_back G n l2 v249 h248) (fun r250 h251 => ?_)
        refine zi_icmp_eq (tgt := 1220) dL_law_1179 (by decide) ?_ ?_
        · refine zi_sub [0, 1, 2, 3] rfl ?_
          exact wb_L_law_1220 G n k18 hk18 l1 l2 l3 h251
        · refine zi_iconst (v := 0) dL_law_1182 (by decide) ?_
          exact zi_ret0 dL_law_1183
      · refine zi_aload_n dL_law_1184 rfl 1 rfl ?_
        refine zi_aload_n dL_law_1185 rfl 0 rfl ?_
        refine zi_iload_n dL_law_1186 rfl 3 rfl ?_
        refine zi_iconst (v := 1) dL_law_1187 (by decide) ?_
        refine zi_iadd dL_law_1188 ?_
        refine zi_sld dL_law_1189 (fun v252 => ?_)
        refine zi_callVI (As := [.int v252]) (rest := []) (ci := 11) dL_law_1190 ml_L_183 md_X11_count mv_X11_count rfl (by decide) rfl rfl (Nat.le_of_ble_eq_true rfl) (Nat.le_of_ble_eq_true rfl) (k_X11_count G n l1 v252 h) (fun r253 h254 => ?_)
        refine zi_aload_n dL_law_1193 rfl 2 rfl ?_
        refine zi_aload_n dL_law_1194 rfl 0 rfl ?_
        refine zi_iload_n dL_law_1195 rfl 3 rfl ?_
        refine zi_iconst (v := 1) dL_law_1196 (by decide) ?_
        refine zi_iadd dL_law_1197 ?_
        refine zi_sld dL_law_1198 (fun v255 => ?_)
        refine zi_callVI (As := [.int v255]) (rest := [.int r253]) (ci := 12) dL_law_1199 ml_L_186 md_X12_count mv_X12_count rfl (by decide) rfl rfl (Nat.le_of_ble_eq_true rfl) (Nat.le_of_ble_eq_true rfl) (k_X12_count G n l2 v255 h254) (fun r256 h257 => ?_)
        refine zi_icmp_eq (tgt := 1220) dL_law_1202 (by decide) ?_ ?_
        · refine zi_sub [0, 1, 2, 3] rfl ?_
          exact wb_L_law_1220 G n k18 hk18 l1 l2 l3 h257
        · refine zi_iconst (v := 0) dL_law_1205 (by decide) ?_
          exact zi_ret0 dL_law_1206
      · refine zi_aload_n dL_law_1207 rfl 1 rfl ?_
        refine zi_callVI (As := []) (rest := []) (ci := 11) dL_law_1208 ml_L_187 md_X11_status mv_X11_status rfl (by decide) rfl rfl (Nat.le_of_ble_eq_true rfl) (Nat.le_of_ble_eq_true rfl) (k_X11_status G n l1 h) (fun r258 h259 => ?_)
        refine zi_aload_n dL_law_1211 rfl 2 rfl ?_
        refine zi_callVI (As := []) (rest := [.int r258]) (ci := 12) dL_law_1212 ml_L_190 md_X12_status mv_X12_status rfl (by decide) rfl rfl (Nat.le_of_ble_eq_true rfl) (Nat.le_of_ble_eq_true rfl) (k_X12_status G n l2 h259) (fun r260 h261 => ?_)
        refine zi_icmp_eq (tgt := 1220) dL_law_1215 (by decide) ?_ ?_
        · refine zi_sub [0, 1, 2, 3] rfl ?_
          exact wb_L_law_1220 G n k18 hk18 l1 l2 l3 h261
        · refine zi_iconst (v := 0) dL_law_1218 (by decide) ?_
          exact zi_ret0 dL_law_1219
    · refine zi_sub [0, 1, 2, 3] rfl ?_
      exact wb_L_law_1220 G n k18 hk18 l1 l2 l3 h
theorem wl_L_law_18 (G : zG) (n : Nat) : ∀ (t : Nat) (l1 : Nat) (l2 : Nat) (l3 : Int32) (h : zH), zW G yL_law cL_law 4 (some .boolean) zvI 99 18 [(0, .ref (zsb G)), (1, .ref (zbase G + l1)), (2, .ref (zbase G + l2)), (3, .int l3)] [] h (zlp3 (fb_L_law_18 n (zsL G) (zsX G) ) t l1 l2 l3 h) := by
  intro t
  induction t with
  | zero => intros; exact zW_none
  | succ t ih => intro l1 l2 l3 h; rw [zlp3_s]; exact wb_L_law_18 G n  _  ih l1 l2 l3 h
set_option maxRecDepth 20000 in
set_option maxHeartbeats 1000000 in
theorem w_L_law (G : zG) (n : Nat) (h : zH) : zW G yL_law cL_law 4 (some .boolean) zvI 99 0 [(0, .ref (zsb G))] [] h (f_L_law n (zsL G) (zsX G) h) := by
  unfold f_L_law
  refine zi_new dL_law_0 nw_L_7 (fun r1 h2 _ => ?_)
  refine zi_dup dL_law_3 rfl ?_
  refine zi_callIU (As := []) (rest := [.ref (zbase G + r1)]) dL_law_4 ml_L_9 md_X11_init mi_X11_init rfl rfl rfl (Nat.le_of_ble_eq_true rfl) (Nat.le_of_ble_eq_true rfl) (k_X11_init G n r1 h2) (fun _ h4 => ?_)
  refine zi_astore_n (l' := [(1, .ref (zbase G + r1)), (0, .ref (zsb G))]) dL_law_7 rfl (by decide) rfl ?_
  refine zi_new dL_law_8 nw_L_10 (fun r5 h6 _ => ?_)
  refine zi_dup dL_law_11 rfl ?_
  refine zi_callIU (As := []) (rest := [.ref (zbase G + r5)]) dL_law_12 ml_L_12 md_X12_init mi_X12_init rfl rfl rfl (Nat.le_of_ble_eq_true rfl) (Nat.le_of_ble_eq_true rfl) (k_X12_init G n r5 h6) (fun _ h8 => ?_)
  refine zi_astore_n (l' := [(2, .ref (zbase G + r5)), (1, .ref (zbase G + r1)), (0, .ref (zsb G))]) dL_law_15 rfl (by decide) rfl ?_
  refine zi_iconst (v := 0) dL_law_16 (by decide) ?_
  refine zi_istore_n (l' := [(3, .int 0), (2, .ref (zbase G + r5)), (1, .ref (zbase G + r1)), (0, .ref (zsb G))]) dL_law_17 rfl (by decide) rfl ?_
  refine zi_sub [3, 2, 1, 0] rfl ?_
  exact wl_L_law_18 G n n r1 r5 0 h8
