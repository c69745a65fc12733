/-! the law's cases -/
set_option maxRecDepth 100000 in
set_option maxHeartbeats 4000000 in
theorem law_c0 {p : Program} {l : Launch} {e : Env} {s : State} {m : MethodId} {below : List Frame} {meth : Method} {c : Code} {b L : Nat} {xs : Nat → Int32} {yx ym : Sy} (C : Lw p s m meth c b L xs yx ym) {Q : State → Prop} {x : Int32} (v1 : vp_in (x + 1) L) (v2 : vp_in (x + 2) L) (v3 : vp_in (x + 3) L) (v4 : vp_in (x + 4) L) (v5 : vp_in (x + 5) L) (v6 : vp_in (x + 6) L) {st mt : St} (hR : R st mt) {H : Heap} {locs : List Loc} {ls : Array Slot} (hG : gL yx ym st mt s H locs) (hl : lv_has ls 4 [(0, .ref b), (1, .ref (ad yx 0)), (2, .ref (ad ym 0)), (3, .int x)])
    (kk : ∀ (st' mt' : St) (H1 : Heap) (locs1 : List Loc), R st' mt' → gL yx ym st' mt' s H1 locs1 → W p l e room_1 s m #[Value.ref b] below meth c H1 locs1 600000 7302250 Q (F0 m 1642 ls [])) : W p l e room_1 s m #[Value.ref b] below meth c H locs 600000 7302250 Q (F0 m 236 ls []) := by
  obtain ⟨hx, hb, -⟩ := id C
  refine lv_aload_n hx hb dL_law_236 rfl (lv_at hl 1 rfl) ?_
  refine l_arg (j := 1) C hG v1 hl dL_law_237 dL_law_238 dL_law_239 (by decide) dL_law_240 dL_law_241 ?_
  refine l_xi (As := [.int (xs (x + 1).toNatClampNeg)]) (rest := []) C hG (c_X8_feed l yx (xs (x + 1).toNatClampNeg) st _ (sim_feed hR (xs (x + 1).toNatClampNeg))) rfl qM_L_13 qI_X8_feed qS_X8_feed qN_X8 qC_X8_feed hd_X8_feed ⟨(Nat.le_of_ble_eq_true rfl), (Nat.le_of_ble_eq_true rfl)⟩ hl.1 rfl (Nat.le_of_ble_eq_true rfl) dL_law_242 (fun r st1 H locs hw hG => ?_)
  refine lv_aload_n hx hb dL_law_245 rfl (lv_at hl 2 rfl) ?_
  refine l_arg (j := 1) C hG v1 hl dL_law_246 dL_law_247 dL_law_248 (by decide) dL_law_249 dL_law_250 ?_
  refine l_mi (As := [.int (xs (x + 1).toNatClampNeg)]) (rest := [.int r]) C hG (c_X9_feed l ym (xs (x + 1).toNatClampNeg) mt _ hw) rfl qM_L_17 qI_X9_feed qS_X9_feed qN_X9 qC_X9_feed hd_X9_feed ⟨(Nat.le_of_ble_eq_true rfl), (Nat.le_of_ble_eq_true rfl)⟩ hl.1 rfl (Nat.le_of_ble_eq_true rfl) dL_law_251 (fun r2 mt1 H locs hw hG => ?_)
  obtain ⟨rfl, hR1⟩ := hw
  refine lv_icmp_eq (tgt := 1642) hx hb dL_law_254 (by decide) (fun _ => ?_) (fun h => absurd rfl h)
  exact kk st1 mt1 H locs hR1 hG
set_option maxRecDepth 100000 in
set_option maxHeartbeats 4000000 in
theorem law_c1 {p : Program} {l : Launch} {e : Env} {s : State} {m : MethodId} {below : List Frame} {meth : Method} {c : Code} {b L : Nat} {xs : Nat → Int32} {yx ym : Sy} (C : Lw p s m meth c b L xs yx ym) {Q : State → Prop} {x : Int32} (v1 : vp_in (x + 1) L) (v2 : vp_in (x + 2) L) (v3 : vp_in (x + 3) L) (v4 : vp_in (x + 4) L) (v5 : vp_in (x + 5) L) (v6 : vp_in (x + 6) L) {st mt : St} (hR : R st mt) {H : Heap} {locs : List Loc} {ls : Array Slot} (hG : gL yx ym st mt s H locs) (hl : lv_has ls 4 [(0, .ref b), (1, .ref (ad yx 0)), (2, .ref (ad ym 0)), (3, .int x)])
    (kk : ∀ (st' mt' : St) (H1 : Heap) (locs1 : List Loc), R st' mt' → gL yx ym st' mt' s H1 locs1 → W p l e room_1 s m #[Value.ref b] below meth c H1 locs1 600000 7302250 Q (F0 m 1642 ls [])) : W p l e room_1 s m #[Value.ref b] below meth c H locs 600000 7302250 Q (F0 m 259 ls []) := by
  obtain ⟨hx, hb, -⟩ := id C
  refine lv_aload_n hx hb dL_law_259 rfl (lv_at hl 1 rfl) ?_
  refine l_xi (As := []) (rest := []) C hG (c_X8_land l yx  st _ (sim_land hR )) rfl qM_L_18 qI_X8_land qS_X8_land qN_X8 qC_X8_land hd_X8_land ⟨(Nat.le_of_ble_eq_true rfl), (Nat.le_of_ble_eq_true rfl)⟩ hl.1 rfl (Nat.le_of_ble_eq_true rfl) dL_law_260 (fun r st1 H locs hw hG => ?_)
  refine lv_aload_n hx hb dL_law_263 rfl (lv_at hl 2 rfl) ?_
  refine l_mi (As := []) (rest := [.int r]) C hG (c_X9_land l ym  mt _ hw) rfl qM_L_22 qI_X9_land qS_X9_land qN_X9 qC_X9_land hd_X9_land ⟨(Nat.le_of_ble_eq_true rfl), (Nat.le_of_ble_eq_true rfl)⟩ hl.1 rfl (Nat.le_of_ble_eq_true rfl) dL_law_264 (fun r2 mt1 H locs hw hG => ?_)
  obtain ⟨rfl, hR1⟩ := hw
  refine lv_icmp_eq (tgt := 1642) hx hb dL_law_267 (by decide) (fun _ => ?_) (fun h => absurd rfl h)
  exact kk st1 mt1 H locs hR1 hG
set_option maxRecDepth 100000 in
set_option maxHeartbeats 4000000 in
theorem law_c2 {p : Program} {l : Launch} {e : Env} {s : State} {m : MethodId} {below : List Frame} {meth : Method} {c : Code} {b L : Nat} {xs : Nat → Int32} {yx ym : Sy} (C : Lw p s m meth c b L xs yx ym) {Q : State → Prop} {x : Int32} (v1 : vp_in (x + 1) L) (v2 : vp_in (x + 2) L) (v3 : vp_in (x + 3) L) (v4 : vp_in (x + 4) L) (v5 : vp_in (x + 5) L) (v6 : vp_in (x + 6) L) {st mt : St} (hR : R st mt) {H : Heap} {locs : List Loc} {ls : Array Slot} (hG : gL yx ym st mt s H locs) (hl : lv_has ls 4 [(0, .ref b), (1, .ref (ad yx 0)), (2, .ref (ad ym 0)), (3, .int x)])
    (kk : ∀ (st' mt' : St) (H1 : Heap) (locs1 : List Loc), R st' mt' → gL yx ym st' mt' s H1 locs1 → W p l e room_1 s m #[Value.ref b] below meth c H1 locs1 600000 7302250 Q (F0 m 1642 ls [])) : W p l e room_1 s m #[Value.ref b] below meth c H locs 600000 7302250 Q (F0 m 272 ls []) := by
  obtain ⟨hx, hb, -⟩ := id C
  refine lv_aload_n hx hb dL_law_272 rfl (lv_at hl 1 rfl) ?_
  refine l_arg (j := 1) C hG v1 hl dL_law_273 dL_law_274 dL_law_275 (by decide) dL_law_276 dL_law_277 ?_
  refine l_arg (j := 2) C hG v2 hl dL_law_278 dL_law_279 dL_law_280 (by decide) dL_law_281 dL_law_282 ?_
  refine l_xi (As := [.int (xs (x + 1).toNatClampNeg), .int (xs (x + 2).toNatClampNeg)]) (rest := []) C hG (c_X8_keeperOf l yx (xs (x + 1).toNatClampNeg) (xs (x + 2).toNatClampNeg) st _ (sim_keeperOf hR (xs (x + 1).toNatClampNeg) (xs (x + 2).toNatClampNeg))) rfl qM_L_23 qI_X8_keeperOf qS_X8_keeperOf qN_X8 qC_X8_keeperOf hd_X8_keeperOf ⟨(Nat.le_of_ble_eq_true rfl), (Nat.le_of_ble_eq_true rfl)⟩ hl.1 rfl (Nat.le_of_ble_eq_true rfl) dL_law_283 (fun r st1 H locs hw hG => ?_)
  refine lv_aload_n hx hb dL_law_286 rfl (lv_at hl 2 rfl) ?_
  refine l_arg (j := 1) C hG v1 hl dL_law_287 dL_law_288 dL_law_289 (by decide) dL_law_290 dL_law_291 ?_
  refine l_arg (j := 2) C hG v2 hl dL_law_292 dL_law_293 dL_law_294 (by decide) dL_law_295 dL_law_296 ?_
  refine l_mi (As := [.int (xs (x + 1).toNatClampNeg), .int (xs (x + 2).toNatClampNeg)]) (rest := [.int r]) C hG (c_X9_keeperOf l ym (xs (x + 1).toNatClampNeg) (xs (x + 2).toNatClampNeg) mt _ hw) rfl qM_L_27 qI_X9_keeperOf qS_X9_keeperOf qN_X9 qC_X9_keeperOf hd_X9_keeperOf ⟨(Nat.le_of_ble_eq_true rfl), (Nat.le_of_ble_eq_true rfl)⟩ hl.1 rfl (Nat.le_of_ble_eq_true rfl) dL_law_297 (fun r2 mt1 H locs hw hG => ?_)
  obtain ⟨rfl, hR1⟩ := hw
  refine lv_icmp_eq (tgt := 1642) hx hb dL_law_300 (by decide) (fun _ => ?_) (fun h => absurd rfl h)
  exact kk st1 mt1 H locs hR1 hG
set_option maxRecDepth 100000 in
set_option maxHeartbeats 4000000 in
theorem law_c3 {p : Program} {l : Launch} {e : Env} {s : State} {m : MethodId} {below : List Frame} {meth : Method} {c : Code} {b L : Nat} {xs : Nat → Int32} {yx ym : Sy} (C : Lw p s m meth c b L xs yx ym) {Q : State → Prop} {x : Int32} (v1 : vp_in (x + 1) L) (v2 : vp_in (x + 2) L) (v3 : vp_in (x + 3) L) (v4 : vp_in (x + 4) L) (v5 : vp_in (x + 5) L) (v6 : vp_in (x + 6) L) {st mt : St} (hR : R st mt) {H : Heap} {locs : List Loc} {ls : Array Slot} (hG : gL yx ym st mt s H locs) (hl : lv_has ls 4 [(0, .ref b), (1, .ref (ad yx 0)), (2, .ref (ad ym 0)), (3, .int x)])
    (kk : ∀ (st' mt' : St) (H1 : Heap) (locs1 : List Loc), R st' mt' → gL yx ym st' mt' s H1 locs1 → W p l e room_1 s m #[Value.ref b] below meth c H1 locs1 600000 7302250 Q (F0 m 1642 ls [])) : W p l e room_1 s m #[Value.ref b] below meth c H locs 600000 7302250 Q (F0 m 305 ls []) := by
  obtain ⟨hx, hb, -⟩ := id C
  refine lv_aload_n hx hb dL_law_305 rfl (lv_at hl 1 rfl) ?_
  refine l_arg (j := 1) C hG v1 hl dL_law_306 dL_law_307 dL_law_308 (by decide) dL_law_309 dL_law_310 ?_
  refine l_arg (j := 2) C hG v2 hl dL_law_311 dL_law_312 dL_law_313 (by decide) dL_law_314 dL_law_315 ?_
  refine l_xi (As := [.int (xs (x + 1).toNatClampNeg), .int (xs (x + 2).toNatClampNeg)]) (rest := []) C hG (c_X8_letterOf l yx (xs (x + 1).toNatClampNeg) (xs (x + 2).toNatClampNeg) st _ (sim_letterOf hR (xs (x + 1).toNatClampNeg) (xs (x + 2).toNatClampNeg))) rfl qM_L_28 qI_X8_letterOf qS_X8_letterOf qN_X8 qC_X8_letterOf hd_X8_letterOf ⟨(Nat.le_of_ble_eq_true rfl), (Nat.le_of_ble_eq_true rfl)⟩ hl.1 rfl (Nat.le_of_ble_eq_true rfl) dL_law_316 (fun r st1 H locs hw hG => ?_)
  refine lv_aload_n hx hb dL_law_319 rfl (lv_at hl 2 rfl) ?_
  refine l_arg (j := 1) C hG v1 hl dL_law_320 dL_law_321 dL_law_322 (by decide) dL_law_323 dL_law_324 ?_
  refine l_arg (j := 2) C hG v2 hl dL_law_325 dL_law_326 dL_law_327 (by decide) dL_law_328 dL_law_329 ?_
  refine l_mi (As := [.int (xs (x + 1).toNatClampNeg), .int (xs (x + 2).toNatClampNeg)]) (rest := [.int r]) C hG (c_X9_letterOf l ym (xs (x + 1).toNatClampNeg) (xs (x + 2).toNatClampNeg) mt _ hw) rfl qM_L_31 qI_X9_letterOf qS_X9_letterOf qN_X9 qC_X9_letterOf hd_X9_letterOf ⟨(Nat.le_of_ble_eq_true rfl), (Nat.le_of_ble_eq_true rfl)⟩ hl.1 rfl (Nat.le_of_ble_eq_true rfl) dL_law_330 (fun r2 mt1 H locs hw hG => ?_)
  obtain ⟨rfl, hR1⟩ := hw
  refine lv_icmp_eq (tgt := 1642) hx hb dL_law_333 (by decide) (fun _ => ?_) (fun h => absurd rfl h)
  exact kk st1 mt1 H locs hR1 hG
set_option maxRecDepth 100000 in
set_option maxHeartbeats 4000000 in
theorem law_c4 {p : Program} {l : Launch} {e : Env} {s : State} {m : MethodId} {below : List Frame} {meth : Method} {c : Code} {b L : Nat} {xs : Nat → Int32} {yx ym : Sy} (C : Lw p s m meth c b L xs yx ym) {Q : State → Prop} {x : Int32} (v1 : vp_in (x + 1) L) (v2 : vp_in (x + 2) L) (v3 : vp_in (x + 3) L) (v4 : vp_in (x + 4) L) (v5 : vp_in (x + 5) L) (v6 : vp_in (x + 6) L) {st mt : St} (hR : R st mt) {H : Heap} {locs : List Loc} {ls : Array Slot} (hG : gL yx ym st mt s H locs) (hl : lv_has ls 4 [(0, .ref b), (1, .ref (ad yx 0)), (2, .ref (ad ym 0)), (3, .int x)])
    (kk : ∀ (st' mt' : St) (H1 : Heap) (locs1 : List Loc), R st' mt' → gL yx ym st' mt' s H1 locs1 → W p l e room_1 s m #[Value.ref b] below meth c H1 locs1 600000 7302250 Q (F0 m 1642 ls [])) : W p l e room_1 s m #[Value.ref b] below meth c H locs 600000 7302250 Q (F0 m 338 ls []) := by
  obtain ⟨hx, hb, -⟩ := id C
  refine lv_aload_n hx hb dL_law_338 rfl (lv_at hl 1 rfl) ?_
  refine l_arg (j := 1) C hG v1 hl dL_law_339 dL_law_340 dL_law_341 (by decide) dL_law_342 dL_law_343 ?_
  refine l_arg (j := 2) C hG v2 hl dL_law_344 dL_law_345 dL_law_346 (by decide) dL_law_347 dL_law_348 ?_
  refine l_xi (As := [.int (xs (x + 1).toNatClampNeg), .int (xs (x + 2).toNatClampNeg)]) (rest := []) C hG (c_X8_hate l yx (xs (x + 1).toNatClampNeg) (xs (x + 2).toNatClampNeg) st _ (sim_hate hR (xs (x + 1).toNatClampNeg) (xs (x + 2).toNatClampNeg))) rfl qM_L_32 qI_X8_hate qS_X8_hate qN_X8 qC_X8_hate hd_X8_hate ⟨(Nat.le_of_ble_eq_true rfl), (Nat.le_of_ble_eq_true rfl)⟩ hl.1 rfl (Nat.le_of_ble_eq_true rfl) dL_law_349 (fun r st1 H locs hw hG => ?_)
  refine lv_aload_n hx hb dL_law_352 rfl (lv_at hl 2 rfl) ?_
  refine l_arg (j := 1) C hG v1 hl dL_law_353 dL_law_354 dL_law_355 (by decide) dL_law_356 dL_law_357 ?_
  refine l_arg (j := 2) C hG v2 hl dL_law_358 dL_law_359 dL_law_360 (by decide) dL_law_361 dL_law_362 ?_
  refine l_mi (As := [.int (xs (x + 1).toNatClampNeg), .int (xs (x + 2).toNatClampNeg)]) (rest := [.int r]) C hG (c_X9_hate l ym (xs (x + 1).toNatClampNeg) (xs (x + 2).toNatClampNeg) mt _ hw) rfl qM_L_35 qI_X9_hate qS_X9_hate qN_X9 qC_X9_hate hd_X9_hate ⟨(Nat.le_of_ble_eq_true rfl), (Nat.le_of_ble_eq_true rfl)⟩ hl.1 rfl (Nat.le_of_ble_eq_true rfl) dL_law_363 (fun r2 mt1 H locs hw hG => ?_)
  obtain ⟨rfl, hR1⟩ := hw
  refine lv_icmp_eq (tgt := 1642) hx hb dL_law_366 (by decide) (fun _ => ?_) (fun h => absurd rfl h)
  exact kk st1 mt1 H locs hR1 hG
set_option maxRecDepth 100000 in
set_option maxHeartbeats 4000000 in
theorem law_c5 {p : Program} {l : Launch} {e : Env} {s : State} {m : MethodId} {below : List Frame} {meth : Method} {c : Code} {b L : Nat} {xs : Nat → Int32} {yx ym : Sy} (C : Lw p s m meth c b L xs yx ym) {Q : State → Prop} {x : Int32} (v1 : vp_in (x + 1) L) (v2 : vp_in (x + 2) L) (v3 : vp_in (x + 3) L) (v4 : vp_in (x + 4) L) (v5 : vp_in (x + 5) L) (v6 : vp_in (x + 6) L) {st mt : St} (hR : R st mt) {H : Heap} {locs : List Loc} {ls : Array Slot} (hG : gL yx ym st mt s H locs) (hl : lv_has ls 4 [(0, .ref b), (1, .ref (ad yx 0)), (2, .ref (ad ym 0)), (3, .int x)])
    (kk : ∀ (st' mt' : St) (H1 : Heap) (locs1 : List Loc), R st' mt' → gL yx ym st' mt' s H1 locs1 → W p l e room_1 s m #[Value.ref b] below meth c H1 locs1 600000 7302250 Q (F0 m 1642 ls [])) : W p l e room_1 s m #[Value.ref b] below meth c H locs 600000 7302250 Q (F0 m 371 ls []) := by
  obtain ⟨hx, hb, -⟩ := id C
  refine lv_aload_n hx hb dL_law_371 rfl (lv_at hl 1 rfl) ?_
  refine l_arg (j := 1) C hG v1 hl dL_law_372 dL_law_373 dL_law_374 (by decide) dL_law_375 dL_law_376 ?_
  refine l_arg (j := 2) C hG v2 hl dL_law_377 dL_law_378 dL_law_379 (by decide) dL_law_380 dL_law_381 ?_
  refine l_arg (j := 3) C hG v3 hl dL_law_382 dL_law_383 dL_law_384 (by decide) dL_law_385 dL_law_386 ?_
  refine l_xi (As := [.int (xs (x + 1).toNatClampNeg), .int (xs (x + 2).toNatClampNeg), .int (xs (x + 3).toNatClampNeg)]) (rest := []) C hG (c_X8_keeper l yx (xs (x + 1).toNatClampNeg) (xs (x + 2).toNatClampNeg) (xs (x + 3).toNatClampNeg) st _ (sim_keeper hR (xs (x + 1).toNatClampNeg) (xs (x + 2).toNatClampNeg) (xs (x + 3).toNatClampNeg))) rfl qM_L_36 qI_X8_keeper qS_X8_keeper qN_X8 qC_X8_keeper hd_X8_keeper ⟨(Nat.le_of_ble_eq_true rfl), (Nat.le_of_ble_eq_true rfl)⟩ hl.1 rfl (Nat.le_of_ble_eq_true rfl) dL_law_387 (fun r st1 H locs hw hG => ?_)
  refine lv_aload_n hx hb dL_law_390 rfl (lv_at hl 2 rfl) ?_
  refine l_arg (j := 1) C hG v1 hl dL_law_391 dL_law_392 dL_law_393 (by decide) dL_law_394 dL_law_395 ?_
  refine l_arg (j := 2) C hG v2 hl dL_law_396 dL_law_397 dL_law_398 (by decide) dL_law_399 dL_law_400 ?_
  refine l_arg (j := 3) C hG v3 hl dL_law_401 dL_law_402 dL_law_403 (by decide) dL_law_404 dL_law_405 ?_
  refine l_mi (As := [.int (xs (x + 1).toNatClampNeg), .int (xs (x + 2).toNatClampNeg), .int (xs (x + 3).toNatClampNeg)]) (rest := [.int r]) C hG (c_X9_keeper l ym (xs (x + 1).toNatClampNeg) (xs (x + 2).toNatClampNeg) (xs (x + 3).toNatClampNeg) mt _ hw) rfl qM_L_40 qI_X9_keeper qS_X9_keeper qN_X9 qC_X9_keeper hd_X9_keeper ⟨(Nat.le_of_ble_eq_true rfl), (Nat.le_of_ble_eq_true rfl)⟩ hl.1 rfl (Nat.le_of_ble_eq_true rfl) dL_law_406 (fun r2 mt1 H locs hw hG => ?_)
  obtain ⟨rfl, hR1⟩ := hw
  refine lv_icmp_eq (tgt := 1642) hx hb dL_law_409 (by decide) (fun _ => ?_) (fun h => absurd rfl h)
  exact kk st1 mt1 H locs hR1 hG
set_option maxRecDepth 100000 in
set_option maxHeartbeats 4000000 in
theorem law_c6 {p : Program} {l : Launch} {e : Env} {s : State} {m : MethodId} {below : List Frame} {meth : Method} {c : Code} {b L : Nat} {xs : Nat → Int32} {yx ym : Sy} (C : Lw p s m meth c b L xs yx ym) {Q : State → Prop} {x : Int32} (v1 : vp_in (x + 1) L) (v2 : vp_in (x + 2) L) (v3 : vp_in (x + 3) L) (v4 : vp_in (x + 4) L) (v5 : vp_in (x + 5) L) (v6 : vp_in (x + 6) L) {st mt : St} (hR : R st mt) {H : Heap} {locs : List Loc} {ls : Array Slot} (hG : gL yx ym st mt s H locs) (hl : lv_has ls 4 [(0, .ref b), (1, .ref (ad yx 0)), (2, .ref (ad ym 0)), (3, .int x)])
    (kk : ∀ (st' mt' : St) (H1 : Heap) (locs1 : List Loc), R st' mt' → gL yx ym st' mt' s H1 locs1 → W p l e room_1 s m #[Value.ref b] below meth c H1 locs1 600000 7302250 Q (F0 m 1642 ls [])) : W p l e room_1 s m #[Value.ref b] below meth c H locs 600000 7302250 Q (F0 m 414 ls []) := by
  obtain ⟨hx, hb, -⟩ := id C
  refine lv_aload_n hx hb dL_law_414 rfl (lv_at hl 1 rfl) ?_
  refine l_arg (j := 1) C hG v1 hl dL_law_415 dL_law_416 dL_law_417 (by decide) dL_law_418 dL_law_419 ?_
  refine l_arg (j := 2) C hG v2 hl dL_law_420 dL_law_421 dL_law_422 (by decide) dL_law_423 dL_law_424 ?_
  refine l_xi (As := [.int (xs (x + 1).toNatClampNeg), .int (xs (x + 2).toNatClampNeg)]) (rest := []) C hG (c_X8_letter l yx (xs (x + 1).toNatClampNeg) (xs (x + 2).toNatClampNeg) st _ (sim_letter hR (xs (x + 1).toNatClampNeg) (xs (x + 2).toNatClampNeg))) rfl qM_L_41 qI_X8_letter qS_X8_letter qN_X8 qC_X8_letter hd_X8_letter ⟨(Nat.le_of_ble_eq_true rfl), (Nat.le_of_ble_eq_true rfl)⟩ hl.1 rfl (Nat.le_of_ble_eq_true rfl) dL_law_425 (fun r st1 H locs hw hG => ?_)
  refine lv_aload_n hx hb dL_law_428 rfl (lv_at hl 2 rfl) ?_
  refine l_arg (j := 1) C hG v1 hl dL_law_429 dL_law_430 dL_law_431 (by decide) dL_law_432 dL_law_433 ?_
  refine l_arg (j := 2) C hG v2 hl dL_law_434 dL_law_435 dL_law_436 (by decide) dL_law_437 dL_law_438 ?_
  refine l_mi (As := [.int (xs (x + 1).toNatClampNeg), .int (xs (x + 2).toNatClampNeg)]) (rest := [.int r]) C hG (c_X9_letter l ym (xs (x + 1).toNatClampNeg) (xs (x + 2).toNatClampNeg) mt _ hw) rfl qM_L_44 qI_X9_letter qS_X9_letter qN_X9 qC_X9_letter hd_X9_letter ⟨(Nat.le_of_ble_eq_true rfl), (Nat.le_of_ble_eq_true rfl)⟩ hl.1 rfl (Nat.le_of_ble_eq_true rfl) dL_law_439 (fun r2 mt1 H locs hw hG => ?_)
  obtain ⟨rfl, hR1⟩ := hw
  refine lv_icmp_eq (tgt := 1642) hx hb dL_law_442 (by decide) (fun _ => ?_) (fun h => absurd rfl h)
  exact kk st1 mt1 H locs hR1 hG
set_option maxRecDepth 100000 in
set_option maxHeartbeats 4000000 in
theorem law_c7 {p : Program} {l : Launch} {e : Env} {s : State} {m : MethodId} {below : List Frame} {meth : Method} {c : Code} {b L : Nat} {xs : Nat → Int32} {yx ym : Sy} (C : Lw p s m meth c b L xs yx ym) {Q : State → Prop} {x : Int32} (v1 : vp_in (x + 1) L) (v2 : vp_in (x + 2) L) (v3 : vp_in (x + 3) L) (v4 : vp_in (x + 4) L) (v5 : vp_in (x + 5) L) (v6 : vp_in (x + 6) L) {st mt : St} (hR : R st mt) {H : Heap} {locs : List Loc} {ls : Array Slot} (hG : gL yx ym st mt s H locs) (hl : lv_has ls 4 [(0, .ref b), (1, .ref (ad yx 0)), (2, .ref (ad ym 0)), (3, .int x)])
    (kk : ∀ (st' mt' : St) (H1 : Heap) (locs1 : List Loc), R st' mt' → gL yx ym st' mt' s H1 locs1 → W p l e room_1 s m #[Value.ref b] below meth c H1 locs1 600000 7302250 Q (F0 m 1642 ls [])) : W p l e room_1 s m #[Value.ref b] below meth c H locs 600000 7302250 Q (F0 m 447 ls []) := by
  obtain ⟨hx, hb, -⟩ := id C
  refine lv_aload_n hx hb dL_law_447 rfl (lv_at hl 1 rfl) ?_
  refine l_arg (j := 1) C hG v1 hl dL_law_448 dL_law_449 dL_law_450 (by decide) dL_law_451 dL_law_452 ?_
  refine l_arg (j := 2) C hG v2 hl dL_law_453 dL_law_454 dL_law_455 (by decide) dL_law_456 dL_law_457 ?_
  refine l_arg (j := 3) C hG v3 hl dL_law_458 dL_law_459 dL_law_460 (by decide) dL_law_461 dL_law_462 ?_
  refine l_xi (As := [.int (xs (x + 1).toNatClampNeg), .int (xs (x + 2).toNatClampNeg), .int (xs (x + 3).toNatClampNeg)]) (rest := []) C hG (c_X8_hates l yx (xs (x + 1).toNatClampNeg) (xs (x + 2).toNatClampNeg) (xs (x + 3).toNatClampNeg) st _ (sim_hates hR (xs (x + 1).toNatClampNeg) (xs (x + 2).toNatClampNeg) (xs (x + 3).toNatClampNeg))) rfl qM_L_45 qI_X8_hates qS_X8_hates qN_X8 qC_X8_hates hd_X8_hates ⟨(Nat.le_of_ble_eq_true rfl), (Nat.le_of_ble_eq_true rfl)⟩ hl.1 rfl (Nat.le_of_ble_eq_true rfl) dL_law_463 (fun r st1 H locs hw hG => ?_)
  refine lv_aload_n hx hb dL_law_466 rfl (lv_at hl 2 rfl) ?_
  refine l_arg (j := 1) C hG v1 hl dL_law_467 dL_law_468 dL_law_469 (by decide) dL_law_470 dL_law_471 ?_
  refine l_arg (j := 2) C hG v2 hl dL_law_472 dL_law_473 dL_law_474 (by decide) dL_law_475 dL_law_476 ?_
  refine l_arg (j := 3) C hG v3 hl dL_law_477 dL_law_478 dL_law_479 (by decide) dL_law_480 dL_law_481 ?_
  refine l_mi (As := [.int (xs (x + 1).toNatClampNeg), .int (xs (x + 2).toNatClampNeg), .int (xs (x + 3).toNatClampNeg)]) (rest := [.int r]) C hG (c_X9_hates l ym (xs (x + 1).toNatClampNeg) (xs (x + 2).toNatClampNeg) (xs (x + 3).toNatClampNeg) mt _ hw) rfl qM_L_48 qI_X9_hates qS_X9_hates qN_X9 qC_X9_hates hd_X9_hates ⟨(Nat.le_of_ble_eq_true rfl), (Nat.le_of_ble_eq_true rfl)⟩ hl.1 rfl (Nat.le_of_ble_eq_true rfl) dL_law_482 (fun r2 mt1 H locs hw hG => ?_)
  obtain ⟨rfl, hR1⟩ := hw
  refine lv_icmp_eq (tgt := 1642) hx hb dL_law_485 (by decide) (fun _ => ?_) (fun h => absurd rfl h)
  exact kk st1 mt1 H locs hR1 hG
set_option maxRecDepth 100000 in
set_option maxHeartbeats 4000000 in
theorem law_c8 {p : Program} {l : Launch} {e : Env} {s : State} {m : MethodId} {below : List Frame} {meth : Method} {c : Code} {b L : Nat} {xs : Nat → Int32} {yx ym : Sy} (C : Lw p s m meth c b L xs yx ym) {Q : State → Prop} {x : Int32} (v1 : vp_in (x + 1) L) (v2 : vp_in (x + 2) L) (v3 : vp_in (x + 3) L) (v4 : vp_in (x + 4) L) (v5 : vp_in (x + 5) L) (v6 : vp_in (x + 6) L) {st mt : St} (hR : R st mt) {H : Heap} {locs : List Loc} {ls : Array Slot} (hG : gL yx ym st mt s H locs) (hl : lv_has ls 4 [(0, .ref b), (1, .ref (ad yx 0)), (2, .ref (ad ym 0)), (3, .int x)])
    (kk : ∀ (st' mt' : St) (H1 : Heap) (locs1 : List Loc), R st' mt' → gL yx ym st' mt' s H1 locs1 → W p l e room_1 s m #[Value.ref b] below meth c H1 locs1 600000 7302250 Q (F0 m 1642 ls [])) : W p l e room_1 s m #[Value.ref b] below meth c H locs 600000 7302250 Q (F0 m 490 ls []) := by
  obtain ⟨hx, hb, -⟩ := id C
  refine lv_aload_n hx hb dL_law_490 rfl (lv_at hl 1 rfl) ?_
  refine l_arg (j := 1) C hG v1 hl dL_law_491 dL_law_492 dL_law_493 (by decide) dL_law_494 dL_law_495 ?_
  refine l_arg (j := 2) C hG v2 hl dL_law_496 dL_law_497 dL_law_498 (by decide) dL_law_499 dL_law_500 ?_
  refine l_xi (As := [.int (xs (x + 1).toNatClampNeg), .int (xs (x + 2).toNatClampNeg)]) (rest := []) C hG (c_X8_goes l yx (xs (x + 1).toNatClampNeg) (xs (x + 2).toNatClampNeg) st _ (sim_goes hR (xs (x + 1).toNatClampNeg) (xs (x + 2).toNatClampNeg))) rfl qM_L_49 qI_X8_goes qS_X8_goes qN_X8 qC_X8_goes hd_X8_goes ⟨(Nat.le_of_ble_eq_true rfl), (Nat.le_of_ble_eq_true rfl)⟩ hl.1 rfl (Nat.le_of_ble_eq_true rfl) dL_law_501 (fun r st1 H locs hw hG => ?_)
  refine lv_aload_n hx hb dL_law_504 rfl (lv_at hl 2 rfl) ?_
  refine l_arg (j := 1) C hG v1 hl dL_law_505 dL_law_506 dL_law_507 (by decide) dL_law_508 dL_law_509 ?_
  refine l_arg (j := 2) C hG v2 hl dL_law_510 dL_law_511 dL_law_512 (by decide) dL_law_513 dL_law_514 ?_
  refine l_mi (As := [.int (xs (x + 1).toNatClampNeg), .int (xs (x + 2).toNatClampNeg)]) (rest := [.int r]) C hG (c_X9_goes l ym (xs (x + 1).toNatClampNeg) (xs (x + 2).toNatClampNeg) mt _ hw) rfl qM_L_52 qI_X9_goes qS_X9_goes qN_X9 qC_X9_goes hd_X9_goes ⟨(Nat.le_of_ble_eq_true rfl), (Nat.le_of_ble_eq_true rfl)⟩ hl.1 rfl (Nat.le_of_ble_eq_true rfl) dL_law_515 (fun r2 mt1 H locs hw hG => ?_)
  obtain ⟨rfl, hR1⟩ := hw
  refine lv_icmp_eq (tgt := 1642) hx hb dL_law_518 (by decide) (fun _ => ?_) (fun h => absurd rfl h)
  exact kk st1 mt1 H locs hR1 hG
set_option maxRecDepth 100000 in
set_option maxHeartbeats 4000000 in
theorem law_c9 {p : Program} {l : Launch} {e : Env} {s : State} {m : MethodId} {below : List Frame} {meth : Method} {c : Code} {b L : Nat} {xs : Nat → Int32} {yx ym : Sy} (C : Lw p s m meth c b L xs yx ym) {Q : State → Prop} {x : Int32} (v1 : vp_in (x + 1) L) (v2 : vp_in (x + 2) L) (v3 : vp_in (x + 3) L) (v4 : vp_in (x + 4) L) (v5 : vp_in (x + 5) L) (v6 : vp_in (x + 6) L) {st mt : St} (hR : R st mt) {H : Heap} {locs : List Loc} {ls : Array Slot} (hG : gL yx ym st mt s H locs) (hl : lv_has ls 4 [(0, .ref b), (1, .ref (ad yx 0)), (2, .ref (ad ym 0)), (3, .int x)])
    (kk : ∀ (st' mt' : St) (H1 : Heap) (locs1 : List Loc), R st' mt' → gL yx ym st' mt' s H1 locs1 → W p l e room_1 s m #[Value.ref b] below meth c H1 locs1 600000 7302250 Q (F0 m 1642 ls [])) : W p l e room_1 s m #[Value.ref b] below meth c H locs 600000 7302250 Q (F0 m 523 ls []) := by
  obtain ⟨hx, hb, -⟩ := id C
  refine lv_aload_n hx hb dL_law_523 rfl (lv_at hl 1 rfl) ?_
  refine l_arg (j := 1) C hG v1 hl dL_law_524 dL_law_525 dL_law_526 (by decide) dL_law_527 dL_law_528 ?_
  refine l_xi (As := [.int (xs (x + 1).toNatClampNeg)]) (rest := []) C hG (c_X8_seals l yx (xs (x + 1).toNatClampNeg) st _ (sim_seals hR (xs (x + 1).toNatClampNeg))) rfl qM_L_53 qI_X8_seals qS_X8_seals qN_X8 qC_X8_seals hd_X8_seals ⟨(Nat.le_of_ble_eq_true rfl), (Nat.le_of_ble_eq_true rfl)⟩ hl.1 rfl (Nat.le_of_ble_eq_true rfl) dL_law_529 (fun r st1 H locs hw hG => ?_)
  refine lv_aload_n hx hb dL_law_532 rfl (lv_at hl 2 rfl) ?_
  refine l_arg (j := 1) C hG v1 hl dL_law_533 dL_law_534 dL_law_535 (by decide) dL_law_536 dL_law_537 ?_
  refine l_mi (As := [.int (xs (x + 1).toNatClampNeg)]) (rest := [.int r]) C hG (c_X9_seals l ym (xs (x + 1).toNatClampNeg) mt _ hw) rfl qM_L_56 qI_X9_seals qS_X9_seals qN_X9 qC_X9_seals hd_X9_seals ⟨(Nat.le_of_ble_eq_true rfl), (Nat.le_of_ble_eq_true rfl)⟩ hl.1 rfl (Nat.le_of_ble_eq_true rfl) dL_law_538 (fun r2 mt1 H locs hw hG => ?_)
  obtain ⟨rfl, hR1⟩ := hw
  refine lv_icmp_eq (tgt := 1642) hx hb dL_law_541 (by decide) (fun _ => ?_) (fun h => absurd rfl h)
  exact kk st1 mt1 H locs hR1 hG
set_option maxRecDepth 100000 in
set_option maxHeartbeats 4000000 in
theorem law_c10 {p : Program} {l : Launch} {e : Env} {s : State} {m : MethodId} {below : List Frame} {meth : Method} {c : Code} {b L : Nat} {xs : Nat → Int32} {yx ym : Sy} (C : Lw p s m meth c b L xs yx ym) {Q : State → Prop} {x : Int32} (v1 : vp_in (x + 1) L) (v2 : vp_in (x + 2) L) (v3 : vp_in (x + 3) L) (v4 : vp_in (x + 4) L) (v5 : vp_in (x + 5) L) (v6 : vp_in (x + 6) L) {st mt : St} (hR : R st mt) {H : Heap} {locs : List Loc} {ls : Array Slot} (hG : gL yx ym st mt s H locs) (hl : lv_has ls 4 [(0, .ref b), (1, .ref (ad yx 0)), (2, .ref (ad ym 0)), (3, .int x)])
    (kk : ∀ (st' mt' : St) (H1 : Heap) (locs1 : List Loc), R st' mt' → gL yx ym st' mt' s H1 locs1 → W p l e room_1 s m #[Value.ref b] below meth c H1 locs1 600000 7302250 Q (F0 m 1642 ls [])) : W p l e room_1 s m #[Value.ref b] below meth c H locs 600000 7302250 Q (F0 m 546 ls []) := by
  obtain ⟨hx, hb, -⟩ := id C
  refine lv_aload_n hx hb dL_law_546 rfl (lv_at hl 1 rfl) ?_
  refine l_arg (j := 1) C hG v1 hl dL_law_547 dL_law_548 dL_law_549 (by decide) dL_law_550 dL_law_551 ?_
  refine l_xi (As := [.int (xs (x + 1).toNatClampNeg)]) (rest := []) C hG (c_X8_weeks l yx (xs (x + 1).toNatClampNeg) st _ (sim_weeks hR (xs (x + 1).toNatClampNeg))) rfl qM_L_57 qI_X8_weeks qS_X8_weeks qN_X8 qC_X8_weeks hd_X8_weeks ⟨(Nat.le_of_ble_eq_true rfl), (Nat.le_of_ble_eq_true rfl)⟩ hl.1 rfl (Nat.le_of_ble_eq_true rfl) dL_law_552 (fun r st1 H locs hw hG => ?_)
  refine lv_aload_n hx hb dL_law_555 rfl (lv_at hl 2 rfl) ?_
  refine l_arg (j := 1) C hG v1 hl dL_law_556 dL_law_557 dL_law_558 (by decide) dL_law_559 dL_law_560 ?_
  refine l_mi (As := [.int (xs (x + 1).toNatClampNeg)]) (rest := [.int r]) C hG (c_X9_weeks l ym (xs (x + 1).toNatClampNeg) mt _ hw) rfl qM_L_60 qI_X9_weeks qS_X9_weeks qN_X9 qC_X9_weeks hd_X9_weeks ⟨(Nat.le_of_ble_eq_true rfl), (Nat.le_of_ble_eq_true rfl)⟩ hl.1 rfl (Nat.le_of_ble_eq_true rfl) dL_law_561 (fun r2 mt1 H locs hw hG => ?_)
  obtain ⟨rfl, hR1⟩ := hw
  refine lv_icmp_eq (tgt := 1642) hx hb dL_law_564 (by decide) (fun _ => ?_) (fun h => absurd rfl h)
  exact kk st1 mt1 H locs hR1 hG
set_option maxRecDepth 100000 in
set_option maxHeartbeats 4000000 in
theorem law_c11 {p : Program} {l : Launch} {e : Env} {s : State} {m : MethodId} {below : List Frame} {meth : Method} {c : Code} {b L : Nat} {xs : Nat → Int32} {yx ym : Sy} (C : Lw p s m meth c b L xs yx ym) {Q : State → Prop} {x : Int32} (v1 : vp_in (x + 1) L) (v2 : vp_in (x + 2) L) (v3 : vp_in (x + 3) L) (v4 : vp_in (x + 4) L) (v5 : vp_in (x + 5) L) (v6 : vp_in (x + 6) L) {st mt : St} (hR : R st mt) {H : Heap} {locs : List Loc} {ls : Array Slot} (hG : gL yx ym st mt s H locs) (hl : lv_has ls 4 [(0, .ref b), (1, .ref (ad yx 0)), (2, .ref (ad ym 0)), (3, .int x)])
    (kk : ∀ (st' mt' : St) (H1 : Heap) (locs1 : List Loc), R st' mt' → gL yx ym st' mt' s H1 locs1 → W p l e room_1 s m #[Value.ref b] below meth c H1 locs1 600000 7302250 Q (F0 m 1642 ls [])) : W p l e room_1 s m #[Value.ref b] below meth c H locs 600000 7302250 Q (F0 m 569 ls []) := by
  obtain ⟨hx, hb, -⟩ := id C
  refine lv_aload_n hx hb dL_law_569 rfl (lv_at hl 1 rfl) ?_
  refine l_xi (As := []) (rest := []) C hG (c_X8_back l yx  st _ (sim_back hR )) rfl qM_L_61 qI_X8_back qS_X8_back qN_X8 qC_X8_back hd_X8_back ⟨(Nat.le_of_ble_eq_true rfl), (Nat.le_of_ble_eq_true rfl)⟩ hl.1 rfl (Nat.le_of_ble_eq_true rfl) dL_law_570 (fun r st1 H locs hw hG => ?_)
  refine lv_aload_n hx hb dL_law_573 rfl (lv_at hl 2 rfl) ?_
  refine l_mi (As := []) (rest := [.int r]) C hG (c_X9_back l ym  mt _ hw) rfl qM_L_64 qI_X9_back qS_X9_back qN_X9 qC_X9_back hd_X9_back ⟨(Nat.le_of_ble_eq_true rfl), (Nat.le_of_ble_eq_true rfl)⟩ hl.1 rfl (Nat.le_of_ble_eq_true rfl) dL_law_574 (fun r2 mt1 H locs hw hG => ?_)
  obtain ⟨rfl, hR1⟩ := hw
  refine lv_icmp_eq (tgt := 1642) hx hb dL_law_577 (by decide) (fun _ => ?_) (fun h => absurd rfl h)
  exact kk st1 mt1 H locs hR1 hG
set_option maxRecDepth 100000 in
set_option maxHeartbeats 4000000 in
theorem law_c12 {p : Program} {l : Launch} {e : Env} {s : State} {m : MethodId} {below : List Frame} {meth : Method} {c : Code} {b L : Nat} {xs : Nat → Int32} {yx ym : Sy} (C : Lw p s m meth c b L xs yx ym) {Q : State → Prop} {x : Int32} (v1 : vp_in (x + 1) L) (v2 : vp_in (x + 2) L) (v3 : vp_in (x + 3) L) (v4 : vp_in (x + 4) L) (v5 : vp_in (x + 5) L) (v6 : vp_in (x + 6) L) {st mt : St} (hR : R st mt) {H : Heap} {locs : List Loc} {ls : Array Slot} (hG : gL yx ym st mt s H locs) (hl : lv_has ls 4 [(0, .ref b), (1, .ref (ad yx 0)), (2, .ref (ad ym 0)), (3, .int x)])
    (kk : ∀ (st' mt' : St) (H1 : Heap) (locs1 : List Loc), R st' mt' → gL yx ym st' mt' s H1 locs1 → W p l e room_1 s m #[Value.ref b] below meth c H1 locs1 600000 7302250 Q (F0 m 1642 ls [])) : W p l e room_1 s m #[Value.ref b] below meth c H locs 600000 7302250 Q (F0 m 582 ls []) := by
  obtain ⟨hx, hb, -⟩ := id C
  refine lv_aload_n hx hb dL_law_582 rfl (lv_at hl 1 rfl) ?_
  refine l_arg (j := 1) C hG v1 hl dL_law_583 dL_law_584 dL_law_585 (by decide) dL_law_586 dL_law_587 ?_
  refine l_arg (j := 2) C hG v2 hl dL_law_588 dL_law_589 dL_law_590 (by decide) dL_law_591 dL_law_592 ?_
  refine l_arg (j := 3) C hG v3 hl dL_law_593 dL_law_594 dL_law_595 (by decide) dL_law_596 dL_law_597 ?_
  refine l_xi (As := [.int (xs (x + 1).toNatClampNeg), .int (xs (x + 2).toNatClampNeg), .int (xs (x + 3).toNatClampNeg)]) (rest := []) C hG (c_X8_behind l yx (xs (x + 1).toNatClampNeg) (xs (x + 2).toNatClampNeg) (xs (x + 3).toNatClampNeg) st _ (sim_behind hR (xs (x + 1).toNatClampNeg) (xs (x + 2).toNatClampNeg) (xs (x + 3).toNatClampNeg))) rfl qM_L_65 qI_X8_behind qS_X8_behind qN_X8 qC_X8_behind hd_X8_behind ⟨(Nat.le_of_ble_eq_true rfl), (Nat.le_of_ble_eq_true rfl)⟩ hl.1 rfl (Nat.le_of_ble_eq_true rfl) dL_law_598 (fun r st1 H locs hw hG => ?_)
  refine lv_aload_n hx hb dL_law_601 rfl (lv_at hl 2 rfl) ?_
  refine l_arg (j := 1) C hG v1 hl dL_law_602 dL_law_603 dL_law_604 (by decide) dL_law_605 dL_law_606 ?_
  refine l_arg (j := 2) C hG v2 hl dL_law_607 dL_law_608 dL_law_609 (by decide) dL_law_610 dL_law_611 ?_
  refine l_arg (j := 3) C hG v3 hl dL_law_612 dL_law_613 dL_law_614 (by decide) dL_law_615 dL_law_616 ?_
  refine l_mi (As := [.int (xs (x + 1).toNatClampNeg), .int (xs (x + 2).toNatClampNeg), .int (xs (x + 3).toNatClampNeg)]) (rest := [.int r]) C hG (c_X9_behind l ym (xs (x + 1).toNatClampNeg) (xs (x + 2).toNatClampNeg) (xs (x + 3).toNatClampNeg) mt _ hw) rfl qM_L_68 qI_X9_behind qS_X9_behind qN_X9 qC_X9_behind hd_X9_behind ⟨(Nat.le_of_ble_eq_true rfl), (Nat.le_of_ble_eq_true rfl)⟩ hl.1 rfl (Nat.le_of_ble_eq_true rfl) dL_law_617 (fun r2 mt1 H locs hw hG => ?_)
  obtain ⟨rfl, hR1⟩ := hw
  refine lv_icmp_eq (tgt := 1642) hx hb dL_law_620 (by decide) (fun _ => ?_) (fun h => absurd rfl h)
  exact kk st1 mt1 H locs hR1 hG
set_option maxRecDepth 100000 in
set_option maxHeartbeats 4000000 in
theorem law_c13 {p : Program} {l : Launch} {e : Env} {s : State} {m : MethodId} {below : List Frame} {meth : Method} {c : Code} {b L : Nat} {xs : Nat → Int32} {yx ym : Sy} (C : Lw p s m meth c b L xs yx ym) {Q : State → Prop} {x : Int32} (v1 : vp_in (x + 1) L) (v2 : vp_in (x + 2) L) (v3 : vp_in (x + 3) L) (v4 : vp_in (x + 4) L) (v5 : vp_in (x + 5) L) (v6 : vp_in (x + 6) L) {st mt : St} (hR : R st mt) {H : Heap} {locs : List Loc} {ls : Array Slot} (hG : gL yx ym st mt s H locs) (hl : lv_has ls 4 [(0, .ref b), (1, .ref (ad yx 0)), (2, .ref (ad ym 0)), (3, .int x)])
    (kk : ∀ (st' mt' : St) (H1 : Heap) (locs1 : List Loc), R st' mt' → gL yx ym st' mt' s H1 locs1 → W p l e room_1 s m #[Value.ref b] below meth c H1 locs1 600000 7302250 Q (F0 m 1642 ls [])) : W p l e room_1 s m #[Value.ref b] below meth c H locs 600000 7302250 Q (F0 m 625 ls []) := by
  obtain ⟨hx, hb, -⟩ := id C
  refine lv_aload_n hx hb dL_law_625 rfl (lv_at hl 1 rfl) ?_
  refine l_arg (j := 1) C hG v1 hl dL_law_626 dL_law_627 dL_law_628 (by decide) dL_law_629 dL_law_630 ?_
  refine l_arg (j := 2) C hG v2 hl dL_law_631 dL_law_632 dL_law_633 (by decide) dL_law_634 dL_law_635 ?_
  refine l_xi (As := [.int (xs (x + 1).toNatClampNeg), .int (xs (x + 2).toNatClampNeg)]) (rest := []) C hG (c_X8_then l yx (xs (x + 1).toNatClampNeg) (xs (x + 2).toNatClampNeg) st _ (sim_then hR (xs (x + 1).toNatClampNeg) (xs (x + 2).toNatClampNeg))) rfl qM_L_69 qI_X8_then qS_X8_then qN_X8 qC_X8_then hd_X8_then ⟨(Nat.le_of_ble_eq_true rfl), (Nat.le_of_ble_eq_true rfl)⟩ hl.1 rfl (Nat.le_of_ble_eq_true rfl) dL_law_636 (fun r st1 H locs hw hG => ?_)
  refine lv_aload_n hx hb dL_law_639 rfl (lv_at hl 2 rfl) ?_
  refine l_arg (j := 1) C hG v1 hl dL_law_640 dL_law_641 dL_law_642 (by decide) dL_law_643 dL_law_644 ?_
  refine l_arg (j := 2) C hG v2 hl dL_law_645 dL_law_646 dL_law_647 (by decide) dL_law_648 dL_law_649 ?_
  refine l_mi (As := [.int (xs (x + 1).toNatClampNeg), .int (xs (x + 2).toNatClampNeg)]) (rest := [.int r]) C hG (c_X9_then l ym (xs (x + 1).toNatClampNeg) (xs (x + 2).toNatClampNeg) mt _ hw) rfl qM_L_72 qI_X9_then qS_X9_then qN_X9 qC_X9_then hd_X9_then ⟨(Nat.le_of_ble_eq_true rfl), (Nat.le_of_ble_eq_true rfl)⟩ hl.1 rfl (Nat.le_of_ble_eq_true rfl) dL_law_650 (fun r2 mt1 H locs hw hG => ?_)
  obtain ⟨rfl, hR1⟩ := hw
  refine lv_icmp_eq (tgt := 1642) hx hb dL_law_653 (by decide) (fun _ => ?_) (fun h => absurd rfl h)
  exact kk st1 mt1 H locs hR1 hG
set_option maxRecDepth 100000 in
set_option maxHeartbeats 4000000 in
theorem law_c14 {p : Program} {l : Launch} {e : Env} {s : State} {m : MethodId} {below : List Frame} {meth : Method} {c : Code} {b L : Nat} {xs : Nat → Int32} {yx ym : Sy} (C : Lw p s m meth c b L xs yx ym) {Q : State → Prop} {x : Int32} (v1 : vp_in (x + 1) L) (v2 : vp_in (x + 2) L) (v3 : vp_in (x + 3) L) (v4 : vp_in (x + 4) L) (v5 : vp_in (x + 5) L) (v6 : vp_in (x + 6) L) {st mt : St} (hR : R st mt) {H : Heap} {locs : List Loc} {ls : Array Slot} (hG : gL yx ym st mt s H locs) (hl : lv_has ls 4 [(0, .ref b), (1, .ref (ad yx 0)), (2, .ref (ad ym 0)), (3, .int x)])
    (kk : ∀ (st' mt' : St) (H1 : Heap) (locs1 : List Loc), R st' mt' → gL yx ym st' mt' s H1 locs1 → W p l e room_1 s m #[Value.ref b] below meth c H1 locs1 600000 7302250 Q (F0 m 1642 ls [])) : W p l e room_1 s m #[Value.ref b] below meth c H locs 600000 7302250 Q (F0 m 658 ls []) := by
  obtain ⟨hx, hb, -⟩ := id C
  refine lv_aload_n hx hb dL_law_658 rfl (lv_at hl 1 rfl) ?_
  refine l_arg (j := 1) C hG v1 hl dL_law_659 dL_law_660 dL_law_661 (by decide) dL_law_662 dL_law_663 ?_
  refine l_arg (j := 2) C hG v2 hl dL_law_664 dL_law_665 dL_law_666 (by decide) dL_law_667 dL_law_668 ?_
  refine l_xi (As := [.int (xs (x + 1).toNatClampNeg), .int (xs (x + 2).toNatClampNeg)]) (rest := []) C hG (c_X8_when l yx (xs (x + 1).toNatClampNeg) (xs (x + 2).toNatClampNeg) st _ (sim_when hR (xs (x + 1).toNatClampNeg) (xs (x + 2).toNatClampNeg))) rfl qM_L_73 qI_X8_when qS_X8_when qN_X8 qC_X8_when hd_X8_when ⟨(Nat.le_of_ble_eq_true rfl), (Nat.le_of_ble_eq_true rfl)⟩ hl.1 rfl (Nat.le_of_ble_eq_true rfl) dL_law_669 (fun r st1 H locs hw hG => ?_)
  refine lv_aload_n hx hb dL_law_672 rfl (lv_at hl 2 rfl) ?_
  refine l_arg (j := 1) C hG v1 hl dL_law_673 dL_law_674 dL_law_675 (by decide) dL_law_676 dL_law_677 ?_
  refine l_arg (j := 2) C hG v2 hl dL_law_678 dL_law_679 dL_law_680 (by decide) dL_law_681 dL_law_682 ?_
  refine l_mi (As := [.int (xs (x + 1).toNatClampNeg), .int (xs (x + 2).toNatClampNeg)]) (rest := [.int r]) C hG (c_X9_when l ym (xs (x + 1).toNatClampNeg) (xs (x + 2).toNatClampNeg) mt _ hw) rfl qM_L_76 qI_X9_when qS_X9_when qN_X9 qC_X9_when hd_X9_when ⟨(Nat.le_of_ble_eq_true rfl), (Nat.le_of_ble_eq_true rfl)⟩ hl.1 rfl (Nat.le_of_ble_eq_true rfl) dL_law_683 (fun r2 mt1 H locs hw hG => ?_)
  obtain ⟨rfl, hR1⟩ := hw
  refine lv_icmp_eq (tgt := 1642) hx hb dL_law_686 (by decide) (fun _ => ?_) (fun h => absurd rfl h)
  exact kk st1 mt1 H locs hR1 hG
set_option maxRecDepth 100000 in
set_option maxHeartbeats 4000000 in
theorem law_c15 {p : Program} {l : Launch} {e : Env} {s : State} {m : MethodId} {below : List Frame} {meth : Method} {c : Code} {b L : Nat} {xs : Nat → Int32} {yx ym : Sy} (C : Lw p s m meth c b L xs yx ym) {Q : State → Prop} {x : Int32} (v1 : vp_in (x + 1) L) (v2 : vp_in (x + 2) L) (v3 : vp_in (x + 3) L) (v4 : vp_in (x + 4) L) (v5 : vp_in (x + 5) L) (v6 : vp_in (x + 6) L) {st mt : St} (hR : R st mt) {H : Heap} {locs : List Loc} {ls : Array Slot} (hG : gL yx ym st mt s H locs) (hl : lv_has ls 4 [(0, .ref b), (1, .ref (ad yx 0)), (2, .ref (ad ym 0)), (3, .int x)])
    (kk : ∀ (st' mt' : St) (H1 : Heap) (locs1 : List Loc), R st' mt' → gL yx ym st' mt' s H1 locs1 → W p l e room_1 s m #[Value.ref b] below meth c H1 locs1 600000 7302250 Q (F0 m 1642 ls [])) : W p l e room_1 s m #[Value.ref b] below meth c H locs 600000 7302250 Q (F0 m 691 ls []) := by
  obtain ⟨hx, hb, -⟩ := id C
  refine lv_aload_n hx hb dL_law_691 rfl (lv_at hl 1 rfl) ?_
  refine l_arg (j := 1) C hG v1 hl dL_law_692 dL_law_693 dL_law_694 (by decide) dL_law_695 dL_law_696 ?_
  refine l_arg (j := 2) C hG v2 hl dL_law_697 dL_law_698 dL_law_699 (by decide) dL_law_700 dL_law_701 ?_
  refine l_arg (j := 3) C hG v3 hl dL_law_702 dL_law_703 dL_law_704 (by decide) dL_law_705 dL_law_706 ?_
  refine l_xi (As := [.int (xs (x + 1).toNatClampNeg), .int (xs (x + 2).toNatClampNeg), .int (xs (x + 3).toNatClampNeg)]) (rest := []) C hG (c_X8_lasts l yx (xs (x + 1).toNatClampNeg) (xs (x + 2).toNatClampNeg) (xs (x + 3).toNatClampNeg) st _ (sim_lasts hR (xs (x + 1).toNatClampNeg) (xs (x + 2).toNatClampNeg) (xs (x + 3).toNatClampNeg))) rfl qM_L_77 qI_X8_lasts qS_X8_lasts qN_X8 qC_X8_lasts hd_X8_lasts ⟨(Nat.le_of_ble_eq_true rfl), (Nat.le_of_ble_eq_true rfl)⟩ hl.1 rfl (Nat.le_of_ble_eq_true rfl) dL_law_707 (fun r st1 H locs hw hG => ?_)
  refine lv_aload_n hx hb dL_law_710 rfl (lv_at hl 2 rfl) ?_
  refine l_arg (j := 1) C hG v1 hl dL_law_711 dL_law_712 dL_law_713 (by decide) dL_law_714 dL_law_715 ?_
  refine l_arg (j := 2) C hG v2 hl dL_law_716 dL_law_717 dL_law_718 (by decide) dL_law_719 dL_law_720 ?_
  refine l_arg (j := 3) C hG v3 hl dL_law_721 dL_law_722 dL_law_723 (by decide) dL_law_724 dL_law_725 ?_
  refine l_mi (As := [.int (xs (x + 1).toNatClampNeg), .int (xs (x + 2).toNatClampNeg), .int (xs (x + 3).toNatClampNeg)]) (rest := [.int r]) C hG (c_X9_lasts l ym (xs (x + 1).toNatClampNeg) (xs (x + 2).toNatClampNeg) (xs (x + 3).toNatClampNeg) mt _ hw) rfl qM_L_80 qI_X9_lasts qS_X9_lasts qN_X9 qC_X9_lasts hd_X9_lasts ⟨(Nat.le_of_ble_eq_true rfl), (Nat.le_of_ble_eq_true rfl)⟩ hl.1 rfl (Nat.le_of_ble_eq_true rfl) dL_law_726 (fun r2 mt1 H locs hw hG => ?_)
  obtain ⟨rfl, hR1⟩ := hw
  refine lv_icmp_eq (tgt := 1642) hx hb dL_law_729 (by decide) (fun _ => ?_) (fun h => absurd rfl h)
  exact kk st1 mt1 H locs hR1 hG
set_option maxRecDepth 100000 in
set_option maxHeartbeats 4000000 in
theorem law_c16 {p : Program} {l : Launch} {e : Env} {s : State} {m : MethodId} {below : List Frame} {meth : Method} {c : Code} {b L : Nat} {xs : Nat → Int32} {yx ym : Sy} (C : Lw p s m meth c b L xs yx ym) {Q : State → Prop} {x : Int32} (v1 : vp_in (x + 1) L) (v2 : vp_in (x + 2) L) (v3 : vp_in (x + 3) L) (v4 : vp_in (x + 4) L) (v5 : vp_in (x + 5) L) (v6 : vp_in (x + 6) L) {st mt : St} (hR : R st mt) {H : Heap} {locs : List Loc} {ls : Array Slot} (hG : gL yx ym st mt s H locs) (hl : lv_has ls 4 [(0, .ref b), (1, .ref (ad yx 0)), (2, .ref (ad ym 0)), (3, .int x)])
    (kk : ∀ (st' mt' : St) (H1 : Heap) (locs1 : List Loc), R st' mt' → gL yx ym st' mt' s H1 locs1 → W p l e room_1 s m #[Value.ref b] below meth c H1 locs1 600000 7302250 Q (F0 m 1642 ls [])) : W p l e room_1 s m #[Value.ref b] below meth c H locs 600000 7302250 Q (F0 m 734 ls []) := by
  obtain ⟨hx, hb, -⟩ := id C
  refine lv_aload_n hx hb dL_law_734 rfl (lv_at hl 1 rfl) ?_
  refine l_arg (j := 1) C hG v1 hl dL_law_735 dL_law_736 dL_law_737 (by decide) dL_law_738 dL_law_739 ?_
  refine l_xi (As := [.int (xs (x + 1).toNatClampNeg)]) (rest := []) C hG (c_X8_never l yx (xs (x + 1).toNatClampNeg) st _ (sim_never hR (xs (x + 1).toNatClampNeg))) rfl qM_L_81 qI_X8_never qS_X8_never qN_X8 qC_X8_never hd_X8_never ⟨(Nat.le_of_ble_eq_true rfl), (Nat.le_of_ble_eq_true rfl)⟩ hl.1 rfl (Nat.le_of_ble_eq_true rfl) dL_law_740 (fun r st1 H locs hw hG => ?_)
  refine lv_aload_n hx hb dL_law_743 rfl (lv_at hl 2 rfl) ?_
  refine l_arg (j := 1) C hG v1 hl dL_law_744 dL_law_745 dL_law_746 (by decide) dL_law_747 dL_law_748 ?_
  refine l_mi (As := [.int (xs (x + 1).toNatClampNeg)]) (rest := [.int r]) C hG (c_X9_never l ym (xs (x + 1).toNatClampNeg) mt _ hw) rfl qM_L_84 qI_X9_never qS_X9_never qN_X9 qC_X9_never hd_X9_never ⟨(Nat.le_of_ble_eq_true rfl), (Nat.le_of_ble_eq_true rfl)⟩ hl.1 rfl (Nat.le_of_ble_eq_true rfl) dL_law_749 (fun r2 mt1 H locs hw hG => ?_)
  obtain ⟨rfl, hR1⟩ := hw
  refine lv_icmp_eq (tgt := 1642) hx hb dL_law_752 (by decide) (fun _ => ?_) (fun h => absurd rfl h)
  exact kk st1 mt1 H locs hR1 hG
set_option maxRecDepth 100000 in
set_option maxHeartbeats 4000000 in
theorem law_c17 {p : Program} {l : Launch} {e : Env} {s : State} {m : MethodId} {below : List Frame} {meth : Method} {c : Code} {b L : Nat} {xs : Nat → Int32} {yx ym : Sy} (C : Lw p s m meth c b L xs yx ym) {Q : State → Prop} {x : Int32} (v1 : vp_in (x + 1) L) (v2 : vp_in (x + 2) L) (v3 : vp_in (x + 3) L) (v4 : vp_in (x + 4) L) (v5 : vp_in (x + 5) L) (v6 : vp_in (x + 6) L) {st mt : St} (hR : R st mt) {H : Heap} {locs : List Loc} {ls : Array Slot} (hG : gL yx ym st mt s H locs) (hl : lv_has ls 4 [(0, .ref b), (1, .ref (ad yx 0)), (2, .ref (ad ym 0)), (3, .int x)])
    (kk : ∀ (st' mt' : St) (H1 : Heap) (locs1 : List Loc), R st' mt' → gL yx ym st' mt' s H1 locs1 → W p l e room_1 s m #[Value.ref b] below meth c H1 locs1 600000 7302250 Q (F0 m 1642 ls [])) : W p l e room_1 s m #[Value.ref b] below meth c H locs 600000 7302250 Q (F0 m 757 ls []) := by
  obtain ⟨hx, hb, -⟩ := id C
  refine lv_aload_n hx hb dL_law_757 rfl (lv_at hl 1 rfl) ?_
  refine l_arg (j := 1) C hG v1 hl dL_law_758 dL_law_759 dL_law_760 (by decide) dL_law_761 dL_law_762 ?_
  refine l_arg (j := 2) C hG v2 hl dL_law_763 dL_law_764 dL_law_765 (by decide) dL_law_766 dL_law_767 ?_
  refine l_arg (j := 3) C hG v3 hl dL_law_768 dL_law_769 dL_law_770 (by decide) dL_law_771 dL_law_772 ?_
  refine l_xi (As := [.int (xs (x + 1).toNatClampNeg), .int (xs (x + 2).toNatClampNeg), .int (xs (x + 3).toNatClampNeg)]) (rest := []) C hG (c_X8_insult l yx (xs (x + 1).toNatClampNeg) (xs (x + 2).toNatClampNeg) (xs (x + 3).toNatClampNeg) st _ (sim_insult hR (xs (x + 1).toNatClampNeg) (xs (x + 2).toNatClampNeg) (xs (x + 3).toNatClampNeg))) rfl qM_L_85 qI_X8_insult qS_X8_insult qN_X8 qC_X8_insult hd_X8_insult ⟨(Nat.le_of_ble_eq_true rfl), (Nat.le_of_ble_eq_true rfl)⟩ hl.1 rfl (Nat.le_of_ble_eq_true rfl) dL_law_773 (fun r st1 H locs hw hG => ?_)
  refine lv_aload_n hx hb dL_law_776 rfl (lv_at hl 2 rfl) ?_
  refine l_arg (j := 1) C hG v1 hl dL_law_777 dL_law_778 dL_law_779 (by decide) dL_law_780 dL_law_781 ?_
  refine l_arg (j := 2) C hG v2 hl dL_law_782 dL_law_783 dL_law_784 (by decide) dL_law_785 dL_law_786 ?_
  refine l_arg (j := 3) C hG v3 hl dL_law_787 dL_law_788 dL_law_789 (by decide) dL_law_790 dL_law_791 ?_
  refine l_mi (As := [.int (xs (x + 1).toNatClampNeg), .int (xs (x + 2).toNatClampNeg), .int (xs (x + 3).toNatClampNeg)]) (rest := [.int r]) C hG (c_X9_insult l ym (xs (x + 1).toNatClampNeg) (xs (x + 2).toNatClampNeg) (xs (x + 3).toNatClampNeg) mt _ hw) rfl qM_L_88 qI_X9_insult qS_X9_insult qN_X9 qC_X9_insult hd_X9_insult ⟨(Nat.le_of_ble_eq_true rfl), (Nat.le_of_ble_eq_true rfl)⟩ hl.1 rfl (Nat.le_of_ble_eq_true rfl) dL_law_792 (fun r2 mt1 H locs hw hG => ?_)
  obtain ⟨rfl, hR1⟩ := hw
  refine lv_icmp_eq (tgt := 1642) hx hb dL_law_795 (by decide) (fun _ => ?_) (fun h => absurd rfl h)
  exact kk st1 mt1 H locs hR1 hG
set_option maxRecDepth 100000 in
set_option maxHeartbeats 4000000 in
theorem law_c18 {p : Program} {l : Launch} {e : Env} {s : State} {m : MethodId} {below : List Frame} {meth : Method} {c : Code} {b L : Nat} {xs : Nat → Int32} {yx ym : Sy} (C : Lw p s m meth c b L xs yx ym) {Q : State → Prop} {x : Int32} (v1 : vp_in (x + 1) L) (v2 : vp_in (x + 2) L) (v3 : vp_in (x + 3) L) (v4 : vp_in (x + 4) L) (v5 : vp_in (x + 5) L) (v6 : vp_in (x + 6) L) {st mt : St} (hR : R st mt) {H : Heap} {locs : List Loc} {ls : Array Slot} (hG : gL yx ym st mt s H locs) (hl : lv_has ls 4 [(0, .ref b), (1, .ref (ad yx 0)), (2, .ref (ad ym 0)), (3, .int x)])
    (kk : ∀ (st' mt' : St) (H1 : Heap) (locs1 : List Loc), R st' mt' → gL yx ym st' mt' s H1 locs1 → W p l e room_1 s m #[Value.ref b] below meth c H1 locs1 600000 7302250 Q (F0 m 1642 ls [])) : W p l e room_1 s m #[Value.ref b] below meth c H locs 600000 7302250 Q (F0 m 800 ls []) := by
  obtain ⟨hx, hb, -⟩ := id C
  refine lv_aload_n hx hb dL_law_800 rfl (lv_at hl 1 rfl) ?_
  refine l_arg (j := 1) C hG v1 hl dL_law_801 dL_law_802 dL_law_803 (by decide) dL_law_804 dL_law_805 ?_
  refine l_xi (As := [.int (xs (x + 1).toNatClampNeg)]) (rest := []) C hG (c_X8_send l yx (xs (x + 1).toNatClampNeg) st _ (sim_send hR (xs (x + 1).toNatClampNeg))) rfl qM_L_89 qI_X8_send qS_X8_send qN_X8 qC_X8_send hd_X8_send ⟨(Nat.le_of_ble_eq_true rfl), (Nat.le_of_ble_eq_true rfl)⟩ hl.1 rfl (Nat.le_of_ble_eq_true rfl) dL_law_806 (fun r st1 H locs hw hG => ?_)
  refine lv_aload_n hx hb dL_law_809 rfl (lv_at hl 2 rfl) ?_
  refine l_arg (j := 1) C hG v1 hl dL_law_810 dL_law_811 dL_law_812 (by decide) dL_law_813 dL_law_814 ?_
  refine l_mi (As := [.int (xs (x + 1).toNatClampNeg)]) (rest := [.int r]) C hG (c_X9_send l ym (xs (x + 1).toNatClampNeg) mt _ hw) rfl qM_L_92 qI_X9_send qS_X9_send qN_X9 qC_X9_send hd_X9_send ⟨(Nat.le_of_ble_eq_true rfl), (Nat.le_of_ble_eq_true rfl)⟩ hl.1 rfl (Nat.le_of_ble_eq_true rfl) dL_law_815 (fun r2 mt1 H locs hw hG => ?_)
  obtain ⟨rfl, hR1⟩ := hw
  refine lv_icmp_eq (tgt := 1642) hx hb dL_law_818 (by decide) (fun _ => ?_) (fun h => absurd rfl h)
  exact kk st1 mt1 H locs hR1 hG
set_option maxRecDepth 100000 in
set_option maxHeartbeats 4000000 in
theorem law_c19 {p : Program} {l : Launch} {e : Env} {s : State} {m : MethodId} {below : List Frame} {meth : Method} {c : Code} {b L : Nat} {xs : Nat → Int32} {yx ym : Sy} (C : Lw p s m meth c b L xs yx ym) {Q : State → Prop} {x : Int32} (v1 : vp_in (x + 1) L) (v2 : vp_in (x + 2) L) (v3 : vp_in (x + 3) L) (v4 : vp_in (x + 4) L) (v5 : vp_in (x + 5) L) (v6 : vp_in (x + 6) L) {st mt : St} (hR : R st mt) {H : Heap} {locs : List Loc} {ls : Array Slot} (hG : gL yx ym st mt s H locs) (hl : lv_has ls 4 [(0, .ref b), (1, .ref (ad yx 0)), (2, .ref (ad ym 0)), (3, .int x)])
    (kk : ∀ (st' mt' : St) (H1 : Heap) (locs1 : List Loc), R st' mt' → gL yx ym st' mt' s H1 locs1 → W p l e room_1 s m #[Value.ref b] below meth c H1 locs1 600000 7302250 Q (F0 m 1642 ls [])) : W p l e room_1 s m #[Value.ref b] below meth c H locs 600000 7302250 Q (F0 m 823 ls []) := by
  obtain ⟨hx, hb, -⟩ := id C
  refine lv_aload_n hx hb dL_law_823 rfl (lv_at hl 1 rfl) ?_
  refine l_arg (j := 1) C hG v1 hl dL_law_824 dL_law_825 dL_law_826 (by decide) dL_law_827 dL_law_828 ?_
  refine l_arg (j := 2) C hG v2 hl dL_law_829 dL_law_830 dL_law_831 (by decide) dL_law_832 dL_law_833 ?_
  refine l_arg (j := 3) C hG v3 hl dL_law_834 dL_law_835 dL_law_836 (by decide) dL_law_837 dL_law_838 ?_
  refine l_arg (j := 4) C hG v4 hl dL_law_839 dL_law_840 dL_law_841 (by decide) dL_law_842 dL_law_843 ?_
  refine l_arg (j := 5) C hG v5 hl dL_law_844 dL_law_845 dL_law_846 (by decide) dL_law_847 dL_law_848 ?_
  refine l_xi (As := [.int (xs (x + 1).toNatClampNeg), .int (xs (x + 2).toNatClampNeg), .int (xs (x + 3).toNatClampNeg), .int (xs (x + 4).toNatClampNeg), .int (xs (x + 5).toNatClampNeg)]) (rest := []) C hG (c_X8_places l yx (xs (x + 1).toNatClampNeg) (xs (x + 2).toNatClampNeg) (xs (x + 3).toNatClampNeg) (xs (x + 4).toNatClampNeg) (xs (x + 5).toNatClampNeg) st _ (sim_places hR (xs (x + 1).toNatClampNeg) (xs (x + 2).toNatClampNeg) (xs (x + 3).toNatClampNeg) (xs (x + 4).toNatClampNeg) (xs (x + 5).toNatClampNeg))) rfl qM_L_93 qI_X8_places qS_X8_places qN_X8 qC_X8_places hd_X8_places ⟨(Nat.le_of_ble_eq_true rfl), (Nat.le_of_ble_eq_true rfl)⟩ hl.1 rfl (Nat.le_of_ble_eq_true rfl) dL_law_849 (fun r st1 H locs hw hG => ?_)
  refine lv_aload_n hx hb dL_law_852 rfl (lv_at hl 2 rfl) ?_
  refine l_arg (j := 1) C hG v1 hl dL_law_853 dL_law_854 dL_law_855 (by decide) dL_law_856 dL_law_857 ?_
  refine l_arg (j := 2) C hG v2 hl dL_law_858 dL_law_859 dL_law_860 (by decide) dL_law_861 dL_law_862 ?_
  refine l_arg (j := 3) C hG v3 hl dL_law_863 dL_law_864 dL_law_865 (by decide) dL_law_866 dL_law_867 ?_
  refine l_arg (j := 4) C hG v4 hl dL_law_868 dL_law_869 dL_law_870 (by decide) dL_law_871 dL_law_872 ?_
  refine l_arg (j := 5) C hG v5 hl dL_law_873 dL_law_874 dL_law_875 (by decide) dL_law_876 dL_law_877 ?_
  refine l_mi (As := [.int (xs (x + 1).toNatClampNeg), .int (xs (x + 2).toNatClampNeg), .int (xs (x + 3).toNatClampNeg), .int (xs (x + 4).toNatClampNeg), .int (xs (x + 5).toNatClampNeg)]) (rest := [.int r]) C hG (c_X9_places l ym (xs (x + 1).toNatClampNeg) (xs (x + 2).toNatClampNeg) (xs (x + 3).toNatClampNeg) (xs (x + 4).toNatClampNeg) (xs (x + 5).toNatClampNeg) mt _ hw) rfl qM_L_97 qI_X9_places qS_X9_places qN_X9 qC_X9_places hd_X9_places ⟨(Nat.le_of_ble_eq_true rfl), (Nat.le_of_ble_eq_true rfl)⟩ hl.1 rfl (Nat.le_of_ble_eq_true rfl) dL_law_878 (fun r2 mt1 H locs hw hG => ?_)
  obtain ⟨rfl, hR1⟩ := hw
  refine lv_icmp_eq (tgt := 1642) hx hb dL_law_881 (by decide) (fun _ => ?_) (fun h => absurd rfl h)
  exact kk st1 mt1 H locs hR1 hG
set_option maxRecDepth 100000 in
set_option maxHeartbeats 4000000 in
theorem law_c20 {p : Program} {l : Launch} {e : Env} {s : State} {m : MethodId} {below : List Frame} {meth : Method} {c : Code} {b L : Nat} {xs : Nat → Int32} {yx ym : Sy} (C : Lw p s m meth c b L xs yx ym) {Q : State → Prop} {x : Int32} (v1 : vp_in (x + 1) L) (v2 : vp_in (x + 2) L) (v3 : vp_in (x + 3) L) (v4 : vp_in (x + 4) L) (v5 : vp_in (x + 5) L) (v6 : vp_in (x + 6) L) {st mt : St} (hR : R st mt) {H : Heap} {locs : List Loc} {ls : Array Slot} (hG : gL yx ym st mt s H locs) (hl : lv_has ls 4 [(0, .ref b), (1, .ref (ad yx 0)), (2, .ref (ad ym 0)), (3, .int x)])
    (kk : ∀ (st' mt' : St) (H1 : Heap) (locs1 : List Loc), R st' mt' → gL yx ym st' mt' s H1 locs1 → W p l e room_1 s m #[Value.ref b] below meth c H1 locs1 600000 7302250 Q (F0 m 1642 ls [])) : W p l e room_1 s m #[Value.ref b] below meth c H locs 600000 7302250 Q (F0 m 886 ls []) := by
  obtain ⟨hx, hb, -⟩ := id C
  refine lv_aload_n hx hb dL_law_886 rfl (lv_at hl 1 rfl) ?_
  refine l_arg (j := 1) C hG v1 hl dL_law_887 dL_law_888 dL_law_889 (by decide) dL_law_890 dL_law_891 ?_
  refine l_arg (j := 2) C hG v2 hl dL_law_892 dL_law_893 dL_law_894 (by decide) dL_law_895 dL_law_896 ?_
  refine l_xi (As := [.int (xs (x + 1).toNatClampNeg), .int (xs (x + 2).toNatClampNeg)]) (rest := []) C hG (c_X8_fewest l yx (xs (x + 1).toNatClampNeg) (xs (x + 2).toNatClampNeg) st _ (sim_fewest hR (xs (x + 1).toNatClampNeg) (xs (x + 2).toNatClampNeg))) rfl qM_L_98 qI_X8_fewest qS_X8_fewest qN_X8 qC_X8_fewest hd_X8_fewest ⟨(Nat.le_of_ble_eq_true rfl), (Nat.le_of_ble_eq_true rfl)⟩ hl.1 rfl (Nat.le_of_ble_eq_true rfl) dL_law_897 (fun r st1 H locs hw hG => ?_)
  refine lv_aload_n hx hb dL_law_900 rfl (lv_at hl 2 rfl) ?_
  refine l_arg (j := 1) C hG v1 hl dL_law_901 dL_law_902 dL_law_903 (by decide) dL_law_904 dL_law_905 ?_
  refine l_arg (j := 2) C hG v2 hl dL_law_906 dL_law_907 dL_law_908 (by decide) dL_law_909 dL_law_910 ?_
  refine l_mi (As := [.int (xs (x + 1).toNatClampNeg), .int (xs (x + 2).toNatClampNeg)]) (rest := [.int r]) C hG (c_X9_fewest l ym (xs (x + 1).toNatClampNeg) (xs (x + 2).toNatClampNeg) mt _ hw) rfl qM_L_101 qI_X9_fewest qS_X9_fewest qN_X9 qC_X9_fewest hd_X9_fewest ⟨(Nat.le_of_ble_eq_true rfl), (Nat.le_of_ble_eq_true rfl)⟩ hl.1 rfl (Nat.le_of_ble_eq_true rfl) dL_law_911 (fun r2 mt1 H locs hw hG => ?_)
  obtain ⟨rfl, hR1⟩ := hw
  refine lv_icmp_eq (tgt := 1642) hx hb dL_law_914 (by decide) (fun _ => ?_) (fun h => absurd rfl h)
  exact kk st1 mt1 H locs hR1 hG
set_option maxRecDepth 100000 in
set_option maxHeartbeats 4000000 in
theorem law_c21 {p : Program} {l : Launch} {e : Env} {s : State} {m : MethodId} {below : List Frame} {meth : Method} {c : Code} {b L : Nat} {xs : Nat → Int32} {yx ym : Sy} (C : Lw p s m meth c b L xs yx ym) {Q : State → Prop} {x : Int32} (v1 : vp_in (x + 1) L) (v2 : vp_in (x + 2) L) (v3 : vp_in (x + 3) L) (v4 : vp_in (x + 4) L) (v5 : vp_in (x + 5) L) (v6 : vp_in (x + 6) L) {st mt : St} (hR : R st mt) {H : Heap} {locs : List Loc} {ls : Array Slot} (hG : gL yx ym st mt s H locs) (hl : lv_has ls 4 [(0, .ref b), (1, .ref (ad yx 0)), (2, .ref (ad ym 0)), (3, .int x)])
    (kk : ∀ (st' mt' : St) (H1 : Heap) (locs1 : List Loc), R st' mt' → gL yx ym st' mt' s H1 locs1 → W p l e room_1 s m #[Value.ref b] below meth c H1 locs1 600000 7302250 Q (F0 m 1642 ls [])) : W p l e room_1 s m #[Value.ref b] below meth c H locs 600000 7302250 Q (F0 m 919 ls []) := by
  obtain ⟨hx, hb, -⟩ := id C
  refine lv_aload_n hx hb dL_law_919 rfl (lv_at hl 1 rfl) ?_
  refine l_arg (j := 1) C hG v1 hl dL_law_920 dL_law_921 dL_law_922 (by decide) dL_law_923 dL_law_924 ?_
  refine l_arg (j := 2) C hG v2 hl dL_law_925 dL_law_926 dL_law_927 (by decide) dL_law_928 dL_law_929 ?_
  refine l_xi (As := [.int (xs (x + 1).toNatClampNeg), .int (xs (x + 2).toNatClampNeg)]) (rest := []) C hG (c_X8_pay l yx (xs (x + 1).toNatClampNeg) (xs (x + 2).toNatClampNeg) st _ (sim_pay hR (xs (x + 1).toNatClampNeg) (xs (x + 2).toNatClampNeg))) rfl qM_L_102 qI_X8_pay qS_X8_pay qN_X8 qC_X8_pay hd_X8_pay ⟨(Nat.le_of_ble_eq_true rfl), (Nat.le_of_ble_eq_true rfl)⟩ hl.1 rfl (Nat.le_of_ble_eq_true rfl) dL_law_930 (fun r st1 H locs hw hG => ?_)
  refine lv_aload_n hx hb dL_law_933 rfl (lv_at hl 2 rfl) ?_
  refine l_arg (j := 1) C hG v1 hl dL_law_934 dL_law_935 dL_law_936 (by decide) dL_law_937 dL_law_938 ?_
  refine l_arg (j := 2) C hG v2 hl dL_law_939 dL_law_940 dL_law_941 (by decide) dL_law_942 dL_law_943 ?_
  refine l_mi (As := [.int (xs (x + 1).toNatClampNeg), .int (xs (x + 2).toNatClampNeg)]) (rest := [.int r]) C hG (c_X9_pay l ym (xs (x + 1).toNatClampNeg) (xs (x + 2).toNatClampNeg) mt _ hw) rfl qM_L_105 qI_X9_pay qS_X9_pay qN_X9 qC_X9_pay hd_X9_pay ⟨(Nat.le_of_ble_eq_true rfl), (Nat.le_of_ble_eq_true rfl)⟩ hl.1 rfl (Nat.le_of_ble_eq_true rfl) dL_law_944 (fun r2 mt1 H locs hw hG => ?_)
  obtain ⟨rfl, hR1⟩ := hw
  refine lv_icmp_eq (tgt := 1642) hx hb dL_law_947 (by decide) (fun _ => ?_) (fun h => absurd rfl h)
  exact kk st1 mt1 H locs hR1 hG
set_option maxRecDepth 100000 in
set_option maxHeartbeats 4000000 in
theorem law_c22 {p : Program} {l : Launch} {e : Env} {s : State} {m : MethodId} {below : List Frame} {meth : Method} {c : Code} {b L : Nat} {xs : Nat → Int32} {yx ym : Sy} (C : Lw p s m meth c b L xs yx ym) {Q : State → Prop} {x : Int32} (v1 : vp_in (x + 1) L) (v2 : vp_in (x + 2) L) (v3 : vp_in (x + 3) L) (v4 : vp_in (x + 4) L) (v5 : vp_in (x + 5) L) (v6 : vp_in (x + 6) L) {st mt : St} (hR : R st mt) {H : Heap} {locs : List Loc} {ls : Array Slot} (hG : gL yx ym st mt s H locs) (hl : lv_has ls 4 [(0, .ref b), (1, .ref (ad yx 0)), (2, .ref (ad ym 0)), (3, .int x)])
    (kk : ∀ (st' mt' : St) (H1 : Heap) (locs1 : List Loc), R st' mt' → gL yx ym st' mt' s H1 locs1 → W p l e room_1 s m #[Value.ref b] below meth c H1 locs1 600000 7302250 Q (F0 m 1642 ls [])) : W p l e room_1 s m #[Value.ref b] below meth c H locs 600000 7302250 Q (F0 m 952 ls []) := by
  obtain ⟨hx, hb, -⟩ := id C
  refine lv_aload_n hx hb dL_law_952 rfl (lv_at hl 1 rfl) ?_
  refine l_arg (j := 1) C hG v1 hl dL_law_953 dL_law_954 dL_law_955 (by decide) dL_law_956 dL_law_957 ?_
  refine l_xi (As := [.int (xs (x + 1).toNatClampNeg)]) (rest := []) C hG (c_X8_deepest l yx (xs (x + 1).toNatClampNeg) st _ (sim_deepest hR (xs (x + 1).toNatClampNeg))) rfl qM_L_106 qI_X8_deepest qS_X8_deepest qN_X8 qC_X8_deepest hd_X8_deepest ⟨(Nat.le_of_ble_eq_true rfl), (Nat.le_of_ble_eq_true rfl)⟩ hl.1 rfl (Nat.le_of_ble_eq_true rfl) dL_law_958 (fun r st1 H locs hw hG => ?_)
  refine lv_aload_n hx hb dL_law_961 rfl (lv_at hl 2 rfl) ?_
  refine l_arg (j := 1) C hG v1 hl dL_law_962 dL_law_963 dL_law_964 (by decide) dL_law_965 dL_law_966 ?_
  refine l_mi (As := [.int (xs (x + 1).toNatClampNeg)]) (rest := [.int r]) C hG (c_X9_deepest l ym (xs (x + 1).toNatClampNeg) mt _ hw) rfl qM_L_109 qI_X9_deepest qS_X9_deepest qN_X9 qC_X9_deepest hd_X9_deepest ⟨(Nat.le_of_ble_eq_true rfl), (Nat.le_of_ble_eq_true rfl)⟩ hl.1 rfl (Nat.le_of_ble_eq_true rfl) dL_law_967 (fun r2 mt1 H locs hw hG => ?_)
  obtain ⟨rfl, hR1⟩ := hw
  refine lv_icmp_eq (tgt := 1642) hx hb dL_law_970 (by decide) (fun _ => ?_) (fun h => absurd rfl h)
  exact kk st1 mt1 H locs hR1 hG
set_option maxRecDepth 100000 in
set_option maxHeartbeats 4000000 in
theorem law_c23 {p : Program} {l : Launch} {e : Env} {s : State} {m : MethodId} {below : List Frame} {meth : Method} {c : Code} {b L : Nat} {xs : Nat → Int32} {yx ym : Sy} (C : Lw p s m meth c b L xs yx ym) {Q : State → Prop} {x : Int32} (v1 : vp_in (x + 1) L) (v2 : vp_in (x + 2) L) (v3 : vp_in (x + 3) L) (v4 : vp_in (x + 4) L) (v5 : vp_in (x + 5) L) (v6 : vp_in (x + 6) L) {st mt : St} (hR : R st mt) {H : Heap} {locs : List Loc} {ls : Array Slot} (hG : gL yx ym st mt s H locs) (hl : lv_has ls 4 [(0, .ref b), (1, .ref (ad yx 0)), (2, .ref (ad ym 0)), (3, .int x)])
    (kk : ∀ (st' mt' : St) (H1 : Heap) (locs1 : List Loc), R st' mt' → gL yx ym st' mt' s H1 locs1 → W p l e room_1 s m #[Value.ref b] below meth c H1 locs1 600000 7302250 Q (F0 m 1642 ls [])) : W p l e room_1 s m #[Value.ref b] below meth c H locs 600000 7302250 Q (F0 m 975 ls []) := by
  obtain ⟨hx, hb, -⟩ := id C
  refine lv_aload_n hx hb dL_law_975 rfl (lv_at hl 1 rfl) ?_
  refine l_arg (j := 1) C hG v1 hl dL_law_976 dL_law_977 dL_law_978 (by decide) dL_law_979 dL_law_980 ?_
  refine l_xi (As := [.int (xs (x + 1).toNatClampNeg)]) (rest := []) C hG (c_X8_pairs l yx (xs (x + 1).toNatClampNeg) st _ (sim_pairs hR (xs (x + 1).toNatClampNeg))) rfl qM_L_110 qI_X8_pairs qS_X8_pairs qN_X8 qC_X8_pairs hd_X8_pairs ⟨(Nat.le_of_ble_eq_true rfl), (Nat.le_of_ble_eq_true rfl)⟩ hl.1 rfl (Nat.le_of_ble_eq_true rfl) dL_law_981 (fun r st1 H locs hw hG => ?_)
  refine lv_aload_n hx hb dL_law_984 rfl (lv_at hl 2 rfl) ?_
  refine l_arg (j := 1) C hG v1 hl dL_law_985 dL_law_986 dL_law_987 (by decide) dL_law_988 dL_law_989 ?_
  refine l_mi (As := [.int (xs (x + 1).toNatClampNeg)]) (rest := [.int r]) C hG (c_X9_pairs l ym (xs (x + 1).toNatClampNeg) mt _ hw) rfl qM_L_113 qI_X9_pairs qS_X9_pairs qN_X9 qC_X9_pairs hd_X9_pairs ⟨(Nat.le_of_ble_eq_true rfl), (Nat.le_of_ble_eq_true rfl)⟩ hl.1 rfl (Nat.le_of_ble_eq_true rfl) dL_law_990 (fun r2 mt1 H locs hw hG => ?_)
  obtain ⟨rfl, hR1⟩ := hw
  refine lv_icmp_eq (tgt := 1642) hx hb dL_law_993 (by decide) (fun _ => ?_) (fun h => absurd rfl h)
  exact kk st1 mt1 H locs hR1 hG
set_option maxRecDepth 100000 in
set_option maxHeartbeats 4000000 in
theorem law_c24 {p : Program} {l : Launch} {e : Env} {s : State} {m : MethodId} {below : List Frame} {meth : Method} {c : Code} {b L : Nat} {xs : Nat → Int32} {yx ym : Sy} (C : Lw p s m meth c b L xs yx ym) {Q : State → Prop} {x : Int32} (v1 : vp_in (x + 1) L) (v2 : vp_in (x + 2) L) (v3 : vp_in (x + 3) L) (v4 : vp_in (x + 4) L) (v5 : vp_in (x + 5) L) (v6 : vp_in (x + 6) L) {st mt : St} (hR : R st mt) {H : Heap} {locs : List Loc} {ls : Array Slot} (hG : gL yx ym st mt s H locs) (hl : lv_has ls 4 [(0, .ref b), (1, .ref (ad yx 0)), (2, .ref (ad ym 0)), (3, .int x)])
    (kk : ∀ (st' mt' : St) (H1 : Heap) (locs1 : List Loc), R st' mt' → gL yx ym st' mt' s H1 locs1 → W p l e room_1 s m #[Value.ref b] below meth c H1 locs1 600000 7302250 Q (F0 m 1642 ls [])) : W p l e room_1 s m #[Value.ref b] below meth c H locs 600000 7302250 Q (F0 m 998 ls []) := by
  obtain ⟨hx, hb, -⟩ := id C
  refine lv_aload_n hx hb dL_law_998 rfl (lv_at hl 1 rfl) ?_
  refine l_arg (j := 1) C hG v1 hl dL_law_999 dL_law_1000 dL_law_1001 (by decide) dL_law_1002 dL_law_1003 ?_
  refine l_xi (As := [.int (xs (x + 1).toNatClampNeg)]) (rest := []) C hG (c_X8_worst l yx (xs (x + 1).toNatClampNeg) st _ (sim_worst hR (xs (x + 1).toNatClampNeg))) rfl qM_L_114 qI_X8_worst qS_X8_worst qN_X8 qC_X8_worst hd_X8_worst ⟨(Nat.le_of_ble_eq_true rfl), (Nat.le_of_ble_eq_true rfl)⟩ hl.1 rfl (Nat.le_of_ble_eq_true rfl) dL_law_1004 (fun r st1 H locs hw hG => ?_)
  refine lv_aload_n hx hb dL_law_1007 rfl (lv_at hl 2 rfl) ?_
  refine l_arg (j := 1) C hG v1 hl dL_law_1008 dL_law_1009 dL_law_1010 (by decide) dL_law_1011 dL_law_1012 ?_
  refine l_mi (As := [.int (xs (x + 1).toNatClampNeg)]) (rest := [.int r]) C hG (c_X9_worst l ym (xs (x + 1).toNatClampNeg) mt _ hw) rfl qM_L_117 qI_X9_worst qS_X9_worst qN_X9 qC_X9_worst hd_X9_worst ⟨(Nat.le_of_ble_eq_true rfl), (Nat.le_of_ble_eq_true rfl)⟩ hl.1 rfl (Nat.le_of_ble_eq_true rfl) dL_law_1013 (fun r2 mt1 H locs hw hG => ?_)
  obtain ⟨rfl, hR1⟩ := hw
  refine lv_icmp_eq (tgt := 1642) hx hb dL_law_1016 (by decide) (fun _ => ?_) (fun h => absurd rfl h)
  exact kk st1 mt1 H locs hR1 hG
set_option maxRecDepth 100000 in
set_option maxHeartbeats 4000000 in
theorem law_c25 {p : Program} {l : Launch} {e : Env} {s : State} {m : MethodId} {below : List Frame} {meth : Method} {c : Code} {b L : Nat} {xs : Nat → Int32} {yx ym : Sy} (C : Lw p s m meth c b L xs yx ym) {Q : State → Prop} {x : Int32} (v1 : vp_in (x + 1) L) (v2 : vp_in (x + 2) L) (v3 : vp_in (x + 3) L) (v4 : vp_in (x + 4) L) (v5 : vp_in (x + 5) L) (v6 : vp_in (x + 6) L) {st mt : St} (hR : R st mt) {H : Heap} {locs : List Loc} {ls : Array Slot} (hG : gL yx ym st mt s H locs) (hl : lv_has ls 4 [(0, .ref b), (1, .ref (ad yx 0)), (2, .ref (ad ym 0)), (3, .int x)])
    (kk : ∀ (st' mt' : St) (H1 : Heap) (locs1 : List Loc), R st' mt' → gL yx ym st' mt' s H1 locs1 → W p l e room_1 s m #[Value.ref b] below meth c H1 locs1 600000 7302250 Q (F0 m 1642 ls [])) : W p l e room_1 s m #[Value.ref b] below meth c H locs 600000 7302250 Q (F0 m 1021 ls []) := by
  obtain ⟨hx, hb, -⟩ := id C
  refine lv_aload_n hx hb dL_law_1021 rfl (lv_at hl 1 rfl) ?_
  refine l_arg (j := 1) C hG v1 hl dL_law_1022 dL_law_1023 dL_law_1024 (by decide) dL_law_1025 dL_law_1026 ?_
  refine l_arg (j := 2) C hG v2 hl dL_law_1027 dL_law_1028 dL_law_1029 (by decide) dL_law_1030 dL_law_1031 ?_
  refine l_arg (j := 3) C hG v3 hl dL_law_1032 dL_law_1033 dL_law_1034 (by decide) dL_law_1035 dL_law_1036 ?_
  refine l_xi (As := [.int (xs (x + 1).toNatClampNeg), .int (xs (x + 2).toNatClampNeg), .int (xs (x + 3).toNatClampNeg)]) (rest := []) C hG (c_X8_whoHates l yx (xs (x + 1).toNatClampNeg) (xs (x + 2).toNatClampNeg) (xs (x + 3).toNatClampNeg) st _ (sim_whoHates hR (xs (x + 1).toNatClampNeg) (xs (x + 2).toNatClampNeg) (xs (x + 3).toNatClampNeg))) rfl qM_L_118 qI_X8_whoHates qS_X8_whoHates qN_X8 qC_X8_whoHates hd_X8_whoHates ⟨(Nat.le_of_ble_eq_true rfl), (Nat.le_of_ble_eq_true rfl)⟩ hl.1 rfl (Nat.le_of_ble_eq_true rfl) dL_law_1037 (fun r st1 H locs hw hG => ?_)
  refine lv_aload_n hx hb dL_law_1040 rfl (lv_at hl 2 rfl) ?_
  refine l_arg (j := 1) C hG v1 hl dL_law_1041 dL_law_1042 dL_law_1043 (by decide) dL_law_1044 dL_law_1045 ?_
  refine l_arg (j := 2) C hG v2 hl dL_law_1046 dL_law_1047 dL_law_1048 (by decide) dL_law_1049 dL_law_1050 ?_
  refine l_arg (j := 3) C hG v3 hl dL_law_1051 dL_law_1052 dL_law_1053 (by decide) dL_law_1054 dL_law_1055 ?_
  refine l_mi (As := [.int (xs (x + 1).toNatClampNeg), .int (xs (x + 2).toNatClampNeg), .int (xs (x + 3).toNatClampNeg)]) (rest := [.int r]) C hG (c_X9_whoHates l ym (xs (x + 1).toNatClampNeg) (xs (x + 2).toNatClampNeg) (xs (x + 3).toNatClampNeg) mt _ hw) rfl qM_L_121 qI_X9_whoHates qS_X9_whoHates qN_X9 qC_X9_whoHates hd_X9_whoHates ⟨(Nat.le_of_ble_eq_true rfl), (Nat.le_of_ble_eq_true rfl)⟩ hl.1 rfl (Nat.le_of_ble_eq_true rfl) dL_law_1056 (fun r2 mt1 H locs hw hG => ?_)
  obtain ⟨rfl, hR1⟩ := hw
  refine lv_icmp_eq (tgt := 1642) hx hb dL_law_1059 (by decide) (fun _ => ?_) (fun h => absurd rfl h)
  exact kk st1 mt1 H locs hR1 hG
set_option maxRecDepth 100000 in
set_option maxHeartbeats 4000000 in
theorem law_c26 {p : Program} {l : Launch} {e : Env} {s : State} {m : MethodId} {below : List Frame} {meth : Method} {c : Code} {b L : Nat} {xs : Nat → Int32} {yx ym : Sy} (C : Lw p s m meth c b L xs yx ym) {Q : State → Prop} {x : Int32} (v1 : vp_in (x + 1) L) (v2 : vp_in (x + 2) L) (v3 : vp_in (x + 3) L) (v4 : vp_in (x + 4) L) (v5 : vp_in (x + 5) L) (v6 : vp_in (x + 6) L) {st mt : St} (hR : R st mt) {H : Heap} {locs : List Loc} {ls : Array Slot} (hG : gL yx ym st mt s H locs) (hl : lv_has ls 4 [(0, .ref b), (1, .ref (ad yx 0)), (2, .ref (ad ym 0)), (3, .int x)])
    (kk : ∀ (st' mt' : St) (H1 : Heap) (locs1 : List Loc), R st' mt' → gL yx ym st' mt' s H1 locs1 → W p l e room_1 s m #[Value.ref b] below meth c H1 locs1 600000 7302250 Q (F0 m 1642 ls [])) : W p l e room_1 s m #[Value.ref b] below meth c H locs 600000 7302250 Q (F0 m 1064 ls []) := by
  obtain ⟨hx, hb, -⟩ := id C
  refine lv_aload_n hx hb dL_law_1064 rfl (lv_at hl 1 rfl) ?_
  refine l_arg (j := 1) C hG v1 hl dL_law_1065 dL_law_1066 dL_law_1067 (by decide) dL_law_1068 dL_law_1069 ?_
  refine l_arg (j := 2) C hG v2 hl dL_law_1070 dL_law_1071 dL_law_1072 (by decide) dL_law_1073 dL_law_1074 ?_
  refine l_arg (j := 3) C hG v3 hl dL_law_1075 dL_law_1076 dL_law_1077 (by decide) dL_law_1078 dL_law_1079 ?_
  refine l_xi (As := [.int (xs (x + 1).toNatClampNeg), .int (xs (x + 2).toNatClampNeg), .int (xs (x + 3).toNatClampNeg)]) (rest := []) C hG (c_X8_whatKind l yx (xs (x + 1).toNatClampNeg) (xs (x + 2).toNatClampNeg) (xs (x + 3).toNatClampNeg) st _ (sim_whatKind hR (xs (x + 1).toNatClampNeg) (xs (x + 2).toNatClampNeg) (xs (x + 3).toNatClampNeg))) rfl qM_L_122 qI_X8_whatKind qS_X8_whatKind qN_X8 qC_X8_whatKind hd_X8_whatKind ⟨(Nat.le_of_ble_eq_true rfl), (Nat.le_of_ble_eq_true rfl)⟩ hl.1 rfl (Nat.le_of_ble_eq_true rfl) dL_law_1080 (fun r st1 H locs hw hG => ?_)
  refine lv_aload_n hx hb dL_law_1083 rfl (lv_at hl 2 rfl) ?_
  refine l_arg (j := 1) C hG v1 hl dL_law_1084 dL_law_1085 dL_law_1086 (by decide) dL_law_1087 dL_law_1088 ?_
  refine l_arg (j := 2) C hG v2 hl dL_law_1089 dL_law_1090 dL_law_1091 (by decide) dL_law_1092 dL_law_1093 ?_
  refine l_arg (j := 3) C hG v3 hl dL_law_1094 dL_law_1095 dL_law_1096 (by decide) dL_law_1097 dL_law_1098 ?_
  refine l_mi (As := [.int (xs (x + 1).toNatClampNeg), .int (xs (x + 2).toNatClampNeg), .int (xs (x + 3).toNatClampNeg)]) (rest := [.int r]) C hG (c_X9_whatKind l ym (xs (x + 1).toNatClampNeg) (xs (x + 2).toNatClampNeg) (xs (x + 3).toNatClampNeg) mt _ hw) rfl qM_L_125 qI_X9_whatKind qS_X9_whatKind qN_X9 qC_X9_whatKind hd_X9_whatKind ⟨(Nat.le_of_ble_eq_true rfl), (Nat.le_of_ble_eq_true rfl)⟩ hl.1 rfl (Nat.le_of_ble_eq_true rfl) dL_law_1099 (fun r2 mt1 H locs hw hG => ?_)
  obtain ⟨rfl, hR1⟩ := hw
  refine lv_icmp_eq (tgt := 1642) hx hb dL_law_1102 (by decide) (fun _ => ?_) (fun h => absurd rfl h)
  exact kk st1 mt1 H locs hR1 hG
set_option maxRecDepth 100000 in
set_option maxHeartbeats 4000000 in
theorem law_c27 {p : Program} {l : Launch} {e : Env} {s : State} {m : MethodId} {below : List Frame} {meth : Method} {c : Code} {b L : Nat} {xs : Nat → Int32} {yx ym : Sy} (C : Lw p s m meth c b L xs yx ym) {Q : State → Prop} {x : Int32} (v1 : vp_in (x + 1) L) (v2 : vp_in (x + 2) L) (v3 : vp_in (x + 3) L) (v4 : vp_in (x + 4) L) (v5 : vp_in (x + 5) L) (v6 : vp_in (x + 6) L) {st mt : St} (hR : R st mt) {H : Heap} {locs : List Loc} {ls : Array Slot} (hG : gL yx ym st mt s H locs) (hl : lv_has ls 4 [(0, .ref b), (1, .ref (ad yx 0)), (2, .ref (ad ym 0)), (3, .int x)])
    (kk : ∀ (st' mt' : St) (H1 : Heap) (locs1 : List Loc), R st' mt' → gL yx ym st' mt' s H1 locs1 → W p l e room_1 s m #[Value.ref b] below meth c H1 locs1 600000 7302250 Q (F0 m 1642 ls [])) : W p l e room_1 s m #[Value.ref b] below meth c H locs 600000 7302250 Q (F0 m 1107 ls []) := by
  obtain ⟨hx, hb, -⟩ := id C
  refine lv_aload_n hx hb dL_law_1107 rfl (lv_at hl 1 rfl) ?_
  refine l_arg (j := 1) C hG v1 hl dL_law_1108 dL_law_1109 dL_law_1110 (by decide) dL_law_1111 dL_law_1112 ?_
  refine l_arg (j := 2) C hG v2 hl dL_law_1113 dL_law_1114 dL_law_1115 (by decide) dL_law_1116 dL_law_1117 ?_
  refine l_arg (j := 3) C hG v3 hl dL_law_1118 dL_law_1119 dL_law_1120 (by decide) dL_law_1121 dL_law_1122 ?_
  refine l_arg (j := 4) C hG v4 hl dL_law_1123 dL_law_1124 dL_law_1125 (by decide) dL_law_1126 dL_law_1127 ?_
  refine l_xl (As := [.int (xs (x + 1).toNatClampNeg), .int (xs (x + 2).toNatClampNeg), .int (xs (x + 3).toNatClampNeg), .int (xs (x + 4).toNatClampNeg)]) (rest := []) C hG (c_X8_jug l yx (xs (x + 1).toNatClampNeg) (xs (x + 2).toNatClampNeg) (xs (x + 3).toNatClampNeg) (xs (x + 4).toNatClampNeg) st _ (sim_jug hR (xs (x + 1).toNatClampNeg) (xs (x + 2).toNatClampNeg) (xs (x + 3).toNatClampNeg) (xs (x + 4).toNatClampNeg))) rfl qM_L_126 qI_X8_jug qS_X8_jug qN_X8 qC_X8_jug hd_X8_jug ⟨(Nat.le_of_ble_eq_true rfl), (Nat.le_of_ble_eq_true rfl)⟩ hl.1 rfl (Nat.le_of_ble_eq_true rfl) dL_law_1128 (fun r st1 H locs hw hG => ?_)
  refine lv_aload_n hx hb dL_law_1131 rfl (lv_at hl 2 rfl) ?_
  refine l_arg (j := 1) C hG v1 hl dL_law_1132 dL_law_1133 dL_law_1134 (by decide) dL_law_1135 dL_law_1136 ?_
  refine l_arg (j := 2) C hG v2 hl dL_law_1137 dL_law_1138 dL_law_1139 (by decide) dL_law_1140 dL_law_1141 ?_
  refine l_arg (j := 3) C hG v3 hl dL_law_1142 dL_law_1143 dL_law_1144 (by decide) dL_law_1145 dL_law_1146 ?_
  refine l_arg (j := 4) C hG v4 hl dL_law_1147 dL_law_1148 dL_law_1149 (by decide) dL_law_1150 dL_law_1151 ?_
  refine l_ml (As := [.int (xs (x + 1).toNatClampNeg), .int (xs (x + 2).toNatClampNeg), .int (xs (x + 3).toNatClampNeg), .int (xs (x + 4).toNatClampNeg)]) (rest := [.long r]) C hG (c_X9_jug l ym (xs (x + 1).toNatClampNeg) (xs (x + 2).toNatClampNeg) (xs (x + 3).toNatClampNeg) (xs (x + 4).toNatClampNeg) mt _ hw) rfl qM_L_130 qI_X9_jug qS_X9_jug qN_X9 qC_X9_jug hd_X9_jug ⟨(Nat.le_of_ble_eq_true rfl), (Nat.le_of_ble_eq_true rfl)⟩ hl.1 rfl (Nat.le_of_ble_eq_true rfl) dL_law_1152 (fun r2 mt1 H locs hw hG => ?_)
  obtain ⟨rfl, hR1⟩ := hw
  refine W.lcmp hx hb dL_law_1155 ?_
  rw [lg_cmp_rf]
  refine lv_if_eq (tgt := 1642) hx hb dL_law_1156 (by decide) (fun _ => ?_) (fun h => absurd rfl h)
  exact kk st1 mt1 H locs hR1 hG
set_option maxRecDepth 100000 in
set_option maxHeartbeats 4000000 in
theorem law_c28 {p : Program} {l : Launch} {e : Env} {s : State} {m : MethodId} {below : List Frame} {meth : Method} {c : Code} {b L : Nat} {xs : Nat → Int32} {yx ym : Sy} (C : Lw p s m meth c b L xs yx ym) {Q : State → Prop} {x : Int32} (v1 : vp_in (x + 1) L) (v2 : vp_in (x + 2) L) (v3 : vp_in (x + 3) L) (v4 : vp_in (x + 4) L) (v5 : vp_in (x + 5) L) (v6 : vp_in (x + 6) L) {st mt : St} (hR : R st mt) {H : Heap} {locs : List Loc} {ls : Array Slot} (hG : gL yx ym st mt s H locs) (hl : lv_has ls 4 [(0, .ref b), (1, .ref (ad yx 0)), (2, .ref (ad ym 0)), (3, .int x)])
    (kk : ∀ (st' mt' : St) (H1 : Heap) (locs1 : List Loc), R st' mt' → gL yx ym st' mt' s H1 locs1 → W p l e room_1 s m #[Value.ref b] below meth c H1 locs1 600000 7302250 Q (F0 m 1642 ls [])) : W p l e room_1 s m #[Value.ref b] below meth c H locs 600000 7302250 Q (F0 m 1161 ls []) := by
  obtain ⟨hx, hb, -⟩ := id C
  refine lv_aload_n hx hb dL_law_1161 rfl (lv_at hl 1 rfl) ?_
  refine l_arg (j := 1) C hG v1 hl dL_law_1162 dL_law_1163 dL_law_1164 (by decide) dL_law_1165 dL_law_1166 ?_
  refine l_arg (j := 2) C hG v2 hl dL_law_1167 dL_law_1168 dL_law_1169 (by decide) dL_law_1170 dL_law_1171 ?_
  refine l_xi (As := [.int (xs (x + 1).toNatClampNeg), .int (xs (x + 2).toNatClampNeg)]) (rest := []) C hG (c_X8_two l yx (xs (x + 1).toNatClampNeg) (xs (x + 2).toNatClampNeg) st _ (sim_two hR (xs (x + 1).toNatClampNeg) (xs (x + 2).toNatClampNeg))) rfl qM_L_131 qI_X8_two qS_X8_two qN_X8 qC_X8_two hd_X8_two ⟨(Nat.le_of_ble_eq_true rfl), (Nat.le_of_ble_eq_true rfl)⟩ hl.1 rfl (Nat.le_of_ble_eq_true rfl) dL_law_1172 (fun r st1 H locs hw hG => ?_)
  refine lv_aload_n hx hb dL_law_1175 rfl (lv_at hl 2 rfl) ?_
  refine l_arg (j := 1) C hG v1 hl dL_law_1176 dL_law_1177 dL_law_1178 (by decide) dL_law_1179 dL_law_1180 ?_
  refine l_arg (j := 2) C hG v2 hl dL_law_1181 dL_law_1182 dL_law_1183 (by decide) dL_law_1184 dL_law_1185 ?_
  refine l_mi (As := [.int (xs (x + 1).toNatClampNeg), .int (xs (x + 2).toNatClampNeg)]) (rest := [.int r]) C hG (c_X9_two l ym (xs (x + 1).toNatClampNeg) (xs (x + 2).toNatClampNeg) mt _ hw) rfl qM_L_134 qI_X9_two qS_X9_two qN_X9 qC_X9_two hd_X9_two ⟨(Nat.le_of_ble_eq_true rfl), (Nat.le_of_ble_eq_true rfl)⟩ hl.1 rfl (Nat.le_of_ble_eq_true rfl) dL_law_1186 (fun r2 mt1 H locs hw hG => ?_)
  obtain ⟨rfl, hR1⟩ := hw
  refine lv_icmp_eq (tgt := 1642) hx hb dL_law_1189 (by decide) (fun _ => ?_) (fun h => absurd rfl h)
  exact kk st1 mt1 H locs hR1 hG
set_option maxRecDepth 100000 in
set_option maxHeartbeats 4000000 in
theorem law_c29 {p : Program} {l : Launch} {e : Env} {s : State} {m : MethodId} {below : List Frame} {meth : Method} {c : Code} {b L : Nat} {xs : Nat → Int32} {yx ym : Sy} (C : Lw p s m meth c b L xs yx ym) {Q : State → Prop} {x : Int32} (v1 : vp_in (x + 1) L) (v2 : vp_in (x + 2) L) (v3 : vp_in (x + 3) L) (v4 : vp_in (x + 4) L) (v5 : vp_in (x + 5) L) (v6 : vp_in (x + 6) L) {st mt : St} (hR : R st mt) {H : Heap} {locs : List Loc} {ls : Array Slot} (hG : gL yx ym st mt s H locs) (hl : lv_has ls 4 [(0, .ref b), (1, .ref (ad yx 0)), (2, .ref (ad ym 0)), (3, .int x)])
    (kk : ∀ (st' mt' : St) (H1 : Heap) (locs1 : List Loc), R st' mt' → gL yx ym st' mt' s H1 locs1 → W p l e room_1 s m #[Value.ref b] below meth c H1 locs1 600000 7302250 Q (F0 m 1642 ls [])) : W p l e room_1 s m #[Value.ref b] below meth c H locs 600000 7302250 Q (F0 m 1194 ls []) := by
  obtain ⟨hx, hb, -⟩ := id C
  refine lv_aload_n hx hb dL_law_1194 rfl (lv_at hl 1 rfl) ?_
  refine l_arg (j := 1) C hG v1 hl dL_law_1195 dL_law_1196 dL_law_1197 (by decide) dL_law_1198 dL_law_1199 ?_
  refine l_arg (j := 2) C hG v2 hl dL_law_1200 dL_law_1201 dL_law_1202 (by decide) dL_law_1203 dL_law_1204 ?_
  refine l_arg (j := 3) C hG v3 hl dL_law_1205 dL_law_1206 dL_law_1207 (by decide) dL_law_1208 dL_law_1209 ?_
  refine l_arg (j := 4) C hG v4 hl dL_law_1210 dL_law_1211 dL_law_1212 (by decide) dL_law_1213 dL_law_1214 ?_
  refine l_arg (j := 5) C hG v5 hl dL_law_1215 dL_law_1216 dL_law_1217 (by decide) dL_law_1218 dL_law_1219 ?_
  refine l_arg2 (j := 6) C hG v6 hl dL_law_1220 dL_law_1221 dL_law_1222 (by decide) dL_law_1224 dL_law_1225 ?_
  refine l_xl (As := [.int (xs (x + 1).toNatClampNeg), .int (xs (x + 2).toNatClampNeg), .int (xs (x + 3).toNatClampNeg), .int (xs (x + 4).toNatClampNeg), .int (xs (x + 5).toNatClampNeg), .int (xs (x + 6).toNatClampNeg)]) (rest := []) C hG (c_X8_meetings l yx (xs (x + 1).toNatClampNeg) (xs (x + 2).toNatClampNeg) (xs (x + 3).toNatClampNeg) (xs (x + 4).toNatClampNeg) (xs (x + 5).toNatClampNeg) (xs (x + 6).toNatClampNeg) st _ (sim_meetings hR (xs (x + 1).toNatClampNeg) (xs (x + 2).toNatClampNeg) (xs (x + 3).toNatClampNeg) (xs (x + 4).toNatClampNeg) (xs (x + 5).toNatClampNeg) (xs (x + 6).toNatClampNeg))) rfl qM_L_135 qI_X8_meetings qS_X8_meetings qN_X8 qC_X8_meetings hd_X8_meetings ⟨(Nat.le_of_ble_eq_true rfl), (Nat.le_of_ble_eq_true rfl)⟩ hl.1 rfl (Nat.le_of_ble_eq_true rfl) dL_law_1226 (fun r st1 H locs hw hG => ?_)
  refine lv_aload_n hx hb dL_law_1229 rfl (lv_at hl 2 rfl) ?_
  refine l_arg (j := 1) C hG v1 hl dL_law_1230 dL_law_1231 dL_law_1232 (by decide) dL_law_1233 dL_law_1234 ?_
  refine l_arg (j := 2) C hG v2 hl dL_law_1235 dL_law_1236 dL_law_1237 (by decide) dL_law_1238 dL_law_1239 ?_
  refine l_arg (j := 3) C hG v3 hl dL_law_1240 dL_law_1241 dL_law_1242 (by decide) dL_law_1243 dL_law_1244 ?_
  refine l_arg (j := 4) C hG v4 hl dL_law_1245 dL_law_1246 dL_law_1247 (by decide) dL_law_1248 dL_law_1249 ?_
  refine l_arg (j := 5) C hG v5 hl dL_law_1250 dL_law_1251 dL_law_1252 (by decide) dL_law_1253 dL_law_1254 ?_
  refine l_arg2 (j := 6) C hG v6 hl dL_law_1255 dL_law_1256 dL_law_1257 (by decide) dL_law_1259 dL_law_1260 ?_
  refine l_ml (As := [.int (xs (x + 1).toNatClampNeg), .int (xs (x + 2).toNatClampNeg), .int (xs (x + 3).toNatClampNeg), .int (xs (x + 4).toNatClampNeg), .int (xs (x + 5).toNatClampNeg), .int (xs (x + 6).toNatClampNeg)]) (rest := [.long r]) C hG (c_X9_meetings l ym (xs (x + 1).toNatClampNeg) (xs (x + 2).toNatClampNeg) (xs (x + 3).toNatClampNeg) (xs (x + 4).toNatClampNeg) (xs (x + 5).toNatClampNeg) (xs (x + 6).toNatClampNeg) mt _ hw) rfl qM_L_139 qI_X9_meetings qS_X9_meetings qN_X9 qC_X9_meetings hd_X9_meetings ⟨(Nat.le_of_ble_eq_true rfl), (Nat.le_of_ble_eq_true rfl)⟩ hl.1 rfl (Nat.le_of_ble_eq_true rfl) dL_law_1261 (fun r2 mt1 H locs hw hG => ?_)
  obtain ⟨rfl, hR1⟩ := hw
  refine W.lcmp hx hb dL_law_1264 ?_
  rw [lg_cmp_rf]
  refine lv_if_eq (tgt := 1642) hx hb dL_law_1265 (by decide) (fun _ => ?_) (fun h => absurd rfl h)
  exact kk st1 mt1 H locs hR1 hG
set_option maxRecDepth 100000 in
set_option maxHeartbeats 4000000 in
theorem law_c30 {p : Program} {l : Launch} {e : Env} {s : State} {m : MethodId} {below : List Frame} {meth : Method} {c : Code} {b L : Nat} {xs : Nat → Int32} {yx ym : Sy} (C : Lw p s m meth c b L xs yx ym) {Q : State → Prop} {x : Int32} (v1 : vp_in (x + 1) L) (v2 : vp_in (x + 2) L) (v3 : vp_in (x + 3) L) (v4 : vp_in (x + 4) L) (v5 : vp_in (x + 5) L) (v6 : vp_in (x + 6) L) {st mt : St} (hR : R st mt) {H : Heap} {locs : List Loc} {ls : Array Slot} (hG : gL yx ym st mt s H locs) (hl : lv_has ls 4 [(0, .ref b), (1, .ref (ad yx 0)), (2, .ref (ad ym 0)), (3, .int x)])
    (kk : ∀ (st' mt' : St) (H1 : Heap) (locs1 : List Loc), R st' mt' → gL yx ym st' mt' s H1 locs1 → W p l e room_1 s m #[Value.ref b] below meth c H1 locs1 600000 7302250 Q (F0 m 1642 ls [])) : W p l e room_1 s m #[Value.ref b] below meth c H locs 600000 7302250 Q (F0 m 1270 ls []) := by
  obtain ⟨hx, hb, -⟩ := id C
  refine lv_aload_n hx hb dL_law_1270 rfl (lv_at hl 1 rfl) ?_
  refine l_arg (j := 1) C hG v1 hl dL_law_1271 dL_law_1272 dL_law_1273 (by decide) dL_law_1274 dL_law_1275 ?_
  refine l_xi (As := [.int (xs (x + 1).toNatClampNeg)]) (rest := []) C hG (c_X8_fullest l yx (xs (x + 1).toNatClampNeg) st _ (sim_fullest hR (xs (x + 1).toNatClampNeg))) rfl qM_L_140 qI_X8_fullest qS_X8_fullest qN_X8 qC_X8_fullest hd_X8_fullest ⟨(Nat.le_of_ble_eq_true rfl), (Nat.le_of_ble_eq_true rfl)⟩ hl.1 rfl (Nat.le_of_ble_eq_true rfl) dL_law_1276 (fun r st1 H locs hw hG => ?_)
  refine lv_aload_n hx hb dL_law_1279 rfl (lv_at hl 2 rfl) ?_
  refine l_arg (j := 1) C hG v1 hl dL_law_1280 dL_law_1281 dL_law_1282 (by decide) dL_law_1283 dL_law_1284 ?_
  refine l_mi (As := [.int (xs (x + 1).toNatClampNeg)]) (rest := [.int r]) C hG (c_X9_fullest l ym (xs (x + 1).toNatClampNeg) mt _ hw) rfl qM_L_143 qI_X9_fullest qS_X9_fullest qN_X9 qC_X9_fullest hd_X9_fullest ⟨(Nat.le_of_ble_eq_true rfl), (Nat.le_of_ble_eq_true rfl)⟩ hl.1 rfl (Nat.le_of_ble_eq_true rfl) dL_law_1285 (fun r2 mt1 H locs hw hG => ?_)
  obtain ⟨rfl, hR1⟩ := hw
  refine lv_icmp_eq (tgt := 1642) hx hb dL_law_1288 (by decide) (fun _ => ?_) (fun h => absurd rfl h)
  exact kk st1 mt1 H locs hR1 hG
set_option maxRecDepth 100000 in
set_option maxHeartbeats 4000000 in
theorem law_c31 {p : Program} {l : Launch} {e : Env} {s : State} {m : MethodId} {below : List Frame} {meth : Method} {c : Code} {b L : Nat} {xs : Nat → Int32} {yx ym : Sy} (C : Lw p s m meth c b L xs yx ym) {Q : State → Prop} {x : Int32} (v1 : vp_in (x + 1) L) (v2 : vp_in (x + 2) L) (v3 : vp_in (x + 3) L) (v4 : vp_in (x + 4) L) (v5 : vp_in (x + 5) L) (v6 : vp_in (x + 6) L) {st mt : St} (hR : R st mt) {H : Heap} {locs : List Loc} {ls : Array Slot} (hG : gL yx ym st mt s H locs) (hl : lv_has ls 4 [(0, .ref b), (1, .ref (ad yx 0)), (2, .ref (ad ym 0)), (3, .int x)])
    (kk : ∀ (st' mt' : St) (H1 : Heap) (locs1 : List Loc), R st' mt' → gL yx ym st' mt' s H1 locs1 → W p l e room_1 s m #[Value.ref b] below meth c H1 locs1 600000 7302250 Q (F0 m 1642 ls [])) : W p l e room_1 s m #[Value.ref b] below meth c H locs 600000 7302250 Q (F0 m 1293 ls []) := by
  obtain ⟨hx, hb, -⟩ := id C
  refine lv_aload_n hx hb dL_law_1293 rfl (lv_at hl 1 rfl) ?_
  refine l_xi (As := []) (rest := []) C hG (c_X8_thickest l yx  st _ (sim_thickest hR )) rfl qM_L_144 qI_X8_thickest qS_X8_thickest qN_X8 qC_X8_thickest hd_X8_thickest ⟨(Nat.le_of_ble_eq_true rfl), (Nat.le_of_ble_eq_true rfl)⟩ hl.1 rfl (Nat.le_of_ble_eq_true rfl) dL_law_1294 (fun r st1 H locs hw hG => ?_)
  refine lv_aload_n hx hb dL_law_1297 rfl (lv_at hl 2 rfl) ?_
  refine l_mi (As := []) (rest := [.int r]) C hG (c_X9_thickest l ym  mt _ hw) rfl qM_L_147 qI_X9_thickest qS_X9_thickest qN_X9 qC_X9_thickest hd_X9_thickest ⟨(Nat.le_of_ble_eq_true rfl), (Nat.le_of_ble_eq_true rfl)⟩ hl.1 rfl (Nat.le_of_ble_eq_true rfl) dL_law_1298 (fun r2 mt1 H locs hw hG => ?_)
  obtain ⟨rfl, hR1⟩ := hw
  refine lv_icmp_eq (tgt := 1642) hx hb dL_law_1301 (by decide) (fun _ => ?_) (fun h => absurd rfl h)
  exact kk st1 mt1 H locs hR1 hG
set_option maxRecDepth 100000 in
set_option maxHeartbeats 4000000 in
theorem law_c32 {p : Program} {l : Launch} {e : Env} {s : State} {m : MethodId} {below : List Frame} {meth : Method} {c : Code} {b L : Nat} {xs : Nat → Int32} {yx ym : Sy} (C : Lw p s m meth c b L xs yx ym) {Q : State → Prop} {x : Int32} (v1 : vp_in (x + 1) L) (v2 : vp_in (x + 2) L) (v3 : vp_in (x + 3) L) (v4 : vp_in (x + 4) L) (v5 : vp_in (x + 5) L) (v6 : vp_in (x + 6) L) {st mt : St} (hR : R st mt) {H : Heap} {locs : List Loc} {ls : Array Slot} (hG : gL yx ym st mt s H locs) (hl : lv_has ls 4 [(0, .ref b), (1, .ref (ad yx 0)), (2, .ref (ad ym 0)), (3, .int x)])
    (kk : ∀ (st' mt' : St) (H1 : Heap) (locs1 : List Loc), R st' mt' → gL yx ym st' mt' s H1 locs1 → W p l e room_1 s m #[Value.ref b] below meth c H1 locs1 600000 7302250 Q (F0 m 1642 ls [])) : W p l e room_1 s m #[Value.ref b] below meth c H locs 600000 7302250 Q (F0 m 1306 ls []) := by
  obtain ⟨hx, hb, -⟩ := id C
  refine lv_aload_n hx hb dL_law_1306 rfl (lv_at hl 1 rfl) ?_
  refine l_xi (As := []) (rest := []) C hG (c_X8_mildest l yx  st _ (sim_mildest hR )) rfl qM_L_148 qI_X8_mildest qS_X8_mildest qN_X8 qC_X8_mildest hd_X8_mildest ⟨(Nat.le_of_ble_eq_true rfl), (Nat.le_of_ble_eq_true rfl)⟩ hl.1 rfl (Nat.le_of_ble_eq_true rfl) dL_law_1307 (fun r st1 H locs hw hG => ?_)
  refine lv_aload_n hx hb dL_law_1310 rfl (lv_at hl 2 rfl) ?_
  refine l_mi (As := []) (rest := [.int r]) C hG (c_X9_mildest l ym  mt _ hw) rfl qM_L_151 qI_X9_mildest qS_X9_mildest qN_X9 qC_X9_mildest hd_X9_mildest ⟨(Nat.le_of_ble_eq_true rfl), (Nat.le_of_ble_eq_true rfl)⟩ hl.1 rfl (Nat.le_of_ble_eq_true rfl) dL_law_1311 (fun r2 mt1 H locs hw hG => ?_)
  obtain ⟨rfl, hR1⟩ := hw
  refine lv_icmp_eq (tgt := 1642) hx hb dL_law_1314 (by decide) (fun _ => ?_) (fun h => absurd rfl h)
  exact kk st1 mt1 H locs hR1 hG
set_option maxRecDepth 100000 in
set_option maxHeartbeats 4000000 in
theorem law_c33 {p : Program} {l : Launch} {e : Env} {s : State} {m : MethodId} {below : List Frame} {meth : Method} {c : Code} {b L : Nat} {xs : Nat → Int32} {yx ym : Sy} (C : Lw p s m meth c b L xs yx ym) {Q : State → Prop} {x : Int32} (v1 : vp_in (x + 1) L) (v2 : vp_in (x + 2) L) (v3 : vp_in (x + 3) L) (v4 : vp_in (x + 4) L) (v5 : vp_in (x + 5) L) (v6 : vp_in (x + 6) L) {st mt : St} (hR : R st mt) {H : Heap} {locs : List Loc} {ls : Array Slot} (hG : gL yx ym st mt s H locs) (hl : lv_has ls 4 [(0, .ref b), (1, .ref (ad yx 0)), (2, .ref (ad ym 0)), (3, .int x)])
    (kk : ∀ (st' mt' : St) (H1 : Heap) (locs1 : List Loc), R st' mt' → gL yx ym st' mt' s H1 locs1 → W p l e room_1 s m #[Value.ref b] below meth c H1 locs1 600000 7302250 Q (F0 m 1642 ls [])) : W p l e room_1 s m #[Value.ref b] below meth c H locs 600000 7302250 Q (F0 m 1319 ls []) := by
  obtain ⟨hx, hb, -⟩ := id C
  refine lv_aload_n hx hb dL_law_1319 rfl (lv_at hl 1 rfl) ?_
  refine l_xi (As := []) (rest := []) C hG (c_X8_bare l yx  st _ (sim_bare hR )) rfl qM_L_152 qI_X8_bare qS_X8_bare qN_X8 qC_X8_bare hd_X8_bare ⟨(Nat.le_of_ble_eq_true rfl), (Nat.le_of_ble_eq_true rfl)⟩ hl.1 rfl (Nat.le_of_ble_eq_true rfl) dL_law_1320 (fun r st1 H locs hw hG => ?_)
  refine lv_aload_n hx hb dL_law_1323 rfl (lv_at hl 2 rfl) ?_
  refine l_mi (As := []) (rest := [.int r]) C hG (c_X9_bare l ym  mt _ hw) rfl qM_L_155 qI_X9_bare qS_X9_bare qN_X9 qC_X9_bare hd_X9_bare ⟨(Nat.le_of_ble_eq_true rfl), (Nat.le_of_ble_eq_true rfl)⟩ hl.1 rfl (Nat.le_of_ble_eq_true rfl) dL_law_1324 (fun r2 mt1 H locs hw hG => ?_)
  obtain ⟨rfl, hR1⟩ := hw
  refine lv_icmp_eq (tgt := 1642) hx hb dL_law_1327 (by decide) (fun _ => ?_) (fun h => absurd rfl h)
  exact kk st1 mt1 H locs hR1 hG
set_option maxRecDepth 100000 in
set_option maxHeartbeats 4000000 in
theorem law_c34 {p : Program} {l : Launch} {e : Env} {s : State} {m : MethodId} {below : List Frame} {meth : Method} {c : Code} {b L : Nat} {xs : Nat → Int32} {yx ym : Sy} (C : Lw p s m meth c b L xs yx ym) {Q : State → Prop} {x : Int32} (v1 : vp_in (x + 1) L) (v2 : vp_in (x + 2) L) (v3 : vp_in (x + 3) L) (v4 : vp_in (x + 4) L) (v5 : vp_in (x + 5) L) (v6 : vp_in (x + 6) L) {st mt : St} (hR : R st mt) {H : Heap} {locs : List Loc} {ls : Array Slot} (hG : gL yx ym st mt s H locs) (hl : lv_has ls 4 [(0, .ref b), (1, .ref (ad yx 0)), (2, .ref (ad ym 0)), (3, .int x)])
    (kk : ∀ (st' mt' : St) (H1 : Heap) (locs1 : List Loc), R st' mt' → gL yx ym st' mt' s H1 locs1 → W p l e room_1 s m #[Value.ref b] below meth c H1 locs1 600000 7302250 Q (F0 m 1642 ls [])) : W p l e room_1 s m #[Value.ref b] below meth c H locs 600000 7302250 Q (F0 m 1332 ls []) := by
  obtain ⟨hx, hb, -⟩ := id C
  refine lv_aload_n hx hb dL_law_1332 rfl (lv_at hl 1 rfl) ?_
  refine l_arg (j := 1) C hG v1 hl dL_law_1333 dL_law_1334 dL_law_1335 (by decide) dL_law_1336 dL_law_1337 ?_
  refine l_xl (As := [.int (xs (x + 1).toNatClampNeg)]) (rest := []) C hG (c_X8_mean l yx (xs (x + 1).toNatClampNeg) st _ (sim_mean hR (xs (x + 1).toNatClampNeg))) rfl qM_L_156 qI_X8_mean qS_X8_mean qN_X8 qC_X8_mean hd_X8_mean ⟨(Nat.le_of_ble_eq_true rfl), (Nat.le_of_ble_eq_true rfl)⟩ hl.1 rfl (Nat.le_of_ble_eq_true rfl) dL_law_1338 (fun r st1 H locs hw hG => ?_)
  refine lv_aload_n hx hb dL_law_1341 rfl (lv_at hl 2 rfl) ?_
  refine l_arg (j := 1) C hG v1 hl dL_law_1342 dL_law_1343 dL_law_1344 (by decide) dL_law_1345 dL_law_1346 ?_
  refine l_ml (As := [.int (xs (x + 1).toNatClampNeg)]) (rest := [.long r]) C hG (c_X9_mean l ym (xs (x + 1).toNatClampNeg) mt _ hw) rfl qM_L_160 qI_X9_mean qS_X9_mean qN_X9 qC_X9_mean hd_X9_mean ⟨(Nat.le_of_ble_eq_true rfl), (Nat.le_of_ble_eq_true rfl)⟩ hl.1 rfl (Nat.le_of_ble_eq_true rfl) dL_law_1347 (fun r2 mt1 H locs hw hG => ?_)
  obtain ⟨rfl, hR1⟩ := hw
  refine W.lcmp hx hb dL_law_1350 ?_
  rw [lg_cmp_rf]
  refine lv_if_eq (tgt := 1642) hx hb dL_law_1351 (by decide) (fun _ => ?_) (fun h => absurd rfl h)
  exact kk st1 mt1 H locs hR1 hG
set_option maxRecDepth 100000 in
set_option maxHeartbeats 4000000 in
theorem law_c35 {p : Program} {l : Launch} {e : Env} {s : State} {m : MethodId} {below : List Frame} {meth : Method} {c : Code} {b L : Nat} {xs : Nat → Int32} {yx ym : Sy} (C : Lw p s m meth c b L xs yx ym) {Q : State → Prop} {x : Int32} (v1 : vp_in (x + 1) L) (v2 : vp_in (x + 2) L) (v3 : vp_in (x + 3) L) (v4 : vp_in (x + 4) L) (v5 : vp_in (x + 5) L) (v6 : vp_in (x + 6) L) {st mt : St} (hR : R st mt) {H : Heap} {locs : List Loc} {ls : Array Slot} (hG : gL yx ym st mt s H locs) (hl : lv_has ls 4 [(0, .ref b), (1, .ref (ad yx 0)), (2, .ref (ad ym 0)), (3, .int x)])
    (kk : ∀ (st' mt' : St) (H1 : Heap) (locs1 : List Loc), R st' mt' → gL yx ym st' mt' s H1 locs1 → W p l e room_1 s m #[Value.ref b] below meth c H1 locs1 600000 7302250 Q (F0 m 1642 ls [])) : W p l e room_1 s m #[Value.ref b] below meth c H locs 600000 7302250 Q (F0 m 1356 ls []) := by
  obtain ⟨hx, hb, -⟩ := id C
  refine lv_aload_n hx hb dL_law_1356 rfl (lv_at hl 1 rfl) ?_
  refine l_arg (j := 1) C hG v1 hl dL_law_1357 dL_law_1358 dL_law_1359 (by decide) dL_law_1360 dL_law_1361 ?_
  refine l_arg (j := 2) C hG v2 hl dL_law_1362 dL_law_1363 dL_law_1364 (by decide) dL_law_1365 dL_law_1366 ?_
  refine l_arg (j := 3) C hG v3 hl dL_law_1367 dL_law_1368 dL_law_1369 (by decide) dL_law_1370 dL_law_1371 ?_
  refine l_xi (As := [.int (xs (x + 1).toNatClampNeg), .int (xs (x + 2).toNatClampNeg), .int (xs (x + 3).toNatClampNeg)]) (rest := []) C hG (c_X8_used l yx (xs (x + 1).toNatClampNeg) (xs (x + 2).toNatClampNeg) (xs (x + 3).toNatClampNeg) st _ (sim_used hR (xs (x + 1).toNatClampNeg) (xs (x + 2).toNatClampNeg) (xs (x + 3).toNatClampNeg))) rfl qM_L_161 qI_X8_used qS_X8_used qN_X8 qC_X8_used hd_X8_used ⟨(Nat.le_of_ble_eq_true rfl), (Nat.le_of_ble_eq_true rfl)⟩ hl.1 rfl (Nat.le_of_ble_eq_true rfl) dL_law_1372 (fun r st1 H locs hw hG => ?_)
  refine lv_aload_n hx hb dL_law_1375 rfl (lv_at hl 2 rfl) ?_
  refine l_arg (j := 1) C hG v1 hl dL_law_1376 dL_law_1377 dL_law_1378 (by decide) dL_law_1379 dL_law_1380 ?_
  refine l_arg (j := 2) C hG v2 hl dL_law_1381 dL_law_1382 dL_law_1383 (by decide) dL_law_1384 dL_law_1385 ?_
  refine l_arg (j := 3) C hG v3 hl dL_law_1386 dL_law_1387 dL_law_1388 (by decide) dL_law_1389 dL_law_1390 ?_
  refine l_mi (As := [.int (xs (x + 1).toNatClampNeg), .int (xs (x + 2).toNatClampNeg), .int (xs (x + 3).toNatClampNeg)]) (rest := [.int r]) C hG (c_X9_used l ym (xs (x + 1).toNatClampNeg) (xs (x + 2).toNatClampNeg) (xs (x + 3).toNatClampNeg) mt _ hw) rfl qM_L_164 qI_X9_used qS_X9_used qN_X9 qC_X9_used hd_X9_used ⟨(Nat.le_of_ble_eq_true rfl), (Nat.le_of_ble_eq_true rfl)⟩ hl.1 rfl (Nat.le_of_ble_eq_true rfl) dL_law_1391 (fun r2 mt1 H locs hw hG => ?_)
  obtain ⟨rfl, hR1⟩ := hw
  refine lv_icmp_eq (tgt := 1642) hx hb dL_law_1394 (by decide) (fun _ => ?_) (fun h => absurd rfl h)
  exact kk st1 mt1 H locs hR1 hG
set_option maxRecDepth 100000 in
set_option maxHeartbeats 4000000 in
theorem law_c36 {p : Program} {l : Launch} {e : Env} {s : State} {m : MethodId} {below : List Frame} {meth : Method} {c : Code} {b L : Nat} {xs : Nat → Int32} {yx ym : Sy} (C : Lw p s m meth c b L xs yx ym) {Q : State → Prop} {x : Int32} (v1 : vp_in (x + 1) L) (v2 : vp_in (x + 2) L) (v3 : vp_in (x + 3) L) (v4 : vp_in (x + 4) L) (v5 : vp_in (x + 5) L) (v6 : vp_in (x + 6) L) {st mt : St} (hR : R st mt) {H : Heap} {locs : List Loc} {ls : Array Slot} (hG : gL yx ym st mt s H locs) (hl : lv_has ls 4 [(0, .ref b), (1, .ref (ad yx 0)), (2, .ref (ad ym 0)), (3, .int x)])
    (kk : ∀ (st' mt' : St) (H1 : Heap) (locs1 : List Loc), R st' mt' → gL yx ym st' mt' s H1 locs1 → W p l e room_1 s m #[Value.ref b] below meth c H1 locs1 600000 7302250 Q (F0 m 1642 ls [])) : W p l e room_1 s m #[Value.ref b] below meth c H locs 600000 7302250 Q (F0 m 1399 ls []) := by
  obtain ⟨hx, hb, -⟩ := id C
  refine lv_aload_n hx hb dL_law_1399 rfl (lv_at hl 1 rfl) ?_
  refine l_arg (j := 1) C hG v1 hl dL_law_1400 dL_law_1401 dL_law_1402 (by decide) dL_law_1403 dL_law_1404 ?_
  refine l_xi (As := [.int (xs (x + 1).toNatClampNeg)]) (rest := []) C hG (c_X8_swap l yx (xs (x + 1).toNatClampNeg) st _ (sim_swap hR (xs (x + 1).toNatClampNeg))) rfl qM_L_165 qI_X8_swap qS_X8_swap qN_X8 qC_X8_swap hd_X8_swap ⟨(Nat.le_of_ble_eq_true rfl), (Nat.le_of_ble_eq_true rfl)⟩ hl.1 rfl (Nat.le_of_ble_eq_true rfl) dL_law_1405 (fun r st1 H locs hw hG => ?_)
  refine lv_aload_n hx hb dL_law_1408 rfl (lv_at hl 2 rfl) ?_
  refine l_arg (j := 1) C hG v1 hl dL_law_1409 dL_law_1410 dL_law_1411 (by decide) dL_law_1412 dL_law_1413 ?_
  refine l_mi (As := [.int (xs (x + 1).toNatClampNeg)]) (rest := [.int r]) C hG (c_X9_swap l ym (xs (x + 1).toNatClampNeg) mt _ hw) rfl qM_L_168 qI_X9_swap qS_X9_swap qN_X9 qC_X9_swap hd_X9_swap ⟨(Nat.le_of_ble_eq_true rfl), (Nat.le_of_ble_eq_true rfl)⟩ hl.1 rfl (Nat.le_of_ble_eq_true rfl) dL_law_1414 (fun r2 mt1 H locs hw hG => ?_)
  obtain ⟨rfl, hR1⟩ := hw
  refine lv_icmp_eq (tgt := 1642) hx hb dL_law_1417 (by decide) (fun _ => ?_) (fun h => absurd rfl h)
  exact kk st1 mt1 H locs hR1 hG
set_option maxRecDepth 100000 in
set_option maxHeartbeats 4000000 in
theorem law_c37 {p : Program} {l : Launch} {e : Env} {s : State} {m : MethodId} {below : List Frame} {meth : Method} {c : Code} {b L : Nat} {xs : Nat → Int32} {yx ym : Sy} (C : Lw p s m meth c b L xs yx ym) {Q : State → Prop} {x : Int32} (v1 : vp_in (x + 1) L) (v2 : vp_in (x + 2) L) (v3 : vp_in (x + 3) L) (v4 : vp_in (x + 4) L) (v5 : vp_in (x + 5) L) (v6 : vp_in (x + 6) L) {st mt : St} (hR : R st mt) {H : Heap} {locs : List Loc} {ls : Array Slot} (hG : gL yx ym st mt s H locs) (hl : lv_has ls 4 [(0, .ref b), (1, .ref (ad yx 0)), (2, .ref (ad ym 0)), (3, .int x)])
    (kk : ∀ (st' mt' : St) (H1 : Heap) (locs1 : List Loc), R st' mt' → gL yx ym st' mt' s H1 locs1 → W p l e room_1 s m #[Value.ref b] below meth c H1 locs1 600000 7302250 Q (F0 m 1642 ls [])) : W p l e room_1 s m #[Value.ref b] below meth c H locs 600000 7302250 Q (F0 m 1422 ls []) := by
  obtain ⟨hx, hb, -⟩ := id C
  refine lv_aload_n hx hb dL_law_1422 rfl (lv_at hl 1 rfl) ?_
  refine l_arg (j := 1) C hG v1 hl dL_law_1423 dL_law_1424 dL_law_1425 (by decide) dL_law_1426 dL_law_1427 ?_
  refine l_xi (As := [.int (xs (x + 1).toNatClampNeg)]) (rest := []) C hG (c_X8_apart l yx (xs (x + 1).toNatClampNeg) st _ (sim_apart hR (xs (x + 1).toNatClampNeg))) rfl qM_L_169 qI_X8_apart qS_X8_apart qN_X8 qC_X8_apart hd_X8_apart ⟨(Nat.le_of_ble_eq_true rfl), (Nat.le_of_ble_eq_true rfl)⟩ hl.1 rfl (Nat.le_of_ble_eq_true rfl) dL_law_1428 (fun r st1 H locs hw hG => ?_)
  refine lv_aload_n hx hb dL_law_1431 rfl (lv_at hl 2 rfl) ?_
  refine l_arg (j := 1) C hG v1 hl dL_law_1432 dL_law_1433 dL_law_1434 (by decide) dL_law_1435 dL_law_1436 ?_
  refine l_mi (As := [.int (xs (x + 1).toNatClampNeg)]) (rest := [.int r]) C hG (c_X9_apart l ym (xs (x + 1).toNatClampNeg) mt _ hw) rfl qM_L_172 qI_X9_apart qS_X9_apart qN_X9 qC_X9_apart hd_X9_apart ⟨(Nat.le_of_ble_eq_true rfl), (Nat.le_of_ble_eq_true rfl)⟩ hl.1 rfl (Nat.le_of_ble_eq_true rfl) dL_law_1437 (fun r2 mt1 H locs hw hG => ?_)
  obtain ⟨rfl, hR1⟩ := hw
  refine lv_icmp_eq (tgt := 1642) hx hb dL_law_1440 (by decide) (fun _ => ?_) (fun h => absurd rfl h)
  exact kk st1 mt1 H locs hR1 hG
set_option maxRecDepth 100000 in
set_option maxHeartbeats 4000000 in
theorem law_c38 {p : Program} {l : Launch} {e : Env} {s : State} {m : MethodId} {below : List Frame} {meth : Method} {c : Code} {b L : Nat} {xs : Nat → Int32} {yx ym : Sy} (C : Lw p s m meth c b L xs yx ym) {Q : State → Prop} {x : Int32} (v1 : vp_in (x + 1) L) (v2 : vp_in (x + 2) L) (v3 : vp_in (x + 3) L) (v4 : vp_in (x + 4) L) (v5 : vp_in (x + 5) L) (v6 : vp_in (x + 6) L) {st mt : St} (hR : R st mt) {H : Heap} {locs : List Loc} {ls : Array Slot} (hG : gL yx ym st mt s H locs) (hl : lv_has ls 4 [(0, .ref b), (1, .ref (ad yx 0)), (2, .ref (ad ym 0)), (3, .int x)])
    (kk : ∀ (st' mt' : St) (H1 : Heap) (locs1 : List Loc), R st' mt' → gL yx ym st' mt' s H1 locs1 → W p l e room_1 s m #[Value.ref b] below meth c H1 locs1 600000 7302250 Q (F0 m 1642 ls [])) : W p l e room_1 s m #[Value.ref b] below meth c H locs 600000 7302250 Q (F0 m 1445 ls []) := by
  obtain ⟨hx, hb, -⟩ := id C
  refine lv_aload_n hx hb dL_law_1445 rfl (lv_at hl 1 rfl) ?_
  refine l_arg (j := 1) C hG v1 hl dL_law_1446 dL_law_1447 dL_law_1448 (by decide) dL_law_1449 dL_law_1450 ?_
  refine l_xi (As := [.int (xs (x + 1).toNatClampNeg)]) (rest := []) C hG (c_X8_enemy l yx (xs (x + 1).toNatClampNeg) st _ (sim_enemy hR (xs (x + 1).toNatClampNeg))) rfl qM_L_173 qI_X8_enemy qS_X8_enemy qN_X8 qC_X8_enemy hd_X8_enemy ⟨(Nat.le_of_ble_eq_true rfl), (Nat.le_of_ble_eq_true rfl)⟩ hl.1 rfl (Nat.le_of_ble_eq_true rfl) dL_law_1451 (fun r st1 H locs hw hG => ?_)
  refine lv_aload_n hx hb dL_law_1454 rfl (lv_at hl 2 rfl) ?_
  refine l_arg (j := 1) C hG v1 hl dL_law_1455 dL_law_1456 dL_law_1457 (by decide) dL_law_1458 dL_law_1459 ?_
  refine l_mi (As := [.int (xs (x + 1).toNatClampNeg)]) (rest := [.int r]) C hG (c_X9_enemy l ym (xs (x + 1).toNatClampNeg) mt _ hw) rfl qM_L_176 qI_X9_enemy qS_X9_enemy qN_X9 qC_X9_enemy hd_X9_enemy ⟨(Nat.le_of_ble_eq_true rfl), (Nat.le_of_ble_eq_true rfl)⟩ hl.1 rfl (Nat.le_of_ble_eq_true rfl) dL_law_1460 (fun r2 mt1 H locs hw hG => ?_)
  obtain ⟨rfl, hR1⟩ := hw
  refine lv_icmp_eq (tgt := 1642) hx hb dL_law_1463 (by decide) (fun _ => ?_) (fun h => absurd rfl h)
  exact kk st1 mt1 H locs hR1 hG
set_option maxRecDepth 100000 in
set_option maxHeartbeats 4000000 in
theorem law_c39 {p : Program} {l : Launch} {e : Env} {s : State} {m : MethodId} {below : List Frame} {meth : Method} {c : Code} {b L : Nat} {xs : Nat → Int32} {yx ym : Sy} (C : Lw p s m meth c b L xs yx ym) {Q : State → Prop} {x : Int32} (v1 : vp_in (x + 1) L) (v2 : vp_in (x + 2) L) (v3 : vp_in (x + 3) L) (v4 : vp_in (x + 4) L) (v5 : vp_in (x + 5) L) (v6 : vp_in (x + 6) L) {st mt : St} (hR : R st mt) {H : Heap} {locs : List Loc} {ls : Array Slot} (hG : gL yx ym st mt s H locs) (hl : lv_has ls 4 [(0, .ref b), (1, .ref (ad yx 0)), (2, .ref (ad ym 0)), (3, .int x)])
    (kk : ∀ (st' mt' : St) (H1 : Heap) (locs1 : List Loc), R st' mt' → gL yx ym st' mt' s H1 locs1 → W p l e room_1 s m #[Value.ref b] below meth c H1 locs1 600000 7302250 Q (F0 m 1642 ls [])) : W p l e room_1 s m #[Value.ref b] below meth c H locs 600000 7302250 Q (F0 m 1468 ls []) := by
  obtain ⟨hx, hb, -⟩ := id C
  refine lv_aload_n hx hb dL_law_1468 rfl (lv_at hl 1 rfl) ?_
  refine l_arg (j := 1) C hG v1 hl dL_law_1469 dL_law_1470 dL_law_1471 (by decide) dL_law_1472 dL_law_1473 ?_
  refine l_xi (As := [.int (xs (x + 1).toNatClampNeg)]) (rest := []) C hG (c_X8_can l yx (xs (x + 1).toNatClampNeg) st _ (sim_can hR (xs (x + 1).toNatClampNeg))) rfl qM_L_177 qI_X8_can qS_X8_can qN_X8 qC_X8_can hd_X8_can ⟨(Nat.le_of_ble_eq_true rfl), (Nat.le_of_ble_eq_true rfl)⟩ hl.1 rfl (Nat.le_of_ble_eq_true rfl) dL_law_1474 (fun r st1 H locs hw hG => ?_)
  refine lv_aload_n hx hb dL_law_1477 rfl (lv_at hl 2 rfl) ?_
  refine l_arg (j := 1) C hG v1 hl dL_law_1478 dL_law_1479 dL_law_1480 (by decide) dL_law_1481 dL_law_1482 ?_
  refine l_mi (As := [.int (xs (x + 1).toNatClampNeg)]) (rest := [.int r]) C hG (c_X9_can l ym (xs (x + 1).toNatClampNeg) mt _ hw) rfl qM_L_180 qI_X9_can qS_X9_can qN_X9 qC_X9_can hd_X9_can ⟨(Nat.le_of_ble_eq_true rfl), (Nat.le_of_ble_eq_true rfl)⟩ hl.1 rfl (Nat.le_of_ble_eq_true rfl) dL_law_1483 (fun r2 mt1 H locs hw hG => ?_)
  obtain ⟨rfl, hR1⟩ := hw
  refine lv_icmp_eq (tgt := 1642) hx hb dL_law_1486 (by decide) (fun _ => ?_) (fun h => absurd rfl h)
  exact kk st1 mt1 H locs hR1 hG
set_option maxRecDepth 100000 in
set_option maxHeartbeats 4000000 in
theorem law_c40 {p : Program} {l : Launch} {e : Env} {s : State} {m : MethodId} {below : List Frame} {meth : Method} {c : Code} {b L : Nat} {xs : Nat → Int32} {yx ym : Sy} (C : Lw p s m meth c b L xs yx ym) {Q : State → Prop} {x : Int32} (v1 : vp_in (x + 1) L) (v2 : vp_in (x + 2) L) (v3 : vp_in (x + 3) L) (v4 : vp_in (x + 4) L) (v5 : vp_in (x + 5) L) (v6 : vp_in (x + 6) L) {st mt : St} (hR : R st mt) {H : Heap} {locs : List Loc} {ls : Array Slot} (hG : gL yx ym st mt s H locs) (hl : lv_has ls 4 [(0, .ref b), (1, .ref (ad yx 0)), (2, .ref (ad ym 0)), (3, .int x)])
    (kk : ∀ (st' mt' : St) (H1 : Heap) (locs1 : List Loc), R st' mt' → gL yx ym st' mt' s H1 locs1 → W p l e room_1 s m #[Value.ref b] below meth c H1 locs1 600000 7302250 Q (F0 m 1642 ls [])) : W p l e room_1 s m #[Value.ref b] below meth c H locs 600000 7302250 Q (F0 m 1491 ls []) := by
  obtain ⟨hx, hb, -⟩ := id C
  refine lv_aload_n hx hb dL_law_1491 rfl (lv_at hl 1 rfl) ?_
  refine l_arg (j := 1) C hG v1 hl dL_law_1492 dL_law_1493 dL_law_1494 (by decide) dL_law_1495 dL_law_1496 ?_
  refine l_xi (As := [.int (xs (x + 1).toNatClampNeg)]) (rest := []) C hG (c_X8_row l yx (xs (x + 1).toNatClampNeg) st _ (sim_row hR (xs (x + 1).toNatClampNeg))) rfl qM_L_181 qI_X8_row qS_X8_row qN_X8 qC_X8_row hd_X8_row ⟨(Nat.le_of_ble_eq_true rfl), (Nat.le_of_ble_eq_true rfl)⟩ hl.1 rfl (Nat.le_of_ble_eq_true rfl) dL_law_1497 (fun r st1 H locs hw hG => ?_)
  refine lv_aload_n hx hb dL_law_1500 rfl (lv_at hl 2 rfl) ?_
  refine l_arg (j := 1) C hG v1 hl dL_law_1501 dL_law_1502 dL_law_1503 (by decide) dL_law_1504 dL_law_1505 ?_
  refine l_mi (As := [.int (xs (x + 1).toNatClampNeg)]) (rest := [.int r]) C hG (c_X9_row l ym (xs (x + 1).toNatClampNeg) mt _ hw) rfl qM_L_184 qI_X9_row qS_X9_row qN_X9 qC_X9_row hd_X9_row ⟨(Nat.le_of_ble_eq_true rfl), (Nat.le_of_ble_eq_true rfl)⟩ hl.1 rfl (Nat.le_of_ble_eq_true rfl) dL_law_1506 (fun r2 mt1 H locs hw hG => ?_)
  obtain ⟨rfl, hR1⟩ := hw
  refine lv_icmp_eq (tgt := 1642) hx hb dL_law_1509 (by decide) (fun _ => ?_) (fun h => absurd rfl h)
  exact kk st1 mt1 H locs hR1 hG
set_option maxRecDepth 100000 in
set_option maxHeartbeats 4000000 in
theorem law_c41 {p : Program} {l : Launch} {e : Env} {s : State} {m : MethodId} {below : List Frame} {meth : Method} {c : Code} {b L : Nat} {xs : Nat → Int32} {yx ym : Sy} (C : Lw p s m meth c b L xs yx ym) {Q : State → Prop} {x : Int32} (v1 : vp_in (x + 1) L) (v2 : vp_in (x + 2) L) (v3 : vp_in (x + 3) L) (v4 : vp_in (x + 4) L) (v5 : vp_in (x + 5) L) (v6 : vp_in (x + 6) L) {st mt : St} (hR : R st mt) {H : Heap} {locs : List Loc} {ls : Array Slot} (hG : gL yx ym st mt s H locs) (hl : lv_has ls 4 [(0, .ref b), (1, .ref (ad yx 0)), (2, .ref (ad ym 0)), (3, .int x)])
    (kk : ∀ (st' mt' : St) (H1 : Heap) (locs1 : List Loc), R st' mt' → gL yx ym st' mt' s H1 locs1 → W p l e room_1 s m #[Value.ref b] below meth c H1 locs1 600000 7302250 Q (F0 m 1642 ls [])) : W p l e room_1 s m #[Value.ref b] below meth c H locs 600000 7302250 Q (F0 m 1514 ls []) := by
  obtain ⟨hx, hb, -⟩ := id C
  refine lv_aload_n hx hb dL_law_1514 rfl (lv_at hl 1 rfl) ?_
  refine l_arg (j := 1) C hG v1 hl dL_law_1515 dL_law_1516 dL_law_1517 (by decide) dL_law_1518 dL_law_1519 ?_
  refine l_xi (As := [.int (xs (x + 1).toNatClampNeg)]) (rest := []) C hG (c_X8_judge l yx (xs (x + 1).toNatClampNeg) st _ (sim_judge hR (xs (x + 1).toNatClampNeg))) rfl qM_L_185 qI_X8_judge qS_X8_judge qN_X8 qC_X8_judge hd_X8_judge ⟨(Nat.le_of_ble_eq_true rfl), (Nat.le_of_ble_eq_true rfl)⟩ hl.1 rfl (Nat.le_of_ble_eq_true rfl) dL_law_1520 (fun r st1 H locs hw hG => ?_)
  refine lv_aload_n hx hb dL_law_1523 rfl (lv_at hl 2 rfl) ?_
  refine l_arg (j := 1) C hG v1 hl dL_law_1524 dL_law_1525 dL_law_1526 (by decide) dL_law_1527 dL_law_1528 ?_
  refine l_mi (As := [.int (xs (x + 1).toNatClampNeg)]) (rest := [.int r]) C hG (c_X9_judge l ym (xs (x + 1).toNatClampNeg) mt _ hw) rfl qM_L_188 qI_X9_judge qS_X9_judge qN_X9 qC_X9_judge hd_X9_judge ⟨(Nat.le_of_ble_eq_true rfl), (Nat.le_of_ble_eq_true rfl)⟩ hl.1 rfl (Nat.le_of_ble_eq_true rfl) dL_law_1529 (fun r2 mt1 H locs hw hG => ?_)
  obtain ⟨rfl, hR1⟩ := hw
  refine lv_icmp_eq (tgt := 1642) hx hb dL_law_1532 (by decide) (fun _ => ?_) (fun h => absurd rfl h)
  exact kk st1 mt1 H locs hR1 hG
set_option maxRecDepth 100000 in
set_option maxHeartbeats 4000000 in
theorem law_c42 {p : Program} {l : Launch} {e : Env} {s : State} {m : MethodId} {below : List Frame} {meth : Method} {c : Code} {b L : Nat} {xs : Nat → Int32} {yx ym : Sy} (C : Lw p s m meth c b L xs yx ym) {Q : State → Prop} {x : Int32} (v1 : vp_in (x + 1) L) (v2 : vp_in (x + 2) L) (v3 : vp_in (x + 3) L) (v4 : vp_in (x + 4) L) (v5 : vp_in (x + 5) L) (v6 : vp_in (x + 6) L) {st mt : St} (hR : R st mt) {H : Heap} {locs : List Loc} {ls : Array Slot} (hG : gL yx ym st mt s H locs) (hl : lv_has ls 4 [(0, .ref b), (1, .ref (ad yx 0)), (2, .ref (ad ym 0)), (3, .int x)])
    (kk : ∀ (st' mt' : St) (H1 : Heap) (locs1 : List Loc), R st' mt' → gL yx ym st' mt' s H1 locs1 → W p l e room_1 s m #[Value.ref b] below meth c H1 locs1 600000 7302250 Q (F0 m 1642 ls [])) : W p l e room_1 s m #[Value.ref b] below meth c H locs 600000 7302250 Q (F0 m 1537 ls []) := by
  obtain ⟨hx, hb, -⟩ := id C
  refine lv_aload_n hx hb dL_law_1537 rfl (lv_at hl 1 rfl) ?_
  refine l_xi (As := []) (rest := []) C hG (c_X8_clear l yx  st _ (sim_clear hR )) rfl qM_L_189 qI_X8_clear qS_X8_clear qN_X8 qC_X8_clear hd_X8_clear ⟨(Nat.le_of_ble_eq_true rfl), (Nat.le_of_ble_eq_true rfl)⟩ hl.1 rfl (Nat.le_of_ble_eq_true rfl) dL_law_1538 (fun r st1 H locs hw hG => ?_)
  refine lv_aload_n hx hb dL_law_1541 rfl (lv_at hl 2 rfl) ?_
  refine l_mi (As := []) (rest := [.int r]) C hG (c_X9_clear l ym  mt _ hw) rfl qM_L_192 qI_X9_clear qS_X9_clear qN_X9 qC_X9_clear hd_X9_clear ⟨(Nat.le_of_ble_eq_true rfl), (Nat.le_of_ble_eq_true rfl)⟩ hl.1 rfl (Nat.le_of_ble_eq_true rfl) dL_law_1542 (fun r2 mt1 H locs hw hG => ?_)
  obtain ⟨rfl, hR1⟩ := hw
  refine lv_icmp_eq (tgt := 1642) hx hb dL_law_1545 (by decide) (fun _ => ?_) (fun h => absurd rfl h)
  exact kk st1 mt1 H locs hR1 hG
set_option maxRecDepth 100000 in
set_option maxHeartbeats 4000000 in
theorem law_c43 {p : Program} {l : Launch} {e : Env} {s : State} {m : MethodId} {below : List Frame} {meth : Method} {c : Code} {b L : Nat} {xs : Nat → Int32} {yx ym : Sy} (C : Lw p s m meth c b L xs yx ym) {Q : State → Prop} {x : Int32} (v1 : vp_in (x + 1) L) (v2 : vp_in (x + 2) L) (v3 : vp_in (x + 3) L) (v4 : vp_in (x + 4) L) (v5 : vp_in (x + 5) L) (v6 : vp_in (x + 6) L) {st mt : St} (hR : R st mt) {H : Heap} {locs : List Loc} {ls : Array Slot} (hG : gL yx ym st mt s H locs) (hl : lv_has ls 4 [(0, .ref b), (1, .ref (ad yx 0)), (2, .ref (ad ym 0)), (3, .int x)])
    (kk : ∀ (st' mt' : St) (H1 : Heap) (locs1 : List Loc), R st' mt' → gL yx ym st' mt' s H1 locs1 → W p l e room_1 s m #[Value.ref b] below meth c H1 locs1 600000 7302250 Q (F0 m 1642 ls [])) : W p l e room_1 s m #[Value.ref b] below meth c H locs 600000 7302250 Q (F0 m 1550 ls []) := by
  obtain ⟨hx, hb, -⟩ := id C
  refine lv_aload_n hx hb dL_law_1550 rfl (lv_at hl 1 rfl) ?_
  refine l_arg (j := 1) C hG v1 hl dL_law_1551 dL_law_1552 dL_law_1553 (by decide) dL_law_1554 dL_law_1555 ?_
  refine l_arg (j := 2) C hG v2 hl dL_law_1556 dL_law_1557 dL_law_1558 (by decide) dL_law_1559 dL_law_1560 ?_
  refine l_arg (j := 3) C hG v3 hl dL_law_1561 dL_law_1562 dL_law_1563 (by decide) dL_law_1564 dL_law_1565 ?_
  refine l_xi (As := [.int (xs (x + 1).toNatClampNeg), .int (xs (x + 2).toNatClampNeg), .int (xs (x + 3).toNatClampNeg)]) (rest := []) C hG (c_X8_lots l yx (xs (x + 1).toNatClampNeg) (xs (x + 2).toNatClampNeg) (xs (x + 3).toNatClampNeg) st _ (sim_lots hR (xs (x + 1).toNatClampNeg) (xs (x + 2).toNatClampNeg) (xs (x + 3).toNatClampNeg))) rfl qM_L_193 qI_X8_lots qS_X8_lots qN_X8 qC_X8_lots hd_X8_lots ⟨(Nat.le_of_ble_eq_true rfl), (Nat.le_of_ble_eq_true rfl)⟩ hl.1 rfl (Nat.le_of_ble_eq_true rfl) dL_law_1566 (fun r st1 H locs hw hG => ?_)
  refine lv_aload_n hx hb dL_law_1569 rfl (lv_at hl 2 rfl) ?_
  refine l_arg (j := 1) C hG v1 hl dL_law_1570 dL_law_1571 dL_law_1572 (by decide) dL_law_1573 dL_law_1574 ?_
  refine l_arg (j := 2) C hG v2 hl dL_law_1575 dL_law_1576 dL_law_1577 (by decide) dL_law_1578 dL_law_1579 ?_
  refine l_arg (j := 3) C hG v3 hl dL_law_1580 dL_law_1581 dL_law_1582 (by decide) dL_law_1583 dL_law_1584 ?_
  refine l_mi (As := [.int (xs (x + 1).toNatClampNeg), .int (xs (x + 2).toNatClampNeg), .int (xs (x + 3).toNatClampNeg)]) (rest := [.int r]) C hG (c_X9_lots l ym (xs (x + 1).toNatClampNeg) (xs (x + 2).toNatClampNeg) (xs (x + 3).toNatClampNeg) mt _ hw) rfl qM_L_196 qI_X9_lots qS_X9_lots qN_X9 qC_X9_lots hd_X9_lots ⟨(Nat.le_of_ble_eq_true rfl), (Nat.le_of_ble_eq_true rfl)⟩ hl.1 rfl (Nat.le_of_ble_eq_true rfl) dL_law_1585 (fun r2 mt1 H locs hw hG => ?_)
  obtain ⟨rfl, hR1⟩ := hw
  refine lv_icmp_eq (tgt := 1642) hx hb dL_law_1588 (by decide) (fun _ => ?_) (fun h => absurd rfl h)
  exact kk st1 mt1 H locs hR1 hG
set_option maxRecDepth 100000 in
set_option maxHeartbeats 4000000 in
theorem law_c44 {p : Program} {l : Launch} {e : Env} {s : State} {m : MethodId} {below : List Frame} {meth : Method} {c : Code} {b L : Nat} {xs : Nat → Int32} {yx ym : Sy} (C : Lw p s m meth c b L xs yx ym) {Q : State → Prop} {x : Int32} (v1 : vp_in (x + 1) L) (v2 : vp_in (x + 2) L) (v3 : vp_in (x + 3) L) (v4 : vp_in (x + 4) L) (v5 : vp_in (x + 5) L) (v6 : vp_in (x + 6) L) {st mt : St} (hR : R st mt) {H : Heap} {locs : List Loc} {ls : Array Slot} (hG : gL yx ym st mt s H locs) (hl : lv_has ls 4 [(0, .ref b), (1, .ref (ad yx 0)), (2, .ref (ad ym 0)), (3, .int x)])
    (kk : ∀ (st' mt' : St) (H1 : Heap) (locs1 : List Loc), R st' mt' → gL yx ym st' mt' s H1 locs1 → W p l e room_1 s m #[Value.ref b] below meth c H1 locs1 600000 7302250 Q (F0 m 1642 ls [])) : W p l e room_1 s m #[Value.ref b] below meth c H locs 600000 7302250 Q (F0 m 1593 ls []) := by
  obtain ⟨hx, hb, -⟩ := id C
  refine lv_aload_n hx hb dL_law_1593 rfl (lv_at hl 1 rfl) ?_
  refine l_xi (As := []) (rest := []) C hG (c_X8_image l yx  st _ (sim_image hR )) rfl qM_L_197 qI_X8_image qS_X8_image qN_X8 qC_X8_image hd_X8_image ⟨(Nat.le_of_ble_eq_true rfl), (Nat.le_of_ble_eq_true rfl)⟩ hl.1 rfl (Nat.le_of_ble_eq_true rfl) dL_law_1594 (fun r st1 H locs hw hG => ?_)
  refine lv_aload_n hx hb dL_law_1597 rfl (lv_at hl 2 rfl) ?_
  refine l_mi (As := []) (rest := [.int r]) C hG (c_X9_image l ym  mt _ hw) rfl qM_L_200 qI_X9_image qS_X9_image qN_X9 qC_X9_image hd_X9_image ⟨(Nat.le_of_ble_eq_true rfl), (Nat.le_of_ble_eq_true rfl)⟩ hl.1 rfl (Nat.le_of_ble_eq_true rfl) dL_law_1598 (fun r2 mt1 H locs hw hG => ?_)
  obtain ⟨rfl, hR1⟩ := hw
  refine lv_icmp_eq (tgt := 1642) hx hb dL_law_1601 (by decide) (fun _ => ?_) (fun h => absurd rfl h)
  exact kk st1 mt1 H locs hR1 hG
set_option maxRecDepth 100000 in
set_option maxHeartbeats 4000000 in
theorem law_c45 {p : Program} {l : Launch} {e : Env} {s : State} {m : MethodId} {below : List Frame} {meth : Method} {c : Code} {b L : Nat} {xs : Nat → Int32} {yx ym : Sy} (C : Lw p s m meth c b L xs yx ym) {Q : State → Prop} {x : Int32} (v1 : vp_in (x + 1) L) (v2 : vp_in (x + 2) L) (v3 : vp_in (x + 3) L) (v4 : vp_in (x + 4) L) (v5 : vp_in (x + 5) L) (v6 : vp_in (x + 6) L) {st mt : St} (hR : R st mt) {H : Heap} {locs : List Loc} {ls : Array Slot} (hG : gL yx ym st mt s H locs) (hl : lv_has ls 4 [(0, .ref b), (1, .ref (ad yx 0)), (2, .ref (ad ym 0)), (3, .int x)])
    (kk : ∀ (st' mt' : St) (H1 : Heap) (locs1 : List Loc), R st' mt' → gL yx ym st' mt' s H1 locs1 → W p l e room_1 s m #[Value.ref b] below meth c H1 locs1 600000 7302250 Q (F0 m 1642 ls [])) : W p l e room_1 s m #[Value.ref b] below meth c H locs 600000 7302250 Q (F0 m 1606 ls []) := by
  obtain ⟨hx, hb, -⟩ := id C
  refine lv_aload_n hx hb dL_law_1606 rfl (lv_at hl 1 rfl) ?_
  refine l_xi (As := []) (rest := []) C hG (c_X8_restore l yx  st _ (sim_restore hR )) rfl qM_L_201 qI_X8_restore qS_X8_restore qN_X8 qC_X8_restore hd_X8_restore ⟨(Nat.le_of_ble_eq_true rfl), (Nat.le_of_ble_eq_true rfl)⟩ hl.1 rfl (Nat.le_of_ble_eq_true rfl) dL_law_1607 (fun r st1 H locs hw hG => ?_)
  refine lv_aload_n hx hb dL_law_1610 rfl (lv_at hl 2 rfl) ?_
  refine l_mi (As := []) (rest := [.int r]) C hG (c_X9_restore l ym  mt _ hw) rfl qM_L_204 qI_X9_restore qS_X9_restore qN_X9 qC_X9_restore hd_X9_restore ⟨(Nat.le_of_ble_eq_true rfl), (Nat.le_of_ble_eq_true rfl)⟩ hl.1 rfl (Nat.le_of_ble_eq_true rfl) dL_law_1611 (fun r2 mt1 H locs hw hG => ?_)
  obtain ⟨rfl, hR1⟩ := hw
  refine lv_icmp_eq (tgt := 1642) hx hb dL_law_1614 (by decide) (fun _ => ?_) (fun h => absurd rfl h)
  exact kk st1 mt1 H locs hR1 hG
set_option maxRecDepth 100000 in
set_option maxHeartbeats 4000000 in
theorem law_c46 {p : Program} {l : Launch} {e : Env} {s : State} {m : MethodId} {below : List Frame} {meth : Method} {c : Code} {b L : Nat} {xs : Nat → Int32} {yx ym : Sy} (C : Lw p s m meth c b L xs yx ym) {Q : State → Prop} {x : Int32} (v1 : vp_in (x + 1) L) (v2 : vp_in (x + 2) L) (v3 : vp_in (x + 3) L) (v4 : vp_in (x + 4) L) (v5 : vp_in (x + 5) L) (v6 : vp_in (x + 6) L) {st mt : St} (hR : R st mt) {H : Heap} {locs : List Loc} {ls : Array Slot} (hG : gL yx ym st mt s H locs) (hl : lv_has ls 4 [(0, .ref b), (1, .ref (ad yx 0)), (2, .ref (ad ym 0)), (3, .int x)])
    (kk : ∀ (st' mt' : St) (H1 : Heap) (locs1 : List Loc), R st' mt' → gL yx ym st' mt' s H1 locs1 → W p l e room_1 s m #[Value.ref b] below meth c H1 locs1 600000 7302250 Q (F0 m 1642 ls [])) : W p l e room_1 s m #[Value.ref b] below meth c H locs 600000 7302250 Q (F0 m 1619 ls []) := by
  obtain ⟨hx, hb, -⟩ := id C
  refine lv_aload_n hx hb dL_law_1619 rfl (lv_at hl 1 rfl) ?_
  refine l_arg (j := 1) C hG v1 hl dL_law_1620 dL_law_1621 dL_law_1622 (by decide) dL_law_1623 dL_law_1624 ?_
  refine l_xi (As := [.int (xs (x + 1).toNatClampNeg)]) (rest := []) C hG (c_X8_count l yx (xs (x + 1).toNatClampNeg) st _ (sim_count hR (xs (x + 1).toNatClampNeg))) rfl qM_L_205 qI_X8_count qS_X8_count qN_X8 qC_X8_count hd_X8_count ⟨(Nat.le_of_ble_eq_true rfl), (Nat.le_of_ble_eq_true rfl)⟩ hl.1 rfl (Nat.le_of_ble_eq_true rfl) dL_law_1625 (fun r st1 H locs hw hG => ?_)
  refine lv_aload_n hx hb dL_law_1628 rfl (lv_at hl 2 rfl) ?_
  refine l_arg (j := 1) C hG v1 hl dL_law_1629 dL_law_1630 dL_law_1631 (by decide) dL_law_1632 dL_law_1633 ?_
  refine l_mi (As := [.int (xs (x + 1).toNatClampNeg)]) (rest := [.int r]) C hG (c_X9_count l ym (xs (x + 1).toNatClampNeg) mt _ hw) rfl qM_L_208 qI_X9_count qS_X9_count qN_X9 qC_X9_count hd_X9_count ⟨(Nat.le_of_ble_eq_true rfl), (Nat.le_of_ble_eq_true rfl)⟩ hl.1 rfl (Nat.le_of_ble_eq_true rfl) dL_law_1634 (fun r2 mt1 H locs hw hG => ?_)
  obtain ⟨rfl, hR1⟩ := hw
  refine lv_icmp_eq (tgt := 1642) hx hb dL_law_1637 (by decide) (fun _ => ?_) (fun h => absurd rfl h)
  exact kk st1 mt1 H locs hR1 hG
