section LAWC
variable {p : Program} {l : Launch} {e : Env} {s : State} {m : MethodId} {below : List Frame} {meth : Method} {c : Code} {H : Heap} {locs : List Loc} {cells slots : Nat} {Q : State → Prop}
variable {b L : Nat} {xs : Nat → Int32} {P Pm : sgP} {cL : ClassId} {σ τ : sgS} {f : Nat → Int64} {ls : Array Slot} {Rel : sgS → sgS → Prop}
set_option maxHeartbeats 4000000 in
theorem lw_k0 (X : lw_X p s m c b L xs P Pm cL) (hL : L ≤ 3072) {n : Nat} (hi : n + 6 ≤ L) (O : lw_Eq Rel (fun N σ => f_X11_feed N (xs (n + 1)) (xs (n + 2)) (xs (n + 3)) (xs (n + 4)) (xs (n + 5)) σ) (fun N σ => f_X12_feed N (xs (n + 1)) (xs (n + 2)) (xs (n + 3)) (xs (n + 4)) (xs (n + 5)) σ)) (HR : Rel σ τ) (I : lw_I s P Pm cL σ τ f H locs) (hl : lv_has ls 7 (lw_lv s P Pm b (nI n))) (hcel : cells + 1 ≤ room_1.cells) (hslo : slots + 6 ≤ room_1.slots)
    (kk : lw_Wt Rel p l e s m b below meth c Q P Pm cL n (cells + 1) (slots + 6) 1643) : W p l e room_1 s m #[Value.ref b] below meth c H locs cells slots Q (F0 m 216 ls []) := by
  obtain ⟨N, M, r, σ', τ', h1, h2, HR2⟩ := O σ τ HR
  have hx := X.1.1.1
  have hb := X.1.1.2.1
  refine lv_aload_n hx hb dL_law_216 rfl (lv_at hl 2 rfl) ?_
  refine lw_arg X I (n := n) (k := 1) (by omega) hL (lv_at hl 1 rfl) (lv_at hl 0 rfl) rfl dL_law_217 dL_law_218 dL_law_220 dL_law_221 dL_law_222 ?_
  refine lw_arg X I (n := n) (k := 2) (by omega) hL (lv_at hl 1 rfl) (lv_at hl 0 rfl) rfl dL_law_223 dL_law_224 dL_law_226 dL_law_227 dL_law_228 ?_
  refine lw_arg X I (n := n) (k := 3) (by omega) hL (lv_at hl 1 rfl) (lv_at hl 0 rfl) rfl dL_law_229 dL_law_230 dL_law_232 dL_law_233 dL_law_234 ?_
  refine lw_arg X I (n := n) (k := 4) (by omega) hL (lv_at hl 1 rfl) (lv_at hl 0 rfl) rfl dL_law_235 dL_law_236 dL_law_238 dL_law_239 dL_law_240 ?_
  refine lw_arg X I (n := n) (k := 5) (by omega) hL (lv_at hl 1 rfl) (lv_at hl 0 rfl) rfl dL_law_241 dL_law_242 dL_law_244 dL_law_245 dL_law_246 ?_
  refine lw_callX (q := (r, σ')) (As := [.int (xs (n + 1)), .int (xs (n + 2)), .int (xs (n + 3)), .int (xs (n + 4)), .int (xs (n + 5))]) X I (by omega) (by omega) mk_L_19 (lev := 2) (by decide) (c_X11_feed h1) hl.1 rfl rfl (Nat.le_of_ble_eq_true rfl) dL_law_247 (fun H locs I => ?_)
  refine lv_aload_n hx hb dL_law_250 rfl (lv_at hl 3 rfl) ?_
  refine lw_arg X I (n := n) (k := 1) (by omega) hL (lv_at hl 1 rfl) (lv_at hl 0 rfl) rfl dL_law_251 dL_law_252 dL_law_254 dL_law_255 dL_law_256 ?_
  refine lw_arg X I (n := n) (k := 2) (by omega) hL (lv_at hl 1 rfl) (lv_at hl 0 rfl) rfl dL_law_257 dL_law_258 dL_law_260 dL_law_261 dL_law_262 ?_
  refine lw_arg X I (n := n) (k := 3) (by omega) hL (lv_at hl 1 rfl) (lv_at hl 0 rfl) rfl dL_law_263 dL_law_264 dL_law_266 dL_law_267 dL_law_268 ?_
  refine lw_arg X I (n := n) (k := 4) (by omega) hL (lv_at hl 1 rfl) (lv_at hl 0 rfl) rfl dL_law_269 dL_law_270 dL_law_272 dL_law_273 dL_law_274 ?_
  refine lw_arg X I (n := n) (k := 5) (by omega) hL (lv_at hl 1 rfl) (lv_at hl 0 rfl) rfl dL_law_275 dL_law_276 dL_law_278 dL_law_279 dL_law_280 ?_
  refine lw_callM (q := (r, τ')) (As := [.int (xs (n + 1)), .int (xs (n + 2)), .int (xs (n + 3)), .int (xs (n + 4)), .int (xs (n + 5))]) X I (by omega) (by omega) mk_L_23 (lev := 2) (by decide) (c_X12_feed h2) hl.1 rfl rfl (Nat.le_of_ble_eq_true rfl) dL_law_281 (fun H locs I => ?_)
  refine lv_icmp_eq (tgt := 1643) hx hb dL_law_284 (by decide) (fun _ => ?_) (fun h => absurd rfl h)
  refine W.widen (Nat.le_add_right _ _) (Nat.le_add_right _ _) (kk _ _ f H locs ls ?_ I hl)
  exact HR2
set_option maxHeartbeats 4000000 in
theorem lw_k1 (X : lw_X p s m c b L xs P Pm cL) (hL : L ≤ 3072) {n : Nat} (hi : n + 6 ≤ L) (O : lw_Eq Rel (fun N σ => f_X11_end N (xs (n + 1)) σ) (fun N σ => f_X12_end N (xs (n + 1)) σ)) (HR : Rel σ τ) (I : lw_I s P Pm cL σ τ f H locs) (hl : lv_has ls 7 (lw_lv s P Pm b (nI n))) (hcel : cells + 1 ≤ room_1.cells) (hslo : slots + 6 ≤ room_1.slots)
    (kk : lw_Wt Rel p l e s m b below meth c Q P Pm cL n (cells + 1) (slots + 6) 1643) : W p l e room_1 s m #[Value.ref b] below meth c H locs cells slots Q (F0 m 289 ls []) := by
  obtain ⟨N, M, r, σ', τ', h1, h2, HR2⟩ := O σ τ HR
  have hx := X.1.1.1
  have hb := X.1.1.2.1
  refine lv_aload_n hx hb dL_law_289 rfl (lv_at hl 2 rfl) ?_
  refine lw_arg X I (n := n) (k := 1) (by omega) hL (lv_at hl 1 rfl) (lv_at hl 0 rfl) rfl dL_law_290 dL_law_291 dL_law_293 dL_law_294 dL_law_295 ?_
  refine lw_callX (q := (r, σ')) (As := [.int (xs (n + 1))]) X I (by omega) (by omega) mk_L_24 (lev := 1) (by decide) (c_X11_end h1) hl.1 rfl rfl (Nat.le_of_ble_eq_true rfl) dL_law_296 (fun H locs I => ?_)
  refine lv_aload_n hx hb dL_law_299 rfl (lv_at hl 3 rfl) ?_
  refine lw_arg X I (n := n) (k := 1) (by omega) hL (lv_at hl 1 rfl) (lv_at hl 0 rfl) rfl dL_law_300 dL_law_301 dL_law_303 dL_law_304 dL_law_305 ?_
  refine lw_callM (q := (r, τ')) (As := [.int (xs (n + 1))]) X I (by omega) (by omega) mk_L_28 (lev := 1) (by decide) (c_X12_end h2) hl.1 rfl rfl (Nat.le_of_ble_eq_true rfl) dL_law_306 (fun H locs I => ?_)
  refine lv_icmp_eq (tgt := 1643) hx hb dL_law_309 (by decide) (fun _ => ?_) (fun h => absurd rfl h)
  refine W.widen (Nat.le_add_right _ _) (Nat.le_add_right _ _) (kk _ _ f H locs ls ?_ I hl)
  exact HR2
set_option maxHeartbeats 4000000 in
theorem lw_k2 (X : lw_X p s m c b L xs P Pm cL) (hL : L ≤ 3072) {n : Nat} (hi : n + 6 ≤ L) (O : lw_Eq Rel (fun N σ => f_X11_fault N (xs (n + 1)) σ) (fun N σ => f_X12_fault N (xs (n + 1)) σ)) (HR : Rel σ τ) (I : lw_I s P Pm cL σ τ f H locs) (hl : lv_has ls 7 (lw_lv s P Pm b (nI n))) (hcel : cells + 1 ≤ room_1.cells) (hslo : slots + 6 ≤ room_1.slots)
    (kk : lw_Wt Rel p l e s m b below meth c Q P Pm cL n (cells + 1) (slots + 6) 1643) : W p l e room_1 s m #[Value.ref b] below meth c H locs cells slots Q (F0 m 314 ls []) := by
  obtain ⟨N, M, r, σ', τ', h1, h2, HR2⟩ := O σ τ HR
  have hx := X.1.1.1
  have hb := X.1.1.2.1
  refine lv_aload_n hx hb dL_law_314 rfl (lv_at hl 2 rfl) ?_
  refine lw_arg X I (n := n) (k := 1) (by omega) hL (lv_at hl 1 rfl) (lv_at hl 0 rfl) rfl dL_law_315 dL_law_316 dL_law_318 dL_law_319 dL_law_320 ?_
  refine lw_callX (q := (r, σ')) (As := [.int (xs (n + 1))]) X I (by omega) (by omega) mk_L_29 (lev := 294) (by decide) (c_X11_fault h1) hl.1 rfl rfl (Nat.le_of_ble_eq_true rfl) dL_law_321 (fun H locs I => ?_)
  refine lv_aload_n hx hb dL_law_324 rfl (lv_at hl 3 rfl) ?_
  refine lw_arg X I (n := n) (k := 1) (by omega) hL (lv_at hl 1 rfl) (lv_at hl 0 rfl) rfl dL_law_325 dL_law_326 dL_law_328 dL_law_329 dL_law_330 ?_
  refine lw_callM (q := (r, τ')) (As := [.int (xs (n + 1))]) X I (by omega) (by omega) mk_L_33 (lev := 292) (by decide) (c_X12_fault h2) hl.1 rfl rfl (Nat.le_of_ble_eq_true rfl) dL_law_331 (fun H locs I => ?_)
  refine lv_icmp_eq (tgt := 1643) hx hb dL_law_334 (by decide) (fun _ => ?_) (fun h => absurd rfl h)
  refine W.widen (Nat.le_add_right _ _) (Nat.le_add_right _ _) (kk _ _ f H locs ls ?_ I hl)
  exact HR2
set_option maxHeartbeats 4000000 in
theorem lw_k3 (X : lw_X p s m c b L xs P Pm cL) (hL : L ≤ 3072) {n : Nat} (hi : n + 6 ≤ L) (O : lw_Eq Rel (fun N σ => f_X11_text N (xs (n + 1)) σ) (fun N σ => f_X12_text N (xs (n + 1)) σ)) (HR : Rel σ τ) (I : lw_I s P Pm cL σ τ f H locs) (hl : lv_has ls 7 (lw_lv s P Pm b (nI n))) (hcel : cells + 1 ≤ room_1.cells) (hslo : slots + 6 ≤ room_1.slots)
    (kk : lw_Wt Rel p l e s m b below meth c Q P Pm cL n (cells + 1) (slots + 6) 1643) : W p l e room_1 s m #[Value.ref b] below meth c H locs cells slots Q (F0 m 339 ls []) := by
  obtain ⟨N, M, r, σ', τ', h1, h2, HR2⟩ := O σ τ HR
  have hx := X.1.1.1
  have hb := X.1.1.2.1
  refine lv_aload_n hx hb dL_law_339 rfl (lv_at hl 2 rfl) ?_
  refine lw_arg X I (n := n) (k := 1) (by omega) hL (lv_at hl 1 rfl) (lv_at hl 0 rfl) rfl dL_law_340 dL_law_341 dL_law_343 dL_law_344 dL_law_345 ?_
  refine lw_callX (q := (r, σ')) (As := [.int (xs (n + 1))]) X I (by omega) (by omega) mk_L_34 (lev := 294) (by decide) (c_X11_text h1) hl.1 rfl rfl (Nat.le_of_ble_eq_true rfl) dL_law_346 (fun H locs I => ?_)
  refine lv_aload_n hx hb dL_law_349 rfl (lv_at hl 3 rfl) ?_
  refine lw_arg X I (n := n) (k := 1) (by omega) hL (lv_at hl 1 rfl) (lv_at hl 0 rfl) rfl dL_law_350 dL_law_351 dL_law_353 dL_law_354 dL_law_355 ?_
  refine lw_callM (q := (r, τ')) (As := [.int (xs (n + 1))]) X I (by omega) (by omega) mk_L_37 (lev := 292) (by decide) (c_X12_text h2) hl.1 rfl rfl (Nat.le_of_ble_eq_true rfl) dL_law_356 (fun H locs I => ?_)
  refine lv_icmp_eq (tgt := 1643) hx hb dL_law_359 (by decide) (fun _ => ?_) (fun h => absurd rfl h)
  refine W.widen (Nat.le_add_right _ _) (Nat.le_add_right _ _) (kk _ _ f H locs ls ?_ I hl)
  exact HR2
set_option maxHeartbeats 4000000 in
theorem lw_k4 (X : lw_X p s m c b L xs P Pm cL) (hL : L ≤ 3072) {n : Nat} (hi : n + 6 ≤ L) (O : lw_Eq Rel (fun N σ => lw_up (f_X11_rule N (xs (n + 1)) σ) σ) (fun N σ => lw_up (f_X12_rule N (xs (n + 1)) σ) σ)) (HR : Rel σ τ) (I : lw_I s P Pm cL σ τ f H locs) (hl : lv_has ls 7 (lw_lv s P Pm b (nI n))) (hcel : cells + 1 ≤ room_1.cells) (hslo : slots + 6 ≤ room_1.slots)
    (kk : lw_Wt Rel p l e s m b below meth c Q P Pm cL n (cells + 1) (slots + 6) 1643) : W p l e room_1 s m #[Value.ref b] below meth c H locs cells slots Q (F0 m 364 ls []) := by
  obtain ⟨N, M, r, σ', τ', h1, h2, HR2⟩ := O σ τ HR
  have hx := X.1.1.1
  have hb := X.1.1.2.1
  refine lv_aload_n hx hb dL_law_364 rfl (lv_at hl 2 rfl) ?_
  refine lw_arg X I (n := n) (k := 1) (by omega) hL (lv_at hl 1 rfl) (lv_at hl 0 rfl) rfl dL_law_365 dL_law_366 dL_law_368 dL_law_369 dL_law_370 ?_
  refine lw_callX (q := (r, σ)) (As := [.int (xs (n + 1))]) X I (by omega) (by omega) mk_L_38 (lev := 2) (by decide) (c_X11_rule (lw_up_eq h1).1) hl.1 rfl rfl (Nat.le_of_ble_eq_true rfl) dL_law_371 (fun H locs I => ?_)
  refine lv_aload_n hx hb dL_law_374 rfl (lv_at hl 3 rfl) ?_
  refine lw_arg X I (n := n) (k := 1) (by omega) hL (lv_at hl 1 rfl) (lv_at hl 0 rfl) rfl dL_law_375 dL_law_376 dL_law_378 dL_law_379 dL_law_380 ?_
  refine lw_callM (q := (r, τ)) (As := [.int (xs (n + 1))]) X I (by omega) (by omega) mk_L_41 (lev := 2) (by decide) (c_X12_rule (lw_up_eq h2).1) hl.1 rfl rfl (Nat.le_of_ble_eq_true rfl) dL_law_381 (fun H locs I => ?_)
  have e1 := (lw_up_eq h1).2
  have e2 := (lw_up_eq h2).2
  refine lv_icmp_eq (tgt := 1643) hx hb dL_law_384 (by decide) (fun _ => ?_) (fun h => absurd rfl h)
  refine W.widen (Nat.le_add_right _ _) (Nat.le_add_right _ _) (kk _ _ f H locs ls ?_ I hl)
  rw [e1] at HR2
  rw [e2] at HR2
  exact HR2
set_option maxHeartbeats 4000000 in
theorem lw_k5 (X : lw_X p s m c b L xs P Pm cL) (hL : L ≤ 3072) {n : Nat} (hi : n + 6 ≤ L) (O : lw_Eq Rel (fun N σ => f_X11_road N (xs (n + 1)) (xs (n + 2)) σ) (fun N σ => f_X12_road N (xs (n + 1)) (xs (n + 2)) σ)) (HR : Rel σ τ) (I : lw_I s P Pm cL σ τ f H locs) (hl : lv_has ls 7 (lw_lv s P Pm b (nI n))) (hcel : cells + 1 ≤ room_1.cells) (hslo : slots + 6 ≤ room_1.slots)
    (kk : lw_Wt Rel p l e s m b below meth c Q P Pm cL n (cells + 1) (slots + 6) 1643) : W p l e room_1 s m #[Value.ref b] below meth c H locs cells slots Q (F0 m 389 ls []) := by
  obtain ⟨N, M, r, σ', τ', h1, h2, HR2⟩ := O σ τ HR
  have hx := X.1.1.1
  have hb := X.1.1.2.1
  refine lv_aload_n hx hb dL_law_389 rfl (lv_at hl 2 rfl) ?_
  refine lw_arg X I (n := n) (k := 1) (by omega) hL (lv_at hl 1 rfl) (lv_at hl 0 rfl) rfl dL_law_390 dL_law_391 dL_law_393 dL_law_394 dL_law_395 ?_
  refine lw_arg X I (n := n) (k := 2) (by omega) hL (lv_at hl 1 rfl) (lv_at hl 0 rfl) rfl dL_law_396 dL_law_397 dL_law_399 dL_law_400 dL_law_401 ?_
  refine lw_callX (q := (r, σ')) (As := [.int (xs (n + 1)), .int (xs (n + 2))]) X I (by omega) (by omega) mk_L_42 (lev := 5) (by decide) (c_X11_road h1) hl.1 rfl rfl (Nat.le_of_ble_eq_true rfl) dL_law_402 (fun H locs I => ?_)
  refine lv_aload_n hx hb dL_law_405 rfl (lv_at hl 3 rfl) ?_
  refine lw_arg X I (n := n) (k := 1) (by omega) hL (lv_at hl 1 rfl) (lv_at hl 0 rfl) rfl dL_law_406 dL_law_407 dL_law_409 dL_law_410 dL_law_411 ?_
  refine lw_arg X I (n := n) (k := 2) (by omega) hL (lv_at hl 1 rfl) (lv_at hl 0 rfl) rfl dL_law_412 dL_law_413 dL_law_415 dL_law_416 dL_law_417 ?_
  refine lw_callM (q := (r, τ')) (As := [.int (xs (n + 1)), .int (xs (n + 2))]) X I (by omega) (by omega) mk_L_45 (lev := 7) (by decide) (c_X12_road h2) hl.1 rfl rfl (Nat.le_of_ble_eq_true rfl) dL_law_418 (fun H locs I => ?_)
  refine lv_icmp_eq (tgt := 1643) hx hb dL_law_421 (by decide) (fun _ => ?_) (fun h => absurd rfl h)
  refine W.widen (Nat.le_add_right _ _) (Nat.le_add_right _ _) (kk _ _ f H locs ls ?_ I hl)
  exact HR2
set_option maxHeartbeats 4000000 in
theorem lw_k7 (X : lw_X p s m c b L xs P Pm cL) (hL : L ≤ 3072) {n : Nat} (hi : n + 6 ≤ L) (O : lw_Eq Rel (fun N σ => lw_up (f_X11_spot N (xs (n + 1)) (xs (n + 2)) σ) σ) (fun N σ => lw_up (f_X12_spot N (xs (n + 1)) (xs (n + 2)) σ) σ)) (HR : Rel σ τ) (I : lw_I s P Pm cL σ τ f H locs) (hl : lv_has ls 7 (lw_lv s P Pm b (nI n))) (hcel : cells + 1 ≤ room_1.cells) (hslo : slots + 6 ≤ room_1.slots)
    (kk : lw_Wt Rel p l e s m b below meth c Q P Pm cL n (cells + 1) (slots + 6) 1643) : W p l e room_1 s m #[Value.ref b] below meth c H locs cells slots Q (F0 m 494 ls []) := by
  obtain ⟨N, M, r, σ', τ', h1, h2, HR2⟩ := O σ τ HR
  have hx := X.1.1.1
  have hb := X.1.1.2.1
  refine lv_aload_n hx hb dL_law_494 rfl (lv_at hl 2 rfl) ?_
  refine lw_arg X I (n := n) (k := 1) (by omega) hL (lv_at hl 1 rfl) (lv_at hl 0 rfl) rfl dL_law_495 dL_law_496 dL_law_498 dL_law_499 dL_law_500 ?_
  refine lw_arg X I (n := n) (k := 2) (by omega) hL (lv_at hl 1 rfl) (lv_at hl 0 rfl) rfl dL_law_501 dL_law_502 dL_law_504 dL_law_505 dL_law_506 ?_
  refine lw_callX (q := (r, σ)) (As := [.int (xs (n + 1)), .int (xs (n + 2))]) X I (by omega) (by omega) mk_L_56 (lev := 2) (by decide) (c_X11_spot (lw_up_eq h1).1) hl.1 rfl rfl (Nat.le_of_ble_eq_true rfl) dL_law_507 (fun H locs I => ?_)
  refine lv_aload_n hx hb dL_law_510 rfl (lv_at hl 3 rfl) ?_
  refine lw_arg X I (n := n) (k := 1) (by omega) hL (lv_at hl 1 rfl) (lv_at hl 0 rfl) rfl dL_law_511 dL_law_512 dL_law_514 dL_law_515 dL_law_516 ?_
  refine lw_arg X I (n := n) (k := 2) (by omega) hL (lv_at hl 1 rfl) (lv_at hl 0 rfl) rfl dL_law_517 dL_law_518 dL_law_520 dL_law_521 dL_law_522 ?_
  refine lw_callM (q := (r, τ)) (As := [.int (xs (n + 1)), .int (xs (n + 2))]) X I (by omega) (by omega) mk_L_59 (lev := 3) (by decide) (c_X12_spot (lw_up_eq h2).1) hl.1 rfl rfl (Nat.le_of_ble_eq_true rfl) dL_law_523 (fun H locs I => ?_)
  have e1 := (lw_up_eq h1).2
  have e2 := (lw_up_eq h2).2
  refine lv_icmp_eq (tgt := 1643) hx hb dL_law_526 (by decide) (fun _ => ?_) (fun h => absurd rfl h)
  refine W.widen (Nat.le_add_right _ _) (Nat.le_add_right _ _) (kk _ _ f H locs ls ?_ I hl)
  rw [e1] at HR2
  rw [e2] at HR2
  exact HR2
set_option maxHeartbeats 4000000 in
theorem lw_k8 (X : lw_X p s m c b L xs P Pm cL) (hL : L ≤ 3072) {n : Nat} (hi : n + 6 ≤ L) (O : lw_Eq Rel (fun N σ => f_X11_law N (xs (n + 1)) σ) (fun N σ => f_X12_law N (xs (n + 1)) σ)) (HR : Rel σ τ) (I : lw_I s P Pm cL σ τ f H locs) (hl : lv_has ls 7 (lw_lv s P Pm b (nI n))) (hcel : cells + 1 ≤ room_1.cells) (hslo : slots + 6 ≤ room_1.slots)
    (kk : lw_Wt Rel p l e s m b below meth c Q P Pm cL n (cells + 1) (slots + 6) 1643) : W p l e room_1 s m #[Value.ref b] below meth c H locs cells slots Q (F0 m 531 ls []) := by
  obtain ⟨N, M, r, σ', τ', h1, h2, HR2⟩ := O σ τ HR
  have hx := X.1.1.1
  have hb := X.1.1.2.1
  refine lv_aload_n hx hb dL_law_531 rfl (lv_at hl 2 rfl) ?_
  refine lw_arg X I (n := n) (k := 1) (by omega) hL (lv_at hl 1 rfl) (lv_at hl 0 rfl) rfl dL_law_532 dL_law_533 dL_law_535 dL_law_536 dL_law_537 ?_
  refine lw_callX (q := (r, σ')) (As := [.int (xs (n + 1))]) X I (by omega) (by omega) mk_L_60 (lev := 1) (by decide) (c_X11_law h1) hl.1 rfl rfl (Nat.le_of_ble_eq_true rfl) dL_law_538 (fun H locs I => ?_)
  refine lv_aload_n hx hb dL_law_541 rfl (lv_at hl 3 rfl) ?_
  refine lw_arg X I (n := n) (k := 1) (by omega) hL (lv_at hl 1 rfl) (lv_at hl 0 rfl) rfl dL_law_542 dL_law_543 dL_law_545 dL_law_546 dL_law_547 ?_
  refine lw_callM (q := (r, τ')) (As := [.int (xs (n + 1))]) X I (by omega) (by omega) mk_L_63 (lev := 2) (by decide) (c_X12_law h2) hl.1 rfl rfl (Nat.le_of_ble_eq_true rfl) dL_law_548 (fun H locs I => ?_)
  refine lv_icmp_eq (tgt := 1643) hx hb dL_law_551 (by decide) (fun _ => ?_) (fun h => absurd rfl h)
  refine W.widen (Nat.le_add_right _ _) (Nat.le_add_right _ _) (kk _ _ f H locs ls ?_ I hl)
  exact HR2
set_option maxHeartbeats 4000000 in
theorem lw_k9 (X : lw_X p s m c b L xs P Pm cL) (hL : L ≤ 3072) {n : Nat} (hi : n + 6 ≤ L) (O : lw_Eq Rel (fun N σ => lw_up (f_X11_walked N (xs (n + 1)) (xs (n + 2)) σ) σ) (fun N σ => lw_up (f_X12_walked N (xs (n + 1)) (xs (n + 2)) σ) σ)) (HR : Rel σ τ) (I : lw_I s P Pm cL σ τ f H locs) (hl : lv_has ls 7 (lw_lv s P Pm b (nI n))) (hcel : cells + 1 ≤ room_1.cells) (hslo : slots + 6 ≤ room_1.slots)
    (kk : lw_Wt Rel p l e s m b below meth c Q P Pm cL n (cells + 1) (slots + 6) 1643) : W p l e room_1 s m #[Value.ref b] below meth c H locs cells slots Q (F0 m 556 ls []) := by
  obtain ⟨N, M, r, σ', τ', h1, h2, HR2⟩ := O σ τ HR
  have hx := X.1.1.1
  have hb := X.1.1.2.1
  refine lv_aload_n hx hb dL_law_556 rfl (lv_at hl 2 rfl) ?_
  refine lw_arg X I (n := n) (k := 1) (by omega) hL (lv_at hl 1 rfl) (lv_at hl 0 rfl) rfl dL_law_557 dL_law_558 dL_law_560 dL_law_561 dL_law_562 ?_
  refine lw_arg X I (n := n) (k := 2) (by omega) hL (lv_at hl 1 rfl) (lv_at hl 0 rfl) rfl dL_law_563 dL_law_564 dL_law_566 dL_law_567 dL_law_568 ?_
  refine lw_callX (q := (r, σ)) (As := [.int (xs (n + 1)), .int (xs (n + 2))]) X I (by omega) (by omega) mk_L_64 (lev := 3) (by decide) (c_X11_walked (lw_up_eq h1).1) hl.1 rfl rfl (Nat.le_of_ble_eq_true rfl) dL_law_569 (fun H locs I => ?_)
  refine lv_aload_n hx hb dL_law_572 rfl (lv_at hl 3 rfl) ?_
  refine lw_arg X I (n := n) (k := 1) (by omega) hL (lv_at hl 1 rfl) (lv_at hl 0 rfl) rfl dL_law_573 dL_law_574 dL_law_576 dL_law_577 dL_law_578 ?_
  refine lw_arg X I (n := n) (k := 2) (by omega) hL (lv_at hl 1 rfl) (lv_at hl 0 rfl) rfl dL_law_579 dL_law_580 dL_law_582 dL_law_583 dL_law_584 ?_
  refine lw_callM (q := (r, τ)) (As := [.int (xs (n + 1)), .int (xs (n + 2))]) X I (by omega) (by omega) mk_L_67 (lev := 3) (by decide) (c_X12_walked (lw_up_eq h2).1) hl.1 rfl rfl (Nat.le_of_ble_eq_true rfl) dL_law_585 (fun H locs I => ?_)
  have e1 := (lw_up_eq h1).2
  have e2 := (lw_up_eq h2).2
  refine lv_icmp_eq (tgt := 1643) hx hb dL_law_588 (by decide) (fun _ => ?_) (fun h => absurd rfl h)
  refine W.widen (Nat.le_add_right _ _) (Nat.le_add_right _ _) (kk _ _ f H locs ls ?_ I hl)
  rw [e1] at HR2
  rw [e2] at HR2
  exact HR2
set_option maxHeartbeats 4000000 in
theorem lw_k10 (X : lw_X p s m c b L xs P Pm cL) (hL : L ≤ 3072) {n : Nat} (hi : n + 6 ≤ L) (O : lw_Eq Rel (fun N σ => f_X11_days N (xs (n + 1)) σ) (fun N σ => f_X12_days N (xs (n + 1)) σ)) (HR : Rel σ τ) (I : lw_I s P Pm cL σ τ f H locs) (hl : lv_has ls 7 (lw_lv s P Pm b (nI n))) (hcel : cells + 1 ≤ room_1.cells) (hslo : slots + 6 ≤ room_1.slots)
    (kk : lw_Wt Rel p l e s m b below meth c Q P Pm cL n (cells + 1) (slots + 6) 1643) : W p l e room_1 s m #[Value.ref b] below meth c H locs cells slots Q (F0 m 593 ls []) := by
  obtain ⟨N, M, r, σ', τ', h1, h2, HR2⟩ := O σ τ HR
  have hx := X.1.1.1
  have hb := X.1.1.2.1
  refine lv_aload_n hx hb dL_law_593 rfl (lv_at hl 2 rfl) ?_
  refine lw_arg X I (n := n) (k := 1) (by omega) hL (lv_at hl 1 rfl) (lv_at hl 0 rfl) rfl dL_law_594 dL_law_595 dL_law_597 dL_law_598 dL_law_599 ?_
  refine lw_callX (q := (r, σ')) (As := [.int (xs (n + 1))]) X I (by omega) (by omega) mk_L_68 (lev := 7) (by decide) (c_X11_days h1) hl.1 rfl rfl (Nat.le_of_ble_eq_true rfl) dL_law_600 (fun H locs I => ?_)
  refine lv_aload_n hx hb dL_law_603 rfl (lv_at hl 3 rfl) ?_
  refine lw_arg X I (n := n) (k := 1) (by omega) hL (lv_at hl 1 rfl) (lv_at hl 0 rfl) rfl dL_law_604 dL_law_605 dL_law_607 dL_law_608 dL_law_609 ?_
  refine lw_callM (q := (r, τ')) (As := [.int (xs (n + 1))]) X I (by omega) (by omega) mk_L_71 (lev := 10) (by decide) (c_X12_days h2) hl.1 rfl rfl (Nat.le_of_ble_eq_true rfl) dL_law_610 (fun H locs I => ?_)
  refine lv_icmp_eq (tgt := 1643) hx hb dL_law_613 (by decide) (fun _ => ?_) (fun h => absurd rfl h)
  refine W.widen (Nat.le_add_right _ _) (Nat.le_add_right _ _) (kk _ _ f H locs ls ?_ I hl)
  exact HR2
set_option maxHeartbeats 4000000 in
theorem lw_k11 (X : lw_X p s m c b L xs P Pm cL) (hL : L ≤ 3072) {n : Nat} (hi : n + 6 ≤ L) (O : lw_Eq Rel (fun N σ => f_X11_puts N (xs (n + 1)) (xs (n + 2)) σ) (fun N σ => f_X12_puts N (xs (n + 1)) (xs (n + 2)) σ)) (HR : Rel σ τ) (I : lw_I s P Pm cL σ τ f H locs) (hl : lv_has ls 7 (lw_lv s P Pm b (nI n))) (hcel : cells + 1 ≤ room_1.cells) (hslo : slots + 6 ≤ room_1.slots)
    (kk : lw_Wt Rel p l e s m b below meth c Q P Pm cL n (cells + 1) (slots + 6) 1643) : W p l e room_1 s m #[Value.ref b] below meth c H locs cells slots Q (F0 m 618 ls []) := by
  obtain ⟨N, M, r, σ', τ', h1, h2, HR2⟩ := O σ τ HR
  have hx := X.1.1.1
  have hb := X.1.1.2.1
  refine lv_aload_n hx hb dL_law_618 rfl (lv_at hl 2 rfl) ?_
  refine lw_arg X I (n := n) (k := 1) (by omega) hL (lv_at hl 1 rfl) (lv_at hl 0 rfl) rfl dL_law_619 dL_law_620 dL_law_622 dL_law_623 dL_law_624 ?_
  refine lw_arg X I (n := n) (k := 2) (by omega) hL (lv_at hl 1 rfl) (lv_at hl 0 rfl) rfl dL_law_625 dL_law_626 dL_law_628 dL_law_629 dL_law_630 ?_
  refine lw_callX (q := (r, σ')) (As := [.int (xs (n + 1)), .int (xs (n + 2))]) X I (by omega) (by omega) mk_L_72 (lev := 4) (by decide) (c_X11_puts h1) hl.1 rfl rfl (Nat.le_of_ble_eq_true rfl) dL_law_631 (fun H locs I => ?_)
  refine lv_aload_n hx hb dL_law_634 rfl (lv_at hl 3 rfl) ?_
  refine lw_arg X I (n := n) (k := 1) (by omega) hL (lv_at hl 1 rfl) (lv_at hl 0 rfl) rfl dL_law_635 dL_law_636 dL_law_638 dL_law_639 dL_law_640 ?_
  refine lw_arg X I (n := n) (k := 2) (by omega) hL (lv_at hl 1 rfl) (lv_at hl 0 rfl) rfl dL_law_641 dL_law_642 dL_law_644 dL_law_645 dL_law_646 ?_
  refine lw_callM (q := (r, τ')) (As := [.int (xs (n + 1)), .int (xs (n + 2))]) X I (by omega) (by omega) mk_L_75 (lev := 3) (by decide) (c_X12_puts h2) hl.1 rfl rfl (Nat.le_of_ble_eq_true rfl) dL_law_647 (fun H locs I => ?_)
  refine lv_icmp_eq (tgt := 1643) hx hb dL_law_650 (by decide) (fun _ => ?_) (fun h => absurd rfl h)
  refine W.widen (Nat.le_add_right _ _) (Nat.le_add_right _ _) (kk _ _ f H locs ls ?_ I hl)
  exact HR2
set_option maxHeartbeats 4000000 in
theorem lw_k12 (X : lw_X p s m c b L xs P Pm cL) (hL : L ≤ 3072) {n : Nat} (hi : n + 6 ≤ L) (O : lw_Eq Rel (fun N σ => f_X11_carries N (xs (n + 1)) (xs (n + 2)) σ) (fun N σ => f_X12_carries N (xs (n + 1)) (xs (n + 2)) σ)) (HR : Rel σ τ) (I : lw_I s P Pm cL σ τ f H locs) (hl : lv_has ls 7 (lw_lv s P Pm b (nI n))) (hcel : cells + 1 ≤ room_1.cells) (hslo : slots + 6 ≤ room_1.slots)
    (kk : lw_Wt Rel p l e s m b below meth c Q P Pm cL n (cells + 1) (slots + 6) 1643) : W p l e room_1 s m #[Value.ref b] below meth c H locs cells slots Q (F0 m 655 ls []) := by
  obtain ⟨N, M, r, σ', τ', h1, h2, HR2⟩ := O σ τ HR
  have hx := X.1.1.1
  have hb := X.1.1.2.1
  refine lv_aload_n hx hb dL_law_655 rfl (lv_at hl 2 rfl) ?_
  refine lw_arg X I (n := n) (k := 1) (by omega) hL (lv_at hl 1 rfl) (lv_at hl 0 rfl) rfl dL_law_656 dL_law_657 dL_law_659 dL_law_660 dL_law_661 ?_
  refine lw_arg X I (n := n) (k := 2) (by omega) hL (lv_at hl 1 rfl) (lv_at hl 0 rfl) rfl dL_law_662 dL_law_663 dL_law_665 dL_law_666 dL_law_667 ?_
  refine lw_callX (q := (r, σ')) (As := [.int (xs (n + 1)), .int (xs (n + 2))]) X I (by omega) (by omega) mk_L_76 (lev := 4) (by decide) (c_X11_carries h1) hl.1 rfl rfl (Nat.le_of_ble_eq_true rfl) dL_law_668 (fun H locs I => ?_)
  refine lv_aload_n hx hb dL_law_671 rfl (lv_at hl 3 rfl) ?_
  refine lw_arg X I (n := n) (k := 1) (by omega) hL (lv_at hl 1 rfl) (lv_at hl 0 rfl) rfl dL_law_672 dL_law_673 dL_law_675 dL_law_676 dL_law_677 ?_
  refine lw_arg X I (n := n) (k := 2) (by omega) hL (lv_at hl 1 rfl) (lv_at hl 0 rfl) rfl dL_law_678 dL_law_679 dL_law_681 dL_law_682 dL_law_683 ?_
  refine lw_callM (q := (r, τ')) (As := [.int (xs (n + 1)), .int (xs (n + 2))]) X I (by omega) (by omega) mk_L_79 (lev := 3) (by decide) (c_X12_carries h2) hl.1 rfl rfl (Nat.le_of_ble_eq_true rfl) dL_law_684 (fun H locs I => ?_)
  refine lv_icmp_eq (tgt := 1643) hx hb dL_law_687 (by decide) (fun _ => ?_) (fun h => absurd rfl h)
  refine W.widen (Nat.le_add_right _ _) (Nat.le_add_right _ _) (kk _ _ f H locs ls ?_ I hl)
  exact HR2
set_option maxHeartbeats 4000000 in
theorem lw_k13 (X : lw_X p s m c b L xs P Pm cL) (hL : L ≤ 3072) {n : Nat} (hi : n + 6 ≤ L) (O : lw_Eq Rel (fun N σ => f_X11_bars N (xs (n + 1)) σ) (fun N σ => f_X12_bars N (xs (n + 1)) σ)) (HR : Rel σ τ) (I : lw_I s P Pm cL σ τ f H locs) (hl : lv_has ls 7 (lw_lv s P Pm b (nI n))) (hcel : cells + 1 ≤ room_1.cells) (hslo : slots + 6 ≤ room_1.slots)
    (kk : lw_Wt Rel p l e s m b below meth c Q P Pm cL n (cells + 1) (slots + 6) 1643) : W p l e room_1 s m #[Value.ref b] below meth c H locs cells slots Q (F0 m 692 ls []) := by
  obtain ⟨N, M, r, σ', τ', h1, h2, HR2⟩ := O σ τ HR
  have hx := X.1.1.1
  have hb := X.1.1.2.1
  refine lv_aload_n hx hb dL_law_692 rfl (lv_at hl 2 rfl) ?_
  refine lw_arg X I (n := n) (k := 1) (by omega) hL (lv_at hl 1 rfl) (lv_at hl 0 rfl) rfl dL_law_693 dL_law_694 dL_law_696 dL_law_697 dL_law_698 ?_
  refine lw_callX (q := (r, σ')) (As := [.int (xs (n + 1))]) X I (by omega) (by omega) mk_L_80 (lev := 4) (by decide) (c_X11_bars h1) hl.1 rfl rfl (Nat.le_of_ble_eq_true rfl) dL_law_699 (fun H locs I => ?_)
  refine lv_aload_n hx hb dL_law_702 rfl (lv_at hl 3 rfl) ?_
  refine lw_arg X I (n := n) (k := 1) (by omega) hL (lv_at hl 1 rfl) (lv_at hl 0 rfl) rfl dL_law_703 dL_law_704 dL_law_706 dL_law_707 dL_law_708 ?_
  refine lw_callM (q := (r, τ')) (As := [.int (xs (n + 1))]) X I (by omega) (by omega) mk_L_83 (lev := 3) (by decide) (c_X12_bars h2) hl.1 rfl rfl (Nat.le_of_ble_eq_true rfl) dL_law_709 (fun H locs I => ?_)
  refine lv_icmp_eq (tgt := 1643) hx hb dL_law_712 (by decide) (fun _ => ?_) (fun h => absurd rfl h)
  refine W.widen (Nat.le_add_right _ _) (Nat.le_add_right _ _) (kk _ _ f H locs ls ?_ I hl)
  exact HR2
set_option maxHeartbeats 4000000 in
theorem lw_k14 (X : lw_X p s m c b L xs P Pm cL) (hL : L ≤ 3072) {n : Nat} (hi : n + 6 ≤ L) (O : lw_Eq Rel (fun N σ => f_X11_give N (xs (n + 1)) σ) (fun N σ => f_X12_give N (xs (n + 1)) σ)) (HR : Rel σ τ) (I : lw_I s P Pm cL σ τ f H locs) (hl : lv_has ls 7 (lw_lv s P Pm b (nI n))) (hcel : cells + 1 ≤ room_1.cells) (hslo : slots + 6 ≤ room_1.slots)
    (kk : lw_Wt Rel p l e s m b below meth c Q P Pm cL n (cells + 1) (slots + 6) 1643) : W p l e room_1 s m #[Value.ref b] below meth c H locs cells slots Q (F0 m 717 ls []) := by
  obtain ⟨N, M, r, σ', τ', h1, h2, HR2⟩ := O σ τ HR
  have hx := X.1.1.1
  have hb := X.1.1.2.1
  refine lv_aload_n hx hb dL_law_717 rfl (lv_at hl 2 rfl) ?_
  refine lw_arg X I (n := n) (k := 1) (by omega) hL (lv_at hl 1 rfl) (lv_at hl 0 rfl) rfl dL_law_718 dL_law_719 dL_law_721 dL_law_722 dL_law_723 ?_
  refine lw_callX (q := (r, σ')) (As := [.int (xs (n + 1))]) X I (by omega) (by omega) mk_L_84 (lev := 4) (by decide) (c_X11_give h1) hl.1 rfl rfl (Nat.le_of_ble_eq_true rfl) dL_law_724 (fun H locs I => ?_)
  refine lv_aload_n hx hb dL_law_727 rfl (lv_at hl 3 rfl) ?_
  refine lw_arg X I (n := n) (k := 1) (by omega) hL (lv_at hl 1 rfl) (lv_at hl 0 rfl) rfl dL_law_728 dL_law_729 dL_law_731 dL_law_732 dL_law_733 ?_
  refine lw_callM (q := (r, τ')) (As := [.int (xs (n + 1))]) X I (by omega) (by omega) mk_L_87 (lev := 2) (by decide) (c_X12_give h2) hl.1 rfl rfl (Nat.le_of_ble_eq_true rfl) dL_law_734 (fun H locs I => ?_)
  refine lv_icmp_eq (tgt := 1643) hx hb dL_law_737 (by decide) (fun _ => ?_) (fun h => absurd rfl h)
  refine W.widen (Nat.le_add_right _ _) (Nat.le_add_right _ _) (kk _ _ f H locs ls ?_ I hl)
  exact HR2
set_option maxHeartbeats 4000000 in
theorem lw_k15 (X : lw_X p s m c b L xs P Pm cL) (hL : L ≤ 3072) {n : Nat} (hi : n + 6 ≤ L) (O : lw_Eq Rel (fun N σ => f_X11_flood N (xs (n + 1)) σ) (fun N σ => f_X12_flood N (xs (n + 1)) σ)) (HR : Rel σ τ) (I : lw_I s P Pm cL σ τ f H locs) (hl : lv_has ls 7 (lw_lv s P Pm b (nI n))) (hcel : cells + 1 ≤ room_1.cells) (hslo : slots + 6 ≤ room_1.slots)
    (kk : lw_Wt Rel p l e s m b below meth c Q P Pm cL n (cells + 1) (slots + 6) 1643) : W p l e room_1 s m #[Value.ref b] below meth c H locs cells slots Q (F0 m 742 ls []) := by
  obtain ⟨N, M, r, σ', τ', h1, h2, HR2⟩ := O σ τ HR
  have hx := X.1.1.1
  have hb := X.1.1.2.1
  refine lv_aload_n hx hb dL_law_742 rfl (lv_at hl 2 rfl) ?_
  refine lw_arg X I (n := n) (k := 1) (by omega) hL (lv_at hl 1 rfl) (lv_at hl 0 rfl) rfl dL_law_743 dL_law_744 dL_law_746 dL_law_747 dL_law_748 ?_
  refine lw_callX (q := (r, σ')) (As := [.int (xs (n + 1))]) X I (by omega) (by omega) mk_L_88 (lev := 1) (by decide) (c_X11_flood h1) hl.1 rfl rfl (Nat.le_of_ble_eq_true rfl) dL_law_749 (fun H locs I => ?_)
  refine lv_aload_n hx hb dL_law_752 rfl (lv_at hl 3 rfl) ?_
  refine lw_arg X I (n := n) (k := 1) (by omega) hL (lv_at hl 1 rfl) (lv_at hl 0 rfl) rfl dL_law_753 dL_law_754 dL_law_756 dL_law_757 dL_law_758 ?_
  refine lw_callM (q := (r, τ')) (As := [.int (xs (n + 1))]) X I (by omega) (by omega) mk_L_91 (lev := 2) (by decide) (c_X12_flood h2) hl.1 rfl rfl (Nat.le_of_ble_eq_true rfl) dL_law_759 (fun H locs I => ?_)
  refine lv_icmp_eq (tgt := 1643) hx hb dL_law_762 (by decide) (fun _ => ?_) (fun h => absurd rfl h)
  refine W.widen (Nat.le_add_right _ _) (Nat.le_add_right _ _) (kk _ _ f H locs ls ?_ I hl)
  exact HR2
set_option maxHeartbeats 4000000 in
theorem lw_k16 (X : lw_X p s m c b L xs P Pm cL) (hL : L ≤ 3072) {n : Nat} (hi : n + 6 ≤ L) (O : lw_Eq Rel (fun N σ => f_X11_years N (xs (n + 1)) ((((xs (n + 2)).toInt64 <<< 32) ||| ((xs (n + 3)).toInt64 &&& 4294967295))) σ) (fun N σ => f_X12_years N (xs (n + 1)) ((((xs (n + 2)).toInt64 <<< 32) ||| ((xs (n + 3)).toInt64 &&& 4294967295))) σ)) (HR : Rel σ τ) (I : lw_I s P Pm cL σ τ f H locs) (hl : lv_has ls 7 (lw_lv s P Pm b (nI n))) (hcel : cells + 1 ≤ room_1.cells) (hslo : slots + 6 ≤ room_1.slots)
    (kk : lw_Wt Rel p l e s m b below meth c Q P Pm cL n (cells + 1) (slots + 6) 1643) : W p l e room_1 s m #[Value.ref b] below meth c H locs cells slots Q (F0 m 767 ls []) := by
  obtain ⟨N, M, r, σ', τ', h1, h2, HR2⟩ := O σ τ HR
  have hx := X.1.1.1
  have hb := X.1.1.2.1
  refine lv_aload_n hx hb dL_law_767 rfl (lv_at hl 2 rfl) ?_
  refine lw_arg X I (n := n) (k := 1) (by omega) hL (lv_at hl 1 rfl) (lv_at hl 0 rfl) rfl dL_law_768 dL_law_769 dL_law_771 dL_law_772 dL_law_773 ?_
  refine lw_arg X I (n := n) (k := 2) (by omega) hL (lv_at hl 1 rfl) (lv_at hl 0 rfl) rfl dL_law_774 dL_law_775 dL_law_777 dL_law_778 dL_law_779 ?_
  refine lv_i2l hx hb dL_law_780 rfl ?_
  refine lv_bipush (v := 32) hx hb dL_law_781 (by decide) ?_
  refine lv_lshl (v := (xs (n + 2)).toInt64 <<< 32) hx hb dL_law_783 (by rw [show ((32 : Int32).toInt64 &&& 63) = 32 from by decide]) ?_
  refine lw_arg X I (n := n) (k := 3) (by omega) hL (lv_at hl 1 rfl) (lv_at hl 0 rfl) rfl dL_law_784 dL_law_785 dL_law_787 dL_law_788 dL_law_789 ?_
  refine lv_i2l hx hb dL_law_790 rfl ?_
  refine lv_ldc2 (v := 4294967295) hx hb X.1.1.2.2.2.1 (X.1.1.2.2.2.2 _ qw_7) dL_law_791 ?_
  refine lv_land hx hb dL_law_794 ?_
  refine lv_lor hx hb dL_law_795 ?_
  refine lw_callX (q := (r, σ')) (As := [.int (xs (n + 1)), .long ((((xs (n + 2)).toInt64 <<< 32) ||| ((xs (n + 3)).toInt64 &&& 4294967295)))]) X I (by omega) (by omega) mk_L_94 (lev := 7) (by decide) (c_X11_years h1) hl.1 rfl rfl (Nat.le_of_ble_eq_true rfl) dL_law_796 (fun H locs I => ?_)
  refine lv_aload_n hx hb dL_law_799 rfl (lv_at hl 3 rfl) ?_
  refine lw_arg X I (n := n) (k := 1) (by omega) hL (lv_at hl 1 rfl) (lv_at hl 0 rfl) rfl dL_law_800 dL_law_801 dL_law_803 dL_law_804 dL_law_805 ?_
  refine lw_arg X I (n := n) (k := 2) (by omega) hL (lv_at hl 1 rfl) (lv_at hl 0 rfl) rfl dL_law_806 dL_law_807 dL_law_809 dL_law_810 dL_law_811 ?_
  refine lv_i2l hx hb dL_law_812 rfl ?_
  refine lv_bipush (v := 32) hx hb dL_law_813 (by decide) ?_
  refine lv_lshl (v := (xs (n + 2)).toInt64 <<< 32) hx hb dL_law_815 (by rw [show ((32 : Int32).toInt64 &&& 63) = 32 from by decide]) ?_
  refine lw_arg X I (n := n) (k := 3) (by omega) hL (lv_at hl 1 rfl) (lv_at hl 0 rfl) rfl dL_law_816 dL_law_817 dL_law_819 dL_law_820 dL_law_821 ?_
  refine lv_i2l hx hb dL_law_822 rfl ?_
  refine lv_ldc2 (v := 4294967295) hx hb X.1.1.2.2.2.1 (X.1.1.2.2.2.2 _ qw_7) dL_law_823 ?_
  refine lv_land hx hb dL_law_826 ?_
  refine lv_lor hx hb dL_law_827 ?_
  refine lw_callM (q := (r, τ')) (As := [.int (xs (n + 1)), .long ((((xs (n + 2)).toInt64 <<< 32) ||| ((xs (n + 3)).toInt64 &&& 4294967295)))]) X I (by omega) (by omega) mk_L_98 (lev := 10) (by decide) (c_X12_years h2) hl.1 rfl rfl (Nat.le_of_ble_eq_true rfl) dL_law_828 (fun H locs I => ?_)
  refine lv_icmp_eq (tgt := 1643) hx hb dL_law_831 (by decide) (fun _ => ?_) (fun h => absurd rfl h)
  refine W.widen (Nat.le_add_right _ _) (Nat.le_add_right _ _) (kk _ _ f H locs ls ?_ I hl)
  exact HR2
set_option maxHeartbeats 4000000 in
theorem lw_k17 (X : lw_X p s m c b L xs P Pm cL) (hL : L ≤ 3072) {n : Nat} (hi : n + 6 ≤ L) (O : lw_Eq Rel (fun N σ => lw_up (f_X11_status N (xs (n + 1)) σ) σ) (fun N σ => lw_up (f_X12_status N (xs (n + 1)) σ) σ)) (HR : Rel σ τ) (I : lw_I s P Pm cL σ τ f H locs) (hl : lv_has ls 7 (lw_lv s P Pm b (nI n))) (hcel : cells + 1 ≤ room_1.cells) (hslo : slots + 6 ≤ room_1.slots)
    (kk : lw_Wt Rel p l e s m b below meth c Q P Pm cL n (cells + 1) (slots + 6) 1643) : W p l e room_1 s m #[Value.ref b] below meth c H locs cells slots Q (F0 m 836 ls []) := by
  obtain ⟨N, M, r, σ', τ', h1, h2, HR2⟩ := O σ τ HR
  have hx := X.1.1.1
  have hb := X.1.1.2.1
  refine lv_aload_n hx hb dL_law_836 rfl (lv_at hl 2 rfl) ?_
  refine lw_arg X I (n := n) (k := 1) (by omega) hL (lv_at hl 1 rfl) (lv_at hl 0 rfl) rfl dL_law_837 dL_law_838 dL_law_840 dL_law_841 dL_law_842 ?_
  refine lw_callX (q := (r, σ)) (As := [.int (xs (n + 1))]) X I (by omega) (by omega) mk_L_99 (lev := 1) (by decide) (c_X11_status (lw_up_eq h1).1) hl.1 rfl rfl (Nat.le_of_ble_eq_true rfl) dL_law_843 (fun H locs I => ?_)
  refine lv_aload_n hx hb dL_law_846 rfl (lv_at hl 3 rfl) ?_
  refine lw_arg X I (n := n) (k := 1) (by omega) hL (lv_at hl 1 rfl) (lv_at hl 0 rfl) rfl dL_law_847 dL_law_848 dL_law_850 dL_law_851 dL_law_852 ?_
  refine lw_callM (q := (r, τ)) (As := [.int (xs (n + 1))]) X I (by omega) (by omega) mk_L_102 (lev := 2) (by decide) (c_X12_status (lw_up_eq h2).1) hl.1 rfl rfl (Nat.le_of_ble_eq_true rfl) dL_law_853 (fun H locs I => ?_)
  have e1 := (lw_up_eq h1).2
  have e2 := (lw_up_eq h2).2
  refine lv_icmp_eq (tgt := 1643) hx hb dL_law_856 (by decide) (fun _ => ?_) (fun h => absurd rfl h)
  refine W.widen (Nat.le_add_right _ _) (Nat.le_add_right _ _) (kk _ _ f H locs ls ?_ I hl)
  rw [e1] at HR2
  rw [e2] at HR2
  exact HR2
set_option maxHeartbeats 4000000 in
theorem lw_k18 (X : lw_X p s m c b L xs P Pm cL) (hL : L ≤ 3072) {n : Nat} (hi : n + 6 ≤ L) (O : lw_Eq Rel (fun N σ => f_X11_undo N σ) (fun N σ => f_X12_undo N σ)) (HR : Rel σ τ) (I : lw_I s P Pm cL σ τ f H locs) (hl : lv_has ls 7 (lw_lv s P Pm b (nI n))) (hcel : cells + 1 ≤ room_1.cells) (hslo : slots + 6 ≤ room_1.slots)
    (kk : lw_Wt Rel p l e s m b below meth c Q P Pm cL n (cells + 1) (slots + 6) 1643) : W p l e room_1 s m #[Value.ref b] below meth c H locs cells slots Q (F0 m 861 ls []) := by
  obtain ⟨N, M, r, σ', τ', h1, h2, HR2⟩ := O σ τ HR
  have hx := X.1.1.1
  have hb := X.1.1.2.1
  refine lv_aload_n hx hb dL_law_861 rfl (lv_at hl 2 rfl) ?_
  refine lw_callX (q := (r, σ')) (As := []) X I (by omega) (by omega) mk_L_103 (lev := 4) (by decide) (c_X11_undo h1) hl.1 rfl rfl (Nat.le_of_ble_eq_true rfl) dL_law_862 (fun H locs I => ?_)
  refine lv_aload_n hx hb dL_law_865 rfl (lv_at hl 3 rfl) ?_
  refine lw_callM (q := (r, τ')) (As := []) X I (by omega) (by omega) mk_L_106 (lev := 1) (by decide) (c_X12_undo h2) hl.1 rfl rfl (Nat.le_of_ble_eq_true rfl) dL_law_866 (fun H locs I => ?_)
  refine lv_icmp_eq (tgt := 1643) hx hb dL_law_869 (by decide) (fun _ => ?_) (fun h => absurd rfl h)
  refine W.widen (Nat.le_add_right _ _) (Nat.le_add_right _ _) (kk _ _ f H locs ls ?_ I hl)
  exact HR2
set_option maxHeartbeats 4000000 in
theorem lw_k19 (X : lw_X p s m c b L xs P Pm cL) (hL : L ≤ 3072) {n : Nat} (hi : n + 6 ≤ L) (O : lw_Eq Rel (fun N σ => lw_up (f_X11_log N (xs (n + 1)) (xs (n + 2)) σ) σ) (fun N σ => lw_up (f_X12_log N (xs (n + 1)) (xs (n + 2)) σ) σ)) (HR : Rel σ τ) (I : lw_I s P Pm cL σ τ f H locs) (hl : lv_has ls 7 (lw_lv s P Pm b (nI n))) (hcel : cells + 1 ≤ room_1.cells) (hslo : slots + 6 ≤ room_1.slots)
    (kk : lw_Wt Rel p l e s m b below meth c Q P Pm cL n (cells + 1) (slots + 6) 1643) : W p l e room_1 s m #[Value.ref b] below meth c H locs cells slots Q (F0 m 874 ls []) := by
  obtain ⟨N, M, r, σ', τ', h1, h2, HR2⟩ := O σ τ HR
  have hx := X.1.1.1
  have hb := X.1.1.2.1
  refine lv_aload_n hx hb dL_law_874 rfl (lv_at hl 2 rfl) ?_
  refine lw_arg X I (n := n) (k := 1) (by omega) hL (lv_at hl 1 rfl) (lv_at hl 0 rfl) rfl dL_law_875 dL_law_876 dL_law_878 dL_law_879 dL_law_880 ?_
  refine lw_arg X I (n := n) (k := 2) (by omega) hL (lv_at hl 1 rfl) (lv_at hl 0 rfl) rfl dL_law_881 dL_law_882 dL_law_884 dL_law_885 dL_law_886 ?_
  refine lw_callX (q := (r, σ)) (As := [.int (xs (n + 1)), .int (xs (n + 2))]) X I (by omega) (by omega) mk_L_107 (lev := 4) (by decide) (c_X11_log (lw_up_eq h1).1) hl.1 rfl rfl (Nat.le_of_ble_eq_true rfl) dL_law_887 (fun H locs I => ?_)
  refine lv_aload_n hx hb dL_law_890 rfl (lv_at hl 3 rfl) ?_
  refine lw_arg X I (n := n) (k := 1) (by omega) hL (lv_at hl 1 rfl) (lv_at hl 0 rfl) rfl dL_law_891 dL_law_892 dL_law_894 dL_law_895 dL_law_896 ?_
  refine lw_arg X I (n := n) (k := 2) (by omega) hL (lv_at hl 1 rfl) (lv_at hl 0 rfl) rfl dL_law_897 dL_law_898 dL_law_900 dL_law_901 dL_law_902 ?_
  refine lw_callM (q := (r, τ)) (As := [.int (xs (n + 1)), .int (xs (n + 2))]) X I (by omega) (by omega) mk_L_110 (lev := 2) (by decide) (c_X12_log (lw_up_eq h2).1) hl.1 rfl rfl (Nat.le_of_ble_eq_true rfl) dL_law_903 (fun H locs I => ?_)
  have e1 := (lw_up_eq h1).2
  have e2 := (lw_up_eq h2).2
  refine lv_icmp_eq (tgt := 1643) hx hb dL_law_906 (by decide) (fun _ => ?_) (fun h => absurd rfl h)
  refine W.widen (Nat.le_add_right _ _) (Nat.le_add_right _ _) (kk _ _ f H locs ls ?_ I hl)
  rw [e1] at HR2
  rw [e2] at HR2
  exact HR2
set_option maxHeartbeats 4000000 in
theorem lw_k20 (X : lw_X p s m c b L xs P Pm cL) (hL : L ≤ 3072) {n : Nat} (hi : n + 6 ≤ L) (O : lw_Eq Rel (fun N σ => f_X11_far N (xs (n + 1)) (xs (n + 2)) σ) (fun N σ => f_X12_far N (xs (n + 1)) (xs (n + 2)) σ)) (HR : Rel σ τ) (I : lw_I s P Pm cL σ τ f H locs) (hl : lv_has ls 7 (lw_lv s P Pm b (nI n))) (hcel : cells + 1 ≤ room_1.cells) (hslo : slots + 6 ≤ room_1.slots)
    (kk : lw_Wt Rel p l e s m b below meth c Q P Pm cL n (cells + 1) (slots + 6) 1643) : W p l e room_1 s m #[Value.ref b] below meth c H locs cells slots Q (F0 m 911 ls []) := by
  obtain ⟨N, M, r, σ', τ', h1, h2, HR2⟩ := O σ τ HR
  have hx := X.1.1.1
  have hb := X.1.1.2.1
  refine lv_aload_n hx hb dL_law_911 rfl (lv_at hl 2 rfl) ?_
  refine lw_arg X I (n := n) (k := 1) (by omega) hL (lv_at hl 1 rfl) (lv_at hl 0 rfl) rfl dL_law_912 dL_law_913 dL_law_915 dL_law_916 dL_law_917 ?_
  refine lw_arg X I (n := n) (k := 2) (by omega) hL (lv_at hl 1 rfl) (lv_at hl 0 rfl) rfl dL_law_918 dL_law_919 dL_law_921 dL_law_922 dL_law_923 ?_
  refine lw_callX (q := (r, σ')) (As := [.int (xs (n + 1)), .int (xs (n + 2))]) X I (by omega) (by omega) mk_L_111 (lev := 6) (by decide) (c_X11_far h1) hl.1 rfl rfl (Nat.le_of_ble_eq_true rfl) dL_law_924 (fun H locs I => ?_)
  refine lv_aload_n hx hb dL_law_927 rfl (lv_at hl 3 rfl) ?_
  refine lw_arg X I (n := n) (k := 1) (by omega) hL (lv_at hl 1 rfl) (lv_at hl 0 rfl) rfl dL_law_928 dL_law_929 dL_law_931 dL_law_932 dL_law_933 ?_
  refine lw_arg X I (n := n) (k := 2) (by omega) hL (lv_at hl 1 rfl) (lv_at hl 0 rfl) rfl dL_law_934 dL_law_935 dL_law_937 dL_law_938 dL_law_939 ?_
  refine lw_callM (q := (r, τ')) (As := [.int (xs (n + 1)), .int (xs (n + 2))]) X I (by omega) (by omega) mk_L_114 (lev := 9) (by decide) (c_X12_far h2) hl.1 rfl rfl (Nat.le_of_ble_eq_true rfl) dL_law_940 (fun H locs I => ?_)
  refine lv_icmp_eq (tgt := 1643) hx hb dL_law_943 (by decide) (fun _ => ?_) (fun h => absurd rfl h)
  refine W.widen (Nat.le_add_right _ _) (Nat.le_add_right _ _) (kk _ _ f H locs ls ?_ I hl)
  exact HR2
set_option maxHeartbeats 4000000 in
theorem lw_k21 (X : lw_X p s m c b L xs P Pm cL) (hL : L ≤ 3072) {n : Nat} (hi : n + 6 ≤ L) (O : lw_Eq Rel (fun N σ => f_X11_row N (xs (n + 1)) (xs (n + 2)) σ) (fun N σ => f_X12_row N (xs (n + 1)) (xs (n + 2)) σ)) (HR : Rel σ τ) (I : lw_I s P Pm cL σ τ f H locs) (hl : lv_has ls 7 (lw_lv s P Pm b (nI n))) (hcel : cells + 1 ≤ room_1.cells) (hslo : slots + 6 ≤ room_1.slots)
    (kk : lw_Wt Rel p l e s m b below meth c Q P Pm cL n (cells + 1) (slots + 6) 1643) : W p l e room_1 s m #[Value.ref b] below meth c H locs cells slots Q (F0 m 948 ls []) := by
  obtain ⟨N, M, r, σ', τ', h1, h2, HR2⟩ := O σ τ HR
  have hx := X.1.1.1
  have hb := X.1.1.2.1
  refine lv_aload_n hx hb dL_law_948 rfl (lv_at hl 2 rfl) ?_
  refine lw_arg X I (n := n) (k := 1) (by omega) hL (lv_at hl 1 rfl) (lv_at hl 0 rfl) rfl dL_law_949 dL_law_950 dL_law_952 dL_law_953 dL_law_954 ?_
  refine lw_arg X I (n := n) (k := 2) (by omega) hL (lv_at hl 1 rfl) (lv_at hl 0 rfl) rfl dL_law_955 dL_law_956 dL_law_958 dL_law_959 dL_law_960 ?_
  refine lw_callX (q := (r, σ')) (As := [.int (xs (n + 1)), .int (xs (n + 2))]) X I (by omega) (by omega) mk_L_115 (lev := 6) (by decide) (c_X11_row h1) hl.1 rfl rfl (Nat.le_of_ble_eq_true rfl) dL_law_961 (fun H locs I => ?_)
  refine lv_aload_n hx hb dL_law_964 rfl (lv_at hl 3 rfl) ?_
  refine lw_arg X I (n := n) (k := 1) (by omega) hL (lv_at hl 1 rfl) (lv_at hl 0 rfl) rfl dL_law_965 dL_law_966 dL_law_968 dL_law_969 dL_law_970 ?_
  refine lw_arg X I (n := n) (k := 2) (by omega) hL (lv_at hl 1 rfl) (lv_at hl 0 rfl) rfl dL_law_971 dL_law_972 dL_law_974 dL_law_975 dL_law_976 ?_
  refine lw_callM (q := (r, τ')) (As := [.int (xs (n + 1)), .int (xs (n + 2))]) X I (by omega) (by omega) mk_L_118 (lev := 43) (by decide) (c_X12_row h2) hl.1 rfl rfl (Nat.le_of_ble_eq_true rfl) dL_law_977 (fun H locs I => ?_)
  refine lv_icmp_eq (tgt := 1643) hx hb dL_law_980 (by decide) (fun _ => ?_) (fun h => absurd rfl h)
  refine W.widen (Nat.le_add_right _ _) (Nat.le_add_right _ _) (kk _ _ f H locs ls ?_ I hl)
  exact HR2
set_option maxHeartbeats 4000000 in
theorem lw_k22 (X : lw_X p s m c b L xs P Pm cL) (hL : L ≤ 3072) {n : Nat} (hi : n + 6 ≤ L) (O : lw_Eq Rel (fun N σ => f_X11_where N (xs (n + 1)) (xs (n + 2)) σ) (fun N σ => f_X12_where N (xs (n + 1)) (xs (n + 2)) σ)) (HR : Rel σ τ) (I : lw_I s P Pm cL σ τ f H locs) (hl : lv_has ls 7 (lw_lv s P Pm b (nI n))) (hcel : cells + 1 ≤ room_1.cells) (hslo : slots + 6 ≤ room_1.slots)
    (kk : lw_Wt Rel p l e s m b below meth c Q P Pm cL n (cells + 1) (slots + 6) 1643) : W p l e room_1 s m #[Value.ref b] below meth c H locs cells slots Q (F0 m 985 ls []) := by
  obtain ⟨N, M, r, σ', τ', h1, h2, HR2⟩ := O σ τ HR
  have hx := X.1.1.1
  have hb := X.1.1.2.1
  refine lv_aload_n hx hb dL_law_985 rfl (lv_at hl 2 rfl) ?_
  refine lw_arg X I (n := n) (k := 1) (by omega) hL (lv_at hl 1 rfl) (lv_at hl 0 rfl) rfl dL_law_986 dL_law_987 dL_law_989 dL_law_990 dL_law_991 ?_
  refine lw_arg X I (n := n) (k := 2) (by omega) hL (lv_at hl 1 rfl) (lv_at hl 0 rfl) rfl dL_law_992 dL_law_993 dL_law_995 dL_law_996 dL_law_997 ?_
  refine lw_callX (q := (r, σ')) (As := [.int (xs (n + 1)), .int (xs (n + 2))]) X I (by omega) (by omega) mk_L_119 (lev := 6) (by decide) (c_X11_where h1) hl.1 rfl rfl (Nat.le_of_ble_eq_true rfl) dL_law_998 (fun H locs I => ?_)
  refine lv_aload_n hx hb dL_law_1001 rfl (lv_at hl 3 rfl) ?_
  refine lw_arg X I (n := n) (k := 1) (by omega) hL (lv_at hl 1 rfl) (lv_at hl 0 rfl) rfl dL_law_1002 dL_law_1003 dL_law_1005 dL_law_1006 dL_law_1007 ?_
  refine lw_arg X I (n := n) (k := 2) (by omega) hL (lv_at hl 1 rfl) (lv_at hl 0 rfl) rfl dL_law_1008 dL_law_1009 dL_law_1011 dL_law_1012 dL_law_1013 ?_
  refine lw_callM (q := (r, τ')) (As := [.int (xs (n + 1)), .int (xs (n + 2))]) X I (by omega) (by omega) mk_L_122 (lev := 9) (by decide) (c_X12_where h2) hl.1 rfl rfl (Nat.le_of_ble_eq_true rfl) dL_law_1014 (fun H locs I => ?_)
  refine lv_icmp_eq (tgt := 1643) hx hb dL_law_1017 (by decide) (fun _ => ?_) (fun h => absurd rfl h)
  refine W.widen (Nat.le_add_right _ _) (Nat.le_add_right _ _) (kk _ _ f H locs ls ?_ I hl)
  exact HR2
set_option maxHeartbeats 4000000 in
theorem lw_k23 (X : lw_X p s m c b L xs P Pm cL) (hL : L ≤ 3072) {n : Nat} (hi : n + 6 ≤ L) (O : lw_Eq Rel (fun N σ => f_X11_done N (xs (n + 1)) σ) (fun N σ => f_X12_done N (xs (n + 1)) σ)) (HR : Rel σ τ) (I : lw_I s P Pm cL σ τ f H locs) (hl : lv_has ls 7 (lw_lv s P Pm b (nI n))) (hcel : cells + 1 ≤ room_1.cells) (hslo : slots + 6 ≤ room_1.slots)
    (kk : lw_Wt Rel p l e s m b below meth c Q P Pm cL n (cells + 1) (slots + 6) 1643) : W p l e room_1 s m #[Value.ref b] below meth c H locs cells slots Q (F0 m 1022 ls []) := by
  obtain ⟨N, M, r, σ', τ', h1, h2, HR2⟩ := O σ τ HR
  have hx := X.1.1.1
  have hb := X.1.1.2.1
  refine lv_aload_n hx hb dL_law_1022 rfl (lv_at hl 2 rfl) ?_
  refine lw_arg X I (n := n) (k := 1) (by omega) hL (lv_at hl 1 rfl) (lv_at hl 0 rfl) rfl dL_law_1023 dL_law_1024 dL_law_1026 dL_law_1027 dL_law_1028 ?_
  refine lw_callX (q := (r, σ')) (As := [.int (xs (n + 1))]) X I (by omega) (by omega) mk_L_123 (lev := 6) (by decide) (c_X11_done h1) hl.1 rfl rfl (Nat.le_of_ble_eq_true rfl) dL_law_1029 (fun H locs I => ?_)
  refine lv_aload_n hx hb dL_law_1032 rfl (lv_at hl 3 rfl) ?_
  refine lw_arg X I (n := n) (k := 1) (by omega) hL (lv_at hl 1 rfl) (lv_at hl 0 rfl) rfl dL_law_1033 dL_law_1034 dL_law_1036 dL_law_1037 dL_law_1038 ?_
  refine lw_callM (q := (r, τ')) (As := [.int (xs (n + 1))]) X I (by omega) (by omega) mk_L_126 (lev := 9) (by decide) (c_X12_done h2) hl.1 rfl rfl (Nat.le_of_ble_eq_true rfl) dL_law_1039 (fun H locs I => ?_)
  refine lv_icmp_eq (tgt := 1643) hx hb dL_law_1042 (by decide) (fun _ => ?_) (fun h => absurd rfl h)
  refine W.widen (Nat.le_add_right _ _) (Nat.le_add_right _ _) (kk _ _ f H locs ls ?_ I hl)
  exact HR2
set_option maxHeartbeats 4000000 in
theorem lw_k24 (X : lw_X p s m c b L xs P Pm cL) (hL : L ≤ 3072) {n : Nat} (hi : n + 6 ≤ L) (O : lw_Eq Rel (fun N σ => lw_up (f_X11_parted N (xs (n + 1)) (xs (n + 2)) σ) σ) (fun N σ => lw_up (f_X12_parted N (xs (n + 1)) (xs (n + 2)) σ) σ)) (HR : Rel σ τ) (I : lw_I s P Pm cL σ τ f H locs) (hl : lv_has ls 7 (lw_lv s P Pm b (nI n))) (hcel : cells + 1 ≤ room_1.cells) (hslo : slots + 6 ≤ room_1.slots)
    (kk : lw_Wt Rel p l e s m b below meth c Q P Pm cL n (cells + 1) (slots + 6) 1643) : W p l e room_1 s m #[Value.ref b] below meth c H locs cells slots Q (F0 m 1047 ls []) := by
  obtain ⟨N, M, r, σ', τ', h1, h2, HR2⟩ := O σ τ HR
  have hx := X.1.1.1
  have hb := X.1.1.2.1
  refine lv_aload_n hx hb dL_law_1047 rfl (lv_at hl 2 rfl) ?_
  refine lw_arg X I (n := n) (k := 1) (by omega) hL (lv_at hl 1 rfl) (lv_at hl 0 rfl) rfl dL_law_1048 dL_law_1049 dL_law_1051 dL_law_1052 dL_law_1053 ?_
  refine lw_arg X I (n := n) (k := 2) (by omega) hL (lv_at hl 1 rfl) (lv_at hl 0 rfl) rfl dL_law_1054 dL_law_1055 dL_law_1057 dL_law_1058 dL_law_1059 ?_
  refine lw_callX (q := (r, σ)) (As := [.int (xs (n + 1)), .int (xs (n + 2))]) X I (by omega) (by omega) mk_L_127 (lev := 4) (by decide) (c_X11_parted (lw_up_eq h1).1) hl.1 rfl rfl (Nat.le_of_ble_eq_true rfl) dL_law_1060 (fun H locs I => ?_)
  refine lv_aload_n hx hb dL_law_1063 rfl (lv_at hl 3 rfl) ?_
  refine lw_arg X I (n := n) (k := 1) (by omega) hL (lv_at hl 1 rfl) (lv_at hl 0 rfl) rfl dL_law_1064 dL_law_1065 dL_law_1067 dL_law_1068 dL_law_1069 ?_
  refine lw_arg X I (n := n) (k := 2) (by omega) hL (lv_at hl 1 rfl) (lv_at hl 0 rfl) rfl dL_law_1070 dL_law_1071 dL_law_1073 dL_law_1074 dL_law_1075 ?_
  refine lw_callM (q := (r, τ)) (As := [.int (xs (n + 1)), .int (xs (n + 2))]) X I (by omega) (by omega) mk_L_130 (lev := 4) (by decide) (c_X12_parted (lw_up_eq h2).1) hl.1 rfl rfl (Nat.le_of_ble_eq_true rfl) dL_law_1076 (fun H locs I => ?_)
  have e1 := (lw_up_eq h1).2
  have e2 := (lw_up_eq h2).2
  refine lv_icmp_eq (tgt := 1643) hx hb dL_law_1079 (by decide) (fun _ => ?_) (fun h => absurd rfl h)
  refine W.widen (Nat.le_add_right _ _) (Nat.le_add_right _ _) (kk _ _ f H locs ls ?_ I hl)
  rw [e1] at HR2
  rw [e2] at HR2
  exact HR2
set_option maxHeartbeats 4000000 in
theorem lw_k25 (X : lw_X p s m c b L xs P Pm cL) (hL : L ≤ 3072) {n : Nat} (hi : n + 6 ≤ L) (O : lw_Eq Rel (fun N σ => lw_up (f_X11_joined N (xs (n + 1)) (xs (n + 2)) σ) σ) (fun N σ => lw_up (f_X12_joined N (xs (n + 1)) (xs (n + 2)) σ) σ)) (HR : Rel σ τ) (I : lw_I s P Pm cL σ τ f H locs) (hl : lv_has ls 7 (lw_lv s P Pm b (nI n))) (hcel : cells + 1 ≤ room_1.cells) (hslo : slots + 6 ≤ room_1.slots)
    (kk : lw_Wt Rel p l e s m b below meth c Q P Pm cL n (cells + 1) (slots + 6) 1643) : W p l e room_1 s m #[Value.ref b] below meth c H locs cells slots Q (F0 m 1084 ls []) := by
  obtain ⟨N, M, r, σ', τ', h1, h2, HR2⟩ := O σ τ HR
  have hx := X.1.1.1
  have hb := X.1.1.2.1
  refine lv_aload_n hx hb dL_law_1084 rfl (lv_at hl 2 rfl) ?_
  refine lw_arg X I (n := n) (k := 1) (by omega) hL (lv_at hl 1 rfl) (lv_at hl 0 rfl) rfl dL_law_1085 dL_law_1086 dL_law_1088 dL_law_1089 dL_law_1090 ?_
  refine lw_arg X I (n := n) (k := 2) (by omega) hL (lv_at hl 1 rfl) (lv_at hl 0 rfl) rfl dL_law_1091 dL_law_1092 dL_law_1094 dL_law_1095 dL_law_1096 ?_
  refine lw_callX (q := (r, σ)) (As := [.int (xs (n + 1)), .int (xs (n + 2))]) X I (by omega) (by omega) mk_L_131 (lev := 4) (by decide) (c_X11_joined (lw_up_eq h1).1) hl.1 rfl rfl (Nat.le_of_ble_eq_true rfl) dL_law_1097 (fun H locs I => ?_)
  refine lv_aload_n hx hb dL_law_1100 rfl (lv_at hl 3 rfl) ?_
  refine lw_arg X I (n := n) (k := 1) (by omega) hL (lv_at hl 1 rfl) (lv_at hl 0 rfl) rfl dL_law_1101 dL_law_1102 dL_law_1104 dL_law_1105 dL_law_1106 ?_
  refine lw_arg X I (n := n) (k := 2) (by omega) hL (lv_at hl 1 rfl) (lv_at hl 0 rfl) rfl dL_law_1107 dL_law_1108 dL_law_1110 dL_law_1111 dL_law_1112 ?_
  refine lw_callM (q := (r, τ)) (As := [.int (xs (n + 1)), .int (xs (n + 2))]) X I (by omega) (by omega) mk_L_134 (lev := 4) (by decide) (c_X12_joined (lw_up_eq h2).1) hl.1 rfl rfl (Nat.le_of_ble_eq_true rfl) dL_law_1113 (fun H locs I => ?_)
  have e1 := (lw_up_eq h1).2
  have e2 := (lw_up_eq h2).2
  refine lv_icmp_eq (tgt := 1643) hx hb dL_law_1116 (by decide) (fun _ => ?_) (fun h => absurd rfl h)
  refine W.widen (Nat.le_add_right _ _) (Nat.le_add_right _ _) (kk _ _ f H locs ls ?_ I hl)
  rw [e1] at HR2
  rw [e2] at HR2
  exact HR2
set_option maxHeartbeats 4000000 in
theorem lw_k26 (X : lw_X p s m c b L xs P Pm cL) (hL : L ≤ 3072) {n : Nat} (hi : n + 6 ≤ L) (O : lw_Eq Rel (fun N σ => f_X11_seen N (xs (n + 1)) (xs (n + 2)) (xs (n + 3)) (if xs (n + 4) = 0 then 0 else 1) σ) (fun N σ => f_X12_seen N (xs (n + 1)) (xs (n + 2)) (xs (n + 3)) (if xs (n + 4) = 0 then 0 else 1) σ)) (HR : Rel σ τ) (I : lw_I s P Pm cL σ τ f H locs) (hl : lv_has ls 7 (lw_lv s P Pm b (nI n))) (hcel : cells + 1 ≤ room_1.cells) (hslo : slots + 6 ≤ room_1.slots)
    (kk : lw_Wt Rel p l e s m b below meth c Q P Pm cL n (cells + 1) (slots + 6) 1643) : W p l e room_1 s m #[Value.ref b] below meth c H locs cells slots Q (F0 m 1121 ls []) := by
  obtain ⟨N, M, r, σ', τ', h1, h2, HR2⟩ := O σ τ HR
  have hx := X.1.1.1
  have hb := X.1.1.2.1
  refine lv_aload_n hx hb dL_law_1121 rfl (lv_at hl 2 rfl) ?_
  refine lw_arg X I (n := n) (k := 1) (by omega) hL (lv_at hl 1 rfl) (lv_at hl 0 rfl) rfl dL_law_1122 dL_law_1123 dL_law_1125 dL_law_1126 dL_law_1127 ?_
  refine lw_arg X I (n := n) (k := 2) (by omega) hL (lv_at hl 1 rfl) (lv_at hl 0 rfl) rfl dL_law_1128 dL_law_1129 dL_law_1131 dL_law_1132 dL_law_1133 ?_
  refine lw_arg X I (n := n) (k := 3) (by omega) hL (lv_at hl 1 rfl) (lv_at hl 0 rfl) rfl dL_law_1134 dL_law_1135 dL_law_1137 dL_law_1138 dL_law_1139 ?_
  refine lw_arg X I (n := n) (k := 4) (by omega) hL (lv_at hl 1 rfl) (lv_at hl 0 rfl) rfl dL_law_1140 dL_law_1141 dL_law_1143 dL_law_1144 dL_law_1145 ?_
  refine lw_bool hx hb dL_law_1146 dL_law_1149 dL_law_1150 dL_law_1153 (by decide) (by decide) ?_
  refine lw_callX (q := (r, σ')) (As := [.int (xs (n + 1)), .int (xs (n + 2)), .int (xs (n + 3)), .int (if xs (n + 4) = 0 then 0 else 1)]) X I (by omega) (by omega) mk_L_135 (lev := 2) (by decide) (c_X11_seen h1) hl.1 rfl rfl (Nat.le_of_ble_eq_true rfl) dL_law_1154 (fun H locs I => ?_)
  refine lv_aload_n hx hb dL_law_1157 rfl (lv_at hl 3 rfl) ?_
  refine lw_arg X I (n := n) (k := 1) (by omega) hL (lv_at hl 1 rfl) (lv_at hl 0 rfl) rfl dL_law_1158 dL_law_1159 dL_law_1161 dL_law_1162 dL_law_1163 ?_
  refine lw_arg X I (n := n) (k := 2) (by omega) hL (lv_at hl 1 rfl) (lv_at hl 0 rfl) rfl dL_law_1164 dL_law_1165 dL_law_1167 dL_law_1168 dL_law_1169 ?_
  refine lw_arg X I (n := n) (k := 3) (by omega) hL (lv_at hl 1 rfl) (lv_at hl 0 rfl) rfl dL_law_1170 dL_law_1171 dL_law_1173 dL_law_1174 dL_law_1175 ?_
  refine lw_arg X I (n := n) (k := 4) (by omega) hL (lv_at hl 1 rfl) (lv_at hl 0 rfl) rfl dL_law_1176 dL_law_1177 dL_law_1179 dL_law_1180 dL_law_1181 ?_
  refine lw_bool hx hb dL_law_1182 dL_law_1185 dL_law_1186 dL_law_1189 (by decide) (by decide) ?_
  refine lw_callM (q := (r, τ')) (As := [.int (xs (n + 1)), .int (xs (n + 2)), .int (xs (n + 3)), .int (if xs (n + 4) = 0 then 0 else 1)]) X I (by omega) (by omega) mk_L_139 (lev := 3) (by decide) (c_X12_seen h2) hl.1 rfl rfl (Nat.le_of_ble_eq_true rfl) dL_law_1190 (fun H locs I => ?_)
  refine lv_icmp_eq (tgt := 1643) hx hb dL_law_1193 (by decide) (fun _ => ?_) (fun h => absurd rfl h)
  refine W.widen (Nat.le_add_right _ _) (Nat.le_add_right _ _) (kk _ _ f H locs ls ?_ I hl)
  exact HR2
set_option maxHeartbeats 4000000 in
theorem lw_k27 (X : lw_X p s m c b L xs P Pm cL) (hL : L ≤ 3072) {n : Nat} (hi : n + 6 ≤ L) (O : lw_Eq Rel (fun N σ => f_X11_fits N (xs (n + 1)) σ) (fun N σ => f_X12_fits N (xs (n + 1)) σ)) (HR : Rel σ τ) (I : lw_I s P Pm cL σ τ f H locs) (hl : lv_has ls 7 (lw_lv s P Pm b (nI n))) (hcel : cells + 1 ≤ room_1.cells) (hslo : slots + 6 ≤ room_1.slots)
    (kk : lw_Wt Rel p l e s m b below meth c Q P Pm cL n (cells + 1) (slots + 6) 1643) : W p l e room_1 s m #[Value.ref b] below meth c H locs cells slots Q (F0 m 1198 ls []) := by
  obtain ⟨N, M, r, σ', τ', h1, h2, HR2⟩ := O σ τ HR
  have hx := X.1.1.1
  have hb := X.1.1.2.1
  refine lv_aload_n hx hb dL_law_1198 rfl (lv_at hl 2 rfl) ?_
  refine lw_arg X I (n := n) (k := 1) (by omega) hL (lv_at hl 1 rfl) (lv_at hl 0 rfl) rfl dL_law_1199 dL_law_1200 dL_law_1202 dL_law_1203 dL_law_1204 ?_
  refine lw_callX (q := (r, σ')) (As := [.int (xs (n + 1))]) X I (by omega) (by omega) mk_L_140 (lev := 8) (by decide) (c_X11_fits h1) hl.1 rfl rfl (Nat.le_of_ble_eq_true rfl) dL_law_1205 (fun H locs I => ?_)
  refine lv_aload_n hx hb dL_law_1208 rfl (lv_at hl 3 rfl) ?_
  refine lw_arg X I (n := n) (k := 1) (by omega) hL (lv_at hl 1 rfl) (lv_at hl 0 rfl) rfl dL_law_1209 dL_law_1210 dL_law_1212 dL_law_1213 dL_law_1214 ?_
  refine lw_callM (q := (r, τ')) (As := [.int (xs (n + 1))]) X I (by omega) (by omega) mk_L_143 (lev := 11) (by decide) (c_X12_fits h2) hl.1 rfl rfl (Nat.le_of_ble_eq_true rfl) dL_law_1215 (fun H locs I => ?_)
  refine lv_icmp_eq (tgt := 1643) hx hb dL_law_1218 (by decide) (fun _ => ?_) (fun h => absurd rfl h)
  refine W.widen (Nat.le_add_right _ _) (Nat.le_add_right _ _) (kk _ _ f H locs ls ?_ I hl)
  exact HR2
set_option maxHeartbeats 4000000 in
theorem lw_k28 (X : lw_X p s m c b L xs P Pm cL) (hL : L ≤ 3072) {n : Nat} (hi : n + 6 ≤ L) (O : lw_Eq Rel (fun N σ => f_X11_ask N (xs (n + 1)) σ) (fun N σ => f_X12_ask N (xs (n + 1)) σ)) (HR : Rel σ τ) (I : lw_I s P Pm cL σ τ f H locs) (hl : lv_has ls 7 (lw_lv s P Pm b (nI n))) (hcel : cells + 1 ≤ room_1.cells) (hslo : slots + 6 ≤ room_1.slots)
    (kk : lw_Wt Rel p l e s m b below meth c Q P Pm cL n (cells + 1) (slots + 6) 1643) : W p l e room_1 s m #[Value.ref b] below meth c H locs cells slots Q (F0 m 1223 ls []) := by
  obtain ⟨N, M, r, σ', τ', h1, h2, HR2⟩ := O σ τ HR
  have hx := X.1.1.1
  have hb := X.1.1.2.1
  refine lv_aload_n hx hb dL_law_1223 rfl (lv_at hl 2 rfl) ?_
  refine lw_arg X I (n := n) (k := 1) (by omega) hL (lv_at hl 1 rfl) (lv_at hl 0 rfl) rfl dL_law_1224 dL_law_1225 dL_law_1227 dL_law_1228 dL_law_1229 ?_
  refine lw_callX (q := (r, σ')) (As := [.int (xs (n + 1))]) X I (by omega) (by omega) mk_L_144 (lev := 8) (by decide) (c_X11_ask h1) hl.1 rfl rfl (Nat.le_of_ble_eq_true rfl) dL_law_1230 (fun H locs I => ?_)
  refine lv_aload_n hx hb dL_law_1233 rfl (lv_at hl 3 rfl) ?_
  refine lw_arg X I (n := n) (k := 1) (by omega) hL (lv_at hl 1 rfl) (lv_at hl 0 rfl) rfl dL_law_1234 dL_law_1235 dL_law_1237 dL_law_1238 dL_law_1239 ?_
  refine lw_callM (q := (r, τ')) (As := [.int (xs (n + 1))]) X I (by omega) (by omega) mk_L_147 (lev := 11) (by decide) (c_X12_ask h2) hl.1 rfl rfl (Nat.le_of_ble_eq_true rfl) dL_law_1240 (fun H locs I => ?_)
  refine lv_icmp_eq (tgt := 1643) hx hb dL_law_1243 (by decide) (fun _ => ?_) (fun h => absurd rfl h)
  refine W.widen (Nat.le_add_right _ _) (Nat.le_add_right _ _) (kk _ _ f H locs ls ?_ I hl)
  exact HR2
set_option maxHeartbeats 4000000 in
theorem lw_k29 (X : lw_X p s m c b L xs P Pm cL) (hL : L ≤ 3072) {n : Nat} (hi : n + 6 ≤ L) (O : lw_Eq Rel (fun N σ => f_X11_tour N (xs (n + 1)) (xs (n + 2)) (xs (n + 3)) σ) (fun N σ => f_X12_tour N (xs (n + 1)) (xs (n + 2)) (xs (n + 3)) σ)) (HR : Rel σ τ) (I : lw_I s P Pm cL σ τ f H locs) (hl : lv_has ls 7 (lw_lv s P Pm b (nI n))) (hcel : cells + 1 ≤ room_1.cells) (hslo : slots + 6 ≤ room_1.slots)
    (kk : lw_Wt Rel p l e s m b below meth c Q P Pm cL n (cells + 1) (slots + 6) 1643) : W p l e room_1 s m #[Value.ref b] below meth c H locs cells slots Q (F0 m 1248 ls []) := by
  obtain ⟨N, M, r, σ', τ', h1, h2, HR2⟩ := O σ τ HR
  have hx := X.1.1.1
  have hb := X.1.1.2.1
  refine lv_aload_n hx hb dL_law_1248 rfl (lv_at hl 2 rfl) ?_
  refine lw_arg X I (n := n) (k := 1) (by omega) hL (lv_at hl 1 rfl) (lv_at hl 0 rfl) rfl dL_law_1249 dL_law_1250 dL_law_1252 dL_law_1253 dL_law_1254 ?_
  refine lw_arg X I (n := n) (k := 2) (by omega) hL (lv_at hl 1 rfl) (lv_at hl 0 rfl) rfl dL_law_1255 dL_law_1256 dL_law_1258 dL_law_1259 dL_law_1260 ?_
  refine lw_arg X I (n := n) (k := 3) (by omega) hL (lv_at hl 1 rfl) (lv_at hl 0 rfl) rfl dL_law_1261 dL_law_1262 dL_law_1264 dL_law_1265 dL_law_1266 ?_
  refine lw_callX (q := (r, σ')) (As := [.int (xs (n + 1)), .int (xs (n + 2)), .int (xs (n + 3))]) X I (by omega) (by omega) mk_L_148 (lev := 44) (by decide) (c_X11_tour h1) hl.1 rfl rfl (Nat.le_of_ble_eq_true rfl) dL_law_1267 (fun H locs I => ?_)
  refine lv_aload_n hx hb dL_law_1270 rfl (lv_at hl 3 rfl) ?_
  refine lw_arg X I (n := n) (k := 1) (by omega) hL (lv_at hl 1 rfl) (lv_at hl 0 rfl) rfl dL_law_1271 dL_law_1272 dL_law_1274 dL_law_1275 dL_law_1276 ?_
  refine lw_arg X I (n := n) (k := 2) (by omega) hL (lv_at hl 1 rfl) (lv_at hl 0 rfl) rfl dL_law_1277 dL_law_1278 dL_law_1280 dL_law_1281 dL_law_1282 ?_
  refine lw_arg X I (n := n) (k := 3) (by omega) hL (lv_at hl 1 rfl) (lv_at hl 0 rfl) rfl dL_law_1283 dL_law_1284 dL_law_1286 dL_law_1287 dL_law_1288 ?_
  refine lw_callM (q := (r, τ')) (As := [.int (xs (n + 1)), .int (xs (n + 2)), .int (xs (n + 3))]) X I (by omega) (by omega) mk_L_152 (lev := 43) (by decide) (c_X12_tour h2) hl.1 rfl rfl (Nat.le_of_ble_eq_true rfl) dL_law_1289 (fun H locs I => ?_)
  refine lv_icmp_eq (tgt := 1643) hx hb dL_law_1292 (by decide) (fun _ => ?_) (fun h => absurd rfl h)
  refine W.widen (Nat.le_add_right _ _) (Nat.le_add_right _ _) (kk _ _ f H locs ls ?_ I hl)
  exact HR2
set_option maxHeartbeats 4000000 in
theorem lw_k30 (X : lw_X p s m c b L xs P Pm cL) (hL : L ≤ 3072) {n : Nat} (hi : n + 6 ≤ L) (O : lw_Eq Rel (fun N σ => f_X11_doors N (xs (n + 1)) (xs (n + 2)) σ) (fun N σ => f_X12_doors N (xs (n + 1)) (xs (n + 2)) σ)) (HR : Rel σ τ) (I : lw_I s P Pm cL σ τ f H locs) (hl : lv_has ls 7 (lw_lv s P Pm b (nI n))) (hcel : cells + 1 ≤ room_1.cells) (hslo : slots + 6 ≤ room_1.slots)
    (kk : lw_Wt Rel p l e s m b below meth c Q P Pm cL n (cells + 1) (slots + 6) 1643) : W p l e room_1 s m #[Value.ref b] below meth c H locs cells slots Q (F0 m 1297 ls []) := by
  obtain ⟨N, M, r, σ', τ', h1, h2, HR2⟩ := O σ τ HR
  have hx := X.1.1.1
  have hb := X.1.1.2.1
  refine lv_aload_n hx hb dL_law_1297 rfl (lv_at hl 2 rfl) ?_
  refine lw_arg X I (n := n) (k := 1) (by omega) hL (lv_at hl 1 rfl) (lv_at hl 0 rfl) rfl dL_law_1298 dL_law_1299 dL_law_1301 dL_law_1302 dL_law_1303 ?_
  refine lw_arg X I (n := n) (k := 2) (by omega) hL (lv_at hl 1 rfl) (lv_at hl 0 rfl) rfl dL_law_1304 dL_law_1305 dL_law_1307 dL_law_1308 dL_law_1309 ?_
  refine lw_callX (q := (r, σ')) (As := [.int (xs (n + 1)), .int (xs (n + 2))]) X I (by omega) (by omega) mk_L_153 (lev := 44) (by decide) (c_X11_doors h1) hl.1 rfl rfl (Nat.le_of_ble_eq_true rfl) dL_law_1310 (fun H locs I => ?_)
  refine lv_aload_n hx hb dL_law_1313 rfl (lv_at hl 3 rfl) ?_
  refine lw_arg X I (n := n) (k := 1) (by omega) hL (lv_at hl 1 rfl) (lv_at hl 0 rfl) rfl dL_law_1314 dL_law_1315 dL_law_1317 dL_law_1318 dL_law_1319 ?_
  refine lw_arg X I (n := n) (k := 2) (by omega) hL (lv_at hl 1 rfl) (lv_at hl 0 rfl) rfl dL_law_1320 dL_law_1321 dL_law_1323 dL_law_1324 dL_law_1325 ?_
  refine lw_callM (q := (r, τ')) (As := [.int (xs (n + 1)), .int (xs (n + 2))]) X I (by omega) (by omega) mk_L_156 (lev := 43) (by decide) (c_X12_doors h2) hl.1 rfl rfl (Nat.le_of_ble_eq_true rfl) dL_law_1326 (fun H locs I => ?_)
  refine lv_icmp_eq (tgt := 1643) hx hb dL_law_1329 (by decide) (fun _ => ?_) (fun h => absurd rfl h)
  refine W.widen (Nat.le_add_right _ _) (Nat.le_add_right _ _) (kk _ _ f H locs ls ?_ I hl)
  exact HR2
set_option maxHeartbeats 4000000 in
theorem lw_k31 (X : lw_X p s m c b L xs P Pm cL) (hL : L ≤ 3072) {n : Nat} (hi : n + 6 ≤ L) (O : lw_Eq Rel (fun N σ => f_X11_game N (xs (n + 1)) (xs (n + 2)) (xs (n + 3)) (xs (n + 4)) (xs (n + 5)) σ) (fun N σ => f_X12_game N (xs (n + 1)) (xs (n + 2)) (xs (n + 3)) (xs (n + 4)) (xs (n + 5)) σ)) (HR : Rel σ τ) (I : lw_I s P Pm cL σ τ f H locs) (hl : lv_has ls 7 (lw_lv s P Pm b (nI n))) (hcel : cells + 1 ≤ room_1.cells) (hslo : slots + 6 ≤ room_1.slots)
    (kk : lw_Wt Rel p l e s m b below meth c Q P Pm cL n (cells + 1) (slots + 6) 1643) : W p l e room_1 s m #[Value.ref b] below meth c H locs cells slots Q (F0 m 1334 ls []) := by
  obtain ⟨N, M, r, σ', τ', h1, h2, HR2⟩ := O σ τ HR
  have hx := X.1.1.1
  have hb := X.1.1.2.1
  refine lv_aload_n hx hb dL_law_1334 rfl (lv_at hl 2 rfl) ?_
  refine lw_arg X I (n := n) (k := 1) (by omega) hL (lv_at hl 1 rfl) (lv_at hl 0 rfl) rfl dL_law_1335 dL_law_1336 dL_law_1338 dL_law_1339 dL_law_1340 ?_
  refine lw_arg X I (n := n) (k := 2) (by omega) hL (lv_at hl 1 rfl) (lv_at hl 0 rfl) rfl dL_law_1341 dL_law_1342 dL_law_1344 dL_law_1345 dL_law_1346 ?_
  refine lw_arg X I (n := n) (k := 3) (by omega) hL (lv_at hl 1 rfl) (lv_at hl 0 rfl) rfl dL_law_1347 dL_law_1348 dL_law_1350 dL_law_1351 dL_law_1352 ?_
  refine lw_arg X I (n := n) (k := 4) (by omega) hL (lv_at hl 1 rfl) (lv_at hl 0 rfl) rfl dL_law_1353 dL_law_1354 dL_law_1356 dL_law_1357 dL_law_1358 ?_
  refine lw_arg X I (n := n) (k := 5) (by omega) hL (lv_at hl 1 rfl) (lv_at hl 0 rfl) rfl dL_law_1359 dL_law_1360 dL_law_1362 dL_law_1363 dL_law_1364 ?_
  refine lw_callX (q := (r, σ')) (As := [.int (xs (n + 1)), .int (xs (n + 2)), .int (xs (n + 3)), .int (xs (n + 4)), .int (xs (n + 5))]) X I (by omega) (by omega) mk_L_157 (lev := 6) (by decide) (c_X11_game h1) hl.1 rfl rfl (Nat.le_of_ble_eq_true rfl) dL_law_1365 (fun H locs I => ?_)
  refine lv_aload_n hx hb dL_law_1368 rfl (lv_at hl 3 rfl) ?_
  refine lw_arg X I (n := n) (k := 1) (by omega) hL (lv_at hl 1 rfl) (lv_at hl 0 rfl) rfl dL_law_1369 dL_law_1370 dL_law_1372 dL_law_1373 dL_law_1374 ?_
  refine lw_arg X I (n := n) (k := 2) (by omega) hL (lv_at hl 1 rfl) (lv_at hl 0 rfl) rfl dL_law_1375 dL_law_1376 dL_law_1378 dL_law_1379 dL_law_1380 ?_
  refine lw_arg X I (n := n) (k := 3) (by omega) hL (lv_at hl 1 rfl) (lv_at hl 0 rfl) rfl dL_law_1381 dL_law_1382 dL_law_1384 dL_law_1385 dL_law_1386 ?_
  refine lw_arg X I (n := n) (k := 4) (by omega) hL (lv_at hl 1 rfl) (lv_at hl 0 rfl) rfl dL_law_1387 dL_law_1388 dL_law_1390 dL_law_1391 dL_law_1392 ?_
  refine lw_arg X I (n := n) (k := 5) (by omega) hL (lv_at hl 1 rfl) (lv_at hl 0 rfl) rfl dL_law_1393 dL_law_1394 dL_law_1396 dL_law_1397 dL_law_1398 ?_
  refine lw_callM (q := (r, τ')) (As := [.int (xs (n + 1)), .int (xs (n + 2)), .int (xs (n + 3)), .int (xs (n + 4)), .int (xs (n + 5))]) X I (by omega) (by omega) mk_L_160 (lev := 9) (by decide) (c_X12_game h2) hl.1 rfl rfl (Nat.le_of_ble_eq_true rfl) dL_law_1399 (fun H locs I => ?_)
  refine lv_icmp_eq (tgt := 1643) hx hb dL_law_1402 (by decide) (fun _ => ?_) (fun h => absurd rfl h)
  refine W.widen (Nat.le_add_right _ _) (Nat.le_add_right _ _) (kk _ _ f H locs ls ?_ I hl)
  exact HR2
set_option maxHeartbeats 4000000 in
theorem lw_k32 (X : lw_X p s m c b L xs P Pm cL) (hL : L ≤ 3072) {n : Nat} (hi : n + 6 ≤ L) (O : lw_Eq Rel (fun N σ => f_X11_rests N (xs (n + 1)) (xs (n + 2)) (xs (n + 3)) σ) (fun N σ => f_X12_rests N (xs (n + 1)) (xs (n + 2)) (xs (n + 3)) σ)) (HR : Rel σ τ) (I : lw_I s P Pm cL σ τ f H locs) (hl : lv_has ls 7 (lw_lv s P Pm b (nI n))) (hcel : cells + 1 ≤ room_1.cells) (hslo : slots + 6 ≤ room_1.slots)
    (kk : lw_Wt Rel p l e s m b below meth c Q P Pm cL n (cells + 1) (slots + 6) 1643) : W p l e room_1 s m #[Value.ref b] below meth c H locs cells slots Q (F0 m 1407 ls []) := by
  obtain ⟨N, M, r, σ', τ', h1, h2, HR2⟩ := O σ τ HR
  have hx := X.1.1.1
  have hb := X.1.1.2.1
  refine lv_aload_n hx hb dL_law_1407 rfl (lv_at hl 2 rfl) ?_
  refine lw_arg X I (n := n) (k := 1) (by omega) hL (lv_at hl 1 rfl) (lv_at hl 0 rfl) rfl dL_law_1408 dL_law_1409 dL_law_1411 dL_law_1412 dL_law_1413 ?_
  refine lw_arg X I (n := n) (k := 2) (by omega) hL (lv_at hl 1 rfl) (lv_at hl 0 rfl) rfl dL_law_1414 dL_law_1415 dL_law_1417 dL_law_1418 dL_law_1419 ?_
  refine lw_arg X I (n := n) (k := 3) (by omega) hL (lv_at hl 1 rfl) (lv_at hl 0 rfl) rfl dL_law_1420 dL_law_1421 dL_law_1423 dL_law_1424 dL_law_1425 ?_
  refine lw_callX (q := (r, σ')) (As := [.int (xs (n + 1)), .int (xs (n + 2)), .int (xs (n + 3))]) X I (by omega) (by omega) mk_L_161 (lev := 6) (by decide) (c_X11_rests h1) hl.1 rfl rfl (Nat.le_of_ble_eq_true rfl) dL_law_1426 (fun H locs I => ?_)
  refine lv_aload_n hx hb dL_law_1429 rfl (lv_at hl 3 rfl) ?_
  refine lw_arg X I (n := n) (k := 1) (by omega) hL (lv_at hl 1 rfl) (lv_at hl 0 rfl) rfl dL_law_1430 dL_law_1431 dL_law_1433 dL_law_1434 dL_law_1435 ?_
  refine lw_arg X I (n := n) (k := 2) (by omega) hL (lv_at hl 1 rfl) (lv_at hl 0 rfl) rfl dL_law_1436 dL_law_1437 dL_law_1439 dL_law_1440 dL_law_1441 ?_
  refine lw_arg X I (n := n) (k := 3) (by omega) hL (lv_at hl 1 rfl) (lv_at hl 0 rfl) rfl dL_law_1442 dL_law_1443 dL_law_1445 dL_law_1446 dL_law_1447 ?_
  refine lw_callM (q := (r, τ')) (As := [.int (xs (n + 1)), .int (xs (n + 2)), .int (xs (n + 3))]) X I (by omega) (by omega) mk_L_164 (lev := 9) (by decide) (c_X12_rests h2) hl.1 rfl rfl (Nat.le_of_ble_eq_true rfl) dL_law_1448 (fun H locs I => ?_)
  refine lv_icmp_eq (tgt := 1643) hx hb dL_law_1451 (by decide) (fun _ => ?_) (fun h => absurd rfl h)
  refine W.widen (Nat.le_add_right _ _) (Nat.le_add_right _ _) (kk _ _ f H locs ls ?_ I hl)
  exact HR2
set_option maxHeartbeats 4000000 in
theorem lw_k33 (X : lw_X p s m c b L xs P Pm cL) (hL : L ≤ 3072) {n : Nat} (hi : n + 6 ≤ L) (O : lw_Eq Rel (fun N σ => lw_up (f_X11_odds N (xs (n + 1)) (xs (n + 2)) (xs (n + 3)) σ) σ) (fun N σ => lw_up (f_X12_odds N (xs (n + 1)) (xs (n + 2)) (xs (n + 3)) σ) σ)) (HR : Rel σ τ) (I : lw_I s P Pm cL σ τ f H locs) (hl : lv_has ls 7 (lw_lv s P Pm b (nI n))) (hcel : cells + 1 ≤ room_1.cells) (hslo : slots + 6 ≤ room_1.slots)
    (kk : lw_Wt Rel p l e s m b below meth c Q P Pm cL n (cells + 1) (slots + 6) 1643) : W p l e room_1 s m #[Value.ref b] below meth c H locs cells slots Q (F0 m 1456 ls []) := by
  obtain ⟨N, M, r, σ', τ', h1, h2, HR2⟩ := O σ τ HR
  have hx := X.1.1.1
  have hb := X.1.1.2.1
  refine lv_aload_n hx hb dL_law_1456 rfl (lv_at hl 2 rfl) ?_
  refine lw_arg X I (n := n) (k := 1) (by omega) hL (lv_at hl 1 rfl) (lv_at hl 0 rfl) rfl dL_law_1457 dL_law_1458 dL_law_1460 dL_law_1461 dL_law_1462 ?_
  refine lw_arg X I (n := n) (k := 2) (by omega) hL (lv_at hl 1 rfl) (lv_at hl 0 rfl) rfl dL_law_1463 dL_law_1464 dL_law_1466 dL_law_1467 dL_law_1468 ?_
  refine lw_arg X I (n := n) (k := 3) (by omega) hL (lv_at hl 1 rfl) (lv_at hl 0 rfl) rfl dL_law_1469 dL_law_1470 dL_law_1472 dL_law_1473 dL_law_1474 ?_
  refine lw_callX (q := (r, σ)) (As := [.int (xs (n + 1)), .int (xs (n + 2)), .int (xs (n + 3))]) X I (by omega) (by omega) mk_L_165 (lev := 45) (by decide) (c_X11_odds (lw_up_eq h1).1) hl.1 rfl rfl (Nat.le_of_ble_eq_true rfl) dL_law_1475 (fun H locs I => ?_)
  refine lv_aload_n hx hb dL_law_1478 rfl (lv_at hl 3 rfl) ?_
  refine lw_arg X I (n := n) (k := 1) (by omega) hL (lv_at hl 1 rfl) (lv_at hl 0 rfl) rfl dL_law_1479 dL_law_1480 dL_law_1482 dL_law_1483 dL_law_1484 ?_
  refine lw_arg X I (n := n) (k := 2) (by omega) hL (lv_at hl 1 rfl) (lv_at hl 0 rfl) rfl dL_law_1485 dL_law_1486 dL_law_1488 dL_law_1489 dL_law_1490 ?_
  refine lw_arg X I (n := n) (k := 3) (by omega) hL (lv_at hl 1 rfl) (lv_at hl 0 rfl) rfl dL_law_1491 dL_law_1492 dL_law_1494 dL_law_1495 dL_law_1496 ?_
  refine lw_callM (q := (r, τ)) (As := [.int (xs (n + 1)), .int (xs (n + 2)), .int (xs (n + 3))]) X I (by omega) (by omega) mk_L_168 (lev := 44) (by decide) (c_X12_odds (lw_up_eq h2).1) hl.1 rfl rfl (Nat.le_of_ble_eq_true rfl) dL_law_1497 (fun H locs I => ?_)
  have e1 := (lw_up_eq h1).2
  have e2 := (lw_up_eq h2).2
  refine lv_icmp_eq (tgt := 1643) hx hb dL_law_1500 (by decide) (fun _ => ?_) (fun h => absurd rfl h)
  refine W.widen (Nat.le_add_right _ _) (Nat.le_add_right _ _) (kk _ _ f H locs ls ?_ I hl)
  rw [e1] at HR2
  rw [e2] at HR2
  exact HR2
set_option maxHeartbeats 4000000 in
theorem lw_k34 (X : lw_X p s m c b L xs P Pm cL) (hL : L ≤ 3072) {n : Nat} (hi : n + 6 ≤ L) (O : lw_Eq Rel (fun N σ => lw_up (f_X11_dead N (xs (n + 1)) σ) σ) (fun N σ => lw_up (f_X12_dead N (xs (n + 1)) σ) σ)) (HR : Rel σ τ) (I : lw_I s P Pm cL σ τ f H locs) (hl : lv_has ls 7 (lw_lv s P Pm b (nI n))) (hcel : cells + 1 ≤ room_1.cells) (hslo : slots + 6 ≤ room_1.slots)
    (kk : lw_Wt Rel p l e s m b below meth c Q P Pm cL n (cells + 1) (slots + 6) 1643) : W p l e room_1 s m #[Value.ref b] below meth c H locs cells slots Q (F0 m 1505 ls []) := by
  obtain ⟨N, M, r, σ', τ', h1, h2, HR2⟩ := O σ τ HR
  have hx := X.1.1.1
  have hb := X.1.1.2.1
  refine lv_aload_n hx hb dL_law_1505 rfl (lv_at hl 2 rfl) ?_
  refine lw_arg X I (n := n) (k := 1) (by omega) hL (lv_at hl 1 rfl) (lv_at hl 0 rfl) rfl dL_law_1506 dL_law_1507 dL_law_1509 dL_law_1510 dL_law_1511 ?_
  refine lw_callX (q := (r, σ)) (As := [.int (xs (n + 1))]) X I (by omega) (by omega) mk_L_169 (lev := 2) (by decide) (c_X11_dead (lw_up_eq h1).1) hl.1 rfl rfl (Nat.le_of_ble_eq_true rfl) dL_law_1512 (fun H locs I => ?_)
  refine lv_aload_n hx hb dL_law_1515 rfl (lv_at hl 3 rfl) ?_
  refine lw_arg X I (n := n) (k := 1) (by omega) hL (lv_at hl 1 rfl) (lv_at hl 0 rfl) rfl dL_law_1516 dL_law_1517 dL_law_1519 dL_law_1520 dL_law_1521 ?_
  refine lw_callM (q := (r, τ)) (As := [.int (xs (n + 1))]) X I (by omega) (by omega) mk_L_172 (lev := 3) (by decide) (c_X12_dead (lw_up_eq h2).1) hl.1 rfl rfl (Nat.le_of_ble_eq_true rfl) dL_law_1522 (fun H locs I => ?_)
  have e1 := (lw_up_eq h1).2
  have e2 := (lw_up_eq h2).2
  refine lv_icmp_eq (tgt := 1643) hx hb dL_law_1525 (by decide) (fun _ => ?_) (fun h => absurd rfl h)
  refine W.widen (Nat.le_add_right _ _) (Nat.le_add_right _ _) (kk _ _ f H locs ls ?_ I hl)
  rw [e1] at HR2
  rw [e2] at HR2
  exact HR2
set_option maxHeartbeats 4000000 in
theorem lw_k35 (X : lw_X p s m c b L xs P Pm cL) (hL : L ≤ 3072) {n : Nat} (hi : n + 6 ≤ L) (O : lw_Eq Rel (fun N σ => lw_up (f_X11_shares N (xs (n + 1)) (xs (n + 2)) σ) σ) (fun N σ => lw_up (f_X12_shares N (xs (n + 1)) (xs (n + 2)) σ) σ)) (HR : Rel σ τ) (I : lw_I s P Pm cL σ τ f H locs) (hl : lv_has ls 7 (lw_lv s P Pm b (nI n))) (hcel : cells + 1 ≤ room_1.cells) (hslo : slots + 6 ≤ room_1.slots)
    (kk : lw_Wt Rel p l e s m b below meth c Q P Pm cL n (cells + 1) (slots + 6) 1643) : W p l e room_1 s m #[Value.ref b] below meth c H locs cells slots Q (F0 m 1530 ls []) := by
  obtain ⟨N, M, r, σ', τ', h1, h2, HR2⟩ := O σ τ HR
  have hx := X.1.1.1
  have hb := X.1.1.2.1
  refine lv_aload_n hx hb dL_law_1530 rfl (lv_at hl 2 rfl) ?_
  refine lw_arg X I (n := n) (k := 1) (by omega) hL (lv_at hl 1 rfl) (lv_at hl 0 rfl) rfl dL_law_1531 dL_law_1532 dL_law_1534 dL_law_1535 dL_law_1536 ?_
  refine lw_arg X I (n := n) (k := 2) (by omega) hL (lv_at hl 1 rfl) (lv_at hl 0 rfl) rfl dL_law_1537 dL_law_1538 dL_law_1540 dL_law_1541 dL_law_1542 ?_
  refine lw_callX (q := (r, σ)) (As := [.int (xs (n + 1)), .int (xs (n + 2))]) X I (by omega) (by omega) mk_L_173 (lev := 2) (by decide) (c_X11_shares (lw_up_eq h1).1) hl.1 rfl rfl (Nat.le_of_ble_eq_true rfl) dL_law_1543 (fun H locs I => ?_)
  refine lv_aload_n hx hb dL_law_1546 rfl (lv_at hl 3 rfl) ?_
  refine lw_arg X I (n := n) (k := 1) (by omega) hL (lv_at hl 1 rfl) (lv_at hl 0 rfl) rfl dL_law_1547 dL_law_1548 dL_law_1550 dL_law_1551 dL_law_1552 ?_
  refine lw_arg X I (n := n) (k := 2) (by omega) hL (lv_at hl 1 rfl) (lv_at hl 0 rfl) rfl dL_law_1553 dL_law_1554 dL_law_1556 dL_law_1557 dL_law_1558 ?_
  refine lw_callM (q := (r, τ)) (As := [.int (xs (n + 1)), .int (xs (n + 2))]) X I (by omega) (by omega) mk_L_176 (lev := 3) (by decide) (c_X12_shares (lw_up_eq h2).1) hl.1 rfl rfl (Nat.le_of_ble_eq_true rfl) dL_law_1559 (fun H locs I => ?_)
  have e1 := (lw_up_eq h1).2
  have e2 := (lw_up_eq h2).2
  refine lv_icmp_eq (tgt := 1643) hx hb dL_law_1562 (by decide) (fun _ => ?_) (fun h => absurd rfl h)
  refine W.widen (Nat.le_add_right _ _) (Nat.le_add_right _ _) (kk _ _ f H locs ls ?_ I hl)
  rw [e1] at HR2
  rw [e2] at HR2
  exact HR2
set_option maxHeartbeats 4000000 in
theorem lw_k36 (X : lw_X p s m c b L xs P Pm cL) (hL : L ≤ 3072) {n : Nat} (hi : n + 6 ≤ L) (O : lw_Eq Rel (fun N σ => f_X11_most N (xs (n + 1)) σ) (fun N σ => f_X12_most N (xs (n + 1)) σ)) (HR : Rel σ τ) (I : lw_I s P Pm cL σ τ f H locs) (hl : lv_has ls 7 (lw_lv s P Pm b (nI n))) (hcel : cells + 1 ≤ room_1.cells) (hslo : slots + 6 ≤ room_1.slots)
    (kk : lw_Wt Rel p l e s m b below meth c Q P Pm cL n (cells + 1) (slots + 6) 1643) : W p l e room_1 s m #[Value.ref b] below meth c H locs cells slots Q (F0 m 1567 ls []) := by
  obtain ⟨N, M, r, σ', τ', h1, h2, HR2⟩ := O σ τ HR
  have hx := X.1.1.1
  have hb := X.1.1.2.1
  refine lv_aload_n hx hb dL_law_1567 rfl (lv_at hl 2 rfl) ?_
  refine lw_arg X I (n := n) (k := 1) (by omega) hL (lv_at hl 1 rfl) (lv_at hl 0 rfl) rfl dL_law_1568 dL_law_1569 dL_law_1571 dL_law_1572 dL_law_1573 ?_
  refine lw_callX (q := (r, σ')) (As := [.int (xs (n + 1))]) X I (by omega) (by omega) mk_L_177 (lev := 6) (by decide) (c_X11_most h1) hl.1 rfl rfl (Nat.le_of_ble_eq_true rfl) dL_law_1574 (fun H locs I => ?_)
  refine lv_aload_n hx hb dL_law_1577 rfl (lv_at hl 3 rfl) ?_
  refine lw_arg X I (n := n) (k := 1) (by omega) hL (lv_at hl 1 rfl) (lv_at hl 0 rfl) rfl dL_law_1578 dL_law_1579 dL_law_1581 dL_law_1582 dL_law_1583 ?_
  refine lw_callM (q := (r, τ')) (As := [.int (xs (n + 1))]) X I (by omega) (by omega) mk_L_180 (lev := 9) (by decide) (c_X12_most h2) hl.1 rfl rfl (Nat.le_of_ble_eq_true rfl) dL_law_1584 (fun H locs I => ?_)
  refine lv_icmp_eq (tgt := 1643) hx hb dL_law_1587 (by decide) (fun _ => ?_) (fun h => absurd rfl h)
  refine W.widen (Nat.le_add_right _ _) (Nat.le_add_right _ _) (kk _ _ f H locs ls ?_ I hl)
  exact HR2
set_option maxHeartbeats 4000000 in
theorem lw_k37 (X : lw_X p s m c b L xs P Pm cL) (hL : L ≤ 3072) {n : Nat} (hi : n + 6 ≤ L) (O : lw_Eq Rel (fun N σ => f_X11_image N σ) (fun N σ => f_X12_image N σ)) (HR : Rel σ τ) (I : lw_I s P Pm cL σ τ f H locs) (hl : lv_has ls 7 (lw_lv s P Pm b (nI n))) (hcel : cells + 1 ≤ room_1.cells) (hslo : slots + 6 ≤ room_1.slots)
    (kk : lw_Wt Rel p l e s m b below meth c Q P Pm cL n (cells + 1) (slots + 6) 1643) : W p l e room_1 s m #[Value.ref b] below meth c H locs cells slots Q (F0 m 1592 ls []) := by
  obtain ⟨N, M, r, σ', τ', h1, h2, HR2⟩ := O σ τ HR
  have hx := X.1.1.1
  have hb := X.1.1.2.1
  refine lv_aload_n hx hb dL_law_1592 rfl (lv_at hl 2 rfl) ?_
  refine lw_callX (q := (r, σ')) (As := []) X I (by omega) (by omega) mk_L_181 (lev := 4) (by decide) (c_X11_image h1) hl.1 rfl rfl (Nat.le_of_ble_eq_true rfl) dL_law_1593 (fun H locs I => ?_)
  refine lv_aload_n hx hb dL_law_1596 rfl (lv_at hl 3 rfl) ?_
  refine lw_callM (q := (r, τ')) (As := []) X I (by omega) (by omega) mk_L_184 (lev := 1) (by decide) (c_X12_image h2) hl.1 rfl rfl (Nat.le_of_ble_eq_true rfl) dL_law_1597 (fun H locs I => ?_)
  refine lv_icmp_eq (tgt := 1643) hx hb dL_law_1600 (by decide) (fun _ => ?_) (fun h => absurd rfl h)
  refine W.widen (Nat.le_add_right _ _) (Nat.le_add_right _ _) (kk _ _ f H locs ls ?_ I hl)
  exact HR2
set_option maxHeartbeats 4000000 in
theorem lw_k38 (X : lw_X p s m c b L xs P Pm cL) (hL : L ≤ 3072) {n : Nat} (hi : n + 6 ≤ L) (O : lw_Eq Rel (fun N σ => f_X11_back N σ) (fun N σ => f_X12_back N σ)) (HR : Rel σ τ) (I : lw_I s P Pm cL σ τ f H locs) (hl : lv_has ls 7 (lw_lv s P Pm b (nI n))) (hcel : cells + 1 ≤ room_1.cells) (hslo : slots + 6 ≤ room_1.slots)
    (kk : lw_Wt Rel p l e s m b below meth c Q P Pm cL n (cells + 1) (slots + 6) 1643) : W p l e room_1 s m #[Value.ref b] below meth c H locs cells slots Q (F0 m 1605 ls []) := by
  obtain ⟨N, M, r, σ', τ', h1, h2, HR2⟩ := O σ τ HR
  have hx := X.1.1.1
  have hb := X.1.1.2.1
  refine lv_aload_n hx hb dL_law_1605 rfl (lv_at hl 2 rfl) ?_
  refine lw_callX (q := (r, σ')) (As := []) X I (by omega) (by omega) mk_L_185 (lev := 4) (by decide) (c_X11_back h1) hl.1 rfl rfl (Nat.le_of_ble_eq_true rfl) dL_law_1606 (fun H locs I => ?_)
  refine lv_aload_n hx hb dL_law_1609 rfl (lv_at hl 3 rfl) ?_
  refine lw_callM (q := (r, τ')) (As := []) X I (by omega) (by omega) mk_L_188 (lev := 1) (by decide) (c_X12_back h2) hl.1 rfl rfl (Nat.le_of_ble_eq_true rfl) dL_law_1610 (fun H locs I => ?_)
  refine lv_icmp_eq (tgt := 1643) hx hb dL_law_1613 (by decide) (fun _ => ?_) (fun h => absurd rfl h)
  refine W.widen (Nat.le_add_right _ _) (Nat.le_add_right _ _) (kk _ _ f H locs ls ?_ I hl)
  exact HR2
set_option maxHeartbeats 4000000 in
theorem lw_k39 (X : lw_X p s m c b L xs P Pm cL) (hL : L ≤ 3072) {n : Nat} (hi : n + 6 ≤ L) (O : lw_Eq Rel (fun N σ => lw_up (f_X11_count N (xs (n + 1)) σ) σ) (fun N σ => lw_up (f_X12_count N (xs (n + 1)) σ) σ)) (HR : Rel σ τ) (I : lw_I s P Pm cL σ τ f H locs) (hl : lv_has ls 7 (lw_lv s P Pm b (nI n))) (hcel : cells + 1 ≤ room_1.cells) (hslo : slots + 6 ≤ room_1.slots)
    (kk : lw_Wt Rel p l e s m b below meth c Q P Pm cL n (cells + 1) (slots + 6) 1643) : W p l e room_1 s m #[Value.ref b] below meth c H locs cells slots Q (F0 m 1618 ls []) := by
  obtain ⟨N, M, r, σ', τ', h1, h2, HR2⟩ := O σ τ HR
  have hx := X.1.1.1
  have hb := X.1.1.2.1
  refine lv_aload_n hx hb dL_law_1618 rfl (lv_at hl 2 rfl) ?_
  refine lw_arg X I (n := n) (k := 1) (by omega) hL (lv_at hl 1 rfl) (lv_at hl 0 rfl) rfl dL_law_1619 dL_law_1620 dL_law_1622 dL_law_1623 dL_law_1624 ?_
  refine lw_callX (q := (r, σ)) (As := [.int (xs (n + 1))]) X I (by omega) (by omega) mk_L_189 (lev := 3) (by decide) (c_X11_count (lw_up_eq h1).1) hl.1 rfl rfl (Nat.le_of_ble_eq_true rfl) dL_law_1625 (fun H locs I => ?_)
  refine lv_aload_n hx hb dL_law_1628 rfl (lv_at hl 3 rfl) ?_
  refine lw_arg X I (n := n) (k := 1) (by omega) hL (lv_at hl 1 rfl) (lv_at hl 0 rfl) rfl dL_law_1629 dL_law_1630 dL_law_1632 dL_law_1633 dL_law_1634 ?_
  refine lw_callM (q := (r, τ)) (As := [.int (xs (n + 1))]) X I (by omega) (by omega) mk_L_192 (lev := 1) (by decide) (c_X12_count (lw_up_eq h2).1) hl.1 rfl rfl (Nat.le_of_ble_eq_true rfl) dL_law_1635 (fun H locs I => ?_)
  have e1 := (lw_up_eq h1).2
  have e2 := (lw_up_eq h2).2
  refine lv_icmp_eq (tgt := 1643) hx hb dL_law_1638 (by decide) (fun _ => ?_) (fun h => absurd rfl h)
  refine W.widen (Nat.le_add_right _ _) (Nat.le_add_right _ _) (kk _ _ f H locs ls ?_ I hl)
  rw [e1] at HR2
  rw [e2] at HR2
  exact HR2
end LAWC
