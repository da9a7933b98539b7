theorem lc_0 {p : Program} {l : Launch} {e : Env} {s : State} {m : MethodId} {below : List Frame} {meth : Method} {c : Code} {b Ln i cells slots : Nat} {xs : Nat → Int32} {Q : State → Prop} {G G1 : GG} {M N : Mm} (C : GX p s m #[Value.ref b] c code 4 "SnowSentriesLaw") (hX : va_X b Ln xs s s.heap) (hb : b < s.heap.size) (hL : Ln ≤ 320) (hg : LG s G G1) (hcs : cells ≤ room_1.cells ∧ slots ≤ room_1.slots) (hi : i + 5 ≤ Ln) (R0 : Rel M N) (hK : ∀ M2 N2, Rel M2 N2 → Zg p l e room_1 s m #[Value.ref b] below meth c 4 Q cells slots (FL s G G1 M2 N2) 1596 [(3, .int (nI i)), (2, .ref (gB G1 + 0)), (1, .ref (gB G + 0)), (0, .ref b)] []) : Zg p l e room_1 s m #[Value.ref b] below meth c 4 Q cells slots (FL s G G1 M N) 220 [(3, .int (nI i)), (2, .ref (gB G1 + 0)), (1, .ref (gB G + 0)), (0, .ref b)] [] := by
  refine g_aload_n (x := gB G + 0) 2 C dl_220 rfl rfl ?_
  refine g_arg (k := 1) (kn := 1) C hX hb (by omega) hL rfl dl_221 dl_222 dl_223 dl_224 dl_225 ?_
  refine g_i2l C dl_226 ?_
  refine g_bipush (v := 32) C dl_227 rfl ?_
  refine g_lshl C dl_229 ?_
  refine g_arg (k := 2) (kn := 2) C hX hb (by omega) hL rfl dl_230 dl_231 dl_232 dl_233 dl_234 ?_
  refine g_i2l C dl_235 ?_
  refine g_ldc2 wk_L_13 C dl_236 ?_
  refine g_land C dl_239 ?_
  refine g_lor C dl_240 ?_
  obtain ⟨r, M2, N2, e1, e2, R2⟩ := s_feed R0 (((((xs (i + 1)).toInt64) <<< ((32 : Int32).toInt64 &&& 63)) ||| (((xs (i + 2)).toInt64) &&& (4294967295 : Int64))))
  refine g_cX (S := []) (As := [.long ((((xs (i + 1)).toInt64) <<< ((32 : Int32).toInt64 &&& 63)) ||| (((xs (i + 2)).toInt64) &&& (4294967295 : Int64)))]) C hg hcs (c_X11_feed l G e1) wc_X11_feed wm_L_15 ws_X11_feed wl_X11_feed wi_X11 hy_X11_feed ⟨Nat.le_of_ble_eq_true rfl, Nat.le_of_ble_eq_true rfl⟩ rfl rfl (Nat.le_of_ble_eq_true rfl) dl_241 ?_
  refine g_aload_n (x := gB G1 + 0) 1 C dl_244 rfl rfl ?_
  refine g_arg (k := 1) (kn := 1) C hX hb (by omega) hL rfl dl_245 dl_246 dl_247 dl_248 dl_249 ?_
  refine g_i2l C dl_250 ?_
  refine g_bipush (v := 32) C dl_251 rfl ?_
  refine g_lshl C dl_253 ?_
  refine g_arg (k := 2) (kn := 2) C hX hb (by omega) hL rfl dl_254 dl_255 dl_256 dl_257 dl_258 ?_
  refine g_i2l C dl_259 ?_
  refine g_ldc2 wk_L_13 C dl_260 ?_
  refine g_land C dl_263 ?_
  refine g_lor C dl_264 ?_
  refine g_cY (S := [.int r]) (As := [.long ((((xs (i + 1)).toInt64) <<< ((32 : Int32).toInt64 &&& 63)) ||| (((xs (i + 2)).toInt64) &&& (4294967295 : Int64)))]) C hg hcs (c_X12_feed l G1 e2) wc_X12_feed wm_L_19 ws_X12_feed wl_X12_feed wi_X12 hy_X12_feed ⟨Nat.le_of_ble_eq_true rfl, Nat.le_of_ble_eq_true rfl⟩ rfl rfl (Nat.le_of_ble_eq_true rfl) dl_265 ?_
  exact g_icmp_eq (tgt := 1596) C dl_268 (fun _ => hK _ _ R2) (fun q => absurd rfl q)
theorem lc_1 {p : Program} {l : Launch} {e : Env} {s : State} {m : MethodId} {below : List Frame} {meth : Method} {c : Code} {b Ln i cells slots : Nat} {xs : Nat → Int32} {Q : State → Prop} {G G1 : GG} {M N : Mm} (C : GX p s m #[Value.ref b] c code 4 "SnowSentriesLaw") (hX : va_X b Ln xs s s.heap) (hb : b < s.heap.size) (hL : Ln ≤ 320) (hg : LG s G G1) (hcs : cells ≤ room_1.cells ∧ slots ≤ room_1.slots) (hi : i + 5 ≤ Ln) (R0 : Rel M N) (hK : ∀ M2 N2, Rel M2 N2 → Zg p l e room_1 s m #[Value.ref b] below meth c 4 Q cells slots (FL s G G1 M2 N2) 1596 [(3, .int (nI i)), (2, .ref (gB G1 + 0)), (1, .ref (gB G + 0)), (0, .ref b)] []) : Zg p l e room_1 s m #[Value.ref b] below meth c 4 Q cells slots (FL s G G1 M N) 273 [(3, .int (nI i)), (2, .ref (gB G1 + 0)), (1, .ref (gB G + 0)), (0, .ref b)] [] := by
  refine g_aload_n (x := gB G + 0) 2 C dl_273 rfl rfl ?_
  refine g_arg (k := 1) (kn := 1) C hX hb (by omega) hL rfl dl_274 dl_275 dl_276 dl_277 dl_278 ?_
  obtain ⟨r, M2, N2, e1, e2, R2⟩ := s_end R0 ((xs (i + 1)))
  refine g_cX (S := []) (As := [.int (xs (i + 1))]) C hg hcs (c_X11_end l G e1) wc_X11_end wm_L_20 ws_X11_end wl_X11_end wi_X11 hy_X11_end ⟨Nat.le_of_ble_eq_true rfl, Nat.le_of_ble_eq_true rfl⟩ rfl rfl (Nat.le_of_ble_eq_true rfl) dl_279 ?_
  refine g_aload_n (x := gB G1 + 0) 1 C dl_282 rfl rfl ?_
  refine g_arg (k := 1) (kn := 1) C hX hb (by omega) hL rfl dl_283 dl_284 dl_285 dl_286 dl_287 ?_
  refine g_cY (S := [.int r]) (As := [.int (xs (i + 1))]) C hg hcs (c_X12_end l G1 e2) wc_X12_end wm_L_24 ws_X12_end wl_X12_end wi_X12 hy_X12_end ⟨Nat.le_of_ble_eq_true rfl, Nat.le_of_ble_eq_true rfl⟩ rfl rfl (Nat.le_of_ble_eq_true rfl) dl_288 ?_
  exact g_icmp_eq (tgt := 1596) C dl_291 (fun _ => hK _ _ R2) (fun q => absurd rfl q)
theorem lc_2 {p : Program} {l : Launch} {e : Env} {s : State} {m : MethodId} {below : List Frame} {meth : Method} {c : Code} {b Ln i cells slots : Nat} {xs : Nat → Int32} {Q : State → Prop} {G G1 : GG} {M N : Mm} (C : GX p s m #[Value.ref b] c code 4 "SnowSentriesLaw") (hX : va_X b Ln xs s s.heap) (hb : b < s.heap.size) (hL : Ln ≤ 320) (hg : LG s G G1) (hcs : cells ≤ room_1.cells ∧ slots ≤ room_1.slots) (hi : i + 5 ≤ Ln) (R0 : Rel M N) (hK : ∀ M2 N2, Rel M2 N2 → Zg p l e room_1 s m #[Value.ref b] below meth c 4 Q cells slots (FL s G G1 M2 N2) 1596 [(3, .int (nI i)), (2, .ref (gB G1 + 0)), (1, .ref (gB G + 0)), (0, .ref b)] []) : Zg p l e room_1 s m #[Value.ref b] below meth c 4 Q cells slots (FL s G G1 M N) 296 [(3, .int (nI i)), (2, .ref (gB G1 + 0)), (1, .ref (gB G + 0)), (0, .ref b)] [] := by
  refine g_aload_n (x := gB G + 0) 2 C dl_296 rfl rfl ?_
  obtain ⟨r, M2, N2, e1, e2, R2⟩ := s_land R0 
  refine g_cX (S := []) (As := []) C hg hcs (c_X11_land l G e1) wc_X11_land wm_L_25 ws_X11_land wl_X11_land wi_X11 hy_X11_land ⟨Nat.le_of_ble_eq_true rfl, Nat.le_of_ble_eq_true rfl⟩ rfl rfl (Nat.le_of_ble_eq_true rfl) dl_297 ?_
  refine g_aload_n (x := gB G1 + 0) 1 C dl_300 rfl rfl ?_
  refine g_cY (S := [.int r]) (As := []) C hg hcs (c_X12_land l G1 e2) wc_X12_land wm_L_29 ws_X12_land wl_X12_land wi_X12 hy_X12_land ⟨Nat.le_of_ble_eq_true rfl, Nat.le_of_ble_eq_true rfl⟩ rfl rfl (Nat.le_of_ble_eq_true rfl) dl_301 ?_
  exact g_icmp_eq (tgt := 1596) C dl_304 (fun _ => hK _ _ R2) (fun q => absurd rfl q)
theorem lc_3 {p : Program} {l : Launch} {e : Env} {s : State} {m : MethodId} {below : List Frame} {meth : Method} {c : Code} {b Ln i cells slots : Nat} {xs : Nat → Int32} {Q : State → Prop} {G G1 : GG} {M N : Mm} (C : GX p s m #[Value.ref b] c code 4 "SnowSentriesLaw") (hX : va_X b Ln xs s s.heap) (hb : b < s.heap.size) (hL : Ln ≤ 320) (hg : LG s G G1) (hcs : cells ≤ room_1.cells ∧ slots ≤ room_1.slots) (hi : i + 5 ≤ Ln) (R0 : Rel M N) (hK : ∀ M2 N2, Rel M2 N2 → Zg p l e room_1 s m #[Value.ref b] below meth c 4 Q cells slots (FL s G G1 M2 N2) 1596 [(3, .int (nI i)), (2, .ref (gB G1 + 0)), (1, .ref (gB G + 0)), (0, .ref b)] []) : Zg p l e room_1 s m #[Value.ref b] below meth c 4 Q cells slots (FL s G G1 M N) 309 [(3, .int (nI i)), (2, .ref (gB G1 + 0)), (1, .ref (gB G + 0)), (0, .ref b)] [] := by
  refine g_aload_n (x := gB G + 0) 2 C dl_309 rfl rfl ?_
  obtain ⟨r, e1, e2⟩ := s_fault R0 
  refine g_cX (S := []) (As := []) C hg hcs (c_X11_fault l G e1) wc_X11_fault wm_L_30 ws_X11_fault wl_X11_fault wi_X11 hy_X11_fault ⟨Nat.le_of_ble_eq_true rfl, Nat.le_of_ble_eq_true rfl⟩ rfl rfl (Nat.le_of_ble_eq_true rfl) dl_310 ?_
  refine g_aload_n (x := gB G1 + 0) 1 C dl_313 rfl rfl ?_
  refine g_cY (S := [.int r]) (As := []) C hg hcs (c_X12_fault l G1 e2) wc_X12_fault wm_L_33 ws_X12_fault wl_X12_fault wi_X12 hy_X12_fault ⟨Nat.le_of_ble_eq_true rfl, Nat.le_of_ble_eq_true rfl⟩ rfl rfl (Nat.le_of_ble_eq_true rfl) dl_314 ?_
  exact g_icmp_eq (tgt := 1596) C dl_317 (fun _ => hK _ _ R0) (fun q => absurd rfl q)
theorem lc_4 {p : Program} {l : Launch} {e : Env} {s : State} {m : MethodId} {below : List Frame} {meth : Method} {c : Code} {b Ln i cells slots : Nat} {xs : Nat → Int32} {Q : State → Prop} {G G1 : GG} {M N : Mm} (C : GX p s m #[Value.ref b] c code 4 "SnowSentriesLaw") (hX : va_X b Ln xs s s.heap) (hb : b < s.heap.size) (hL : Ln ≤ 320) (hg : LG s G G1) (hcs : cells ≤ room_1.cells ∧ slots ≤ room_1.slots) (hi : i + 5 ≤ Ln) (R0 : Rel M N) (hK : ∀ M2 N2, Rel M2 N2 → Zg p l e room_1 s m #[Value.ref b] below meth c 4 Q cells slots (FL s G G1 M2 N2) 1596 [(3, .int (nI i)), (2, .ref (gB G1 + 0)), (1, .ref (gB G + 0)), (0, .ref b)] []) : Zg p l e room_1 s m #[Value.ref b] below meth c 4 Q cells slots (FL s G G1 M N) 322 [(3, .int (nI i)), (2, .ref (gB G1 + 0)), (1, .ref (gB G + 0)), (0, .ref b)] [] := by
  refine g_aload_n (x := gB G + 0) 2 C dl_322 rfl rfl ?_
  refine g_arg (k := 1) (kn := 1) C hX hb (by omega) hL rfl dl_323 dl_324 dl_325 dl_326 dl_327 ?_
  obtain ⟨r, e1, e2⟩ := s_rule R0 ((xs (i + 1)))
  refine g_cX (S := []) (As := [.int (xs (i + 1))]) C hg hcs (c_X11_rule l G e1) wc_X11_rule wm_L_34 ws_X11_rule wl_X11_rule wi_X11 hy_X11_rule ⟨Nat.le_of_ble_eq_true rfl, Nat.le_of_ble_eq_true rfl⟩ rfl rfl (Nat.le_of_ble_eq_true rfl) dl_328 ?_
  refine g_aload_n (x := gB G1 + 0) 1 C dl_331 rfl rfl ?_
  refine g_arg (k := 1) (kn := 1) C hX hb (by omega) hL rfl dl_332 dl_333 dl_334 dl_335 dl_336 ?_
  refine g_cY (S := [.int r]) (As := [.int (xs (i + 1))]) C hg hcs (c_X12_rule l G1 e2) wc_X12_rule wm_L_37 ws_X12_rule wl_X12_rule wi_X12 hy_X12_rule ⟨Nat.le_of_ble_eq_true rfl, Nat.le_of_ble_eq_true rfl⟩ rfl rfl (Nat.le_of_ble_eq_true rfl) dl_337 ?_
  exact g_icmp_eq (tgt := 1596) C dl_340 (fun _ => hK _ _ R0) (fun q => absurd rfl q)
theorem lc_5 {p : Program} {l : Launch} {e : Env} {s : State} {m : MethodId} {below : List Frame} {meth : Method} {c : Code} {b Ln i cells slots : Nat} {xs : Nat → Int32} {Q : State → Prop} {G G1 : GG} {M N : Mm} (C : GX p s m #[Value.ref b] c code 4 "SnowSentriesLaw") (hX : va_X b Ln xs s s.heap) (hb : b < s.heap.size) (hL : Ln ≤ 320) (hg : LG s G G1) (hcs : cells ≤ room_1.cells ∧ slots ≤ room_1.slots) (hi : i + 5 ≤ Ln) (R0 : Rel M N) (hK : ∀ M2 N2, Rel M2 N2 → Zg p l e room_1 s m #[Value.ref b] below meth c 4 Q cells slots (FL s G G1 M2 N2) 1596 [(3, .int (nI i)), (2, .ref (gB G1 + 0)), (1, .ref (gB G + 0)), (0, .ref b)] []) : Zg p l e room_1 s m #[Value.ref b] below meth c 4 Q cells slots (FL s G G1 M N) 345 [(3, .int (nI i)), (2, .ref (gB G1 + 0)), (1, .ref (gB G + 0)), (0, .ref b)] [] := by
  refine g_aload_n (x := gB G + 0) 2 C dl_345 rfl rfl ?_
  refine g_arg (k := 1) (kn := 1) C hX hb (by omega) hL rfl dl_346 dl_347 dl_348 dl_349 dl_350 ?_
  refine g_arg (k := 2) (kn := 2) C hX hb (by omega) hL rfl dl_351 dl_352 dl_353 dl_354 dl_355 ?_
  obtain ⟨r, e1, e2⟩ := s_hour R0 ((xs (i + 1))) ((xs (i + 2)))
  refine g_cX (S := []) (As := [.int (xs (i + 1)), .int (xs (i + 2))]) C hg hcs (c_X11_hour l G e1) wc_X11_hour wm_L_38 ws_X11_hour wl_X11_hour wi_X11 hy_X11_hour ⟨Nat.le_of_ble_eq_true rfl, Nat.le_of_ble_eq_true rfl⟩ rfl rfl (Nat.le_of_ble_eq_true rfl) dl_356 ?_
  refine g_aload_n (x := gB G1 + 0) 1 C dl_359 rfl rfl ?_
  refine g_arg (k := 1) (kn := 1) C hX hb (by omega) hL rfl dl_360 dl_361 dl_362 dl_363 dl_364 ?_
  refine g_arg (k := 2) (kn := 2) C hX hb (by omega) hL rfl dl_365 dl_366 dl_367 dl_368 dl_369 ?_
  refine g_cY (S := [.int r]) (As := [.int (xs (i + 1)), .int (xs (i + 2))]) C hg hcs (c_X12_hour l G1 e2) wc_X12_hour wm_L_42 ws_X12_hour wl_X12_hour wi_X12 hy_X12_hour ⟨Nat.le_of_ble_eq_true rfl, Nat.le_of_ble_eq_true rfl⟩ rfl rfl (Nat.le_of_ble_eq_true rfl) dl_370 ?_
  exact g_icmp_eq (tgt := 1596) C dl_373 (fun _ => hK _ _ R0) (fun q => absurd rfl q)
theorem lc_6 {p : Program} {l : Launch} {e : Env} {s : State} {m : MethodId} {below : List Frame} {meth : Method} {c : Code} {b Ln i cells slots : Nat} {xs : Nat → Int32} {Q : State → Prop} {G G1 : GG} {M N : Mm} (C : GX p s m #[Value.ref b] c code 4 "SnowSentriesLaw") (hX : va_X b Ln xs s s.heap) (hb : b < s.heap.size) (hL : Ln ≤ 320) (hg : LG s G G1) (hcs : cells ≤ room_1.cells ∧ slots ≤ room_1.slots) (hi : i + 5 ≤ Ln) (R0 : Rel M N) (hK : ∀ M2 N2, Rel M2 N2 → Zg p l e room_1 s m #[Value.ref b] below meth c 4 Q cells slots (FL s G G1 M2 N2) 1596 [(3, .int (nI i)), (2, .ref (gB G1 + 0)), (1, .ref (gB G + 0)), (0, .ref b)] []) : Zg p l e room_1 s m #[Value.ref b] below meth c 4 Q cells slots (FL s G G1 M N) 378 [(3, .int (nI i)), (2, .ref (gB G1 + 0)), (1, .ref (gB G + 0)), (0, .ref b)] [] := by
  refine g_aload_n (x := gB G + 0) 2 C dl_378 rfl rfl ?_
  refine g_arg (k := 1) (kn := 1) C hX hb (by omega) hL rfl dl_379 dl_380 dl_381 dl_382 dl_383 ?_
  refine g_arg (k := 2) (kn := 2) C hX hb (by omega) hL rfl dl_384 dl_385 dl_386 dl_387 dl_388 ?_
  obtain ⟨r, e1, e2⟩ := s_furlong R0 ((xs (i + 1))) ((xs (i + 2)))
  refine g_cX (S := []) (As := [.int (xs (i + 1)), .int (xs (i + 2))]) C hg hcs (c_X11_furlong l G e1) wc_X11_furlong wm_L_43 ws_X11_furlong wl_X11_furlong wi_X11 hy_X11_furlong ⟨Nat.le_of_ble_eq_true rfl, Nat.le_of_ble_eq_true rfl⟩ rfl rfl (Nat.le_of_ble_eq_true rfl) dl_389 ?_
  refine g_aload_n (x := gB G1 + 0) 1 C dl_392 rfl rfl ?_
  refine g_arg (k := 1) (kn := 1) C hX hb (by omega) hL rfl dl_393 dl_394 dl_395 dl_396 dl_397 ?_
  refine g_arg (k := 2) (kn := 2) C hX hb (by omega) hL rfl dl_398 dl_399 dl_400 dl_401 dl_402 ?_
  refine g_cY (S := [.int r]) (As := [.int (xs (i + 1)), .int (xs (i + 2))]) C hg hcs (c_X12_furlong l G1 e2) wc_X12_furlong wm_L_46 ws_X12_furlong wl_X12_furlong wi_X12 hy_X12_furlong ⟨Nat.le_of_ble_eq_true rfl, Nat.le_of_ble_eq_true rfl⟩ rfl rfl (Nat.le_of_ble_eq_true rfl) dl_403 ?_
  exact g_icmp_eq (tgt := 1596) C dl_406 (fun _ => hK _ _ R0) (fun q => absurd rfl q)
theorem lc_7 {p : Program} {l : Launch} {e : Env} {s : State} {m : MethodId} {below : List Frame} {meth : Method} {c : Code} {b Ln i cells slots : Nat} {xs : Nat → Int32} {Q : State → Prop} {G G1 : GG} {M N : Mm} (C : GX p s m #[Value.ref b] c code 4 "SnowSentriesLaw") (hX : va_X b Ln xs s s.heap) (hb : b < s.heap.size) (hL : Ln ≤ 320) (hg : LG s G G1) (hcs : cells ≤ room_1.cells ∧ slots ≤ room_1.slots) (hi : i + 5 ≤ Ln) (R0 : Rel M N) (hK : ∀ M2 N2, Rel M2 N2 → Zg p l e room_1 s m #[Value.ref b] below meth c 4 Q cells slots (FL s G G1 M2 N2) 1596 [(3, .int (nI i)), (2, .ref (gB G1 + 0)), (1, .ref (gB G + 0)), (0, .ref b)] []) : Zg p l e room_1 s m #[Value.ref b] below meth c 4 Q cells slots (FL s G G1 M N) 411 [(3, .int (nI i)), (2, .ref (gB G1 + 0)), (1, .ref (gB G + 0)), (0, .ref b)] [] := by
  refine g_aload_n (x := gB G + 0) 2 C dl_411 rfl rfl ?_
  refine g_arg (k := 1) (kn := 1) C hX hb (by omega) hL rfl dl_412 dl_413 dl_414 dl_415 dl_416 ?_
  refine g_arg (k := 2) (kn := 2) C hX hb (by omega) hL rfl dl_417 dl_418 dl_419 dl_420 dl_421 ?_
  refine g_arg (k := 3) (kn := 3) C hX hb (by omega) hL rfl dl_422 dl_423 dl_424 dl_425 dl_426 ?_
  obtain ⟨r, e1, e2⟩ := s_man R0 ((xs (i + 1))) ((xs (i + 2))) ((xs (i + 3)))
  refine g_cX (S := []) (As := [.int (xs (i + 1)), .int (xs (i + 2)), .int (xs (i + 3))]) C hg hcs (c_X11_man l G e1) wc_X11_man wm_L_47 ws_X11_man wl_X11_man wi_X11 hy_X11_man ⟨Nat.le_of_ble_eq_true rfl, Nat.le_of_ble_eq_true rfl⟩ rfl rfl (Nat.le_of_ble_eq_true rfl) dl_427 ?_
  refine g_aload_n (x := gB G1 + 0) 1 C dl_430 rfl rfl ?_
  refine g_arg (k := 1) (kn := 1) C hX hb (by omega) hL rfl dl_431 dl_432 dl_433 dl_434 dl_435 ?_
  refine g_arg (k := 2) (kn := 2) C hX hb (by omega) hL rfl dl_436 dl_437 dl_438 dl_439 dl_440 ?_
  refine g_arg (k := 3) (kn := 3) C hX hb (by omega) hL rfl dl_441 dl_442 dl_443 dl_444 dl_445 ?_
  refine g_cY (S := [.int r]) (As := [.int (xs (i + 1)), .int (xs (i + 2)), .int (xs (i + 3))]) C hg hcs (c_X12_man l G1 e2) wc_X12_man wm_L_51 ws_X12_man wl_X12_man wi_X12 hy_X12_man ⟨Nat.le_of_ble_eq_true rfl, Nat.le_of_ble_eq_true rfl⟩ rfl rfl (Nat.le_of_ble_eq_true rfl) dl_446 ?_
  exact g_icmp_eq (tgt := 1596) C dl_449 (fun _ => hK _ _ R0) (fun q => absurd rfl q)
theorem lc_8 {p : Program} {l : Launch} {e : Env} {s : State} {m : MethodId} {below : List Frame} {meth : Method} {c : Code} {b Ln i cells slots : Nat} {xs : Nat → Int32} {Q : State → Prop} {G G1 : GG} {M N : Mm} (C : GX p s m #[Value.ref b] c code 4 "SnowSentriesLaw") (hX : va_X b Ln xs s s.heap) (hb : b < s.heap.size) (hL : Ln ≤ 320) (hg : LG s G G1) (hcs : cells ≤ room_1.cells ∧ slots ≤ room_1.slots) (hi : i + 5 ≤ Ln) (R0 : Rel M N) (hK : ∀ M2 N2, Rel M2 N2 → Zg p l e room_1 s m #[Value.ref b] below meth c 4 Q cells slots (FL s G G1 M2 N2) 1596 [(3, .int (nI i)), (2, .ref (gB G1 + 0)), (1, .ref (gB G + 0)), (0, .ref b)] []) : Zg p l e room_1 s m #[Value.ref b] below meth c 4 Q cells slots (FL s G G1 M N) 454 [(3, .int (nI i)), (2, .ref (gB G1 + 0)), (1, .ref (gB G + 0)), (0, .ref b)] [] := by
  refine g_aload_n (x := gB G + 0) 2 C dl_454 rfl rfl ?_
  refine g_arg (k := 1) (kn := 1) C hX hb (by omega) hL rfl dl_455 dl_456 dl_457 dl_458 dl_459 ?_
  refine g_arg (k := 2) (kn := 2) C hX hb (by omega) hL rfl dl_460 dl_461 dl_462 dl_463 dl_464 ?_
  obtain ⟨r, e1, e2⟩ := s_brazier R0 ((xs (i + 1))) ((xs (i + 2)))
  refine g_cX (S := []) (As := [.int (xs (i + 1)), .int (xs (i + 2))]) C hg hcs (c_X11_brazier l G e1) wc_X11_brazier wm_L_52 ws_X11_brazier wl_X11_brazier wi_X11 hy_X11_brazier ⟨Nat.le_of_ble_eq_true rfl, Nat.le_of_ble_eq_true rfl⟩ rfl rfl (Nat.le_of_ble_eq_true rfl) dl_465 ?_
  refine g_aload_n (x := gB G1 + 0) 1 C dl_468 rfl rfl ?_
  refine g_arg (k := 1) (kn := 1) C hX hb (by omega) hL rfl dl_469 dl_470 dl_471 dl_472 dl_473 ?_
  refine g_arg (k := 2) (kn := 2) C hX hb (by omega) hL rfl dl_474 dl_475 dl_476 dl_477 dl_478 ?_
  refine g_cY (S := [.int r]) (As := [.int (xs (i + 1)), .int (xs (i + 2))]) C hg hcs (c_X12_brazier l G1 e2) wc_X12_brazier wm_L_55 ws_X12_brazier wl_X12_brazier wi_X12 hy_X12_brazier ⟨Nat.le_of_ble_eq_true rfl, Nat.le_of_ble_eq_true rfl⟩ rfl rfl (Nat.le_of_ble_eq_true rfl) dl_479 ?_
  exact g_icmp_eq (tgt := 1596) C dl_482 (fun _ => hK _ _ R0) (fun q => absurd rfl q)
theorem lc_9 {p : Program} {l : Launch} {e : Env} {s : State} {m : MethodId} {below : List Frame} {meth : Method} {c : Code} {b Ln i cells slots : Nat} {xs : Nat → Int32} {Q : State → Prop} {G G1 : GG} {M N : Mm} (C : GX p s m #[Value.ref b] c code 4 "SnowSentriesLaw") (hX : va_X b Ln xs s s.heap) (hb : b < s.heap.size) (hL : Ln ≤ 320) (hg : LG s G G1) (hcs : cells ≤ room_1.cells ∧ slots ≤ room_1.slots) (hi : i + 5 ≤ Ln) (R0 : Rel M N) (hK : ∀ M2 N2, Rel M2 N2 → Zg p l e room_1 s m #[Value.ref b] below meth c 4 Q cells slots (FL s G G1 M2 N2) 1596 [(3, .int (nI i)), (2, .ref (gB G1 + 0)), (1, .ref (gB G + 0)), (0, .ref b)] []) : Zg p l e room_1 s m #[Value.ref b] below meth c 4 Q cells slots (FL s G G1 M N) 487 [(3, .int (nI i)), (2, .ref (gB G1 + 0)), (1, .ref (gB G + 0)), (0, .ref b)] [] := by
  refine g_aload_n (x := gB G + 0) 2 C dl_487 rfl rfl ?_
  refine g_arg (k := 1) (kn := 1) C hX hb (by omega) hL rfl dl_488 dl_489 dl_490 dl_491 dl_492 ?_
  refine g_arg (k := 2) (kn := 2) C hX hb (by omega) hL rfl dl_493 dl_494 dl_495 dl_496 dl_497 ?_
  obtain ⟨r, e1, e2⟩ := s_house R0 ((xs (i + 1))) ((xs (i + 2)))
  refine g_cX (S := []) (As := [.int (xs (i + 1)), .int (xs (i + 2))]) C hg hcs (c_X11_house l G e1) wc_X11_house wm_L_56 ws_X11_house wl_X11_house wi_X11 hy_X11_house ⟨Nat.le_of_ble_eq_true rfl, Nat.le_of_ble_eq_true rfl⟩ rfl rfl (Nat.le_of_ble_eq_true rfl) dl_498 ?_
  refine g_aload_n (x := gB G1 + 0) 1 C dl_501 rfl rfl ?_
  refine g_arg (k := 1) (kn := 1) C hX hb (by omega) hL rfl dl_502 dl_503 dl_504 dl_505 dl_506 ?_
  refine g_arg (k := 2) (kn := 2) C hX hb (by omega) hL rfl dl_507 dl_508 dl_509 dl_510 dl_511 ?_
  refine g_cY (S := [.int r]) (As := [.int (xs (i + 1)), .int (xs (i + 2))]) C hg hcs (c_X12_house l G1 e2) wc_X12_house wm_L_59 ws_X12_house wl_X12_house wi_X12 hy_X12_house ⟨Nat.le_of_ble_eq_true rfl, Nat.le_of_ble_eq_true rfl⟩ rfl rfl (Nat.le_of_ble_eq_true rfl) dl_512 ?_
  exact g_icmp_eq (tgt := 1596) C dl_515 (fun _ => hK _ _ R0) (fun q => absurd rfl q)
theorem lc_10 {p : Program} {l : Launch} {e : Env} {s : State} {m : MethodId} {below : List Frame} {meth : Method} {c : Code} {b Ln i cells slots : Nat} {xs : Nat → Int32} {Q : State → Prop} {G G1 : GG} {M N : Mm} (C : GX p s m #[Value.ref b] c code 4 "SnowSentriesLaw") (hX : va_X b Ln xs s s.heap) (hb : b < s.heap.size) (hL : Ln ≤ 320) (hg : LG s G G1) (hcs : cells ≤ room_1.cells ∧ slots ≤ room_1.slots) (hi : i + 5 ≤ Ln) (R0 : Rel M N) (hK : ∀ M2 N2, Rel M2 N2 → Zg p l e room_1 s m #[Value.ref b] below meth c 4 Q cells slots (FL s G G1 M2 N2) 1596 [(3, .int (nI i)), (2, .ref (gB G1 + 0)), (1, .ref (gB G + 0)), (0, .ref b)] []) : Zg p l e room_1 s m #[Value.ref b] below meth c 4 Q cells slots (FL s G G1 M N) 520 [(3, .int (nI i)), (2, .ref (gB G1 + 0)), (1, .ref (gB G + 0)), (0, .ref b)] [] := by
  refine g_aload_n (x := gB G + 0) 2 C dl_520 rfl rfl ?_
  refine g_arg (k := 1) (kn := 1) C hX hb (by omega) hL rfl dl_521 dl_522 dl_523 dl_524 dl_525 ?_
  refine g_arg (k := 2) (kn := 2) C hX hb (by omega) hL rfl dl_526 dl_527 dl_528 dl_529 dl_530 ?_
  obtain ⟨r, M2, N2, e1, e2, R2⟩ := s_shine R0 ((xs (i + 1))) ((xs (i + 2)))
  refine g_cX (S := []) (As := [.int (xs (i + 1)), .int (xs (i + 2))]) C hg hcs (c_X11_shine l G e1) wc_X11_shine wm_L_60 ws_X11_shine wl_X11_shine wi_X11 hy_X11_shine ⟨Nat.le_of_ble_eq_true rfl, Nat.le_of_ble_eq_true rfl⟩ rfl rfl (Nat.le_of_ble_eq_true rfl) dl_531 ?_
  refine g_aload_n (x := gB G1 + 0) 1 C dl_534 rfl rfl ?_
  refine g_arg (k := 1) (kn := 1) C hX hb (by omega) hL rfl dl_535 dl_536 dl_537 dl_538 dl_539 ?_
  refine g_arg (k := 2) (kn := 2) C hX hb (by omega) hL rfl dl_540 dl_541 dl_542 dl_543 dl_544 ?_
  refine g_cY (S := [.int r]) (As := [.int (xs (i + 1)), .int (xs (i + 2))]) C hg hcs (c_X12_shine l G1 e2) wc_X12_shine wm_L_63 ws_X12_shine wl_X12_shine wi_X12 hy_X12_shine ⟨Nat.le_of_ble_eq_true rfl, Nat.le_of_ble_eq_true rfl⟩ rfl rfl (Nat.le_of_ble_eq_true rfl) dl_545 ?_
  exact g_icmp_eq (tgt := 1596) C dl_548 (fun _ => hK _ _ R2) (fun q => absurd rfl q)
theorem lc_11 {p : Program} {l : Launch} {e : Env} {s : State} {m : MethodId} {below : List Frame} {meth : Method} {c : Code} {b Ln i cells slots : Nat} {xs : Nat → Int32} {Q : State → Prop} {G G1 : GG} {M N : Mm} (C : GX p s m #[Value.ref b] c code 4 "SnowSentriesLaw") (hX : va_X b Ln xs s s.heap) (hb : b < s.heap.size) (hL : Ln ≤ 320) (hg : LG s G G1) (hcs : cells ≤ room_1.cells ∧ slots ≤ room_1.slots) (hi : i + 5 ≤ Ln) (R0 : Rel M N) (hK : ∀ M2 N2, Rel M2 N2 → Zg p l e room_1 s m #[Value.ref b] below meth c 4 Q cells slots (FL s G G1 M2 N2) 1596 [(3, .int (nI i)), (2, .ref (gB G1 + 0)), (1, .ref (gB G + 0)), (0, .ref b)] []) : Zg p l e room_1 s m #[Value.ref b] below meth c 4 Q cells slots (FL s G G1 M N) 553 [(3, .int (nI i)), (2, .ref (gB G1 + 0)), (1, .ref (gB G + 0)), (0, .ref b)] [] := by
  refine g_aload_n (x := gB G + 0) 2 C dl_553 rfl rfl ?_
  refine g_arg (k := 1) (kn := 1) C hX hb (by omega) hL rfl dl_554 dl_555 dl_556 dl_557 dl_558 ?_
  refine g_arg (k := 2) (kn := 2) C hX hb (by omega) hL rfl dl_559 dl_560 dl_561 dl_562 dl_563 ?_
  obtain ⟨r, M2, N2, e1, e2, R2⟩ := s_treaty R0 ((xs (i + 1))) ((xs (i + 2)))
  refine g_cX (S := []) (As := [.int (xs (i + 1)), .int (xs (i + 2))]) C hg hcs (c_X11_treaty l G e1) wc_X11_treaty wm_L_64 ws_X11_treaty wl_X11_treaty wi_X11 hy_X11_treaty ⟨Nat.le_of_ble_eq_true rfl, Nat.le_of_ble_eq_true rfl⟩ rfl rfl (Nat.le_of_ble_eq_true rfl) dl_564 ?_
  refine g_aload_n (x := gB G1 + 0) 1 C dl_567 rfl rfl ?_
  refine g_arg (k := 1) (kn := 1) C hX hb (by omega) hL rfl dl_568 dl_569 dl_570 dl_571 dl_572 ?_
  refine g_arg (k := 2) (kn := 2) C hX hb (by omega) hL rfl dl_573 dl_574 dl_575 dl_576 dl_577 ?_
  refine g_cY (S := [.int r]) (As := [.int (xs (i + 1)), .int (xs (i + 2))]) C hg hcs (c_X12_treaty l G1 e2) wc_X12_treaty wm_L_67 ws_X12_treaty wl_X12_treaty wi_X12 hy_X12_treaty ⟨Nat.le_of_ble_eq_true rfl, Nat.le_of_ble_eq_true rfl⟩ rfl rfl (Nat.le_of_ble_eq_true rfl) dl_578 ?_
  exact g_icmp_eq (tgt := 1596) C dl_581 (fun _ => hK _ _ R2) (fun q => absurd rfl q)
theorem lc_12 {p : Program} {l : Launch} {e : Env} {s : State} {m : MethodId} {below : List Frame} {meth : Method} {c : Code} {b Ln i cells slots : Nat} {xs : Nat → Int32} {Q : State → Prop} {G G1 : GG} {M N : Mm} (C : GX p s m #[Value.ref b] c code 4 "SnowSentriesLaw") (hX : va_X b Ln xs s s.heap) (hb : b < s.heap.size) (hL : Ln ≤ 320) (hg : LG s G G1) (hcs : cells ≤ room_1.cells ∧ slots ≤ room_1.slots) (hi : i + 5 ≤ Ln) (R0 : Rel M N) (hK : ∀ M2 N2, Rel M2 N2 → Zg p l e room_1 s m #[Value.ref b] below meth c 4 Q cells slots (FL s G G1 M2 N2) 1596 [(3, .int (nI i)), (2, .ref (gB G1 + 0)), (1, .ref (gB G + 0)), (0, .ref b)] []) : Zg p l e room_1 s m #[Value.ref b] below meth c 4 Q cells slots (FL s G G1 M N) 586 [(3, .int (nI i)), (2, .ref (gB G1 + 0)), (1, .ref (gB G + 0)), (0, .ref b)] [] := by
  refine g_aload_n (x := gB G + 0) 2 C dl_586 rfl rfl ?_
  refine g_arg (k := 1) (kn := 1) C hX hb (by omega) hL rfl dl_587 dl_588 dl_589 dl_590 dl_591 ?_
  obtain ⟨r, M2, N2, e1, e2, R2⟩ := s_chance R0 ((xs (i + 1)))
  refine g_cX (S := []) (As := [.int (xs (i + 1))]) C hg hcs (c_X11_chance l G e1) wc_X11_chance wm_L_68 ws_X11_chance wl_X11_chance wi_X11 hy_X11_chance ⟨Nat.le_of_ble_eq_true rfl, Nat.le_of_ble_eq_true rfl⟩ rfl rfl (Nat.le_of_ble_eq_true rfl) dl_592 ?_
  refine g_aload_n (x := gB G1 + 0) 1 C dl_595 rfl rfl ?_
  refine g_arg (k := 1) (kn := 1) C hX hb (by omega) hL rfl dl_596 dl_597 dl_598 dl_599 dl_600 ?_
  refine g_cY (S := [.int r]) (As := [.int (xs (i + 1))]) C hg hcs (c_X12_chance l G1 e2) wc_X12_chance wm_L_71 ws_X12_chance wl_X12_chance wi_X12 hy_X12_chance ⟨Nat.le_of_ble_eq_true rfl, Nat.le_of_ble_eq_true rfl⟩ rfl rfl (Nat.le_of_ble_eq_true rfl) dl_601 ?_
  exact g_icmp_eq (tgt := 1596) C dl_604 (fun _ => hK _ _ R2) (fun q => absurd rfl q)
theorem lc_13 {p : Program} {l : Launch} {e : Env} {s : State} {m : MethodId} {below : List Frame} {meth : Method} {c : Code} {b Ln i cells slots : Nat} {xs : Nat → Int32} {Q : State → Prop} {G G1 : GG} {M N : Mm} (C : GX p s m #[Value.ref b] c code 4 "SnowSentriesLaw") (hX : va_X b Ln xs s s.heap) (hb : b < s.heap.size) (hL : Ln ≤ 320) (hg : LG s G G1) (hcs : cells ≤ room_1.cells ∧ slots ≤ room_1.slots) (hi : i + 5 ≤ Ln) (R0 : Rel M N) (hK : ∀ M2 N2, Rel M2 N2 → Zg p l e room_1 s m #[Value.ref b] below meth c 4 Q cells slots (FL s G G1 M2 N2) 1596 [(3, .int (nI i)), (2, .ref (gB G1 + 0)), (1, .ref (gB G + 0)), (0, .ref b)] []) : Zg p l e room_1 s m #[Value.ref b] below meth c 4 Q cells slots (FL s G G1 M N) 609 [(3, .int (nI i)), (2, .ref (gB G1 + 0)), (1, .ref (gB G + 0)), (0, .ref b)] [] := by
  refine g_aload_n (x := gB G + 0) 2 C dl_609 rfl rfl ?_
  refine g_arg (k := 1) (kn := 1) C hX hb (by omega) hL rfl dl_610 dl_611 dl_612 dl_613 dl_614 ?_
  refine g_arg (k := 2) (kn := 2) C hX hb (by omega) hL rfl dl_615 dl_616 dl_617 dl_618 dl_619 ?_
  refine g_arg (k := 3) (kn := 3) C hX hb (by omega) hL rfl dl_620 dl_621 dl_622 dl_623 dl_624 ?_
  refine g_arg (k := 4) (kn := 4) C hX hb (by omega) hL rfl dl_625 dl_626 dl_627 dl_628 dl_629 ?_
  obtain ⟨r, M2, N2, e1, e2, R2⟩ := s_light R0 ((xs (i + 1))) ((xs (i + 2))) ((xs (i + 3))) ((xs (i + 4)))
  refine g_cX (S := []) (As := [.int (xs (i + 1)), .int (xs (i + 2)), .int (xs (i + 3)), .int (xs (i + 4))]) C hg hcs (c_X11_light l G e1) wc_X11_light wm_L_72 ws_X11_light wl_X11_light wi_X11 hy_X11_light ⟨Nat.le_of_ble_eq_true rfl, Nat.le_of_ble_eq_true rfl⟩ rfl rfl (Nat.le_of_ble_eq_true rfl) dl_630 ?_
  refine g_aload_n (x := gB G1 + 0) 1 C dl_633 rfl rfl ?_
  refine g_arg (k := 1) (kn := 1) C hX hb (by omega) hL rfl dl_634 dl_635 dl_636 dl_637 dl_638 ?_
  refine g_arg (k := 2) (kn := 2) C hX hb (by omega) hL rfl dl_639 dl_640 dl_641 dl_642 dl_643 ?_
  refine g_arg (k := 3) (kn := 3) C hX hb (by omega) hL rfl dl_644 dl_645 dl_646 dl_647 dl_648 ?_
  refine g_arg (k := 4) (kn := 4) C hX hb (by omega) hL rfl dl_649 dl_650 dl_651 dl_652 dl_653 ?_
  refine g_cY (S := [.int r]) (As := [.int (xs (i + 1)), .int (xs (i + 2)), .int (xs (i + 3)), .int (xs (i + 4))]) C hg hcs (c_X12_light l G1 e2) wc_X12_light wm_L_76 ws_X12_light wl_X12_light wi_X12 hy_X12_light ⟨Nat.le_of_ble_eq_true rfl, Nat.le_of_ble_eq_true rfl⟩ rfl rfl (Nat.le_of_ble_eq_true rfl) dl_654 ?_
  exact g_icmp_eq (tgt := 1596) C dl_657 (fun _ => hK _ _ R2) (fun q => absurd rfl q)
theorem lc_14 {p : Program} {l : Launch} {e : Env} {s : State} {m : MethodId} {below : List Frame} {meth : Method} {c : Code} {b Ln i cells slots : Nat} {xs : Nat → Int32} {Q : State → Prop} {G G1 : GG} {M N : Mm} (C : GX p s m #[Value.ref b] c code 4 "SnowSentriesLaw") (hX : va_X b Ln xs s s.heap) (hb : b < s.heap.size) (hL : Ln ≤ 320) (hg : LG s G G1) (hcs : cells ≤ room_1.cells ∧ slots ≤ room_1.slots) (hi : i + 5 ≤ Ln) (R0 : Rel M N) (hK : ∀ M2 N2, Rel M2 N2 → Zg p l e room_1 s m #[Value.ref b] below meth c 4 Q cells slots (FL s G G1 M2 N2) 1596 [(3, .int (nI i)), (2, .ref (gB G1 + 0)), (1, .ref (gB G + 0)), (0, .ref b)] []) : Zg p l e room_1 s m #[Value.ref b] below meth c 4 Q cells slots (FL s G G1 M N) 662 [(3, .int (nI i)), (2, .ref (gB G1 + 0)), (1, .ref (gB G + 0)), (0, .ref b)] [] := by
  refine g_aload_n (x := gB G + 0) 2 C dl_662 rfl rfl ?_
  refine g_arg (k := 1) (kn := 1) C hX hb (by omega) hL rfl dl_663 dl_664 dl_665 dl_666 dl_667 ?_
  obtain ⟨r, M2, N2, e1, e2, R2⟩ := s_quench R0 ((xs (i + 1)))
  refine g_cX (S := []) (As := [.int (xs (i + 1))]) C hg hcs (c_X11_quench l G e1) wc_X11_quench wm_L_77 ws_X11_quench wl_X11_quench wi_X11 hy_X11_quench ⟨Nat.le_of_ble_eq_true rfl, Nat.le_of_ble_eq_true rfl⟩ rfl rfl (Nat.le_of_ble_eq_true rfl) dl_668 ?_
  refine g_aload_n (x := gB G1 + 0) 1 C dl_671 rfl rfl ?_
  refine g_arg (k := 1) (kn := 1) C hX hb (by omega) hL rfl dl_672 dl_673 dl_674 dl_675 dl_676 ?_
  refine g_cY (S := [.int r]) (As := [.int (xs (i + 1))]) C hg hcs (c_X12_quench l G1 e2) wc_X12_quench wm_L_80 ws_X12_quench wl_X12_quench wi_X12 hy_X12_quench ⟨Nat.le_of_ble_eq_true rfl, Nat.le_of_ble_eq_true rfl⟩ rfl rfl (Nat.le_of_ble_eq_true rfl) dl_677 ?_
  exact g_icmp_eq (tgt := 1596) C dl_680 (fun _ => hK _ _ R2) (fun q => absurd rfl q)
theorem lc_15 {p : Program} {l : Launch} {e : Env} {s : State} {m : MethodId} {below : List Frame} {meth : Method} {c : Code} {b Ln i cells slots : Nat} {xs : Nat → Int32} {Q : State → Prop} {G G1 : GG} {M N : Mm} (C : GX p s m #[Value.ref b] c code 4 "SnowSentriesLaw") (hX : va_X b Ln xs s s.heap) (hb : b < s.heap.size) (hL : Ln ≤ 320) (hg : LG s G G1) (hcs : cells ≤ room_1.cells ∧ slots ≤ room_1.slots) (hi : i + 5 ≤ Ln) (R0 : Rel M N) (hK : ∀ M2 N2, Rel M2 N2 → Zg p l e room_1 s m #[Value.ref b] below meth c 4 Q cells slots (FL s G G1 M2 N2) 1596 [(3, .int (nI i)), (2, .ref (gB G1 + 0)), (1, .ref (gB G + 0)), (0, .ref b)] []) : Zg p l e room_1 s m #[Value.ref b] below meth c 4 Q cells slots (FL s G G1 M N) 685 [(3, .int (nI i)), (2, .ref (gB G1 + 0)), (1, .ref (gB G + 0)), (0, .ref b)] [] := by
  refine g_aload_n (x := gB G + 0) 2 C dl_685 rfl rfl ?_
  refine g_arg (k := 1) (kn := 1) C hX hb (by omega) hL rfl dl_686 dl_687 dl_688 dl_689 dl_690 ?_
  refine g_arg (k := 2) (kn := 2) C hX hb (by omega) hL rfl dl_691 dl_692 dl_693 dl_694 dl_695 ?_
  refine g_arg (k := 3) (kn := 3) C hX hb (by omega) hL rfl dl_696 dl_697 dl_698 dl_699 dl_700 ?_
  obtain ⟨r, M2, N2, e1, e2, R2⟩ := s_mend R0 ((xs (i + 1))) ((xs (i + 2))) ((xs (i + 3)))
  refine g_cX (S := []) (As := [.int (xs (i + 1)), .int (xs (i + 2)), .int (xs (i + 3))]) C hg hcs (c_X11_mend l G e1) wc_X11_mend wm_L_81 ws_X11_mend wl_X11_mend wi_X11 hy_X11_mend ⟨Nat.le_of_ble_eq_true rfl, Nat.le_of_ble_eq_true rfl⟩ rfl rfl (Nat.le_of_ble_eq_true rfl) dl_701 ?_
  refine g_aload_n (x := gB G1 + 0) 1 C dl_704 rfl rfl ?_
  refine g_arg (k := 1) (kn := 1) C hX hb (by omega) hL rfl dl_705 dl_706 dl_707 dl_708 dl_709 ?_
  refine g_arg (k := 2) (kn := 2) C hX hb (by omega) hL rfl dl_710 dl_711 dl_712 dl_713 dl_714 ?_
  refine g_arg (k := 3) (kn := 3) C hX hb (by omega) hL rfl dl_715 dl_716 dl_717 dl_718 dl_719 ?_
  refine g_cY (S := [.int r]) (As := [.int (xs (i + 1)), .int (xs (i + 2)), .int (xs (i + 3))]) C hg hcs (c_X12_mend l G1 e2) wc_X12_mend wm_L_84 ws_X12_mend wl_X12_mend wi_X12 hy_X12_mend ⟨Nat.le_of_ble_eq_true rfl, Nat.le_of_ble_eq_true rfl⟩ rfl rfl (Nat.le_of_ble_eq_true rfl) dl_720 ?_
  exact g_icmp_eq (tgt := 1596) C dl_723 (fun _ => hK _ _ R2) (fun q => absurd rfl q)
theorem lc_16 {p : Program} {l : Launch} {e : Env} {s : State} {m : MethodId} {below : List Frame} {meth : Method} {c : Code} {b Ln i cells slots : Nat} {xs : Nat → Int32} {Q : State → Prop} {G G1 : GG} {M N : Mm} (C : GX p s m #[Value.ref b] c code 4 "SnowSentriesLaw") (hX : va_X b Ln xs s s.heap) (hb : b < s.heap.size) (hL : Ln ≤ 320) (hg : LG s G G1) (hcs : cells ≤ room_1.cells ∧ slots ≤ room_1.slots) (hi : i + 5 ≤ Ln) (R0 : Rel M N) (hK : ∀ M2 N2, Rel M2 N2 → Zg p l e room_1 s m #[Value.ref b] below meth c 4 Q cells slots (FL s G G1 M2 N2) 1596 [(3, .int (nI i)), (2, .ref (gB G1 + 0)), (1, .ref (gB G + 0)), (0, .ref b)] []) : Zg p l e room_1 s m #[Value.ref b] below meth c 4 Q cells slots (FL s G G1 M N) 728 [(3, .int (nI i)), (2, .ref (gB G1 + 0)), (1, .ref (gB G + 0)), (0, .ref b)] [] := by
  refine g_aload_n (x := gB G + 0) 2 C dl_728 rfl rfl ?_
  refine g_arg (k := 1) (kn := 1) C hX hb (by omega) hL rfl dl_729 dl_730 dl_731 dl_732 dl_733 ?_
  refine g_arg (k := 2) (kn := 2) C hX hb (by omega) hL rfl dl_734 dl_735 dl_736 dl_737 dl_738 ?_
  refine g_arg (k := 3) (kn := 3) C hX hb (by omega) hL rfl dl_739 dl_740 dl_741 dl_742 dl_743 ?_
  obtain ⟨r, M2, N2, e1, e2, R2⟩ := s_carry R0 ((xs (i + 1))) ((xs (i + 2))) ((xs (i + 3)))
  refine g_cX (S := []) (As := [.int (xs (i + 1)), .int (xs (i + 2)), .int (xs (i + 3))]) C hg hcs (c_X11_carry l G e1) wc_X11_carry wm_L_85 ws_X11_carry wl_X11_carry wi_X11 hy_X11_carry ⟨Nat.le_of_ble_eq_true rfl, Nat.le_of_ble_eq_true rfl⟩ rfl rfl (Nat.le_of_ble_eq_true rfl) dl_744 ?_
  refine g_aload_n (x := gB G1 + 0) 1 C dl_747 rfl rfl ?_
  refine g_arg (k := 1) (kn := 1) C hX hb (by omega) hL rfl dl_748 dl_749 dl_750 dl_751 dl_752 ?_
  refine g_arg (k := 2) (kn := 2) C hX hb (by omega) hL rfl dl_753 dl_754 dl_755 dl_756 dl_757 ?_
  refine g_arg (k := 3) (kn := 3) C hX hb (by omega) hL rfl dl_758 dl_759 dl_760 dl_761 dl_762 ?_
  refine g_cY (S := [.int r]) (As := [.int (xs (i + 1)), .int (xs (i + 2)), .int (xs (i + 3))]) C hg hcs (c_X12_carry l G1 e2) wc_X12_carry wm_L_88 ws_X12_carry wl_X12_carry wi_X12 hy_X12_carry ⟨Nat.le_of_ble_eq_true rfl, Nat.le_of_ble_eq_true rfl⟩ rfl rfl (Nat.le_of_ble_eq_true rfl) dl_763 ?_
  exact g_icmp_eq (tgt := 1596) C dl_766 (fun _ => hK _ _ R2) (fun q => absurd rfl q)
theorem lc_17 {p : Program} {l : Launch} {e : Env} {s : State} {m : MethodId} {below : List Frame} {meth : Method} {c : Code} {b Ln i cells slots : Nat} {xs : Nat → Int32} {Q : State → Prop} {G G1 : GG} {M N : Mm} (C : GX p s m #[Value.ref b] c code 4 "SnowSentriesLaw") (hX : va_X b Ln xs s s.heap) (hb : b < s.heap.size) (hL : Ln ≤ 320) (hg : LG s G G1) (hcs : cells ≤ room_1.cells ∧ slots ≤ room_1.slots) (hi : i + 5 ≤ Ln) (R0 : Rel M N) (hK : ∀ M2 N2, Rel M2 N2 → Zg p l e room_1 s m #[Value.ref b] below meth c 4 Q cells slots (FL s G G1 M2 N2) 1596 [(3, .int (nI i)), (2, .ref (gB G1 + 0)), (1, .ref (gB G + 0)), (0, .ref b)] []) : Zg p l e room_1 s m #[Value.ref b] below meth c 4 Q cells slots (FL s G G1 M N) 771 [(3, .int (nI i)), (2, .ref (gB G1 + 0)), (1, .ref (gB G + 0)), (0, .ref b)] [] := by
  refine g_aload_n (x := gB G + 0) 2 C dl_771 rfl rfl ?_
  refine g_arg (k := 1) (kn := 1) C hX hb (by omega) hL rfl dl_772 dl_773 dl_774 dl_775 dl_776 ?_
  refine g_arg (k := 2) (kn := 2) C hX hb (by omega) hL rfl dl_777 dl_778 dl_779 dl_780 dl_781 ?_
  refine g_arg (k := 3) (kn := 3) C hX hb (by omega) hL rfl dl_782 dl_783 dl_784 dl_785 dl_786 ?_
  refine g_if_eq (tgt := 794) C dl_787 (fun z => ?_) (fun z => ?_)
  · refine g_iconst (v := 0) C dl_794 rfl ?_
    obtain ⟨r, e1, e2⟩ := s_heat R0 ((xs (i + 1))) ((xs (i + 2))) ((0 : Int32))
    refine g_cX (S := []) (As := [.int (xs (i + 1)), .int (xs (i + 2)), .int (0 : Int32)]) C hg hcs (c_X11_heat l G e1) wc_X11_heat wm_L_89 ws_X11_heat wl_X11_heat wi_X11 hy_X11_heat ⟨Nat.le_of_ble_eq_true rfl, Nat.le_of_ble_eq_true rfl⟩ rfl rfl (Nat.le_of_ble_eq_true rfl) dl_795 ?_
    refine g_aload_n (x := gB G1 + 0) 1 C dl_798 rfl rfl ?_
    refine g_arg (k := 1) (kn := 1) C hX hb (by omega) hL rfl dl_799 dl_800 dl_801 dl_802 dl_803 ?_
    refine g_arg (k := 2) (kn := 2) C hX hb (by omega) hL rfl dl_804 dl_805 dl_806 dl_807 dl_808 ?_
    refine g_arg (k := 3) (kn := 3) C hX hb (by omega) hL rfl dl_809 dl_810 dl_811 dl_812 dl_813 ?_
    refine g_if_eq (tgt := 821) C dl_814 (fun _ => ?_) (fun q => absurd z q)
    refine g_iconst (v := 0) C dl_821 rfl ?_
    refine g_cY (S := [.int r]) (As := [.int (xs (i + 1)), .int (xs (i + 2)), .int (0 : Int32)]) C hg hcs (c_X12_heat l G1 e2) wc_X12_heat wm_L_93 ws_X12_heat wl_X12_heat wi_X12 hy_X12_heat ⟨Nat.le_of_ble_eq_true rfl, Nat.le_of_ble_eq_true rfl⟩ rfl rfl (Nat.le_of_ble_eq_true rfl) dl_822 ?_
    exact g_icmp_eq (tgt := 1596) C dl_825 (fun _ => hK _ _ R0) (fun q => absurd rfl q)
  · refine g_iconst (v := 1) C dl_790 rfl ?_
    refine g_goto (tgt := 795) C dl_791 ?_
    obtain ⟨r, e1, e2⟩ := s_heat R0 ((xs (i + 1))) ((xs (i + 2))) ((1 : Int32))
    refine g_cX (S := []) (As := [.int (xs (i + 1)), .int (xs (i + 2)), .int (1 : Int32)]) C hg hcs (c_X11_heat l G e1) wc_X11_heat wm_L_89 ws_X11_heat wl_X11_heat wi_X11 hy_X11_heat ⟨Nat.le_of_ble_eq_true rfl, Nat.le_of_ble_eq_true rfl⟩ rfl rfl (Nat.le_of_ble_eq_true rfl) dl_795 ?_
    refine g_aload_n (x := gB G1 + 0) 1 C dl_798 rfl rfl ?_
    refine g_arg (k := 1) (kn := 1) C hX hb (by omega) hL rfl dl_799 dl_800 dl_801 dl_802 dl_803 ?_
    refine g_arg (k := 2) (kn := 2) C hX hb (by omega) hL rfl dl_804 dl_805 dl_806 dl_807 dl_808 ?_
    refine g_arg (k := 3) (kn := 3) C hX hb (by omega) hL rfl dl_809 dl_810 dl_811 dl_812 dl_813 ?_
    refine g_if_eq (tgt := 821) C dl_814 (fun q => absurd q z) (fun _ => ?_)
    refine g_iconst (v := 1) C dl_817 rfl ?_
    refine g_goto (tgt := 822) C dl_818 ?_
    refine g_cY (S := [.int r]) (As := [.int (xs (i + 1)), .int (xs (i + 2)), .int (1 : Int32)]) C hg hcs (c_X12_heat l G1 e2) wc_X12_heat wm_L_93 ws_X12_heat wl_X12_heat wi_X12 hy_X12_heat ⟨Nat.le_of_ble_eq_true rfl, Nat.le_of_ble_eq_true rfl⟩ rfl rfl (Nat.le_of_ble_eq_true rfl) dl_822 ?_
    exact g_icmp_eq (tgt := 1596) C dl_825 (fun _ => hK _ _ R0) (fun q => absurd rfl q)
theorem lc_18 {p : Program} {l : Launch} {e : Env} {s : State} {m : MethodId} {below : List Frame} {meth : Method} {c : Code} {b Ln i cells slots : Nat} {xs : Nat → Int32} {Q : State → Prop} {G G1 : GG} {M N : Mm} (C : GX p s m #[Value.ref b] c code 4 "SnowSentriesLaw") (hX : va_X b Ln xs s s.heap) (hb : b < s.heap.size) (hL : Ln ≤ 320) (hg : LG s G G1) (hcs : cells ≤ room_1.cells ∧ slots ≤ room_1.slots) (hi : i + 5 ≤ Ln) (R0 : Rel M N) (hK : ∀ M2 N2, Rel M2 N2 → Zg p l e room_1 s m #[Value.ref b] below meth c 4 Q cells slots (FL s G G1 M2 N2) 1596 [(3, .int (nI i)), (2, .ref (gB G1 + 0)), (1, .ref (gB G + 0)), (0, .ref b)] []) : Zg p l e room_1 s m #[Value.ref b] below meth c 4 Q cells slots (FL s G G1 M N) 830 [(3, .int (nI i)), (2, .ref (gB G1 + 0)), (1, .ref (gB G + 0)), (0, .ref b)] [] := by
  refine g_aload_n (x := gB G + 0) 2 C dl_830 rfl rfl ?_
  refine g_arg (k := 1) (kn := 1) C hX hb (by omega) hL rfl dl_831 dl_832 dl_833 dl_834 dl_835 ?_
  obtain ⟨r, M2, N2, e1, e2, R2⟩ := s_go R0 ((xs (i + 1)))
  refine g_cX (S := []) (As := [.int (xs (i + 1))]) C hg hcs (c_X11_go l G e1) wc_X11_go wm_L_94 ws_X11_go wl_X11_go wi_X11 hy_X11_go ⟨Nat.le_of_ble_eq_true rfl, Nat.le_of_ble_eq_true rfl⟩ rfl rfl (Nat.le_of_ble_eq_true rfl) dl_836 ?_
  refine g_aload_n (x := gB G1 + 0) 1 C dl_839 rfl rfl ?_
  refine g_arg (k := 1) (kn := 1) C hX hb (by omega) hL rfl dl_840 dl_841 dl_842 dl_843 dl_844 ?_
  refine g_cY (S := [.int r]) (As := [.int (xs (i + 1))]) C hg hcs (c_X12_go l G1 e2) wc_X12_go wm_L_97 ws_X12_go wl_X12_go wi_X12 hy_X12_go ⟨Nat.le_of_ble_eq_true rfl, Nat.le_of_ble_eq_true rfl⟩ rfl rfl (Nat.le_of_ble_eq_true rfl) dl_845 ?_
  exact g_icmp_eq (tgt := 1596) C dl_848 (fun _ => hK _ _ R2) (fun q => absurd rfl q)
theorem lc_19 {p : Program} {l : Launch} {e : Env} {s : State} {m : MethodId} {below : List Frame} {meth : Method} {c : Code} {b Ln i cells slots : Nat} {xs : Nat → Int32} {Q : State → Prop} {G G1 : GG} {M N : Mm} (C : GX p s m #[Value.ref b] c code 4 "SnowSentriesLaw") (hX : va_X b Ln xs s s.heap) (hb : b < s.heap.size) (hL : Ln ≤ 320) (hg : LG s G G1) (hcs : cells ≤ room_1.cells ∧ slots ≤ room_1.slots) (hi : i + 5 ≤ Ln) (R0 : Rel M N) (hK : ∀ M2 N2, Rel M2 N2 → Zg p l e room_1 s m #[Value.ref b] below meth c 4 Q cells slots (FL s G G1 M2 N2) 1596 [(3, .int (nI i)), (2, .ref (gB G1 + 0)), (1, .ref (gB G + 0)), (0, .ref b)] []) : Zg p l e room_1 s m #[Value.ref b] below meth c 4 Q cells slots (FL s G G1 M N) 853 [(3, .int (nI i)), (2, .ref (gB G1 + 0)), (1, .ref (gB G + 0)), (0, .ref b)] [] := by
  refine g_aload_n (x := gB G + 0) 2 C dl_853 rfl rfl ?_
  obtain ⟨r, M2, N2, e1, e2, R2⟩ := s_dawn R0 
  refine g_cX (S := []) (As := []) C hg hcs (c_X11_dawn l G e1) wc_X11_dawn wm_L_98 ws_X11_dawn wl_X11_dawn wi_X11 hy_X11_dawn ⟨Nat.le_of_ble_eq_true rfl, Nat.le_of_ble_eq_true rfl⟩ rfl rfl (Nat.le_of_ble_eq_true rfl) dl_854 ?_
  refine g_aload_n (x := gB G1 + 0) 1 C dl_857 rfl rfl ?_
  refine g_cY (S := [.int r]) (As := []) C hg hcs (c_X12_dawn l G1 e2) wc_X12_dawn wm_L_101 ws_X12_dawn wl_X12_dawn wi_X12 hy_X12_dawn ⟨Nat.le_of_ble_eq_true rfl, Nat.le_of_ble_eq_true rfl⟩ rfl rfl (Nat.le_of_ble_eq_true rfl) dl_858 ?_
  exact g_icmp_eq (tgt := 1596) C dl_861 (fun _ => hK _ _ R2) (fun q => absurd rfl q)
theorem lc_20 {p : Program} {l : Launch} {e : Env} {s : State} {m : MethodId} {below : List Frame} {meth : Method} {c : Code} {b Ln i cells slots : Nat} {xs : Nat → Int32} {Q : State → Prop} {G G1 : GG} {M N : Mm} (C : GX p s m #[Value.ref b] c code 4 "SnowSentriesLaw") (hX : va_X b Ln xs s s.heap) (hb : b < s.heap.size) (hL : Ln ≤ 320) (hg : LG s G G1) (hcs : cells ≤ room_1.cells ∧ slots ≤ room_1.slots) (hi : i + 5 ≤ Ln) (R0 : Rel M N) (hK : ∀ M2 N2, Rel M2 N2 → Zg p l e room_1 s m #[Value.ref b] below meth c 4 Q cells slots (FL s G G1 M2 N2) 1596 [(3, .int (nI i)), (2, .ref (gB G1 + 0)), (1, .ref (gB G + 0)), (0, .ref b)] []) : Zg p l e room_1 s m #[Value.ref b] below meth c 4 Q cells slots (FL s G G1 M N) 866 [(3, .int (nI i)), (2, .ref (gB G1 + 0)), (1, .ref (gB G + 0)), (0, .ref b)] [] := by
  refine g_aload_n (x := gB G + 0) 2 C dl_866 rfl rfl ?_
  obtain ⟨r, e1, e2⟩ := s_all R0 
  refine g_cX (S := []) (As := []) C hg hcs (c_X11_all l G e1) wc_X11_all wm_L_102 ws_X11_all wl_X11_all wi_X11 hy_X11_all ⟨Nat.le_of_ble_eq_true rfl, Nat.le_of_ble_eq_true rfl⟩ rfl rfl (Nat.le_of_ble_eq_true rfl) dl_867 ?_
  refine g_aload_n (x := gB G1 + 0) 1 C dl_870 rfl rfl ?_
  refine g_cY (S := [.int r]) (As := []) C hg hcs (c_X12_all l G1 e2) wc_X12_all wm_L_105 ws_X12_all wl_X12_all wi_X12 hy_X12_all ⟨Nat.le_of_ble_eq_true rfl, Nat.le_of_ble_eq_true rfl⟩ rfl rfl (Nat.le_of_ble_eq_true rfl) dl_871 ?_
  exact g_icmp_eq (tgt := 1596) C dl_874 (fun _ => hK _ _ R0) (fun q => absurd rfl q)
