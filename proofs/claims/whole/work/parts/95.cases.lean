/-! the cases of the law -/
theorem lc_0 {p : Program} {l : Launch} {e : Env} {s : State} {m : MethodId} {args : Array Value} {below : List Frame} {meth : Method} {c : Code} {Q : State → Prop} {cs ss : Nat} {Γ : lg_G} {a μ : mw_M} {b L i : Nat} {xs : Nat → Int32} (hC : lC p room_1 s m args c Γ cs ss b L xs cL_law 4 RL) (hL : L ≤ 3072) (hi : i + 6 ≤ L) (h : RR a μ) (K : ∀ a' μ', RR a' μ' → lW p l e room_1 s m args below meth c Γ 4 Q cs ss 1364 [(3, .int (nI i)), (2, .ref (mw_a (lGM Γ) 0)), (1, .ref (mw_a (lGX Γ) 0)), (0, .ref b)] [] a' μ') : lW p l e room_1 s m args below meth c Γ 4 Q cs ss 188 [(3, .int (nI i)), (2, .ref (mw_a (lGM Γ) 0)), (1, .ref (mw_a (lGX Γ) 0)), (0, .ref b)] [] a μ := by
  refine l_aload_n hC 2 dL_law_188 rfl rfl ?_
  refine l_arg hC (k := 1) rfl (by omega) hL dL_law_189 dL_law_190 dL_law_191 dL_law_192 dL_law_193 ?_
  refine l_arg hC (k := 2) rfl (by omega) hL dL_law_194 dL_law_195 dL_law_196 dL_law_197 dL_law_198 ?_
  refine l_callXi hC [.int (xs (i + 1)), .int (xs (i + 2))] (T10_lump (all_lump h)) yv10_lump ml10_lump rfl rfl ⟨Nat.le_of_ble_eq_true rfl, Nat.le_of_ble_eq_true rfl⟩ rfl rfl (Nat.le_of_ble_eq_true rfl) dL_law_199 (fun r u hq => ?_)
  refine l_aload_n hC 1 dL_law_202 rfl rfl ?_
  refine l_arg hC (k := 1) rfl (by omega) hL dL_law_203 dL_law_204 dL_law_205 dL_law_206 dL_law_207 ?_
  refine l_arg hC (k := 2) rfl (by omega) hL dL_law_208 dL_law_209 dL_law_210 dL_law_211 dL_law_212 ?_
  refine l_callMi hC [.int (xs (i + 1)), .int (xs (i + 2))] (T11_lump hq) yv11_lump ml11_lump rfl rfl ⟨Nat.le_of_ble_eq_true rfl, Nat.le_of_ble_eq_true rfl⟩ rfl rfl (Nat.le_of_ble_eq_true rfl) dL_law_213 (fun r' v hz => ?_)
  obtain ⟨rfl, hz⟩ := hz
  exact l_icmp_eq hC 1364 dL_law_216 (by decide) (fun _ => K _ _ hz) (fun q => absurd rfl q)
theorem lc_1 {p : Program} {l : Launch} {e : Env} {s : State} {m : MethodId} {args : Array Value} {below : List Frame} {meth : Method} {c : Code} {Q : State → Prop} {cs ss : Nat} {Γ : lg_G} {a μ : mw_M} {b L i : Nat} {xs : Nat → Int32} (hC : lC p room_1 s m args c Γ cs ss b L xs cL_law 4 RL) (hL : L ≤ 3072) (hi : i + 6 ≤ L) (h : RR a μ) (K : ∀ a' μ', RR a' μ' → lW p l e room_1 s m args below meth c Γ 4 Q cs ss 1364 [(3, .int (nI i)), (2, .ref (mw_a (lGM Γ) 0)), (1, .ref (mw_a (lGX Γ) 0)), (0, .ref b)] [] a' μ') : lW p l e room_1 s m args below meth c Γ 4 Q cs ss 221 [(3, .int (nI i)), (2, .ref (mw_a (lGM Γ) 0)), (1, .ref (mw_a (lGX Γ) 0)), (0, .ref b)] [] a μ := by
  refine l_aload_n hC 2 dL_law_221 rfl rfl ?_
  refine l_arg hC (k := 1) rfl (by omega) hL dL_law_222 dL_law_223 dL_law_224 dL_law_225 dL_law_226 ?_
  refine l_arg hC (k := 2) rfl (by omega) hL dL_law_227 dL_law_228 dL_law_229 dL_law_230 dL_law_231 ?_
  refine l_arg hC (k := 3) rfl (by omega) hL dL_law_232 dL_law_233 dL_law_234 dL_law_235 dL_law_236 ?_
  refine l_callXi hC [.int (xs (i + 1)), .int (xs (i + 2)), .int (xs (i + 3))] (T10_lumps (all_lumps h)) yv10_lumps ml10_lumps rfl rfl ⟨Nat.le_of_ble_eq_true rfl, Nat.le_of_ble_eq_true rfl⟩ rfl rfl (Nat.le_of_ble_eq_true rfl) dL_law_237 (fun r u hq => ?_)
  refine l_aload_n hC 1 dL_law_240 rfl rfl ?_
  refine l_arg hC (k := 1) rfl (by omega) hL dL_law_241 dL_law_242 dL_law_243 dL_law_244 dL_law_245 ?_
  refine l_arg hC (k := 2) rfl (by omega) hL dL_law_246 dL_law_247 dL_law_248 dL_law_249 dL_law_250 ?_
  refine l_arg hC (k := 3) rfl (by omega) hL dL_law_251 dL_law_252 dL_law_253 dL_law_254 dL_law_255 ?_
  refine l_callMi hC [.int (xs (i + 1)), .int (xs (i + 2)), .int (xs (i + 3))] (T11_lumps hq) yv11_lumps ml11_lumps rfl rfl ⟨Nat.le_of_ble_eq_true rfl, Nat.le_of_ble_eq_true rfl⟩ rfl rfl (Nat.le_of_ble_eq_true rfl) dL_law_256 (fun r' v hz => ?_)
  obtain ⟨rfl, hz⟩ := hz
  exact l_icmp_eq hC 1364 dL_law_259 (by decide) (fun _ => K _ _ hz) (fun q => absurd rfl q)
theorem lc_2 {p : Program} {l : Launch} {e : Env} {s : State} {m : MethodId} {args : Array Value} {below : List Frame} {meth : Method} {c : Code} {Q : State → Prop} {cs ss : Nat} {Γ : lg_G} {a μ : mw_M} {b L i : Nat} {xs : Nat → Int32} (hC : lC p room_1 s m args c Γ cs ss b L xs cL_law 4 RL) (hL : L ≤ 3072) (hi : i + 6 ≤ L) (h : RR a μ) (K : ∀ a' μ', RR a' μ' → lW p l e room_1 s m args below meth c Γ 4 Q cs ss 1364 [(3, .int (nI i)), (2, .ref (mw_a (lGM Γ) 0)), (1, .ref (mw_a (lGX Γ) 0)), (0, .ref b)] [] a' μ') : lW p l e room_1 s m args below meth c Γ 4 Q cs ss 264 [(3, .int (nI i)), (2, .ref (mw_a (lGM Γ) 0)), (1, .ref (mw_a (lGX Γ) 0)), (0, .ref b)] [] a μ := by
  refine l_aload_n hC 2 dL_law_264 rfl rfl ?_
  refine l_arg hC (k := 1) rfl (by omega) hL dL_law_265 dL_law_266 dL_law_267 dL_law_268 dL_law_269 ?_
  refine l_arg hC (k := 2) rfl (by omega) hL dL_law_270 dL_law_271 dL_law_272 dL_law_273 dL_law_274 ?_
  refine l_arg hC (k := 3) rfl (by omega) hL dL_law_275 dL_law_276 dL_law_277 dL_law_278 dL_law_279 ?_
  refine l_callXi hC [.int (xs (i + 1)), .int (xs (i + 2)), .int (xs (i + 3))] (T10_mend (all_mend h)) yv10_mend ml10_mend rfl rfl ⟨Nat.le_of_ble_eq_true rfl, Nat.le_of_ble_eq_true rfl⟩ rfl rfl (Nat.le_of_ble_eq_true rfl) dL_law_280 (fun r u hq => ?_)
  refine l_aload_n hC 1 dL_law_283 rfl rfl ?_
  refine l_arg hC (k := 1) rfl (by omega) hL dL_law_284 dL_law_285 dL_law_286 dL_law_287 dL_law_288 ?_
  refine l_arg hC (k := 2) rfl (by omega) hL dL_law_289 dL_law_290 dL_law_291 dL_law_292 dL_law_293 ?_
  refine l_arg hC (k := 3) rfl (by omega) hL dL_law_294 dL_law_295 dL_law_296 dL_law_297 dL_law_298 ?_
  refine l_callMi hC [.int (xs (i + 1)), .int (xs (i + 2)), .int (xs (i + 3))] (T11_mend hq) yv11_mend ml11_mend rfl rfl ⟨Nat.le_of_ble_eq_true rfl, Nat.le_of_ble_eq_true rfl⟩ rfl rfl (Nat.le_of_ble_eq_true rfl) dL_law_299 (fun r' v hz => ?_)
  obtain ⟨rfl, hz⟩ := hz
  exact l_icmp_eq hC 1364 dL_law_302 (by decide) (fun _ => K _ _ hz) (fun q => absurd rfl q)
theorem lc_3 {p : Program} {l : Launch} {e : Env} {s : State} {m : MethodId} {args : Array Value} {below : List Frame} {meth : Method} {c : Code} {Q : State → Prop} {cs ss : Nat} {Γ : lg_G} {a μ : mw_M} {b L i : Nat} {xs : Nat → Int32} (hC : lC p room_1 s m args c Γ cs ss b L xs cL_law 4 RL) (hL : L ≤ 3072) (hi : i + 6 ≤ L) (h : RR a μ) (K : ∀ a' μ', RR a' μ' → lW p l e room_1 s m args below meth c Γ 4 Q cs ss 1364 [(3, .int (nI i)), (2, .ref (mw_a (lGM Γ) 0)), (1, .ref (mw_a (lGX Γ) 0)), (0, .ref b)] [] a' μ') : lW p l e room_1 s m args below meth c Γ 4 Q cs ss 307 [(3, .int (nI i)), (2, .ref (mw_a (lGM Γ) 0)), (1, .ref (mw_a (lGX Γ) 0)), (0, .ref b)] [] a μ := by
  refine l_aload_n hC 2 dL_law_307 rfl rfl ?_
  refine l_arg hC (k := 1) rfl (by omega) hL dL_law_308 dL_law_309 dL_law_310 dL_law_311 dL_law_312 ?_
  refine l_arg hC (k := 2) rfl (by omega) hL dL_law_313 dL_law_314 dL_law_315 dL_law_316 dL_law_317 ?_
  refine l_callXi hC [.int (xs (i + 1)), .int (xs (i + 2))] (T10_of (all_of h)) yv10_of ml10_of rfl rfl ⟨Nat.le_of_ble_eq_true rfl, Nat.le_of_ble_eq_true rfl⟩ rfl rfl (Nat.le_of_ble_eq_true rfl) dL_law_318 (fun r u hq => ?_)
  obtain ⟨hq, rfl⟩ := hq
  refine l_aload_n hC 1 dL_law_321 rfl rfl ?_
  refine l_arg hC (k := 1) rfl (by omega) hL dL_law_322 dL_law_323 dL_law_324 dL_law_325 dL_law_326 ?_
  refine l_arg hC (k := 2) rfl (by omega) hL dL_law_327 dL_law_328 dL_law_329 dL_law_330 dL_law_331 ?_
  refine l_callMi hC [.int (xs (i + 1)), .int (xs (i + 2))] (T11_of hq) yv11_of ml11_of rfl rfl ⟨Nat.le_of_ble_eq_true rfl, Nat.le_of_ble_eq_true rfl⟩ rfl rfl (Nat.le_of_ble_eq_true rfl) dL_law_332 (fun r' v hz => ?_)
  obtain ⟨rfl, rfl⟩ := hz
  exact l_icmp_eq hC 1364 dL_law_335 (by decide) (fun _ => K _ _ h) (fun q => absurd rfl q)
theorem lc_4 {p : Program} {l : Launch} {e : Env} {s : State} {m : MethodId} {args : Array Value} {below : List Frame} {meth : Method} {c : Code} {Q : State → Prop} {cs ss : Nat} {Γ : lg_G} {a μ : mw_M} {b L i : Nat} {xs : Nat → Int32} (hC : lC p room_1 s m args c Γ cs ss b L xs cL_law 4 RL) (hL : L ≤ 3072) (hi : i + 6 ≤ L) (h : RR a μ) (K : ∀ a' μ', RR a' μ' → lW p l e room_1 s m args below meth c Γ 4 Q cs ss 1364 [(3, .int (nI i)), (2, .ref (mw_a (lGM Γ) 0)), (1, .ref (mw_a (lGX Γ) 0)), (0, .ref b)] [] a' μ') : lW p l e room_1 s m args below meth c Γ 4 Q cs ss 340 [(3, .int (nI i)), (2, .ref (mw_a (lGM Γ) 0)), (1, .ref (mw_a (lGX Γ) 0)), (0, .ref b)] [] a μ := by
  refine l_aload_n hC 2 dL_law_340 rfl rfl ?_
  refine l_arg hC (k := 1) rfl (by omega) hL dL_law_341 dL_law_342 dL_law_343 dL_law_344 dL_law_345 ?_
  refine l_callXi hC [.int (xs (i + 1))] (T10_counter (all_counter h)) yv10_counter ml10_counter rfl rfl ⟨Nat.le_of_ble_eq_true rfl, Nat.le_of_ble_eq_true rfl⟩ rfl rfl (Nat.le_of_ble_eq_true rfl) dL_law_346 (fun r u hq => ?_)
  refine l_aload_n hC 1 dL_law_349 rfl rfl ?_
  refine l_arg hC (k := 1) rfl (by omega) hL dL_law_350 dL_law_351 dL_law_352 dL_law_353 dL_law_354 ?_
  refine l_callMi hC [.int (xs (i + 1))] (T11_counter hq) yv11_counter ml11_counter rfl rfl ⟨Nat.le_of_ble_eq_true rfl, Nat.le_of_ble_eq_true rfl⟩ rfl rfl (Nat.le_of_ble_eq_true rfl) dL_law_355 (fun r' v hz => ?_)
  obtain ⟨rfl, hz⟩ := hz
  exact l_icmp_eq hC 1364 dL_law_358 (by decide) (fun _ => K _ _ hz) (fun q => absurd rfl q)
theorem lc_5 {p : Program} {l : Launch} {e : Env} {s : State} {m : MethodId} {args : Array Value} {below : List Frame} {meth : Method} {c : Code} {Q : State → Prop} {cs ss : Nat} {Γ : lg_G} {a μ : mw_M} {b L i : Nat} {xs : Nat → Int32} (hC : lC p room_1 s m args c Γ cs ss b L xs cL_law 4 RL) (hL : L ≤ 3072) (hi : i + 6 ≤ L) (h : RR a μ) (K : ∀ a' μ', RR a' μ' → lW p l e room_1 s m args below meth c Γ 4 Q cs ss 1364 [(3, .int (nI i)), (2, .ref (mw_a (lGM Γ) 0)), (1, .ref (mw_a (lGX Γ) 0)), (0, .ref b)] [] a' μ') : lW p l e room_1 s m args below meth c Γ 4 Q cs ss 363 [(3, .int (nI i)), (2, .ref (mw_a (lGM Γ) 0)), (1, .ref (mw_a (lGX Γ) 0)), (0, .ref b)] [] a μ := by
  refine l_aload_n hC 2 dL_law_363 rfl rfl ?_
  refine l_arg hC (k := 1) rfl (by omega) hL dL_law_364 dL_law_365 dL_law_366 dL_law_367 dL_law_368 ?_
  refine l_arg hC (k := 2) rfl (by omega) hL dL_law_369 dL_law_370 dL_law_371 dL_law_372 dL_law_373 ?_
  refine l_callXi hC [.int (xs (i + 1)), .int (xs (i + 2))] (T10_set (all_set h)) yv10_set ml10_set rfl rfl ⟨Nat.le_of_ble_eq_true rfl, Nat.le_of_ble_eq_true rfl⟩ rfl rfl (Nat.le_of_ble_eq_true rfl) dL_law_374 (fun r u hq => ?_)
  refine l_aload_n hC 1 dL_law_377 rfl rfl ?_
  refine l_arg hC (k := 1) rfl (by omega) hL dL_law_378 dL_law_379 dL_law_380 dL_law_381 dL_law_382 ?_
  refine l_arg hC (k := 2) rfl (by omega) hL dL_law_383 dL_law_384 dL_law_385 dL_law_386 dL_law_387 ?_
  refine l_callMi hC [.int (xs (i + 1)), .int (xs (i + 2))] (T11_set hq) yv11_set ml11_set rfl rfl ⟨Nat.le_of_ble_eq_true rfl, Nat.le_of_ble_eq_true rfl⟩ rfl rfl (Nat.le_of_ble_eq_true rfl) dL_law_388 (fun r' v hz => ?_)
  obtain ⟨rfl, hz⟩ := hz
  exact l_icmp_eq hC 1364 dL_law_391 (by decide) (fun _ => K _ _ hz) (fun q => absurd rfl q)
theorem lc_6 {p : Program} {l : Launch} {e : Env} {s : State} {m : MethodId} {args : Array Value} {below : List Frame} {meth : Method} {c : Code} {Q : State → Prop} {cs ss : Nat} {Γ : lg_G} {a μ : mw_M} {b L i : Nat} {xs : Nat → Int32} (hC : lC p room_1 s m args c Γ cs ss b L xs cL_law 4 RL) (hL : L ≤ 3072) (hi : i + 6 ≤ L) (h : RR a μ) (K : ∀ a' μ', RR a' μ' → lW p l e room_1 s m args below meth c Γ 4 Q cs ss 1364 [(3, .int (nI i)), (2, .ref (mw_a (lGM Γ) 0)), (1, .ref (mw_a (lGX Γ) 0)), (0, .ref b)] [] a' μ') : lW p l e room_1 s m args below meth c Γ 4 Q cs ss 396 [(3, .int (nI i)), (2, .ref (mw_a (lGM Γ) 0)), (1, .ref (mw_a (lGX Γ) 0)), (0, .ref b)] [] a μ := by
  refine l_aload_n hC 2 dL_law_396 rfl rfl ?_
  refine l_arg hC (k := 1) rfl (by omega) hL dL_law_397 dL_law_398 dL_law_399 dL_law_400 dL_law_401 ?_
  refine l_arg hC (k := 2) rfl (by omega) hL dL_law_402 dL_law_403 dL_law_404 dL_law_405 dL_law_406 ?_
  refine l_callXi hC [.int (xs (i + 1)), .int (xs (i + 2))] (T10_floor (all_floor h)) yv10_floor ml10_floor rfl rfl ⟨Nat.le_of_ble_eq_true rfl, Nat.le_of_ble_eq_true rfl⟩ rfl rfl (Nat.le_of_ble_eq_true rfl) dL_law_407 (fun r u hq => ?_)
  refine l_aload_n hC 1 dL_law_410 rfl rfl ?_
  refine l_arg hC (k := 1) rfl (by omega) hL dL_law_411 dL_law_412 dL_law_413 dL_law_414 dL_law_415 ?_
  refine l_arg hC (k := 2) rfl (by omega) hL dL_law_416 dL_law_417 dL_law_418 dL_law_419 dL_law_420 ?_
  refine l_callMi hC [.int (xs (i + 1)), .int (xs (i + 2))] (T11_floor hq) yv11_floor ml11_floor rfl rfl ⟨Nat.le_of_ble_eq_true rfl, Nat.le_of_ble_eq_true rfl⟩ rfl rfl (Nat.le_of_ble_eq_true rfl) dL_law_421 (fun r' v hz => ?_)
  obtain ⟨rfl, hz⟩ := hz
  exact l_icmp_eq hC 1364 dL_law_424 (by decide) (fun _ => K _ _ hz) (fun q => absurd rfl q)
theorem lc_7 {p : Program} {l : Launch} {e : Env} {s : State} {m : MethodId} {args : Array Value} {below : List Frame} {meth : Method} {c : Code} {Q : State → Prop} {cs ss : Nat} {Γ : lg_G} {a μ : mw_M} {b L i : Nat} {xs : Nat → Int32} (hC : lC p room_1 s m args c Γ cs ss b L xs cL_law 4 RL) (hL : L ≤ 3072) (hi : i + 6 ≤ L) (h : RR a μ) (K : ∀ a' μ', RR a' μ' → lW p l e room_1 s m args below meth c Γ 4 Q cs ss 1364 [(3, .int (nI i)), (2, .ref (mw_a (lGM Γ) 0)), (1, .ref (mw_a (lGX Γ) 0)), (0, .ref b)] [] a' μ') : lW p l e room_1 s m args below meth c Γ 4 Q cs ss 429 [(3, .int (nI i)), (2, .ref (mw_a (lGM Γ) 0)), (1, .ref (mw_a (lGX Γ) 0)), (0, .ref b)] [] a μ := by
  refine l_aload_n hC 2 dL_law_429 rfl rfl ?_
  refine l_arg hC (k := 1) rfl (by omega) hL dL_law_430 dL_law_431 dL_law_432 dL_law_433 dL_law_434 ?_
  refine l_callXi hC [.int (xs (i + 1))] (T10_load (all_load h)) yv10_load ml10_load rfl rfl ⟨Nat.le_of_ble_eq_true rfl, Nat.le_of_ble_eq_true rfl⟩ rfl rfl (Nat.le_of_ble_eq_true rfl) dL_law_435 (fun r u hq => ?_)
  obtain ⟨hq, rfl⟩ := hq
  refine l_aload_n hC 1 dL_law_438 rfl rfl ?_
  refine l_arg hC (k := 1) rfl (by omega) hL dL_law_439 dL_law_440 dL_law_441 dL_law_442 dL_law_443 ?_
  refine l_callMi hC [.int (xs (i + 1))] (T11_load hq) yv11_load ml11_load rfl rfl ⟨Nat.le_of_ble_eq_true rfl, Nat.le_of_ble_eq_true rfl⟩ rfl rfl (Nat.le_of_ble_eq_true rfl) dL_law_444 (fun r' v hz => ?_)
  obtain ⟨rfl, rfl⟩ := hz
  exact l_icmp_eq hC 1364 dL_law_447 (by decide) (fun _ => K _ _ h) (fun q => absurd rfl q)
theorem lc_8 {p : Program} {l : Launch} {e : Env} {s : State} {m : MethodId} {args : Array Value} {below : List Frame} {meth : Method} {c : Code} {Q : State → Prop} {cs ss : Nat} {Γ : lg_G} {a μ : mw_M} {b L i : Nat} {xs : Nat → Int32} (hC : lC p room_1 s m args c Γ cs ss b L xs cL_law 4 RL) (hL : L ≤ 3072) (hi : i + 6 ≤ L) (h : RR a μ) (K : ∀ a' μ', RR a' μ' → lW p l e room_1 s m args below meth c Γ 4 Q cs ss 1364 [(3, .int (nI i)), (2, .ref (mw_a (lGM Γ) 0)), (1, .ref (mw_a (lGX Γ) 0)), (0, .ref b)] [] a' μ') : lW p l e room_1 s m args below meth c Γ 4 Q cs ss 452 [(3, .int (nI i)), (2, .ref (mw_a (lGM Γ) 0)), (1, .ref (mw_a (lGX Γ) 0)), (0, .ref b)] [] a μ := by
  refine l_aload_n hC 2 dL_law_452 rfl rfl ?_
  refine l_arg hC (k := 1) rfl (by omega) hL dL_law_453 dL_law_454 dL_law_455 dL_law_456 dL_law_457 ?_
  refine l_callXi hC [.int (xs (i + 1))] (T10_shake (all_shake h)) yv10_shake ml10_shake rfl rfl ⟨Nat.le_of_ble_eq_true rfl, Nat.le_of_ble_eq_true rfl⟩ rfl rfl (Nat.le_of_ble_eq_true rfl) dL_law_458 (fun r u hq => ?_)
  obtain ⟨hq, rfl⟩ := hq
  refine l_aload_n hC 1 dL_law_461 rfl rfl ?_
  refine l_arg hC (k := 1) rfl (by omega) hL dL_law_462 dL_law_463 dL_law_464 dL_law_465 dL_law_466 ?_
  refine l_callMi hC [.int (xs (i + 1))] (T11_shake hq) yv11_shake ml11_shake rfl rfl ⟨Nat.le_of_ble_eq_true rfl, Nat.le_of_ble_eq_true rfl⟩ rfl rfl (Nat.le_of_ble_eq_true rfl) dL_law_467 (fun r' v hz => ?_)
  obtain ⟨rfl, rfl⟩ := hz
  exact l_icmp_eq hC 1364 dL_law_470 (by decide) (fun _ => K _ _ h) (fun q => absurd rfl q)
theorem lc_9 {p : Program} {l : Launch} {e : Env} {s : State} {m : MethodId} {args : Array Value} {below : List Frame} {meth : Method} {c : Code} {Q : State → Prop} {cs ss : Nat} {Γ : lg_G} {a μ : mw_M} {b L i : Nat} {xs : Nat → Int32} (hC : lC p room_1 s m args c Γ cs ss b L xs cL_law 4 RL) (hL : L ≤ 3072) (hi : i + 6 ≤ L) (h : RR a μ) (K : ∀ a' μ', RR a' μ' → lW p l e room_1 s m args below meth c Γ 4 Q cs ss 1364 [(3, .int (nI i)), (2, .ref (mw_a (lGM Γ) 0)), (1, .ref (mw_a (lGX Γ) 0)), (0, .ref b)] [] a' μ') : lW p l e room_1 s m args below meth c Γ 4 Q cs ss 475 [(3, .int (nI i)), (2, .ref (mw_a (lGM Γ) 0)), (1, .ref (mw_a (lGX Γ) 0)), (0, .ref b)] [] a μ := by
  refine l_aload_n hC 2 dL_law_475 rfl rfl ?_
  refine l_arg hC (k := 1) rfl (by omega) hL dL_law_476 dL_law_477 dL_law_478 dL_law_479 dL_law_480 ?_
  refine l_arg hC (k := 2) rfl (by omega) hL dL_law_481 dL_law_482 dL_law_483 dL_law_484 dL_law_485 ?_
  refine l_callXi hC [.int (xs (i + 1)), .int (xs (i + 2))] (T10_feed (all_feed h)) yv10_feed ml10_feed rfl rfl ⟨Nat.le_of_ble_eq_true rfl, Nat.le_of_ble_eq_true rfl⟩ rfl rfl (Nat.le_of_ble_eq_true rfl) dL_law_486 (fun r u hq => ?_)
  refine l_aload_n hC 1 dL_law_489 rfl rfl ?_
  refine l_arg hC (k := 1) rfl (by omega) hL dL_law_490 dL_law_491 dL_law_492 dL_law_493 dL_law_494 ?_
  refine l_arg hC (k := 2) rfl (by omega) hL dL_law_495 dL_law_496 dL_law_497 dL_law_498 dL_law_499 ?_
  refine l_callMi hC [.int (xs (i + 1)), .int (xs (i + 2))] (T11_feed hq) yv11_feed ml11_feed rfl rfl ⟨Nat.le_of_ble_eq_true rfl, Nat.le_of_ble_eq_true rfl⟩ rfl rfl (Nat.le_of_ble_eq_true rfl) dL_law_500 (fun r' v hz => ?_)
  obtain ⟨rfl, hz⟩ := hz
  exact l_icmp_eq hC 1364 dL_law_503 (by decide) (fun _ => K _ _ hz) (fun q => absurd rfl q)
theorem lc_10 {p : Program} {l : Launch} {e : Env} {s : State} {m : MethodId} {args : Array Value} {below : List Frame} {meth : Method} {c : Code} {Q : State → Prop} {cs ss : Nat} {Γ : lg_G} {a μ : mw_M} {b L i : Nat} {xs : Nat → Int32} (hC : lC p room_1 s m args c Γ cs ss b L xs cL_law 4 RL) (hL : L ≤ 3072) (hi : i + 6 ≤ L) (h : RR a μ) (K : ∀ a' μ', RR a' μ' → lW p l e room_1 s m args below meth c Γ 4 Q cs ss 1364 [(3, .int (nI i)), (2, .ref (mw_a (lGM Γ) 0)), (1, .ref (mw_a (lGX Γ) 0)), (0, .ref b)] [] a' μ') : lW p l e room_1 s m args below meth c Γ 4 Q cs ss 508 [(3, .int (nI i)), (2, .ref (mw_a (lGM Γ) 0)), (1, .ref (mw_a (lGX Γ) 0)), (0, .ref b)] [] a μ := by
  refine l_aload_n hC 2 dL_law_508 rfl rfl ?_
  refine l_callXi hC [] (T10_law (all_law h)) yv10_law ml10_law rfl rfl ⟨Nat.le_of_ble_eq_true rfl, Nat.le_of_ble_eq_true rfl⟩ rfl rfl (Nat.le_of_ble_eq_true rfl) dL_law_509 (fun r u hq => ?_)
  refine l_aload_n hC 1 dL_law_512 rfl rfl ?_
  refine l_callMi hC [] (T11_law hq) yv11_law ml11_law rfl rfl ⟨Nat.le_of_ble_eq_true rfl, Nat.le_of_ble_eq_true rfl⟩ rfl rfl (Nat.le_of_ble_eq_true rfl) dL_law_513 (fun r' v hz => ?_)
  obtain ⟨rfl, hz⟩ := hz
  exact l_icmp_eq hC 1364 dL_law_516 (by decide) (fun _ => K _ _ hz) (fun q => absurd rfl q)
theorem lc_11 {p : Program} {l : Launch} {e : Env} {s : State} {m : MethodId} {args : Array Value} {below : List Frame} {meth : Method} {c : Code} {Q : State → Prop} {cs ss : Nat} {Γ : lg_G} {a μ : mw_M} {b L i : Nat} {xs : Nat → Int32} (hC : lC p room_1 s m args c Γ cs ss b L xs cL_law 4 RL) (hL : L ≤ 3072) (hi : i + 6 ≤ L) (h : RR a μ) (K : ∀ a' μ', RR a' μ' → lW p l e room_1 s m args below meth c Γ 4 Q cs ss 1364 [(3, .int (nI i)), (2, .ref (mw_a (lGM Γ) 0)), (1, .ref (mw_a (lGX Γ) 0)), (0, .ref b)] [] a' μ') : lW p l e room_1 s m args below meth c Γ 4 Q cs ss 521 [(3, .int (nI i)), (2, .ref (mw_a (lGM Γ) 0)), (1, .ref (mw_a (lGX Γ) 0)), (0, .ref b)] [] a μ := by
  refine l_aload_n hC 2 dL_law_521 rfl rfl ?_
  refine l_arg hC (k := 1) rfl (by omega) hL dL_law_522 dL_law_523 dL_law_524 dL_law_525 dL_law_526 ?_
  refine l_callXi hC [.int (xs (i + 1))] (T10_water (all_water h)) yv10_water ml10_water rfl rfl ⟨Nat.le_of_ble_eq_true rfl, Nat.le_of_ble_eq_true rfl⟩ rfl rfl (Nat.le_of_ble_eq_true rfl) dL_law_527 (fun r u hq => ?_)
  refine l_aload_n hC 1 dL_law_530 rfl rfl ?_
  refine l_arg hC (k := 1) rfl (by omega) hL dL_law_531 dL_law_532 dL_law_533 dL_law_534 dL_law_535 ?_
  refine l_callMi hC [.int (xs (i + 1))] (T11_water hq) yv11_water ml11_water rfl rfl ⟨Nat.le_of_ble_eq_true rfl, Nat.le_of_ble_eq_true rfl⟩ rfl rfl (Nat.le_of_ble_eq_true rfl) dL_law_536 (fun r' v hz => ?_)
  obtain ⟨rfl, hz⟩ := hz
  exact l_icmp_eq hC 1364 dL_law_539 (by decide) (fun _ => K _ _ hz) (fun q => absurd rfl q)
theorem lc_12 {p : Program} {l : Launch} {e : Env} {s : State} {m : MethodId} {args : Array Value} {below : List Frame} {meth : Method} {c : Code} {Q : State → Prop} {cs ss : Nat} {Γ : lg_G} {a μ : mw_M} {b L i : Nat} {xs : Nat → Int32} (hC : lC p room_1 s m args c Γ cs ss b L xs cL_law 4 RL) (hL : L ≤ 3072) (hi : i + 6 ≤ L) (h : RR a μ) (K : ∀ a' μ', RR a' μ' → lW p l e room_1 s m args below meth c Γ 4 Q cs ss 1364 [(3, .int (nI i)), (2, .ref (mw_a (lGM Γ) 0)), (1, .ref (mw_a (lGX Γ) 0)), (0, .ref b)] [] a' μ') : lW p l e room_1 s m args below meth c Γ 4 Q cs ss 544 [(3, .int (nI i)), (2, .ref (mw_a (lGM Γ) 0)), (1, .ref (mw_a (lGX Γ) 0)), (0, .ref b)] [] a μ := by
  refine l_aload_n hC 2 dL_law_544 rfl rfl ?_
  refine l_arg hC (k := 1) rfl (by omega) hL dL_law_545 dL_law_546 dL_law_547 dL_law_548 dL_law_549 ?_
  refine l_arg hC (k := 2) rfl (by omega) hL dL_law_550 dL_law_551 dL_law_552 dL_law_553 dL_law_554 ?_
  refine l_arg hC (k := 3) rfl (by omega) hL dL_law_555 dL_law_556 dL_law_557 dL_law_558 dL_law_559 ?_
  refine l_arg hC (k := 4) rfl (by omega) hL dL_law_560 dL_law_561 dL_law_562 dL_law_563 dL_law_564 ?_
  refine l_callXi hC [.int (xs (i + 1)), .int (xs (i + 2)), .int (xs (i + 3)), .int (xs (i + 4))] (T10_run (all_run h)) yv10_run ml10_run rfl rfl ⟨Nat.le_of_ble_eq_true rfl, Nat.le_of_ble_eq_true rfl⟩ rfl rfl (Nat.le_of_ble_eq_true rfl) dL_law_565 (fun r u hq => ?_)
  refine l_aload_n hC 1 dL_law_568 rfl rfl ?_
  refine l_arg hC (k := 1) rfl (by omega) hL dL_law_569 dL_law_570 dL_law_571 dL_law_572 dL_law_573 ?_
  refine l_arg hC (k := 2) rfl (by omega) hL dL_law_574 dL_law_575 dL_law_576 dL_law_577 dL_law_578 ?_
  refine l_arg hC (k := 3) rfl (by omega) hL dL_law_579 dL_law_580 dL_law_581 dL_law_582 dL_law_583 ?_
  refine l_arg hC (k := 4) rfl (by omega) hL dL_law_584 dL_law_585 dL_law_586 dL_law_587 dL_law_588 ?_
  refine l_callMi hC [.int (xs (i + 1)), .int (xs (i + 2)), .int (xs (i + 3)), .int (xs (i + 4))] (T11_run hq) yv11_run ml11_run rfl rfl ⟨Nat.le_of_ble_eq_true rfl, Nat.le_of_ble_eq_true rfl⟩ rfl rfl (Nat.le_of_ble_eq_true rfl) dL_law_589 (fun r' v hz => ?_)
  obtain ⟨rfl, hz⟩ := hz
  exact l_icmp_eq hC 1364 dL_law_592 (by decide) (fun _ => K _ _ hz) (fun q => absurd rfl q)
theorem lc_13 {p : Program} {l : Launch} {e : Env} {s : State} {m : MethodId} {args : Array Value} {below : List Frame} {meth : Method} {c : Code} {Q : State → Prop} {cs ss : Nat} {Γ : lg_G} {a μ : mw_M} {b L i : Nat} {xs : Nat → Int32} (hC : lC p room_1 s m args c Γ cs ss b L xs cL_law 4 RL) (hL : L ≤ 3072) (hi : i + 6 ≤ L) (h : RR a μ) (K : ∀ a' μ', RR a' μ' → lW p l e room_1 s m args below meth c Γ 4 Q cs ss 1364 [(3, .int (nI i)), (2, .ref (mw_a (lGM Γ) 0)), (1, .ref (mw_a (lGX Γ) 0)), (0, .ref b)] [] a' μ') : lW p l e room_1 s m args below meth c Γ 4 Q cs ss 597 [(3, .int (nI i)), (2, .ref (mw_a (lGM Γ) 0)), (1, .ref (mw_a (lGX Γ) 0)), (0, .ref b)] [] a μ := by
  refine l_aload_n hC 2 dL_law_597 rfl rfl ?_
  refine l_arg hC (k := 1) rfl (by omega) hL dL_law_598 dL_law_599 dL_law_600 dL_law_601 dL_law_602 ?_
  refine l_arg hC (k := 2) rfl (by omega) hL dL_law_603 dL_law_604 dL_law_605 dL_law_606 dL_law_607 ?_
  refine l_callXi hC [.int (xs (i + 1)), .int (xs (i + 2))] (T10_led (all_led h)) yv10_led ml10_led rfl rfl ⟨Nat.le_of_ble_eq_true rfl, Nat.le_of_ble_eq_true rfl⟩ rfl rfl (Nat.le_of_ble_eq_true rfl) dL_law_608 (fun r u hq => ?_)
  obtain ⟨hq, rfl⟩ := hq
  refine l_aload_n hC 1 dL_law_611 rfl rfl ?_
  refine l_arg hC (k := 1) rfl (by omega) hL dL_law_612 dL_law_613 dL_law_614 dL_law_615 dL_law_616 ?_
  refine l_arg hC (k := 2) rfl (by omega) hL dL_law_617 dL_law_618 dL_law_619 dL_law_620 dL_law_621 ?_
  refine l_callMi hC [.int (xs (i + 1)), .int (xs (i + 2))] (T11_led hq) yv11_led ml11_led rfl rfl ⟨Nat.le_of_ble_eq_true rfl, Nat.le_of_ble_eq_true rfl⟩ rfl rfl (Nat.le_of_ble_eq_true rfl) dL_law_622 (fun r' v hz => ?_)
  obtain ⟨rfl, rfl⟩ := hz
  exact l_icmp_eq hC 1364 dL_law_625 (by decide) (fun _ => K _ _ h) (fun q => absurd rfl q)
theorem lc_14 {p : Program} {l : Launch} {e : Env} {s : State} {m : MethodId} {args : Array Value} {below : List Frame} {meth : Method} {c : Code} {Q : State → Prop} {cs ss : Nat} {Γ : lg_G} {a μ : mw_M} {b L i : Nat} {xs : Nat → Int32} (hC : lC p room_1 s m args c Γ cs ss b L xs cL_law 4 RL) (hL : L ≤ 3072) (hi : i + 6 ≤ L) (h : RR a μ) (K : ∀ a' μ', RR a' μ' → lW p l e room_1 s m args below meth c Γ 4 Q cs ss 1364 [(3, .int (nI i)), (2, .ref (mw_a (lGM Γ) 0)), (1, .ref (mw_a (lGX Γ) 0)), (0, .ref b)] [] a' μ') : lW p l e room_1 s m args below meth c Γ 4 Q cs ss 630 [(3, .int (nI i)), (2, .ref (mw_a (lGM Γ) 0)), (1, .ref (mw_a (lGX Γ) 0)), (0, .ref b)] [] a μ := by
  refine l_aload_n hC 2 dL_law_630 rfl rfl ?_
  refine l_arg hC (k := 1) rfl (by omega) hL dL_law_631 dL_law_632 dL_law_633 dL_law_634 dL_law_635 ?_
  refine l_callXi hC [.int (xs (i + 1))] (T10_did (all_did h)) yv10_did ml10_did rfl rfl ⟨Nat.le_of_ble_eq_true rfl, Nat.le_of_ble_eq_true rfl⟩ rfl rfl (Nat.le_of_ble_eq_true rfl) dL_law_636 (fun r u hq => ?_)
  obtain ⟨hq, rfl⟩ := hq
  refine l_aload_n hC 1 dL_law_639 rfl rfl ?_
  refine l_arg hC (k := 1) rfl (by omega) hL dL_law_640 dL_law_641 dL_law_642 dL_law_643 dL_law_644 ?_
  refine l_callMi hC [.int (xs (i + 1))] (T11_did hq) yv11_did ml11_did rfl rfl ⟨Nat.le_of_ble_eq_true rfl, Nat.le_of_ble_eq_true rfl⟩ rfl rfl (Nat.le_of_ble_eq_true rfl) dL_law_645 (fun r' v hz => ?_)
  obtain ⟨rfl, rfl⟩ := hz
  exact l_icmp_eq hC 1364 dL_law_648 (by decide) (fun _ => K _ _ h) (fun q => absurd rfl q)
theorem lc_15 {p : Program} {l : Launch} {e : Env} {s : State} {m : MethodId} {args : Array Value} {below : List Frame} {meth : Method} {c : Code} {Q : State → Prop} {cs ss : Nat} {Γ : lg_G} {a μ : mw_M} {b L i : Nat} {xs : Nat → Int32} (hC : lC p room_1 s m args c Γ cs ss b L xs cL_law 4 RL) (hL : L ≤ 3072) (hi : i + 6 ≤ L) (h : RR a μ) (K : ∀ a' μ', RR a' μ' → lW p l e room_1 s m args below meth c Γ 4 Q cs ss 1364 [(3, .int (nI i)), (2, .ref (mw_a (lGM Γ) 0)), (1, .ref (mw_a (lGX Γ) 0)), (0, .ref b)] [] a' μ') : lW p l e room_1 s m args below meth c Γ 4 Q cs ss 653 [(3, .int (nI i)), (2, .ref (mw_a (lGM Γ) 0)), (1, .ref (mw_a (lGX Γ) 0)), (0, .ref b)] [] a μ := by
  refine l_aload_n hC 2 dL_law_653 rfl rfl ?_
  refine l_arg hC (k := 1) rfl (by omega) hL dL_law_654 dL_law_655 dL_law_656 dL_law_657 dL_law_658 ?_
  refine l_callXi hC [.int (xs (i + 1))] (T10_fear (all_fear h)) yv10_fear ml10_fear rfl rfl ⟨Nat.le_of_ble_eq_true rfl, Nat.le_of_ble_eq_true rfl⟩ rfl rfl (Nat.le_of_ble_eq_true rfl) dL_law_659 (fun r u hq => ?_)
  obtain ⟨hq, rfl⟩ := hq
  refine l_aload_n hC 1 dL_law_662 rfl rfl ?_
  refine l_arg hC (k := 1) rfl (by omega) hL dL_law_663 dL_law_664 dL_law_665 dL_law_666 dL_law_667 ?_
  refine l_callMi hC [.int (xs (i + 1))] (T11_fear hq) yv11_fear ml11_fear rfl rfl ⟨Nat.le_of_ble_eq_true rfl, Nat.le_of_ble_eq_true rfl⟩ rfl rfl (Nat.le_of_ble_eq_true rfl) dL_law_668 (fun r' v hz => ?_)
  obtain ⟨rfl, rfl⟩ := hz
  exact l_icmp_eq hC 1364 dL_law_671 (by decide) (fun _ => K _ _ h) (fun q => absurd rfl q)
theorem lc_16 {p : Program} {l : Launch} {e : Env} {s : State} {m : MethodId} {args : Array Value} {below : List Frame} {meth : Method} {c : Code} {Q : State → Prop} {cs ss : Nat} {Γ : lg_G} {a μ : mw_M} {b L i : Nat} {xs : Nat → Int32} (hC : lC p room_1 s m args c Γ cs ss b L xs cL_law 4 RL) (hL : L ≤ 3072) (hi : i + 6 ≤ L) (h : RR a μ) (K : ∀ a' μ', RR a' μ' → lW p l e room_1 s m args below meth c Γ 4 Q cs ss 1364 [(3, .int (nI i)), (2, .ref (mw_a (lGM Γ) 0)), (1, .ref (mw_a (lGX Γ) 0)), (0, .ref b)] [] a' μ') : lW p l e room_1 s m args below meth c Γ 4 Q cs ss 676 [(3, .int (nI i)), (2, .ref (mw_a (lGM Γ) 0)), (1, .ref (mw_a (lGX Γ) 0)), (0, .ref b)] [] a μ := by
  refine l_aload_n hC 2 dL_law_676 rfl rfl ?_
  refine l_arg hC (k := 1) rfl (by omega) hL dL_law_677 dL_law_678 dL_law_679 dL_law_680 dL_law_681 ?_
  refine l_arg hC (k := 2) rfl (by omega) hL dL_law_682 dL_law_683 dL_law_684 dL_law_685 dL_law_686 ?_
  refine l_callXi hC [.int (xs (i + 1)), .int (xs (i + 2))] (T10_may (all_may h)) yv10_may ml10_may rfl rfl ⟨Nat.le_of_ble_eq_true rfl, Nat.le_of_ble_eq_true rfl⟩ rfl rfl (Nat.le_of_ble_eq_true rfl) dL_law_687 (fun r u hq => ?_)
  obtain ⟨hq, rfl⟩ := hq
  refine l_aload_n hC 1 dL_law_690 rfl rfl ?_
  refine l_arg hC (k := 1) rfl (by omega) hL dL_law_691 dL_law_692 dL_law_693 dL_law_694 dL_law_695 ?_
  refine l_arg hC (k := 2) rfl (by omega) hL dL_law_696 dL_law_697 dL_law_698 dL_law_699 dL_law_700 ?_
  refine l_callMi hC [.int (xs (i + 1)), .int (xs (i + 2))] (T11_may hq) yv11_may ml11_may rfl rfl ⟨Nat.le_of_ble_eq_true rfl, Nat.le_of_ble_eq_true rfl⟩ rfl rfl (Nat.le_of_ble_eq_true rfl) dL_law_701 (fun r' v hz => ?_)
  obtain ⟨rfl, rfl⟩ := hz
  exact l_icmp_eq hC 1364 dL_law_704 (by decide) (fun _ => K _ _ h) (fun q => absurd rfl q)
theorem lc_17 {p : Program} {l : Launch} {e : Env} {s : State} {m : MethodId} {args : Array Value} {below : List Frame} {meth : Method} {c : Code} {Q : State → Prop} {cs ss : Nat} {Γ : lg_G} {a μ : mw_M} {b L i : Nat} {xs : Nat → Int32} (hC : lC p room_1 s m args c Γ cs ss b L xs cL_law 4 RL) (hL : L ≤ 3072) (hi : i + 6 ≤ L) (h : RR a μ) (K : ∀ a' μ', RR a' μ' → lW p l e room_1 s m args below meth c Γ 4 Q cs ss 1364 [(3, .int (nI i)), (2, .ref (mw_a (lGM Γ) 0)), (1, .ref (mw_a (lGX Γ) 0)), (0, .ref b)] [] a' μ') : lW p l e room_1 s m args below meth c Γ 4 Q cs ss 709 [(3, .int (nI i)), (2, .ref (mw_a (lGM Γ) 0)), (1, .ref (mw_a (lGX Γ) 0)), (0, .ref b)] [] a μ := by
  refine l_aload_n hC 2 dL_law_709 rfl rfl ?_
  refine l_arg hC (k := 1) rfl (by omega) hL dL_law_710 dL_law_711 dL_law_712 dL_law_713 dL_law_714 ?_
  refine l_callXi hC [.int (xs (i + 1))] (T10_weight (all_weight h)) yv10_weight ml10_weight rfl rfl ⟨Nat.le_of_ble_eq_true rfl, Nat.le_of_ble_eq_true rfl⟩ rfl rfl (Nat.le_of_ble_eq_true rfl) dL_law_715 (fun r u hq => ?_)
  refine l_aload_n hC 1 dL_law_718 rfl rfl ?_
  refine l_arg hC (k := 1) rfl (by omega) hL dL_law_719 dL_law_720 dL_law_721 dL_law_722 dL_law_723 ?_
  refine l_callMi hC [.int (xs (i + 1))] (T11_weight hq) yv11_weight ml11_weight rfl rfl ⟨Nat.le_of_ble_eq_true rfl, Nat.le_of_ble_eq_true rfl⟩ rfl rfl (Nat.le_of_ble_eq_true rfl) dL_law_724 (fun r' v hz => ?_)
  obtain ⟨rfl, hz⟩ := hz
  exact l_icmp_eq hC 1364 dL_law_727 (by decide) (fun _ => K _ _ hz) (fun q => absurd rfl q)
theorem lc_18 {p : Program} {l : Launch} {e : Env} {s : State} {m : MethodId} {args : Array Value} {below : List Frame} {meth : Method} {c : Code} {Q : State → Prop} {cs ss : Nat} {Γ : lg_G} {a μ : mw_M} {b L i : Nat} {xs : Nat → Int32} (hC : lC p room_1 s m args c Γ cs ss b L xs cL_law 4 RL) (hL : L ≤ 3072) (hi : i + 6 ≤ L) (h : RR a μ) (K : ∀ a' μ', RR a' μ' → lW p l e room_1 s m args below meth c Γ 4 Q cs ss 1364 [(3, .int (nI i)), (2, .ref (mw_a (lGM Γ) 0)), (1, .ref (mw_a (lGX Γ) 0)), (0, .ref b)] [] a' μ') : lW p l e room_1 s m args below meth c Γ 4 Q cs ss 732 [(3, .int (nI i)), (2, .ref (mw_a (lGM Γ) 0)), (1, .ref (mw_a (lGX Γ) 0)), (0, .ref b)] [] a μ := by
  refine l_aload_n hC 2 dL_law_732 rfl rfl ?_
  refine l_arg hC (k := 1) rfl (by omega) hL dL_law_733 dL_law_734 dL_law_735 dL_law_736 dL_law_737 ?_
  refine l_arg hC (k := 2) rfl (by omega) hL dL_law_738 dL_law_739 dL_law_740 dL_law_741 dL_law_742 ?_
  refine l_arg hC (k := 3) rfl (by omega) hL dL_law_743 dL_law_744 dL_law_745 dL_law_746 dL_law_747 ?_
  refine l_callXi hC [.int (xs (i + 1)), .int (xs (i + 2)), .int (xs (i + 3))] (T10_spread (all_spread h)) yv10_spread ml10_spread rfl rfl ⟨Nat.le_of_ble_eq_true rfl, Nat.le_of_ble_eq_true rfl⟩ rfl rfl (Nat.le_of_ble_eq_true rfl) dL_law_748 (fun r u hq => ?_)
  refine l_aload_n hC 1 dL_law_751 rfl rfl ?_
  refine l_arg hC (k := 1) rfl (by omega) hL dL_law_752 dL_law_753 dL_law_754 dL_law_755 dL_law_756 ?_
  refine l_arg hC (k := 2) rfl (by omega) hL dL_law_757 dL_law_758 dL_law_759 dL_law_760 dL_law_761 ?_
  refine l_arg hC (k := 3) rfl (by omega) hL dL_law_762 dL_law_763 dL_law_764 dL_law_765 dL_law_766 ?_
  refine l_callMi hC [.int (xs (i + 1)), .int (xs (i + 2)), .int (xs (i + 3))] (T11_spread hq) yv11_spread ml11_spread rfl rfl ⟨Nat.le_of_ble_eq_true rfl, Nat.le_of_ble_eq_true rfl⟩ rfl rfl (Nat.le_of_ble_eq_true rfl) dL_law_767 (fun r' v hz => ?_)
  obtain ⟨rfl, hz⟩ := hz
  exact l_icmp_eq hC 1364 dL_law_770 (by decide) (fun _ => K _ _ hz) (fun q => absurd rfl q)
theorem lc_19 {p : Program} {l : Launch} {e : Env} {s : State} {m : MethodId} {args : Array Value} {below : List Frame} {meth : Method} {c : Code} {Q : State → Prop} {cs ss : Nat} {Γ : lg_G} {a μ : mw_M} {b L i : Nat} {xs : Nat → Int32} (hC : lC p room_1 s m args c Γ cs ss b L xs cL_law 4 RL) (hL : L ≤ 3072) (hi : i + 6 ≤ L) (h : RR a μ) (K : ∀ a' μ', RR a' μ' → lW p l e room_1 s m args below meth c Γ 4 Q cs ss 1364 [(3, .int (nI i)), (2, .ref (mw_a (lGM Γ) 0)), (1, .ref (mw_a (lGX Γ) 0)), (0, .ref b)] [] a' μ') : lW p l e room_1 s m args below meth c Γ 4 Q cs ss 775 [(3, .int (nI i)), (2, .ref (mw_a (lGM Γ) 0)), (1, .ref (mw_a (lGX Γ) 0)), (0, .ref b)] [] a μ := by
  refine l_aload_n hC 2 dL_law_775 rfl rfl ?_
  refine l_arg hC (k := 1) rfl (by omega) hL dL_law_776 dL_law_777 dL_law_778 dL_law_779 dL_law_780 ?_
  refine l_arg hC (k := 2) rfl (by omega) hL dL_law_781 dL_law_782 dL_law_783 dL_law_784 dL_law_785 ?_
  refine l_arg hC (k := 3) rfl (by omega) hL dL_law_786 dL_law_787 dL_law_788 dL_law_789 dL_law_790 ?_
  refine l_arg hC (k := 4) rfl (by omega) hL dL_law_791 dL_law_792 dL_law_793 dL_law_794 dL_law_795 ?_
  refine l_callXi hC [.int (xs (i + 1)), .int (xs (i + 2)), .int (xs (i + 3)), .int (xs (i + 4))] (T10_loads (all_loads h)) yv10_loads ml10_loads rfl rfl ⟨Nat.le_of_ble_eq_true rfl, Nat.le_of_ble_eq_true rfl⟩ rfl rfl (Nat.le_of_ble_eq_true rfl) dL_law_796 (fun r u hq => ?_)
  refine l_aload_n hC 1 dL_law_799 rfl rfl ?_
  refine l_arg hC (k := 1) rfl (by omega) hL dL_law_800 dL_law_801 dL_law_802 dL_law_803 dL_law_804 ?_
  refine l_arg hC (k := 2) rfl (by omega) hL dL_law_805 dL_law_806 dL_law_807 dL_law_808 dL_law_809 ?_
  refine l_arg hC (k := 3) rfl (by omega) hL dL_law_810 dL_law_811 dL_law_812 dL_law_813 dL_law_814 ?_
  refine l_arg hC (k := 4) rfl (by omega) hL dL_law_815 dL_law_816 dL_law_817 dL_law_818 dL_law_819 ?_
  refine l_callMi hC [.int (xs (i + 1)), .int (xs (i + 2)), .int (xs (i + 3)), .int (xs (i + 4))] (T11_loads hq) yv11_loads ml11_loads rfl rfl ⟨Nat.le_of_ble_eq_true rfl, Nat.le_of_ble_eq_true rfl⟩ rfl rfl (Nat.le_of_ble_eq_true rfl) dL_law_820 (fun r' v hz => ?_)
  obtain ⟨rfl, hz⟩ := hz
  exact l_icmp_eq hC 1364 dL_law_823 (by decide) (fun _ => K _ _ hz) (fun q => absurd rfl q)
theorem lc_20 {p : Program} {l : Launch} {e : Env} {s : State} {m : MethodId} {args : Array Value} {below : List Frame} {meth : Method} {c : Code} {Q : State → Prop} {cs ss : Nat} {Γ : lg_G} {a μ : mw_M} {b L i : Nat} {xs : Nat → Int32} (hC : lC p room_1 s m args c Γ cs ss b L xs cL_law 4 RL) (hL : L ≤ 3072) (hi : i + 6 ≤ L) (h : RR a μ) (K : ∀ a' μ', RR a' μ' → lW p l e room_1 s m args below meth c Γ 4 Q cs ss 1364 [(3, .int (nI i)), (2, .ref (mw_a (lGM Γ) 0)), (1, .ref (mw_a (lGX Γ) 0)), (0, .ref b)] [] a' μ') : lW p l e room_1 s m args below meth c Γ 4 Q cs ss 828 [(3, .int (nI i)), (2, .ref (mw_a (lGM Γ) 0)), (1, .ref (mw_a (lGX Γ) 0)), (0, .ref b)] [] a μ := by
  refine l_aload_n hC 2 dL_law_828 rfl rfl ?_
  refine l_arg hC (k := 1) rfl (by omega) hL dL_law_829 dL_law_830 dL_law_831 dL_law_832 dL_law_833 ?_
  refine l_arg hC (k := 2) rfl (by omega) hL dL_law_834 dL_law_835 dL_law_836 dL_law_837 dL_law_838 ?_
  refine l_arg hC (k := 3) rfl (by omega) hL dL_law_839 dL_law_840 dL_law_841 dL_law_842 dL_law_843 ?_
  refine l_callXi hC [.int (xs (i + 1)), .int (xs (i + 2)), .int (xs (i + 3))] (T10_best (all_best h)) yv10_best ml10_best rfl rfl ⟨Nat.le_of_ble_eq_true rfl, Nat.le_of_ble_eq_true rfl⟩ rfl rfl (Nat.le_of_ble_eq_true rfl) dL_law_844 (fun r u hq => ?_)
  refine l_aload_n hC 1 dL_law_847 rfl rfl ?_
  refine l_arg hC (k := 1) rfl (by omega) hL dL_law_848 dL_law_849 dL_law_850 dL_law_851 dL_law_852 ?_
  refine l_arg hC (k := 2) rfl (by omega) hL dL_law_853 dL_law_854 dL_law_855 dL_law_856 dL_law_857 ?_
  refine l_arg hC (k := 3) rfl (by omega) hL dL_law_858 dL_law_859 dL_law_860 dL_law_861 dL_law_862 ?_
  refine l_callMi hC [.int (xs (i + 1)), .int (xs (i + 2)), .int (xs (i + 3))] (T11_best hq) yv11_best ml11_best rfl rfl ⟨Nat.le_of_ble_eq_true rfl, Nat.le_of_ble_eq_true rfl⟩ rfl rfl (Nat.le_of_ble_eq_true rfl) dL_law_863 (fun r' v hz => ?_)
  obtain ⟨rfl, hz⟩ := hz
  exact l_icmp_eq hC 1364 dL_law_866 (by decide) (fun _ => K _ _ hz) (fun q => absurd rfl q)
theorem lc_21 {p : Program} {l : Launch} {e : Env} {s : State} {m : MethodId} {args : Array Value} {below : List Frame} {meth : Method} {c : Code} {Q : State → Prop} {cs ss : Nat} {Γ : lg_G} {a μ : mw_M} {b L i : Nat} {xs : Nat → Int32} (hC : lC p room_1 s m args c Γ cs ss b L xs cL_law 4 RL) (hL : L ≤ 3072) (hi : i + 6 ≤ L) (h : RR a μ) (K : ∀ a' μ', RR a' μ' → lW p l e room_1 s m args below meth c Γ 4 Q cs ss 1364 [(3, .int (nI i)), (2, .ref (mw_a (lGM Γ) 0)), (1, .ref (mw_a (lGX Γ) 0)), (0, .ref b)] [] a' μ') : lW p l e room_1 s m args below meth c Γ 4 Q cs ss 871 [(3, .int (nI i)), (2, .ref (mw_a (lGM Γ) 0)), (1, .ref (mw_a (lGX Γ) 0)), (0, .ref b)] [] a μ := by
  refine l_aload_n hC 2 dL_law_871 rfl rfl ?_
  refine l_arg hC (k := 1) rfl (by omega) hL dL_law_872 dL_law_873 dL_law_874 dL_law_875 dL_law_876 ?_
  refine l_arg hC (k := 2) rfl (by omega) hL dL_law_877 dL_law_878 dL_law_879 dL_law_880 dL_law_881 ?_
  refine l_arg hC (k := 3) rfl (by omega) hL dL_law_882 dL_law_883 dL_law_884 dL_law_885 dL_law_886 ?_
  refine l_callXi hC [.int (xs (i + 1)), .int (xs (i + 2)), .int (xs (i + 3))] (T10_never (all_never h)) yv10_never ml10_never rfl rfl ⟨Nat.le_of_ble_eq_true rfl, Nat.le_of_ble_eq_true rfl⟩ rfl rfl (Nat.le_of_ble_eq_true rfl) dL_law_887 (fun r u hq => ?_)
  refine l_aload_n hC 1 dL_law_890 rfl rfl ?_
  refine l_arg hC (k := 1) rfl (by omega) hL dL_law_891 dL_law_892 dL_law_893 dL_law_894 dL_law_895 ?_
  refine l_arg hC (k := 2) rfl (by omega) hL dL_law_896 dL_law_897 dL_law_898 dL_law_899 dL_law_900 ?_
  refine l_arg hC (k := 3) rfl (by omega) hL dL_law_901 dL_law_902 dL_law_903 dL_law_904 dL_law_905 ?_
  refine l_callMi hC [.int (xs (i + 1)), .int (xs (i + 2)), .int (xs (i + 3))] (T11_never hq) yv11_never ml11_never rfl rfl ⟨Nat.le_of_ble_eq_true rfl, Nat.le_of_ble_eq_true rfl⟩ rfl rfl (Nat.le_of_ble_eq_true rfl) dL_law_906 (fun r' v hz => ?_)
  obtain ⟨rfl, hz⟩ := hz
  exact l_icmp_eq hC 1364 dL_law_909 (by decide) (fun _ => K _ _ hz) (fun q => absurd rfl q)
theorem lc_22 {p : Program} {l : Launch} {e : Env} {s : State} {m : MethodId} {args : Array Value} {below : List Frame} {meth : Method} {c : Code} {Q : State → Prop} {cs ss : Nat} {Γ : lg_G} {a μ : mw_M} {b L i : Nat} {xs : Nat → Int32} (hC : lC p room_1 s m args c Γ cs ss b L xs cL_law 4 RL) (hL : L ≤ 3072) (hi : i + 6 ≤ L) (h : RR a μ) (K : ∀ a' μ', RR a' μ' → lW p l e room_1 s m args below meth c Γ 4 Q cs ss 1364 [(3, .int (nI i)), (2, .ref (mw_a (lGM Γ) 0)), (1, .ref (mw_a (lGX Γ) 0)), (0, .ref b)] [] a' μ') : lW p l e room_1 s m args below meth c Γ 4 Q cs ss 914 [(3, .int (nI i)), (2, .ref (mw_a (lGM Γ) 0)), (1, .ref (mw_a (lGX Γ) 0)), (0, .ref b)] [] a μ := by
  refine l_aload_n hC 2 dL_law_914 rfl rfl ?_
  refine l_arg hC (k := 1) rfl (by omega) hL dL_law_915 dL_law_916 dL_law_917 dL_law_918 dL_law_919 ?_
  refine l_arg hC (k := 2) rfl (by omega) hL dL_law_920 dL_law_921 dL_law_922 dL_law_923 dL_law_924 ?_
  refine l_callXi hC [.int (xs (i + 1)), .int (xs (i + 2))] (T10_beside (all_beside h)) yv10_beside ml10_beside rfl rfl ⟨Nat.le_of_ble_eq_true rfl, Nat.le_of_ble_eq_true rfl⟩ rfl rfl (Nat.le_of_ble_eq_true rfl) dL_law_925 (fun r u hq => ?_)
  refine l_aload_n hC 1 dL_law_928 rfl rfl ?_
  refine l_arg hC (k := 1) rfl (by omega) hL dL_law_929 dL_law_930 dL_law_931 dL_law_932 dL_law_933 ?_
  refine l_arg hC (k := 2) rfl (by omega) hL dL_law_934 dL_law_935 dL_law_936 dL_law_937 dL_law_938 ?_
  refine l_callMi hC [.int (xs (i + 1)), .int (xs (i + 2))] (T11_beside hq) yv11_beside ml11_beside rfl rfl ⟨Nat.le_of_ble_eq_true rfl, Nat.le_of_ble_eq_true rfl⟩ rfl rfl (Nat.le_of_ble_eq_true rfl) dL_law_939 (fun r' v hz => ?_)
  obtain ⟨rfl, hz⟩ := hz
  exact l_icmp_eq hC 1364 dL_law_942 (by decide) (fun _ => K _ _ hz) (fun q => absurd rfl q)
theorem lc_23 {p : Program} {l : Launch} {e : Env} {s : State} {m : MethodId} {args : Array Value} {below : List Frame} {meth : Method} {c : Code} {Q : State → Prop} {cs ss : Nat} {Γ : lg_G} {a μ : mw_M} {b L i : Nat} {xs : Nat → Int32} (hC : lC p room_1 s m args c Γ cs ss b L xs cL_law 4 RL) (hL : L ≤ 3072) (hi : i + 6 ≤ L) (h : RR a μ) (K : ∀ a' μ', RR a' μ' → lW p l e room_1 s m args below meth c Γ 4 Q cs ss 1364 [(3, .int (nI i)), (2, .ref (mw_a (lGM Γ) 0)), (1, .ref (mw_a (lGX Γ) 0)), (0, .ref b)] [] a' μ') : lW p l e room_1 s m args below meth c Γ 4 Q cs ss 947 [(3, .int (nI i)), (2, .ref (mw_a (lGM Γ) 0)), (1, .ref (mw_a (lGX Γ) 0)), (0, .ref b)] [] a μ := by
  refine l_aload_n hC 2 dL_law_947 rfl rfl ?_
  refine l_callXi hC [] (T10_undo (all_undo h)) yv10_undo ml10_undo rfl rfl ⟨Nat.le_of_ble_eq_true rfl, Nat.le_of_ble_eq_true rfl⟩ rfl rfl (Nat.le_of_ble_eq_true rfl) dL_law_948 (fun r u hq => ?_)
  refine l_aload_n hC 1 dL_law_951 rfl rfl ?_
  refine l_callMi hC [] (T11_undo hq) yv11_undo ml11_undo rfl rfl ⟨Nat.le_of_ble_eq_true rfl, Nat.le_of_ble_eq_true rfl⟩ rfl rfl (Nat.le_of_ble_eq_true rfl) dL_law_952 (fun r' v hz => ?_)
  obtain ⟨rfl, hz⟩ := hz
  exact l_icmp_eq hC 1364 dL_law_955 (by decide) (fun _ => K _ _ hz) (fun q => absurd rfl q)
theorem lc_24 {p : Program} {l : Launch} {e : Env} {s : State} {m : MethodId} {args : Array Value} {below : List Frame} {meth : Method} {c : Code} {Q : State → Prop} {cs ss : Nat} {Γ : lg_G} {a μ : mw_M} {b L i : Nat} {xs : Nat → Int32} (hC : lC p room_1 s m args c Γ cs ss b L xs cL_law 4 RL) (hL : L ≤ 3072) (hi : i + 6 ≤ L) (h : RR a μ) (K : ∀ a' μ', RR a' μ' → lW p l e room_1 s m args below meth c Γ 4 Q cs ss 1364 [(3, .int (nI i)), (2, .ref (mw_a (lGM Γ) 0)), (1, .ref (mw_a (lGX Γ) 0)), (0, .ref b)] [] a' μ') : lW p l e room_1 s m args below meth c Γ 4 Q cs ss 960 [(3, .int (nI i)), (2, .ref (mw_a (lGM Γ) 0)), (1, .ref (mw_a (lGX Γ) 0)), (0, .ref b)] [] a μ := by
  refine l_aload_n hC 2 dL_law_960 rfl rfl ?_
  refine l_callXi hC [] (T10_redo (all_redo h)) yv10_redo ml10_redo rfl rfl ⟨Nat.le_of_ble_eq_true rfl, Nat.le_of_ble_eq_true rfl⟩ rfl rfl (Nat.le_of_ble_eq_true rfl) dL_law_961 (fun r u hq => ?_)
  refine l_aload_n hC 1 dL_law_964 rfl rfl ?_
  refine l_callMi hC [] (T11_redo hq) yv11_redo ml11_redo rfl rfl ⟨Nat.le_of_ble_eq_true rfl, Nat.le_of_ble_eq_true rfl⟩ rfl rfl (Nat.le_of_ble_eq_true rfl) dL_law_965 (fun r' v hz => ?_)
  obtain ⟨rfl, hz⟩ := hz
  exact l_icmp_eq hC 1364 dL_law_968 (by decide) (fun _ => K _ _ hz) (fun q => absurd rfl q)
theorem lc_25 {p : Program} {l : Launch} {e : Env} {s : State} {m : MethodId} {args : Array Value} {below : List Frame} {meth : Method} {c : Code} {Q : State → Prop} {cs ss : Nat} {Γ : lg_G} {a μ : mw_M} {b L i : Nat} {xs : Nat → Int32} (hC : lC p room_1 s m args c Γ cs ss b L xs cL_law 4 RL) (hL : L ≤ 3072) (hi : i + 6 ≤ L) (h : RR a μ) (K : ∀ a' μ', RR a' μ' → lW p l e room_1 s m args below meth c Γ 4 Q cs ss 1364 [(3, .int (nI i)), (2, .ref (mw_a (lGM Γ) 0)), (1, .ref (mw_a (lGX Γ) 0)), (0, .ref b)] [] a' μ') : lW p l e room_1 s m args below meth c Γ 4 Q cs ss 973 [(3, .int (nI i)), (2, .ref (mw_a (lGM Γ) 0)), (1, .ref (mw_a (lGX Γ) 0)), (0, .ref b)] [] a μ := by
  refine l_aload_n hC 2 dL_law_973 rfl rfl ?_
  refine l_arg hC (k := 1) rfl (by omega) hL dL_law_974 dL_law_975 dL_law_976 dL_law_977 dL_law_978 ?_
  refine l_callXi hC [.int (xs (i + 1))] (T10_body (all_body h)) yv10_body ml10_body rfl rfl ⟨Nat.le_of_ble_eq_true rfl, Nat.le_of_ble_eq_true rfl⟩ rfl rfl (Nat.le_of_ble_eq_true rfl) dL_law_979 (fun r u hq => ?_)
  refine l_aload_n hC 1 dL_law_982 rfl rfl ?_
  refine l_arg hC (k := 1) rfl (by omega) hL dL_law_983 dL_law_984 dL_law_985 dL_law_986 dL_law_987 ?_
  refine l_callMi hC [.int (xs (i + 1))] (T11_body hq) yv11_body ml11_body rfl rfl ⟨Nat.le_of_ble_eq_true rfl, Nat.le_of_ble_eq_true rfl⟩ rfl rfl (Nat.le_of_ble_eq_true rfl) dL_law_988 (fun r' v hz => ?_)
  obtain ⟨rfl, hz⟩ := hz
  exact l_icmp_eq hC 1364 dL_law_991 (by decide) (fun _ => K _ _ hz) (fun q => absurd rfl q)
theorem lc_26 {p : Program} {l : Launch} {e : Env} {s : State} {m : MethodId} {args : Array Value} {below : List Frame} {meth : Method} {c : Code} {Q : State → Prop} {cs ss : Nat} {Γ : lg_G} {a μ : mw_M} {b L i : Nat} {xs : Nat → Int32} (hC : lC p room_1 s m args c Γ cs ss b L xs cL_law 4 RL) (hL : L ≤ 3072) (hi : i + 6 ≤ L) (h : RR a μ) (K : ∀ a' μ', RR a' μ' → lW p l e room_1 s m args below meth c Γ 4 Q cs ss 1364 [(3, .int (nI i)), (2, .ref (mw_a (lGM Γ) 0)), (1, .ref (mw_a (lGX Γ) 0)), (0, .ref b)] [] a' μ') : lW p l e room_1 s m args below meth c Γ 4 Q cs ss 996 [(3, .int (nI i)), (2, .ref (mw_a (lGM Γ) 0)), (1, .ref (mw_a (lGX Γ) 0)), (0, .ref b)] [] a μ := by
  refine l_aload_n hC 2 dL_law_996 rfl rfl ?_
  refine l_arg hC (k := 1) rfl (by omega) hL dL_law_997 dL_law_998 dL_law_999 dL_law_1000 dL_law_1001 ?_
  refine l_arg hC (k := 2) rfl (by omega) hL dL_law_1002 dL_law_1003 dL_law_1004 dL_law_1005 dL_law_1006 ?_
  refine l_arg hC (k := 3) rfl (by omega) hL dL_law_1007 dL_law_1008 dL_law_1009 dL_law_1010 dL_law_1011 ?_
  refine l_callXi hC [.int (xs (i + 1)), .int (xs (i + 2)), .int (xs (i + 3))] (T10_act (all_act h)) yv10_act ml10_act rfl rfl ⟨Nat.le_of_ble_eq_true rfl, Nat.le_of_ble_eq_true rfl⟩ rfl rfl (Nat.le_of_ble_eq_true rfl) dL_law_1012 (fun r u hq => ?_)
  refine l_aload_n hC 1 dL_law_1015 rfl rfl ?_
  refine l_arg hC (k := 1) rfl (by omega) hL dL_law_1016 dL_law_1017 dL_law_1018 dL_law_1019 dL_law_1020 ?_
  refine l_arg hC (k := 2) rfl (by omega) hL dL_law_1021 dL_law_1022 dL_law_1023 dL_law_1024 dL_law_1025 ?_
  refine l_arg hC (k := 3) rfl (by omega) hL dL_law_1026 dL_law_1027 dL_law_1028 dL_law_1029 dL_law_1030 ?_
  refine l_callMi hC [.int (xs (i + 1)), .int (xs (i + 2)), .int (xs (i + 3))] (T11_act hq) yv11_act ml11_act rfl rfl ⟨Nat.le_of_ble_eq_true rfl, Nat.le_of_ble_eq_true rfl⟩ rfl rfl (Nat.le_of_ble_eq_true rfl) dL_law_1031 (fun r' v hz => ?_)
  obtain ⟨rfl, hz⟩ := hz
  exact l_icmp_eq hC 1364 dL_law_1034 (by decide) (fun _ => K _ _ hz) (fun q => absurd rfl q)
theorem lc_27 {p : Program} {l : Launch} {e : Env} {s : State} {m : MethodId} {args : Array Value} {below : List Frame} {meth : Method} {c : Code} {Q : State → Prop} {cs ss : Nat} {Γ : lg_G} {a μ : mw_M} {b L i : Nat} {xs : Nat → Int32} (hC : lC p room_1 s m args c Γ cs ss b L xs cL_law 4 RL) (hL : L ≤ 3072) (hi : i + 6 ≤ L) (h : RR a μ) (K : ∀ a' μ', RR a' μ' → lW p l e room_1 s m args below meth c Γ 4 Q cs ss 1364 [(3, .int (nI i)), (2, .ref (mw_a (lGM Γ) 0)), (1, .ref (mw_a (lGX Γ) 0)), (0, .ref b)] [] a' μ') : lW p l e room_1 s m args below meth c Γ 4 Q cs ss 1039 [(3, .int (nI i)), (2, .ref (mw_a (lGM Γ) 0)), (1, .ref (mw_a (lGX Γ) 0)), (0, .ref b)] [] a μ := by
  refine l_aload_n hC 2 dL_law_1039 rfl rfl ?_
  refine l_arg hC (k := 1) rfl (by omega) hL dL_law_1040 dL_law_1041 dL_law_1042 dL_law_1043 dL_law_1044 ?_
  refine l_callXi hC [.int (xs (i + 1))] (T10_trace (all_trace h)) yv10_trace ml10_trace rfl rfl ⟨Nat.le_of_ble_eq_true rfl, Nat.le_of_ble_eq_true rfl⟩ rfl rfl (Nat.le_of_ble_eq_true rfl) dL_law_1045 (fun r u hq => ?_)
  obtain ⟨hq, rfl⟩ := hq
  refine l_aload_n hC 1 dL_law_1048 rfl rfl ?_
  refine l_arg hC (k := 1) rfl (by omega) hL dL_law_1049 dL_law_1050 dL_law_1051 dL_law_1052 dL_law_1053 ?_
  refine l_callMi hC [.int (xs (i + 1))] (T11_trace hq) yv11_trace ml11_trace rfl rfl ⟨Nat.le_of_ble_eq_true rfl, Nat.le_of_ble_eq_true rfl⟩ rfl rfl (Nat.le_of_ble_eq_true rfl) dL_law_1054 (fun r' v hz => ?_)
  obtain ⟨rfl, rfl⟩ := hz
  exact l_icmp_eq hC 1364 dL_law_1057 (by decide) (fun _ => K _ _ h) (fun q => absurd rfl q)
theorem lc_28 {p : Program} {l : Launch} {e : Env} {s : State} {m : MethodId} {args : Array Value} {below : List Frame} {meth : Method} {c : Code} {Q : State → Prop} {cs ss : Nat} {Γ : lg_G} {a μ : mw_M} {b L i : Nat} {xs : Nat → Int32} (hC : lC p room_1 s m args c Γ cs ss b L xs cL_law 4 RL) (hL : L ≤ 3072) (hi : i + 6 ≤ L) (h : RR a μ) (K : ∀ a' μ', RR a' μ' → lW p l e room_1 s m args below meth c Γ 4 Q cs ss 1364 [(3, .int (nI i)), (2, .ref (mw_a (lGM Γ) 0)), (1, .ref (mw_a (lGX Γ) 0)), (0, .ref b)] [] a' μ') : lW p l e room_1 s m args below meth c Γ 4 Q cs ss 1062 [(3, .int (nI i)), (2, .ref (mw_a (lGM Γ) 0)), (1, .ref (mw_a (lGX Γ) 0)), (0, .ref b)] [] a μ := by
  refine l_aload_n hC 2 dL_law_1062 rfl rfl ?_
  refine l_arg hC (k := 1) rfl (by omega) hL dL_law_1063 dL_law_1064 dL_law_1065 dL_law_1066 dL_law_1067 ?_
  refine l_arg hC (k := 2) rfl (by omega) hL dL_law_1068 dL_law_1069 dL_law_1070 dL_law_1071 dL_law_1072 ?_
  refine l_callXi hC [.int (xs (i + 1)), .int (xs (i + 2))] (T10_keep (all_keep h)) yv10_keep ml10_keep rfl rfl ⟨Nat.le_of_ble_eq_true rfl, Nat.le_of_ble_eq_true rfl⟩ rfl rfl (Nat.le_of_ble_eq_true rfl) dL_law_1073 (fun r u hq => ?_)
  refine l_aload_n hC 1 dL_law_1076 rfl rfl ?_
  refine l_arg hC (k := 1) rfl (by omega) hL dL_law_1077 dL_law_1078 dL_law_1079 dL_law_1080 dL_law_1081 ?_
  refine l_arg hC (k := 2) rfl (by omega) hL dL_law_1082 dL_law_1083 dL_law_1084 dL_law_1085 dL_law_1086 ?_
  refine l_callMi hC [.int (xs (i + 1)), .int (xs (i + 2))] (T11_keep hq) yv11_keep ml11_keep rfl rfl ⟨Nat.le_of_ble_eq_true rfl, Nat.le_of_ble_eq_true rfl⟩ rfl rfl (Nat.le_of_ble_eq_true rfl) dL_law_1087 (fun r' v hz => ?_)
  obtain ⟨rfl, hz⟩ := hz
  exact l_icmp_eq hC 1364 dL_law_1090 (by decide) (fun _ => K _ _ hz) (fun q => absurd rfl q)
theorem lc_29 {p : Program} {l : Launch} {e : Env} {s : State} {m : MethodId} {args : Array Value} {below : List Frame} {meth : Method} {c : Code} {Q : State → Prop} {cs ss : Nat} {Γ : lg_G} {a μ : mw_M} {b L i : Nat} {xs : Nat → Int32} (hC : lC p room_1 s m args c Γ cs ss b L xs cL_law 4 RL) (hL : L ≤ 3072) (hi : i + 6 ≤ L) (h : RR a μ) (K : ∀ a' μ', RR a' μ' → lW p l e room_1 s m args below meth c Γ 4 Q cs ss 1364 [(3, .int (nI i)), (2, .ref (mw_a (lGM Γ) 0)), (1, .ref (mw_a (lGX Γ) 0)), (0, .ref b)] [] a' μ') : lW p l e room_1 s m args below meth c Γ 4 Q cs ss 1095 [(3, .int (nI i)), (2, .ref (mw_a (lGM Γ) 0)), (1, .ref (mw_a (lGX Γ) 0)), (0, .ref b)] [] a μ := by
  refine l_aload_n hC 2 dL_law_1095 rfl rfl ?_
  refine l_arg hC (k := 1) rfl (by omega) hL dL_law_1096 dL_law_1097 dL_law_1098 dL_law_1099 dL_law_1100 ?_
  refine l_arg hC (k := 2) rfl (by omega) hL dL_law_1101 dL_law_1102 dL_law_1103 dL_law_1104 dL_law_1105 ?_
  refine l_arg hC (k := 3) rfl (by omega) hL dL_law_1106 dL_law_1107 dL_law_1108 dL_law_1109 dL_law_1110 ?_
  refine l_callXi hC [.int (xs (i + 1)), .int (xs (i + 2)), .int (xs (i + 3))] (T10_row (all_row h)) yv10_row ml10_row rfl rfl ⟨Nat.le_of_ble_eq_true rfl, Nat.le_of_ble_eq_true rfl⟩ rfl rfl (Nat.le_of_ble_eq_true rfl) dL_law_1111 (fun r u hq => ?_)
  refine l_aload_n hC 1 dL_law_1114 rfl rfl ?_
  refine l_arg hC (k := 1) rfl (by omega) hL dL_law_1115 dL_law_1116 dL_law_1117 dL_law_1118 dL_law_1119 ?_
  refine l_arg hC (k := 2) rfl (by omega) hL dL_law_1120 dL_law_1121 dL_law_1122 dL_law_1123 dL_law_1124 ?_
  refine l_arg hC (k := 3) rfl (by omega) hL dL_law_1125 dL_law_1126 dL_law_1127 dL_law_1128 dL_law_1129 ?_
  refine l_callMi hC [.int (xs (i + 1)), .int (xs (i + 2)), .int (xs (i + 3))] (T11_row hq) yv11_row ml11_row rfl rfl ⟨Nat.le_of_ble_eq_true rfl, Nat.le_of_ble_eq_true rfl⟩ rfl rfl (Nat.le_of_ble_eq_true rfl) dL_law_1130 (fun r' v hz => ?_)
  obtain ⟨rfl, hz⟩ := hz
  exact l_icmp_eq hC 1364 dL_law_1133 (by decide) (fun _ => K _ _ hz) (fun q => absurd rfl q)
theorem lc_30 {p : Program} {l : Launch} {e : Env} {s : State} {m : MethodId} {args : Array Value} {below : List Frame} {meth : Method} {c : Code} {Q : State → Prop} {cs ss : Nat} {Γ : lg_G} {a μ : mw_M} {b L i : Nat} {xs : Nat → Int32} (hC : lC p room_1 s m args c Γ cs ss b L xs cL_law 4 RL) (hL : L ≤ 3072) (hi : i + 6 ≤ L) (h : RR a μ) (K : ∀ a' μ', RR a' μ' → lW p l e room_1 s m args below meth c Γ 4 Q cs ss 1364 [(3, .int (nI i)), (2, .ref (mw_a (lGM Γ) 0)), (1, .ref (mw_a (lGX Γ) 0)), (0, .ref b)] [] a' μ') : lW p l e room_1 s m args below meth c Γ 4 Q cs ss 1138 [(3, .int (nI i)), (2, .ref (mw_a (lGM Γ) 0)), (1, .ref (mw_a (lGX Γ) 0)), (0, .ref b)] [] a μ := by
  refine l_aload_n hC 2 dL_law_1138 rfl rfl ?_
  refine l_arg hC (k := 1) rfl (by omega) hL dL_law_1139 dL_law_1140 dL_law_1141 dL_law_1142 dL_law_1143 ?_
  refine l_arg hC (k := 2) rfl (by omega) hL dL_law_1144 dL_law_1145 dL_law_1146 dL_law_1147 dL_law_1148 ?_
  refine l_arg hC (k := 3) rfl (by omega) hL dL_law_1149 dL_law_1150 dL_law_1151 dL_law_1152 dL_law_1153 ?_
  refine l_i2l hC dL_law_1154 ?_
  refine l_bipush hC 32 dL_law_1155 (by decide) ?_
  refine l_lshl hC dL_law_1157 ?_
  refine l_arg hC (k := 4) rfl (by omega) hL dL_law_1158 dL_law_1159 dL_law_1160 dL_law_1161 dL_law_1162 ?_
  refine l_i2l hC dL_law_1163 ?_
  refine l_ldc2 hC lCL dL_law_1164 ?_
  refine l_land hC dL_law_1167 ?_
  refine l_lor hC dL_law_1168 ?_
  refine l_callXi hC [.int (xs (i + 1)), .int (xs (i + 2)), .long ((mw_lshl ((xs (i + 3)).toInt64) 32) ||| (((xs (i + 4)).toInt64) &&& (4294967295)))] (T10_put (all_put h)) yv10_put ml10_put rfl rfl ⟨Nat.le_of_ble_eq_true rfl, Nat.le_of_ble_eq_true rfl⟩ rfl rfl (Nat.le_of_ble_eq_true rfl) dL_law_1169 (fun r u hq => ?_)
  refine l_aload_n hC 1 dL_law_1172 rfl rfl ?_
  refine l_arg hC (k := 1) rfl (by omega) hL dL_law_1173 dL_law_1174 dL_law_1175 dL_law_1176 dL_law_1177 ?_
  refine l_arg hC (k := 2) rfl (by omega) hL dL_law_1178 dL_law_1179 dL_law_1180 dL_law_1181 dL_law_1182 ?_
  refine l_arg hC (k := 3) rfl (by omega) hL dL_law_1183 dL_law_1184 dL_law_1185 dL_law_1186 dL_law_1187 ?_
  refine l_i2l hC dL_law_1188 ?_
  refine l_bipush hC 32 dL_law_1189 (by decide) ?_
  refine l_lshl hC dL_law_1191 ?_
  refine l_arg hC (k := 4) rfl (by omega) hL dL_law_1192 dL_law_1193 dL_law_1194 dL_law_1195 dL_law_1196 ?_
  refine l_i2l hC dL_law_1197 ?_
  refine l_ldc2 hC lCL dL_law_1198 ?_
  refine l_land hC dL_law_1201 ?_
  refine l_lor hC dL_law_1202 ?_
  refine l_callMi hC [.int (xs (i + 1)), .int (xs (i + 2)), .long ((mw_lshl ((xs (i + 3)).toInt64) 32) ||| (((xs (i + 4)).toInt64) &&& (4294967295)))] (T11_put hq) yv11_put ml11_put rfl rfl ⟨Nat.le_of_ble_eq_true rfl, Nat.le_of_ble_eq_true rfl⟩ rfl rfl (Nat.le_of_ble_eq_true rfl) dL_law_1203 (fun r' v hz => ?_)
  obtain ⟨rfl, hz⟩ := hz
  exact l_icmp_eq hC 1364 dL_law_1206 (by decide) (fun _ => K _ _ hz) (fun q => absurd rfl q)
theorem lc_31 {p : Program} {l : Launch} {e : Env} {s : State} {m : MethodId} {args : Array Value} {below : List Frame} {meth : Method} {c : Code} {Q : State → Prop} {cs ss : Nat} {Γ : lg_G} {a μ : mw_M} {b L i : Nat} {xs : Nat → Int32} (hC : lC p room_1 s m args c Γ cs ss b L xs cL_law 4 RL) (hL : L ≤ 3072) (hi : i + 6 ≤ L) (h : RR a μ) (K : ∀ a' μ', RR a' μ' → lW p l e room_1 s m args below meth c Γ 4 Q cs ss 1364 [(3, .int (nI i)), (2, .ref (mw_a (lGM Γ) 0)), (1, .ref (mw_a (lGX Γ) 0)), (0, .ref b)] [] a' μ') : lW p l e room_1 s m args below meth c Γ 4 Q cs ss 1211 [(3, .int (nI i)), (2, .ref (mw_a (lGM Γ) 0)), (1, .ref (mw_a (lGX Γ) 0)), (0, .ref b)] [] a μ := by
  refine l_aload_n hC 2 dL_law_1211 rfl rfl ?_
  refine l_arg hC (k := 1) rfl (by omega) hL dL_law_1212 dL_law_1213 dL_law_1214 dL_law_1215 dL_law_1216 ?_
  refine l_arg hC (k := 2) rfl (by omega) hL dL_law_1217 dL_law_1218 dL_law_1219 dL_law_1220 dL_law_1221 ?_
  refine l_callXl hC [.int (xs (i + 1)), .int (xs (i + 2))] (T10_element (all_element h)) yv10_element ml10_element rfl rfl ⟨Nat.le_of_ble_eq_true rfl, Nat.le_of_ble_eq_true rfl⟩ rfl rfl (Nat.le_of_ble_eq_true rfl) dL_law_1222 (fun r u hq => ?_)
  obtain ⟨hq, rfl⟩ := hq
  refine l_aload_n hC 1 dL_law_1225 rfl rfl ?_
  refine l_arg hC (k := 1) rfl (by omega) hL dL_law_1226 dL_law_1227 dL_law_1228 dL_law_1229 dL_law_1230 ?_
  refine l_arg hC (k := 2) rfl (by omega) hL dL_law_1231 dL_law_1232 dL_law_1233 dL_law_1234 dL_law_1235 ?_
  refine l_callMl hC [.int (xs (i + 1)), .int (xs (i + 2))] (T11_element hq) yv11_element ml11_element rfl rfl ⟨Nat.le_of_ble_eq_true rfl, Nat.le_of_ble_eq_true rfl⟩ rfl rfl (Nat.le_of_ble_eq_true rfl) dL_law_1236 (fun r' v hz => ?_)
  obtain ⟨rfl, rfl⟩ := hz
  refine l_lcmp hC dL_law_1239 ?_
  exact l_if_eq hC 1364 dL_law_1240 (by decide) (fun _ => K _ _ h) (fun q => absurd (by unfold lg_cmp; simp) q)
theorem lc_32 {p : Program} {l : Launch} {e : Env} {s : State} {m : MethodId} {args : Array Value} {below : List Frame} {meth : Method} {c : Code} {Q : State → Prop} {cs ss : Nat} {Γ : lg_G} {a μ : mw_M} {b L i : Nat} {xs : Nat → Int32} (hC : lC p room_1 s m args c Γ cs ss b L xs cL_law 4 RL) (hL : L ≤ 3072) (hi : i + 6 ≤ L) (h : RR a μ) (K : ∀ a' μ', RR a' μ' → lW p l e room_1 s m args below meth c Γ 4 Q cs ss 1364 [(3, .int (nI i)), (2, .ref (mw_a (lGM Γ) 0)), (1, .ref (mw_a (lGX Γ) 0)), (0, .ref b)] [] a' μ') : lW p l e room_1 s m args below meth c Γ 4 Q cs ss 1245 [(3, .int (nI i)), (2, .ref (mw_a (lGM Γ) 0)), (1, .ref (mw_a (lGX Γ) 0)), (0, .ref b)] [] a μ := by
  refine l_aload_n hC 2 dL_law_1245 rfl rfl ?_
  refine l_arg hC (k := 1) rfl (by omega) hL dL_law_1246 dL_law_1247 dL_law_1248 dL_law_1249 dL_law_1250 ?_
  refine l_arg hC (k := 2) rfl (by omega) hL dL_law_1251 dL_law_1252 dL_law_1253 dL_law_1254 dL_law_1255 ?_
  refine l_arg hC (k := 3) rfl (by omega) hL dL_law_1256 dL_law_1257 dL_law_1258 dL_law_1259 dL_law_1260 ?_
  refine l_arg hC (k := 4) rfl (by omega) hL dL_law_1261 dL_law_1262 dL_law_1263 dL_law_1264 dL_law_1265 ?_
  refine l_arg hC (k := 5) rfl (by omega) hL dL_law_1266 dL_law_1267 dL_law_1268 dL_law_1269 dL_law_1270 ?_
  refine l_callXi hC [.int (xs (i + 1)), .int (xs (i + 2)), .int (xs (i + 3)), .int (xs (i + 4)), .int (xs (i + 5))] (T10_shift (all_shift h)) yv10_shift ml10_shift rfl rfl ⟨Nat.le_of_ble_eq_true rfl, Nat.le_of_ble_eq_true rfl⟩ rfl rfl (Nat.le_of_ble_eq_true rfl) dL_law_1271 (fun r u hq => ?_)
  refine l_aload_n hC 1 dL_law_1274 rfl rfl ?_
  refine l_arg hC (k := 1) rfl (by omega) hL dL_law_1275 dL_law_1276 dL_law_1277 dL_law_1278 dL_law_1279 ?_
  refine l_arg hC (k := 2) rfl (by omega) hL dL_law_1280 dL_law_1281 dL_law_1282 dL_law_1283 dL_law_1284 ?_
  refine l_arg hC (k := 3) rfl (by omega) hL dL_law_1285 dL_law_1286 dL_law_1287 dL_law_1288 dL_law_1289 ?_
  refine l_arg hC (k := 4) rfl (by omega) hL dL_law_1290 dL_law_1291 dL_law_1292 dL_law_1293 dL_law_1294 ?_
  refine l_arg hC (k := 5) rfl (by omega) hL dL_law_1295 dL_law_1296 dL_law_1297 dL_law_1298 dL_law_1299 ?_
  refine l_callMi hC [.int (xs (i + 1)), .int (xs (i + 2)), .int (xs (i + 3)), .int (xs (i + 4)), .int (xs (i + 5))] (T11_shift hq) yv11_shift ml11_shift rfl rfl ⟨Nat.le_of_ble_eq_true rfl, Nat.le_of_ble_eq_true rfl⟩ rfl rfl (Nat.le_of_ble_eq_true rfl) dL_law_1300 (fun r' v hz => ?_)
  obtain ⟨rfl, hz⟩ := hz
  exact l_icmp_eq hC 1364 dL_law_1303 (by decide) (fun _ => K _ _ hz) (fun q => absurd rfl q)
theorem lc_33 {p : Program} {l : Launch} {e : Env} {s : State} {m : MethodId} {args : Array Value} {below : List Frame} {meth : Method} {c : Code} {Q : State → Prop} {cs ss : Nat} {Γ : lg_G} {a μ : mw_M} {b L i : Nat} {xs : Nat → Int32} (hC : lC p room_1 s m args c Γ cs ss b L xs cL_law 4 RL) (hL : L ≤ 3072) (hi : i + 6 ≤ L) (h : RR a μ) (K : ∀ a' μ', RR a' μ' → lW p l e room_1 s m args below meth c Γ 4 Q cs ss 1364 [(3, .int (nI i)), (2, .ref (mw_a (lGM Γ) 0)), (1, .ref (mw_a (lGX Γ) 0)), (0, .ref b)] [] a' μ') : lW p l e room_1 s m args below meth c Γ 4 Q cs ss 1308 [(3, .int (nI i)), (2, .ref (mw_a (lGM Γ) 0)), (1, .ref (mw_a (lGX Γ) 0)), (0, .ref b)] [] a μ := by
  refine l_aload_n hC 2 dL_law_1308 rfl rfl ?_
  refine l_arg hC (k := 1) rfl (by omega) hL dL_law_1309 dL_law_1310 dL_law_1311 dL_law_1312 dL_law_1313 ?_
  refine l_arg hC (k := 2) rfl (by omega) hL dL_law_1314 dL_law_1315 dL_law_1316 dL_law_1317 dL_law_1318 ?_
  refine l_callXi hC [.int (xs (i + 1)), .int (xs (i + 2))] (T10_taken (all_taken h)) yv10_taken ml10_taken rfl rfl ⟨Nat.le_of_ble_eq_true rfl, Nat.le_of_ble_eq_true rfl⟩ rfl rfl (Nat.le_of_ble_eq_true rfl) dL_law_1319 (fun r u hq => ?_)
  obtain ⟨hq, rfl⟩ := hq
  refine l_aload_n hC 1 dL_law_1322 rfl rfl ?_
  refine l_arg hC (k := 1) rfl (by omega) hL dL_law_1323 dL_law_1324 dL_law_1325 dL_law_1326 dL_law_1327 ?_
  refine l_arg hC (k := 2) rfl (by omega) hL dL_law_1328 dL_law_1329 dL_law_1330 dL_law_1331 dL_law_1332 ?_
  refine l_callMi hC [.int (xs (i + 1)), .int (xs (i + 2))] (T11_taken hq) yv11_taken ml11_taken rfl rfl ⟨Nat.le_of_ble_eq_true rfl, Nat.le_of_ble_eq_true rfl⟩ rfl rfl (Nat.le_of_ble_eq_true rfl) dL_law_1333 (fun r' v hz => ?_)
  obtain ⟨rfl, rfl⟩ := hz
  exact l_icmp_eq hC 1364 dL_law_1336 (by decide) (fun _ => K _ _ h) (fun q => absurd rfl q)
theorem lc_34 {p : Program} {l : Launch} {e : Env} {s : State} {m : MethodId} {args : Array Value} {below : List Frame} {meth : Method} {c : Code} {Q : State → Prop} {cs ss : Nat} {Γ : lg_G} {a μ : mw_M} {b L i : Nat} {xs : Nat → Int32} (hC : lC p room_1 s m args c Γ cs ss b L xs cL_law 4 RL) (hL : L ≤ 3072) (hi : i + 6 ≤ L) (h : RR a μ) (K : ∀ a' μ', RR a' μ' → lW p l e room_1 s m args below meth c Γ 4 Q cs ss 1364 [(3, .int (nI i)), (2, .ref (mw_a (lGM Γ) 0)), (1, .ref (mw_a (lGX Γ) 0)), (0, .ref b)] [] a' μ') : lW p l e room_1 s m args below meth c Γ 4 Q cs ss 1341 [(3, .int (nI i)), (2, .ref (mw_a (lGM Γ) 0)), (1, .ref (mw_a (lGX Γ) 0)), (0, .ref b)] [] a μ := by
  refine l_aload_n hC 2 dL_law_1341 rfl rfl ?_
  refine l_arg hC (k := 1) rfl (by omega) hL dL_law_1342 dL_law_1343 dL_law_1344 dL_law_1345 dL_law_1346 ?_
  refine l_callXi hC [.int (xs (i + 1))] (T10_count (all_count h)) yv10_count ml10_count rfl rfl ⟨Nat.le_of_ble_eq_true rfl, Nat.le_of_ble_eq_true rfl⟩ rfl rfl (Nat.le_of_ble_eq_true rfl) dL_law_1347 (fun r u hq => ?_)
  obtain ⟨hq, rfl⟩ := hq
  refine l_aload_n hC 1 dL_law_1350 rfl rfl ?_
  refine l_arg hC (k := 1) rfl (by omega) hL dL_law_1351 dL_law_1352 dL_law_1353 dL_law_1354 dL_law_1355 ?_
  refine l_callMi hC [.int (xs (i + 1))] (T11_count hq) yv11_count ml11_count rfl rfl ⟨Nat.le_of_ble_eq_true rfl, Nat.le_of_ble_eq_true rfl⟩ rfl rfl (Nat.le_of_ble_eq_true rfl) dL_law_1356 (fun r' v hz => ?_)
  obtain ⟨rfl, rfl⟩ := hz
  exact l_icmp_eq hC 1364 dL_law_1359 (by decide) (fun _ => K _ _ h) (fun q => absurd rfl q)
