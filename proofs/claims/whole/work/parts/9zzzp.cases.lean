theorem lw_s0 {m : zM} {E : zE} (h : lwI m E) : E.1 0 = (17, 12) := by
  obtain ⟨X, ⟨t, s, a, cap, a2, cap2, ka, kcap, b, bcap, hJ⟩, -⟩ := h.1
  exact sx_0 hJ.2.2.2.2.2.2.2.1.1
theorem zcmp_rf (v : Int) : zcmp v v = 0 := by
  unfold zcmp
  rw [if_neg (by omega), if_pos rfl]
theorem lc_status {nm : String} {Q : List Frame → Array Value → State → State → Prop} {G : zG} {i : Int} {m : zM} {E : zE} (hn : G.2.2.2.2.1 ≤ 3072) (hI : lwI m E) (h0 : 0 ≤ i) (h1 : i + 6 ≤ ((G.2.2.2.2.1 : Nat) : Int)) (kt : ∀ (m : zM) (E : zE), lwI m E → zB (yL nm) Q G 1362 [zQ 0, zP 0, zP 95, zI i] [] m E) : zB (yL nm) Q G 200 [zQ 0, zP 0, zP 95, zI i] [] m E := by
  have hs0 := lw_s0 hI
  obtain ⟨E1, le, eb, hr⟩ := k_status hI 
  refine b_aload_n dL_law_200 rfl ?_
  refine b_callV mlL_13 dL_law_201 hs0 (av := []) rfl rfl (Nat.le_of_ble_eq_true rfl) hr le.1 le.2 eb.1 eb.2 ?_
  rintro _ m1 ⟨v, rfl, hsh, hr2⟩
  refine b_aload_n dL_law_204 rfl ?_
  refine b_callV mlL_17 dL_law_205 (sh_M hsh) (av := []) rfl rfl (Nat.le_of_ble_eq_true rfl) hr2 (Nat.le_refl _) (Nat.le_refl _) eb.1 eb.2 ?_
  rintro _ m2 ⟨rfl, hI2⟩
  refine b_icmp_eq (tgt := 1362) dL_law_208 rfl (fun _ => ?_) (fun h => absurd rfl h)
  exact kt m2 E1 hI2

theorem lc_feed {nm : String} {Q : List Frame → Array Value → State → State → Prop} {G : zG} {i : Int} {m : zM} {E : zE} (hn : G.2.2.2.2.1 ≤ 3072) (hI : lwI m E) (h0 : 0 ≤ i) (h1 : i + 6 ≤ ((G.2.2.2.2.1 : Nat) : Int)) (kt : ∀ (m : zM) (E : zE), lwI m E → zB (yL nm) Q G 1362 [zQ 0, zP 0, zP 95, zI i] [] m E) : zB (yL nm) Q G 213 [zQ 0, zP 0, zP 95, zI i] [] m E := by
  have hs0 := lw_s0 hI
  obtain ⟨E1, le, eb, hr⟩ := k_feed hI (sG G (i + 1)) (sG G (i + 2)) (sG G (i + 3)) (sG G (i + 4)) (sG G (i + 5))
  refine b_aload_n dL_law_213 rfl ?_
  refine b_aload_q dL_law_214 rfl ?_
  refine b_iload_n dL_law_215 rfl ?_
  refine b_iconst dL_law_216 (by decide) ?_
  refine b_add dL_law_217 (by omega) ?_
  refine b_sld (by omega) (by omega) hn dL_law_218 ?_
  refine b_aload_q dL_law_219 rfl ?_
  refine b_iload_n dL_law_220 rfl ?_
  refine b_iconst dL_law_221 (by decide) ?_
  refine b_add dL_law_222 (by omega) ?_
  refine b_sld (by omega) (by omega) hn dL_law_223 ?_
  refine b_aload_q dL_law_224 rfl ?_
  refine b_iload_n dL_law_225 rfl ?_
  refine b_iconst dL_law_226 (by decide) ?_
  refine b_add dL_law_227 (by omega) ?_
  refine b_sld (by omega) (by omega) hn dL_law_228 ?_
  refine b_aload_q dL_law_229 rfl ?_
  refine b_iload_n dL_law_230 rfl ?_
  refine b_iconst dL_law_231 (by decide) ?_
  refine b_add dL_law_232 (by omega) ?_
  refine b_sld (by omega) (by omega) hn dL_law_233 ?_
  refine b_aload_q dL_law_234 rfl ?_
  refine b_iload_n dL_law_235 rfl ?_
  refine b_iconst dL_law_236 (by decide) ?_
  refine b_add dL_law_237 (by omega) ?_
  refine b_sld (by omega) (by omega) hn dL_law_238 ?_
  refine b_callV mlL_18 dL_law_239 hs0 (av := [_, _, _, _, _]) rfl rfl (Nat.le_of_ble_eq_true rfl) hr le.1 le.2 eb.1 eb.2 ?_
  rintro _ m1 ⟨v, rfl, hsh, hr2⟩
  refine b_aload_n dL_law_242 rfl ?_
  refine b_aload_q dL_law_243 rfl ?_
  refine b_iload_n dL_law_244 rfl ?_
  refine b_iconst dL_law_245 (by decide) ?_
  refine b_add dL_law_246 (by omega) ?_
  refine b_sld (by omega) (by omega) hn dL_law_247 ?_
  refine b_aload_q dL_law_248 rfl ?_
  refine b_iload_n dL_law_249 rfl ?_
  refine b_iconst dL_law_250 (by decide) ?_
  refine b_add dL_law_251 (by omega) ?_
  refine b_sld (by omega) (by omega) hn dL_law_252 ?_
  refine b_aload_q dL_law_253 rfl ?_
  refine b_iload_n dL_law_254 rfl ?_
  refine b_iconst dL_law_255 (by decide) ?_
  refine b_add dL_law_256 (by omega) ?_
  refine b_sld (by omega) (by omega) hn dL_law_257 ?_
  refine b_aload_q dL_law_258 rfl ?_
  refine b_iload_n dL_law_259 rfl ?_
  refine b_iconst dL_law_260 (by decide) ?_
  refine b_add dL_law_261 (by omega) ?_
  refine b_sld (by omega) (by omega) hn dL_law_262 ?_
  refine b_aload_q dL_law_263 rfl ?_
  refine b_iload_n dL_law_264 rfl ?_
  refine b_iconst dL_law_265 (by decide) ?_
  refine b_add dL_law_266 (by omega) ?_
  refine b_sld (by omega) (by omega) hn dL_law_267 ?_
  refine b_callV mlL_22 dL_law_268 (sh_M hsh) (av := [_, _, _, _, _]) rfl rfl (Nat.le_of_ble_eq_true rfl) hr2 (Nat.le_refl _) (Nat.le_refl _) eb.1 eb.2 ?_
  rintro _ m2 ⟨rfl, hI2⟩
  refine b_icmp_eq (tgt := 1362) dL_law_271 rfl (fun _ => ?_) (fun h => absurd rfl h)
  exact kt m2 E1 hI2

theorem lc_load {nm : String} {Q : List Frame → Array Value → State → State → Prop} {G : zG} {i : Int} {m : zM} {E : zE} (hn : G.2.2.2.2.1 ≤ 3072) (hI : lwI m E) (h0 : 0 ≤ i) (h1 : i + 6 ≤ ((G.2.2.2.2.1 : Nat) : Int)) (kt : ∀ (m : zM) (E : zE), lwI m E → zB (yL nm) Q G 1362 [zQ 0, zP 0, zP 95, zI i] [] m E) : zB (yL nm) Q G 276 [zQ 0, zP 0, zP 95, zI i] [] m E := by
  have hs0 := lw_s0 hI
  obtain ⟨E1, le, eb, hr⟩ := k_load hI (sG G (i + 1))
  refine b_aload_n dL_law_276 rfl ?_
  refine b_aload_q dL_law_277 rfl ?_
  refine b_iload_n dL_law_278 rfl ?_
  refine b_iconst dL_law_279 (by decide) ?_
  refine b_add dL_law_280 (by omega) ?_
  refine b_sld (by omega) (by omega) hn dL_law_281 ?_
  refine b_callV mlL_23 dL_law_282 hs0 (av := [_]) rfl rfl (Nat.le_of_ble_eq_true rfl) hr le.1 le.2 eb.1 eb.2 ?_
  rintro _ m1 ⟨v, rfl, hsh, hr2⟩
  refine b_aload_n dL_law_285 rfl ?_
  refine b_aload_q dL_law_286 rfl ?_
  refine b_iload_n dL_law_287 rfl ?_
  refine b_iconst dL_law_288 (by decide) ?_
  refine b_add dL_law_289 (by omega) ?_
  refine b_sld (by omega) (by omega) hn dL_law_290 ?_
  refine b_callV mlL_27 dL_law_291 (sh_M hsh) (av := [_]) rfl rfl (Nat.le_of_ble_eq_true rfl) hr2 (Nat.le_refl _) (Nat.le_refl _) eb.1 eb.2 ?_
  rintro _ m2 ⟨rfl, hI2⟩
  refine b_icmp_eq (tgt := 1362) dL_law_294 rfl (fun _ => ?_) (fun h => absurd rfl h)
  exact kt m2 E1 hI2

theorem lc_pairs {nm : String} {Q : List Frame → Array Value → State → State → Prop} {G : zG} {i : Int} {m : zM} {E : zE} (hn : G.2.2.2.2.1 ≤ 3072) (hI : lwI m E) (h0 : 0 ≤ i) (h1 : i + 6 ≤ ((G.2.2.2.2.1 : Nat) : Int)) (kt : ∀ (m : zM) (E : zE), lwI m E → zB (yL nm) Q G 1362 [zQ 0, zP 0, zP 95, zI i] [] m E) : zB (yL nm) Q G 299 [zQ 0, zP 0, zP 95, zI i] [] m E := by
  have hs0 := lw_s0 hI
  obtain ⟨E1, le, eb, hr⟩ := k_pairs hI (sG G (i + 1))
  refine b_aload_n dL_law_299 rfl ?_
  refine b_aload_q dL_law_300 rfl ?_
  refine b_iload_n dL_law_301 rfl ?_
  refine b_iconst dL_law_302 (by decide) ?_
  refine b_add dL_law_303 (by omega) ?_
  refine b_sld (by omega) (by omega) hn dL_law_304 ?_
  refine b_callV mlL_28 dL_law_305 hs0 (av := [_]) rfl rfl (Nat.le_of_ble_eq_true rfl) hr le.1 le.2 eb.1 eb.2 ?_
  rintro _ m1 ⟨v, rfl, hsh, hr2⟩
  refine b_aload_n dL_law_308 rfl ?_
  refine b_aload_q dL_law_309 rfl ?_
  refine b_iload_n dL_law_310 rfl ?_
  refine b_iconst dL_law_311 (by decide) ?_
  refine b_add dL_law_312 (by omega) ?_
  refine b_sld (by omega) (by omega) hn dL_law_313 ?_
  refine b_callV mlL_31 dL_law_314 (sh_M hsh) (av := [_]) rfl rfl (Nat.le_of_ble_eq_true rfl) hr2 (Nat.le_refl _) (Nat.le_refl _) eb.1 eb.2 ?_
  rintro _ m2 ⟨rfl, hI2⟩
  refine b_icmp_eq (tgt := 1362) dL_law_317 rfl (fun _ => ?_) (fun h => absurd rfl h)
  exact kt m2 E1 hI2

theorem lc_lines {nm : String} {Q : List Frame → Array Value → State → State → Prop} {G : zG} {i : Int} {m : zM} {E : zE} (hn : G.2.2.2.2.1 ≤ 3072) (hI : lwI m E) (h0 : 0 ≤ i) (h1 : i + 6 ≤ ((G.2.2.2.2.1 : Nat) : Int)) (kt : ∀ (m : zM) (E : zE), lwI m E → zB (yL nm) Q G 1362 [zQ 0, zP 0, zP 95, zI i] [] m E) : zB (yL nm) Q G 322 [zQ 0, zP 0, zP 95, zI i] [] m E := by
  have hs0 := lw_s0 hI
  obtain ⟨E1, le, eb, hr⟩ := k_lines hI (sG G (i + 1))
  refine b_aload_n dL_law_322 rfl ?_
  refine b_aload_q dL_law_323 rfl ?_
  refine b_iload_n dL_law_324 rfl ?_
  refine b_iconst dL_law_325 (by decide) ?_
  refine b_add dL_law_326 (by omega) ?_
  refine b_sld (by omega) (by omega) hn dL_law_327 ?_
  refine b_callV mlL_32 dL_law_328 hs0 (av := [_]) rfl rfl (Nat.le_of_ble_eq_true rfl) hr le.1 le.2 eb.1 eb.2 ?_
  rintro _ m1 ⟨v, rfl, hsh, hr2⟩
  refine b_aload_n dL_law_331 rfl ?_
  refine b_aload_q dL_law_332 rfl ?_
  refine b_iload_n dL_law_333 rfl ?_
  refine b_iconst dL_law_334 (by decide) ?_
  refine b_add dL_law_335 (by omega) ?_
  refine b_sld (by omega) (by omega) hn dL_law_336 ?_
  refine b_callV mlL_35 dL_law_337 (sh_M hsh) (av := [_]) rfl rfl (Nat.le_of_ble_eq_true rfl) hr2 (Nat.le_refl _) (Nat.le_refl _) eb.1 eb.2 ?_
  rintro _ m2 ⟨rfl, hI2⟩
  refine b_icmp_eq (tgt := 1362) dL_law_340 rfl (fun _ => ?_) (fun h => absurd rfl h)
  exact kt m2 E1 hI2

theorem lc_fault {nm : String} {Q : List Frame → Array Value → State → State → Prop} {G : zG} {i : Int} {m : zM} {E : zE} (hn : G.2.2.2.2.1 ≤ 3072) (hI : lwI m E) (h0 : 0 ≤ i) (h1 : i + 6 ≤ ((G.2.2.2.2.1 : Nat) : Int)) (kt : ∀ (m : zM) (E : zE), lwI m E → zB (yL nm) Q G 1362 [zQ 0, zP 0, zP 95, zI i] [] m E) : zB (yL nm) Q G 345 [zQ 0, zP 0, zP 95, zI i] [] m E := by
  have hs0 := lw_s0 hI
  obtain ⟨E1, le, eb, hr⟩ := k_fault hI (sG G (i + 1))
  refine b_aload_n dL_law_345 rfl ?_
  refine b_aload_q dL_law_346 rfl ?_
  refine b_iload_n dL_law_347 rfl ?_
  refine b_iconst dL_law_348 (by decide) ?_
  refine b_add dL_law_349 (by omega) ?_
  refine b_sld (by omega) (by omega) hn dL_law_350 ?_
  refine b_callV mlL_36 dL_law_351 hs0 (av := [_]) rfl rfl (Nat.le_of_ble_eq_true rfl) hr le.1 le.2 eb.1 eb.2 ?_
  rintro _ m1 ⟨v, rfl, hsh, hr2⟩
  refine b_aload_n dL_law_354 rfl ?_
  refine b_aload_q dL_law_355 rfl ?_
  refine b_iload_n dL_law_356 rfl ?_
  refine b_iconst dL_law_357 (by decide) ?_
  refine b_add dL_law_358 (by omega) ?_
  refine b_sld (by omega) (by omega) hn dL_law_359 ?_
  refine b_callV mlL_39 dL_law_360 (sh_M hsh) (av := [_]) rfl rfl (Nat.le_of_ble_eq_true rfl) hr2 (Nat.le_refl _) (Nat.le_refl _) eb.1 eb.2 ?_
  rintro _ m2 ⟨rfl, hI2⟩
  refine b_icmp_eq (tgt := 1362) dL_law_363 rfl (fun _ => ?_) (fun h => absurd rfl h)
  exact kt m2 E1 hI2

theorem lc_many {nm : String} {Q : List Frame → Array Value → State → State → Prop} {G : zG} {i : Int} {m : zM} {E : zE} (hn : G.2.2.2.2.1 ≤ 3072) (hI : lwI m E) (h0 : 0 ≤ i) (h1 : i + 6 ≤ ((G.2.2.2.2.1 : Nat) : Int)) (kt : ∀ (m : zM) (E : zE), lwI m E → zB (yL nm) Q G 1362 [zQ 0, zP 0, zP 95, zI i] [] m E) : zB (yL nm) Q G 368 [zQ 0, zP 0, zP 95, zI i] [] m E := by
  have hs0 := lw_s0 hI
  obtain ⟨E1, le, eb, hr⟩ := k_many hI (sG G (i + 1))
  refine b_aload_n dL_law_368 rfl ?_
  refine b_aload_q dL_law_369 rfl ?_
  refine b_iload_n dL_law_370 rfl ?_
  refine b_iconst dL_law_371 (by decide) ?_
  refine b_add dL_law_372 (by omega) ?_
  refine b_sld (by omega) (by omega) hn dL_law_373 ?_
  refine b_callV mlL_40 dL_law_374 hs0 (av := [_]) rfl rfl (Nat.le_of_ble_eq_true rfl) hr le.1 le.2 eb.1 eb.2 ?_
  rintro _ m1 ⟨v, rfl, hsh, hr2⟩
  refine b_aload_n dL_law_377 rfl ?_
  refine b_aload_q dL_law_378 rfl ?_
  refine b_iload_n dL_law_379 rfl ?_
  refine b_iconst dL_law_380 (by decide) ?_
  refine b_add dL_law_381 (by omega) ?_
  refine b_sld (by omega) (by omega) hn dL_law_382 ?_
  refine b_callV mlL_43 dL_law_383 (sh_M hsh) (av := [_]) rfl rfl (Nat.le_of_ble_eq_true rfl) hr2 (Nat.le_refl _) (Nat.le_refl _) eb.1 eb.2 ?_
  rintro _ m2 ⟨rfl, hI2⟩
  refine b_icmp_eq (tgt := 1362) dL_law_386 rfl (fun _ => ?_) (fun h => absurd rfl h)
  exact kt m2 E1 hI2

theorem lc_letter {nm : String} {Q : List Frame → Array Value → State → State → Prop} {G : zG} {i : Int} {m : zM} {E : zE} (hn : G.2.2.2.2.1 ≤ 3072) (hI : lwI m E) (h0 : 0 ≤ i) (h1 : i + 6 ≤ ((G.2.2.2.2.1 : Nat) : Int)) (kt : ∀ (m : zM) (E : zE), lwI m E → zB (yL nm) Q G 1362 [zQ 0, zP 0, zP 95, zI i] [] m E) : zB (yL nm) Q G 391 [zQ 0, zP 0, zP 95, zI i] [] m E := by
  have hs0 := lw_s0 hI
  obtain ⟨E1, le, eb, hr⟩ := k_letter hI (sG G (i + 1)) (sG G (i + 2))
  refine b_aload_n dL_law_391 rfl ?_
  refine b_aload_q dL_law_392 rfl ?_
  refine b_iload_n dL_law_393 rfl ?_
  refine b_iconst dL_law_394 (by decide) ?_
  refine b_add dL_law_395 (by omega) ?_
  refine b_sld (by omega) (by omega) hn dL_law_396 ?_
  refine b_aload_q dL_law_397 rfl ?_
  refine b_iload_n dL_law_398 rfl ?_
  refine b_iconst dL_law_399 (by decide) ?_
  refine b_add dL_law_400 (by omega) ?_
  refine b_sld (by omega) (by omega) hn dL_law_401 ?_
  refine b_callV mlL_44 dL_law_402 hs0 (av := [_, _]) rfl rfl (Nat.le_of_ble_eq_true rfl) hr le.1 le.2 eb.1 eb.2 ?_
  rintro _ m1 ⟨v, rfl, hsh, hr2⟩
  refine b_aload_n dL_law_405 rfl ?_
  refine b_aload_q dL_law_406 rfl ?_
  refine b_iload_n dL_law_407 rfl ?_
  refine b_iconst dL_law_408 (by decide) ?_
  refine b_add dL_law_409 (by omega) ?_
  refine b_sld (by omega) (by omega) hn dL_law_410 ?_
  refine b_aload_q dL_law_411 rfl ?_
  refine b_iload_n dL_law_412 rfl ?_
  refine b_iconst dL_law_413 (by decide) ?_
  refine b_add dL_law_414 (by omega) ?_
  refine b_sld (by omega) (by omega) hn dL_law_415 ?_
  refine b_callV mlL_48 dL_law_416 (sh_M hsh) (av := [_, _]) rfl rfl (Nat.le_of_ble_eq_true rfl) hr2 (Nat.le_refl _) (Nat.le_refl _) eb.1 eb.2 ?_
  rintro _ m2 ⟨rfl, hI2⟩
  refine b_icmp_eq (tgt := 1362) dL_law_419 rfl (fun _ => ?_) (fun h => absurd rfl h)
  exact kt m2 E1 hI2

theorem lc_field {nm : String} {Q : List Frame → Array Value → State → State → Prop} {G : zG} {i : Int} {m : zM} {E : zE} (hn : G.2.2.2.2.1 ≤ 3072) (hI : lwI m E) (h0 : 0 ≤ i) (h1 : i + 6 ≤ ((G.2.2.2.2.1 : Nat) : Int)) (kt : ∀ (m : zM) (E : zE), lwI m E → zB (yL nm) Q G 1362 [zQ 0, zP 0, zP 95, zI i] [] m E) : zB (yL nm) Q G 424 [zQ 0, zP 0, zP 95, zI i] [] m E := by
  have hs0 := lw_s0 hI
  obtain ⟨E1, le, eb, hr⟩ := k_field hI (sG G (i + 1)) (sG G (i + 2))
  refine b_aload_n dL_law_424 rfl ?_
  refine b_aload_q dL_law_425 rfl ?_
  refine b_iload_n dL_law_426 rfl ?_
  refine b_iconst dL_law_427 (by decide) ?_
  refine b_add dL_law_428 (by omega) ?_
  refine b_sld (by omega) (by omega) hn dL_law_429 ?_
  refine b_aload_q dL_law_430 rfl ?_
  refine b_iload_n dL_law_431 rfl ?_
  refine b_iconst dL_law_432 (by decide) ?_
  refine b_add dL_law_433 (by omega) ?_
  refine b_sld (by omega) (by omega) hn dL_law_434 ?_
  refine b_callV mlL_49 dL_law_435 hs0 (av := [_, _]) rfl rfl (Nat.le_of_ble_eq_true rfl) hr le.1 le.2 eb.1 eb.2 ?_
  rintro _ m1 ⟨v, rfl, hsh, hr2⟩
  refine b_aload_n dL_law_438 rfl ?_
  refine b_aload_q dL_law_439 rfl ?_
  refine b_iload_n dL_law_440 rfl ?_
  refine b_iconst dL_law_441 (by decide) ?_
  refine b_add dL_law_442 (by omega) ?_
  refine b_sld (by omega) (by omega) hn dL_law_443 ?_
  refine b_aload_q dL_law_444 rfl ?_
  refine b_iload_n dL_law_445 rfl ?_
  refine b_iconst dL_law_446 (by decide) ?_
  refine b_add dL_law_447 (by omega) ?_
  refine b_sld (by omega) (by omega) hn dL_law_448 ?_
  refine b_callV mlL_52 dL_law_449 (sh_M hsh) (av := [_, _]) rfl rfl (Nat.le_of_ble_eq_true rfl) hr2 (Nat.le_refl _) (Nat.le_refl _) eb.1 eb.2 ?_
  rintro _ m2 ⟨rfl, hI2⟩
  refine b_icmp_eq (tgt := 1362) dL_law_452 rfl (fun _ => ?_) (fun h => absurd rfl h)
  exact kt m2 E1 hI2

theorem lc_point {nm : String} {Q : List Frame → Array Value → State → State → Prop} {G : zG} {i : Int} {m : zM} {E : zE} (hn : G.2.2.2.2.1 ≤ 3072) (hI : lwI m E) (h0 : 0 ≤ i) (h1 : i + 6 ≤ ((G.2.2.2.2.1 : Nat) : Int)) (kt : ∀ (m : zM) (E : zE), lwI m E → zB (yL nm) Q G 1362 [zQ 0, zP 0, zP 95, zI i] [] m E) : zB (yL nm) Q G 457 [zQ 0, zP 0, zP 95, zI i] [] m E := by
  have hs0 := lw_s0 hI
  obtain ⟨E1, le, eb, hr⟩ := k_point hI (sG G (i + 1)) (sG G (i + 2))
  refine b_aload_n dL_law_457 rfl ?_
  refine b_aload_q dL_law_458 rfl ?_
  refine b_iload_n dL_law_459 rfl ?_
  refine b_iconst dL_law_460 (by decide) ?_
  refine b_add dL_law_461 (by omega) ?_
  refine b_sld (by omega) (by omega) hn dL_law_462 ?_
  refine b_aload_q dL_law_463 rfl ?_
  refine b_iload_n dL_law_464 rfl ?_
  refine b_iconst dL_law_465 (by decide) ?_
  refine b_add dL_law_466 (by omega) ?_
  refine b_sld (by omega) (by omega) hn dL_law_467 ?_
  refine b_callV mlL_53 dL_law_468 hs0 (av := [_, _]) rfl rfl (Nat.le_of_ble_eq_true rfl) hr le.1 le.2 eb.1 eb.2 ?_
  rintro _ m1 ⟨v, rfl, hsh, hr2⟩
  refine b_aload_n dL_law_471 rfl ?_
  refine b_aload_q dL_law_472 rfl ?_
  refine b_iload_n dL_law_473 rfl ?_
  refine b_iconst dL_law_474 (by decide) ?_
  refine b_add dL_law_475 (by omega) ?_
  refine b_sld (by omega) (by omega) hn dL_law_476 ?_
  refine b_aload_q dL_law_477 rfl ?_
  refine b_iload_n dL_law_478 rfl ?_
  refine b_iconst dL_law_479 (by decide) ?_
  refine b_add dL_law_480 (by omega) ?_
  refine b_sld (by omega) (by omega) hn dL_law_481 ?_
  refine b_callV mlL_56 dL_law_482 (sh_M hsh) (av := [_, _]) rfl rfl (Nat.le_of_ble_eq_true rfl) hr2 (Nat.le_refl _) (Nat.le_refl _) eb.1 eb.2 ?_
  rintro _ m2 ⟨rfl, hI2⟩
  refine b_icmp_eq (tgt := 1362) dL_law_485 rfl (fun _ => ?_) (fun h => absurd rfl h)
  exact kt m2 E1 hI2

theorem lc_code {nm : String} {Q : List Frame → Array Value → State → State → Prop} {G : zG} {i : Int} {m : zM} {E : zE} (hn : G.2.2.2.2.1 ≤ 3072) (hI : lwI m E) (h0 : 0 ≤ i) (h1 : i + 6 ≤ ((G.2.2.2.2.1 : Nat) : Int)) (kt : ∀ (m : zM) (E : zE), lwI m E → zB (yL nm) Q G 1362 [zQ 0, zP 0, zP 95, zI i] [] m E) : zB (yL nm) Q G 490 [zQ 0, zP 0, zP 95, zI i] [] m E := by
  have hs0 := lw_s0 hI
  obtain ⟨E1, le, eb, hr⟩ := k_code hI (sG G (i + 1)) (sG G (i + 2))
  refine b_aload_n dL_law_490 rfl ?_
  refine b_aload_q dL_law_491 rfl ?_
  refine b_iload_n dL_law_492 rfl ?_
  refine b_iconst dL_law_493 (by decide) ?_
  refine b_add dL_law_494 (by omega) ?_
  refine b_sld (by omega) (by omega) hn dL_law_495 ?_
  refine b_aload_q dL_law_496 rfl ?_
  refine b_iload_n dL_law_497 rfl ?_
  refine b_iconst dL_law_498 (by decide) ?_
  refine b_add dL_law_499 (by omega) ?_
  refine b_sld (by omega) (by omega) hn dL_law_500 ?_
  refine b_callV mlL_57 dL_law_501 hs0 (av := [_, _]) rfl rfl (Nat.le_of_ble_eq_true rfl) hr le.1 le.2 eb.1 eb.2 ?_
  rintro _ m1 ⟨v, rfl, hsh, hr2⟩
  refine b_aload_n dL_law_504 rfl ?_
  refine b_aload_q dL_law_505 rfl ?_
  refine b_iload_n dL_law_506 rfl ?_
  refine b_iconst dL_law_507 (by decide) ?_
  refine b_add dL_law_508 (by omega) ?_
  refine b_sld (by omega) (by omega) hn dL_law_509 ?_
  refine b_aload_q dL_law_510 rfl ?_
  refine b_iload_n dL_law_511 rfl ?_
  refine b_iconst dL_law_512 (by decide) ?_
  refine b_add dL_law_513 (by omega) ?_
  refine b_sld (by omega) (by omega) hn dL_law_514 ?_
  refine b_callV mlL_60 dL_law_515 (sh_M hsh) (av := [_, _]) rfl rfl (Nat.le_of_ble_eq_true rfl) hr2 (Nat.le_refl _) (Nat.le_refl _) eb.1 eb.2 ?_
  rintro _ m2 ⟨rfl, hI2⟩
  refine b_icmp_eq (tgt := 1362) dL_law_518 rfl (fun _ => ?_) (fun h => absurd rfl h)
  exact kt m2 E1 hI2

theorem lc_drop {nm : String} {Q : List Frame → Array Value → State → State → Prop} {G : zG} {i : Int} {m : zM} {E : zE} (hn : G.2.2.2.2.1 ≤ 3072) (hI : lwI m E) (h0 : 0 ≤ i) (h1 : i + 6 ≤ ((G.2.2.2.2.1 : Nat) : Int)) (kt : ∀ (m : zM) (E : zE), lwI m E → zB (yL nm) Q G 1362 [zQ 0, zP 0, zP 95, zI i] [] m E) : zB (yL nm) Q G 523 [zQ 0, zP 0, zP 95, zI i] [] m E := by
  have hs0 := lw_s0 hI
  obtain ⟨E1, le, eb, hr⟩ := k_drop hI (sG G (i + 1))
  refine b_aload_n dL_law_523 rfl ?_
  refine b_aload_q dL_law_524 rfl ?_
  refine b_iload_n dL_law_525 rfl ?_
  refine b_iconst dL_law_526 (by decide) ?_
  refine b_add dL_law_527 (by omega) ?_
  refine b_sld (by omega) (by omega) hn dL_law_528 ?_
  refine b_callV mlL_61 dL_law_529 hs0 (av := [_]) rfl rfl (Nat.le_of_ble_eq_true rfl) hr le.1 le.2 eb.1 eb.2 ?_
  rintro _ m1 ⟨v, rfl, hsh, hr2⟩
  refine b_aload_n dL_law_532 rfl ?_
  refine b_aload_q dL_law_533 rfl ?_
  refine b_iload_n dL_law_534 rfl ?_
  refine b_iconst dL_law_535 (by decide) ?_
  refine b_add dL_law_536 (by omega) ?_
  refine b_sld (by omega) (by omega) hn dL_law_537 ?_
  refine b_callV mlL_64 dL_law_538 (sh_M hsh) (av := [_]) rfl rfl (Nat.le_of_ble_eq_true rfl) hr2 (Nat.le_refl _) (Nat.le_refl _) eb.1 eb.2 ?_
  rintro _ m2 ⟨rfl, hI2⟩
  refine b_icmp_eq (tgt := 1362) dL_law_541 rfl (fun _ => ?_) (fun h => absurd rfl h)
  exact kt m2 E1 hI2

theorem lc_move {nm : String} {Q : List Frame → Array Value → State → State → Prop} {G : zG} {i : Int} {m : zM} {E : zE} (hn : G.2.2.2.2.1 ≤ 3072) (hI : lwI m E) (h0 : 0 ≤ i) (h1 : i + 6 ≤ ((G.2.2.2.2.1 : Nat) : Int)) (kt : ∀ (m : zM) (E : zE), lwI m E → zB (yL nm) Q G 1362 [zQ 0, zP 0, zP 95, zI i] [] m E) : zB (yL nm) Q G 546 [zQ 0, zP 0, zP 95, zI i] [] m E := by
  have hs0 := lw_s0 hI
  obtain ⟨E1, le, eb, hr⟩ := k_move hI (sG G (i + 1)) (sG G (i + 2))
  refine b_aload_n dL_law_546 rfl ?_
  refine b_aload_q dL_law_547 rfl ?_
  refine b_iload_n dL_law_548 rfl ?_
  refine b_iconst dL_law_549 (by decide) ?_
  refine b_add dL_law_550 (by omega) ?_
  refine b_sld (by omega) (by omega) hn dL_law_551 ?_
  refine b_aload_q dL_law_552 rfl ?_
  refine b_iload_n dL_law_553 rfl ?_
  refine b_iconst dL_law_554 (by decide) ?_
  refine b_add dL_law_555 (by omega) ?_
  refine b_sld (by omega) (by omega) hn dL_law_556 ?_
  refine b_callV mlL_65 dL_law_557 hs0 (av := [_, _]) rfl rfl (Nat.le_of_ble_eq_true rfl) hr le.1 le.2 eb.1 eb.2 ?_
  rintro _ m1 ⟨v, rfl, hsh, hr2⟩
  refine b_aload_n dL_law_560 rfl ?_
  refine b_aload_q dL_law_561 rfl ?_
  refine b_iload_n dL_law_562 rfl ?_
  refine b_iconst dL_law_563 (by decide) ?_
  refine b_add dL_law_564 (by omega) ?_
  refine b_sld (by omega) (by omega) hn dL_law_565 ?_
  refine b_aload_q dL_law_566 rfl ?_
  refine b_iload_n dL_law_567 rfl ?_
  refine b_iconst dL_law_568 (by decide) ?_
  refine b_add dL_law_569 (by omega) ?_
  refine b_sld (by omega) (by omega) hn dL_law_570 ?_
  refine b_callV mlL_68 dL_law_571 (sh_M hsh) (av := [_, _]) rfl rfl (Nat.le_of_ble_eq_true rfl) hr2 (Nat.le_refl _) (Nat.le_refl _) eb.1 eb.2 ?_
  rintro _ m2 ⟨rfl, hI2⟩
  refine b_icmp_eq (tgt := 1362) dL_law_574 rfl (fun _ => ?_) (fun h => absurd rfl h)
  exact kt m2 E1 hI2

theorem lc_swap {nm : String} {Q : List Frame → Array Value → State → State → Prop} {G : zG} {i : Int} {m : zM} {E : zE} (hn : G.2.2.2.2.1 ≤ 3072) (hI : lwI m E) (h0 : 0 ≤ i) (h1 : i + 6 ≤ ((G.2.2.2.2.1 : Nat) : Int)) (kt : ∀ (m : zM) (E : zE), lwI m E → zB (yL nm) Q G 1362 [zQ 0, zP 0, zP 95, zI i] [] m E) : zB (yL nm) Q G 579 [zQ 0, zP 0, zP 95, zI i] [] m E := by
  have hs0 := lw_s0 hI
  obtain ⟨E1, le, eb, hr⟩ := k_swap hI (sG G (i + 1))
  refine b_aload_n dL_law_579 rfl ?_
  refine b_aload_q dL_law_580 rfl ?_
  refine b_iload_n dL_law_581 rfl ?_
  refine b_iconst dL_law_582 (by decide) ?_
  refine b_add dL_law_583 (by omega) ?_
  refine b_sld (by omega) (by omega) hn dL_law_584 ?_
  refine b_callV mlL_69 dL_law_585 hs0 (av := [_]) rfl rfl (Nat.le_of_ble_eq_true rfl) hr le.1 le.2 eb.1 eb.2 ?_
  rintro _ m1 ⟨v, rfl, hsh, hr2⟩
  refine b_aload_n dL_law_588 rfl ?_
  refine b_aload_q dL_law_589 rfl ?_
  refine b_iload_n dL_law_590 rfl ?_
  refine b_iconst dL_law_591 (by decide) ?_
  refine b_add dL_law_592 (by omega) ?_
  refine b_sld (by omega) (by omega) hn dL_law_593 ?_
  refine b_callV mlL_72 dL_law_594 (sh_M hsh) (av := [_]) rfl rfl (Nat.le_of_ble_eq_true rfl) hr2 (Nat.le_refl _) (Nat.le_refl _) eb.1 eb.2 ?_
  rintro _ m2 ⟨rfl, hI2⟩
  refine b_icmp_eq (tgt := 1362) dL_law_597 rfl (fun _ => ?_) (fun h => absurd rfl h)
  exact kt m2 E1 hI2

theorem lc_normal {nm : String} {Q : List Frame → Array Value → State → State → Prop} {G : zG} {i : Int} {m : zM} {E : zE} (hn : G.2.2.2.2.1 ≤ 3072) (hI : lwI m E) (h0 : 0 ≤ i) (h1 : i + 6 ≤ ((G.2.2.2.2.1 : Nat) : Int)) (kt : ∀ (m : zM) (E : zE), lwI m E → zB (yL nm) Q G 1362 [zQ 0, zP 0, zP 95, zI i] [] m E) : zB (yL nm) Q G 602 [zQ 0, zP 0, zP 95, zI i] [] m E := by
  have hs0 := lw_s0 hI
  by_cases hz : sG G (i + 2) = 0
  · obtain ⟨E1, le, eb, hr⟩ := k_normal hI (sG G (i + 1)) 0 (Or.inl rfl)
    refine b_aload_n dL_law_602 rfl ?_
    refine b_aload_q dL_law_603 rfl ?_
    refine b_iload_n dL_law_604 rfl ?_
    refine b_iconst dL_law_605 (by decide) ?_
    refine b_add dL_law_606 (by omega) ?_
    refine b_sld (by omega) (by omega) hn dL_law_607 ?_
    refine b_aload_q dL_law_608 rfl ?_
    refine b_iload_n dL_law_609 rfl ?_
    refine b_iconst dL_law_610 (by decide) ?_
    refine b_add dL_law_611 (by omega) ?_
    refine b_sld (by omega) (by omega) hn dL_law_612 ?_
    refine b_if_eq (tgt := 620) dL_law_613 rfl (fun _ => ?_) (fun h => absurd hz h)
    refine b_iconst dL_law_620 (by decide) ?_
    refine b_callV mlL_73 dL_law_621 hs0 (av := [_, _]) rfl rfl (Nat.le_of_ble_eq_true rfl) hr le.1 le.2 eb.1 eb.2 ?_
    rintro _ m1 ⟨v, rfl, hsh, hr2⟩
    refine b_aload_n dL_law_624 rfl ?_
    refine b_aload_q dL_law_625 rfl ?_
    refine b_iload_n dL_law_626 rfl ?_
    refine b_iconst dL_law_627 (by decide) ?_
    refine b_add dL_law_628 (by omega) ?_
    refine b_sld (by omega) (by omega) hn dL_law_629 ?_
    refine b_aload_q dL_law_630 rfl ?_
    refine b_iload_n dL_law_631 rfl ?_
    refine b_iconst dL_law_632 (by decide) ?_
    refine b_add dL_law_633 (by omega) ?_
    refine b_sld (by omega) (by omega) hn dL_law_634 ?_
    refine b_if_eq (tgt := 642) dL_law_635 rfl (fun _ => ?_) (fun h => absurd hz h)
    refine b_iconst dL_law_642 (by decide) ?_
    refine b_callV mlL_77 dL_law_643 (sh_M hsh) (av := [_, _]) rfl rfl (Nat.le_of_ble_eq_true rfl) hr2 (Nat.le_refl _) (Nat.le_refl _) eb.1 eb.2 ?_
    rintro _ m2 ⟨rfl, hI2⟩
    refine b_icmp_eq (tgt := 1362) dL_law_646 rfl (fun _ => ?_) (fun h => absurd rfl h)
    exact kt m2 E1 hI2
  · obtain ⟨E1, le, eb, hr⟩ := k_normal hI (sG G (i + 1)) 1 (Or.inr rfl)
    refine b_aload_n dL_law_602 rfl ?_
    refine b_aload_q dL_law_603 rfl ?_
    refine b_iload_n dL_law_604 rfl ?_
    refine b_iconst dL_law_605 (by decide) ?_
    refine b_add dL_law_606 (by omega) ?_
    refine b_sld (by omega) (by omega) hn dL_law_607 ?_
    refine b_aload_q dL_law_608 rfl ?_
    refine b_iload_n dL_law_609 rfl ?_
    refine b_iconst dL_law_610 (by decide) ?_
    refine b_add dL_law_611 (by omega) ?_
    refine b_sld (by omega) (by omega) hn dL_law_612 ?_
    refine b_if_eq (tgt := 620) dL_law_613 rfl (fun h => absurd h hz) (fun _ => ?_)
    refine b_iconst dL_law_616 (by decide) ?_
    refine b_goto (tgt := 621) dL_law_617 rfl ?_
    refine b_callV mlL_73 dL_law_621 hs0 (av := [_, _]) rfl rfl (Nat.le_of_ble_eq_true rfl) hr le.1 le.2 eb.1 eb.2 ?_
    rintro _ m1 ⟨v, rfl, hsh, hr2⟩
    refine b_aload_n dL_law_624 rfl ?_
    refine b_aload_q dL_law_625 rfl ?_
    refine b_iload_n dL_law_626 rfl ?_
    refine b_iconst dL_law_627 (by decide) ?_
    refine b_add dL_law_628 (by omega) ?_
    refine b_sld (by omega) (by omega) hn dL_law_629 ?_
    refine b_aload_q dL_law_630 rfl ?_
    refine b_iload_n dL_law_631 rfl ?_
    refine b_iconst dL_law_632 (by decide) ?_
    refine b_add dL_law_633 (by omega) ?_
    refine b_sld (by omega) (by omega) hn dL_law_634 ?_
    refine b_if_eq (tgt := 642) dL_law_635 rfl (fun h => absurd h hz) (fun _ => ?_)
    refine b_iconst dL_law_638 (by decide) ?_
    refine b_goto (tgt := 643) dL_law_639 rfl ?_
    refine b_callV mlL_77 dL_law_643 (sh_M hsh) (av := [_, _]) rfl rfl (Nat.le_of_ble_eq_true rfl) hr2 (Nat.le_refl _) (Nat.le_refl _) eb.1 eb.2 ?_
    rintro _ m2 ⟨rfl, hI2⟩
    refine b_icmp_eq (tgt := 1362) dL_law_646 rfl (fun _ => ?_) (fun h => absurd rfl h)
    exact kt m2 E1 hI2

theorem lc_copy {nm : String} {Q : List Frame → Array Value → State → State → Prop} {G : zG} {i : Int} {m : zM} {E : zE} (hn : G.2.2.2.2.1 ≤ 3072) (hI : lwI m E) (h0 : 0 ≤ i) (h1 : i + 6 ≤ ((G.2.2.2.2.1 : Nat) : Int)) (kt : ∀ (m : zM) (E : zE), lwI m E → zB (yL nm) Q G 1362 [zQ 0, zP 0, zP 95, zI i] [] m E) : zB (yL nm) Q G 651 [zQ 0, zP 0, zP 95, zI i] [] m E := by
  have hs0 := lw_s0 hI
  obtain ⟨E1, le, eb, hr⟩ := k_copy hI (sG G (i + 1))
  refine b_aload_n dL_law_651 rfl ?_
  refine b_aload_q dL_law_652 rfl ?_
  refine b_iload_n dL_law_653 rfl ?_
  refine b_iconst dL_law_654 (by decide) ?_
  refine b_add dL_law_655 (by omega) ?_
  refine b_sld (by omega) (by omega) hn dL_law_656 ?_
  refine b_callV mlL_78 dL_law_657 hs0 (av := [_]) rfl rfl (Nat.le_of_ble_eq_true rfl) hr le.1 le.2 eb.1 eb.2 ?_
  rintro _ m1 ⟨v, rfl, hsh, hr2⟩
  refine b_aload_n dL_law_660 rfl ?_
  refine b_aload_q dL_law_661 rfl ?_
  refine b_iload_n dL_law_662 rfl ?_
  refine b_iconst dL_law_663 (by decide) ?_
  refine b_add dL_law_664 (by omega) ?_
  refine b_sld (by omega) (by omega) hn dL_law_665 ?_
  refine b_callV mlL_81 dL_law_666 (sh_M hsh) (av := [_]) rfl rfl (Nat.le_of_ble_eq_true rfl) hr2 (Nat.le_refl _) (Nat.le_refl _) eb.1 eb.2 ?_
  rintro _ m2 ⟨rfl, hI2⟩
  refine b_icmp_eq (tgt := 1362) dL_law_669 rfl (fun _ => ?_) (fun h => absurd rfl h)
  exact kt m2 E1 hI2

theorem lc_worth {nm : String} {Q : List Frame → Array Value → State → State → Prop} {G : zG} {i : Int} {m : zM} {E : zE} (hn : G.2.2.2.2.1 ≤ 3072) (hI : lwI m E) (h0 : 0 ≤ i) (h1 : i + 6 ≤ ((G.2.2.2.2.1 : Nat) : Int)) (kt : ∀ (m : zM) (E : zE), lwI m E → zB (yL nm) Q G 1362 [zQ 0, zP 0, zP 95, zI i] [] m E) : zB (yL nm) Q G 674 [zQ 0, zP 0, zP 95, zI i] [] m E := by
  have hs0 := lw_s0 hI
  obtain ⟨E1, le, eb, hr⟩ := k_worth hI (sG G (i + 1)) (sG G (i + 2))
  refine b_aload_n dL_law_674 rfl ?_
  refine b_aload_q dL_law_675 rfl ?_
  refine b_iload_n dL_law_676 rfl ?_
  refine b_iconst dL_law_677 (by decide) ?_
  refine b_add dL_law_678 (by omega) ?_
  refine b_sld (by omega) (by omega) hn dL_law_679 ?_
  refine b_aload_q dL_law_680 rfl ?_
  refine b_iload_n dL_law_681 rfl ?_
  refine b_iconst dL_law_682 (by decide) ?_
  refine b_add dL_law_683 (by omega) ?_
  refine b_sld (by omega) (by omega) hn dL_law_684 ?_
  refine b_callV mlL_82 dL_law_685 hs0 (av := [_, _]) rfl rfl (Nat.le_of_ble_eq_true rfl) hr le.1 le.2 eb.1 eb.2 ?_
  rintro _ m1 ⟨v, rfl, hsh, hr2⟩
  refine b_aload_n dL_law_688 rfl ?_
  refine b_aload_q dL_law_689 rfl ?_
  refine b_iload_n dL_law_690 rfl ?_
  refine b_iconst dL_law_691 (by decide) ?_
  refine b_add dL_law_692 (by omega) ?_
  refine b_sld (by omega) (by omega) hn dL_law_693 ?_
  refine b_aload_q dL_law_694 rfl ?_
  refine b_iload_n dL_law_695 rfl ?_
  refine b_iconst dL_law_696 (by decide) ?_
  refine b_add dL_law_697 (by omega) ?_
  refine b_sld (by omega) (by omega) hn dL_law_698 ?_
  refine b_callV mlL_85 dL_law_699 (sh_M hsh) (av := [_, _]) rfl rfl (Nat.le_of_ble_eq_true rfl) hr2 (Nat.le_refl _) (Nat.le_refl _) eb.1 eb.2 ?_
  rintro _ m2 ⟨rfl, hI2⟩
  refine b_icmp_eq (tgt := 1362) dL_law_702 rfl (fun _ => ?_) (fun h => absurd rfl h)
  exact kt m2 E1 hI2

theorem lc_mate {nm : String} {Q : List Frame → Array Value → State → State → Prop} {G : zG} {i : Int} {m : zM} {E : zE} (hn : G.2.2.2.2.1 ≤ 3072) (hI : lwI m E) (h0 : 0 ≤ i) (h1 : i + 6 ≤ ((G.2.2.2.2.1 : Nat) : Int)) (kt : ∀ (m : zM) (E : zE), lwI m E → zB (yL nm) Q G 1362 [zQ 0, zP 0, zP 95, zI i] [] m E) : zB (yL nm) Q G 707 [zQ 0, zP 0, zP 95, zI i] [] m E := by
  have hs0 := lw_s0 hI
  obtain ⟨E1, le, eb, hr⟩ := k_mate hI (sG G (i + 1)) (sG G (i + 2))
  refine b_aload_n dL_law_707 rfl ?_
  refine b_aload_q dL_law_708 rfl ?_
  refine b_iload_n dL_law_709 rfl ?_
  refine b_iconst dL_law_710 (by decide) ?_
  refine b_add dL_law_711 (by omega) ?_
  refine b_sld (by omega) (by omega) hn dL_law_712 ?_
  refine b_aload_q dL_law_713 rfl ?_
  refine b_iload_n dL_law_714 rfl ?_
  refine b_iconst dL_law_715 (by decide) ?_
  refine b_add dL_law_716 (by omega) ?_
  refine b_sld (by omega) (by omega) hn dL_law_717 ?_
  refine b_callV mlL_86 dL_law_718 hs0 (av := [_, _]) rfl rfl (Nat.le_of_ble_eq_true rfl) hr le.1 le.2 eb.1 eb.2 ?_
  rintro _ m1 ⟨v, rfl, hsh, hr2⟩
  refine b_aload_n dL_law_721 rfl ?_
  refine b_aload_q dL_law_722 rfl ?_
  refine b_iload_n dL_law_723 rfl ?_
  refine b_iconst dL_law_724 (by decide) ?_
  refine b_add dL_law_725 (by omega) ?_
  refine b_sld (by omega) (by omega) hn dL_law_726 ?_
  refine b_aload_q dL_law_727 rfl ?_
  refine b_iload_n dL_law_728 rfl ?_
  refine b_iconst dL_law_729 (by decide) ?_
  refine b_add dL_law_730 (by omega) ?_
  refine b_sld (by omega) (by omega) hn dL_law_731 ?_
  refine b_callV mlL_89 dL_law_732 (sh_M hsh) (av := [_, _]) rfl rfl (Nat.le_of_ble_eq_true rfl) hr2 (Nat.le_refl _) (Nat.le_refl _) eb.1 eb.2 ?_
  rintro _ m2 ⟨rfl, hI2⟩
  refine b_icmp_eq (tgt := 1362) dL_law_735 rfl (fun _ => ?_) (fun h => absurd rfl h)
  exact kt m2 E1 hI2

theorem lc_pairing {nm : String} {Q : List Frame → Array Value → State → State → Prop} {G : zG} {i : Int} {m : zM} {E : zE} (hn : G.2.2.2.2.1 ≤ 3072) (hI : lwI m E) (h0 : 0 ≤ i) (h1 : i + 6 ≤ ((G.2.2.2.2.1 : Nat) : Int)) (kt : ∀ (m : zM) (E : zE), lwI m E → zB (yL nm) Q G 1362 [zQ 0, zP 0, zP 95, zI i] [] m E) : zB (yL nm) Q G 740 [zQ 0, zP 0, zP 95, zI i] [] m E := by
  have hs0 := lw_s0 hI
  obtain ⟨E1, le, eb, hr⟩ := k_pairing hI (sG G (i + 1)) (sG G (i + 2))
  refine b_aload_n dL_law_740 rfl ?_
  refine b_aload_q dL_law_741 rfl ?_
  refine b_iload_n dL_law_742 rfl ?_
  refine b_iconst dL_law_743 (by decide) ?_
  refine b_add dL_law_744 (by omega) ?_
  refine b_sld (by omega) (by omega) hn dL_law_745 ?_
  refine b_aload_q dL_law_746 rfl ?_
  refine b_iload_n dL_law_747 rfl ?_
  refine b_iconst dL_law_748 (by decide) ?_
  refine b_add dL_law_749 (by omega) ?_
  refine b_sld (by omega) (by omega) hn dL_law_750 ?_
  refine b_callV mlL_90 dL_law_751 hs0 (av := [_, _]) rfl rfl (Nat.le_of_ble_eq_true rfl) hr le.1 le.2 eb.1 eb.2 ?_
  rintro _ m1 ⟨v, rfl, hsh, hr2⟩
  refine b_aload_n dL_law_754 rfl ?_
  refine b_aload_q dL_law_755 rfl ?_
  refine b_iload_n dL_law_756 rfl ?_
  refine b_iconst dL_law_757 (by decide) ?_
  refine b_add dL_law_758 (by omega) ?_
  refine b_sld (by omega) (by omega) hn dL_law_759 ?_
  refine b_aload_q dL_law_760 rfl ?_
  refine b_iload_n dL_law_761 rfl ?_
  refine b_iconst dL_law_762 (by decide) ?_
  refine b_add dL_law_763 (by omega) ?_
  refine b_sld (by omega) (by omega) hn dL_law_764 ?_
  refine b_callV mlL_93 dL_law_765 (sh_M hsh) (av := [_, _]) rfl rfl (Nat.le_of_ble_eq_true rfl) hr2 (Nat.le_refl _) (Nat.le_refl _) eb.1 eb.2 ?_
  rintro _ m2 ⟨rfl, hI2⟩
  refine b_icmp_eq (tgt := 1362) dL_law_768 rfl (fun _ => ?_) (fun h => absurd rfl h)
  exact kt m2 E1 hI2

theorem lc_ways {nm : String} {Q : List Frame → Array Value → State → State → Prop} {G : zG} {i : Int} {m : zM} {E : zE} (hn : G.2.2.2.2.1 ≤ 3072) (hI : lwI m E) (h0 : 0 ≤ i) (h1 : i + 6 ≤ ((G.2.2.2.2.1 : Nat) : Int)) (kt : ∀ (m : zM) (E : zE), lwI m E → zB (yL nm) Q G 1362 [zQ 0, zP 0, zP 95, zI i] [] m E) : zB (yL nm) Q G 773 [zQ 0, zP 0, zP 95, zI i] [] m E := by
  have hs0 := lw_s0 hI
  obtain ⟨E1, le, eb, hr⟩ := k_ways hI (sG G (i + 1)) (sG G (i + 2)) (sG G (i + 3))
  refine b_aload_n dL_law_773 rfl ?_
  refine b_aload_q dL_law_774 rfl ?_
  refine b_iload_n dL_law_775 rfl ?_
  refine b_iconst dL_law_776 (by decide) ?_
  refine b_add dL_law_777 (by omega) ?_
  refine b_sld (by omega) (by omega) hn dL_law_778 ?_
  refine b_aload_q dL_law_779 rfl ?_
  refine b_iload_n dL_law_780 rfl ?_
  refine b_iconst dL_law_781 (by decide) ?_
  refine b_add dL_law_782 (by omega) ?_
  refine b_sld (by omega) (by omega) hn dL_law_783 ?_
  refine b_aload_q dL_law_784 rfl ?_
  refine b_iload_n dL_law_785 rfl ?_
  refine b_iconst dL_law_786 (by decide) ?_
  refine b_add dL_law_787 (by omega) ?_
  refine b_sld (by omega) (by omega) hn dL_law_788 ?_
  refine b_callV mlL_94 dL_law_789 hs0 (av := [_, _, _]) rfl rfl (Nat.le_of_ble_eq_true rfl) hr le.1 le.2 eb.1 eb.2 ?_
  rintro _ m1 ⟨v, rfl, hsh, hr2⟩
  refine b_aload_n dL_law_792 rfl ?_
  refine b_aload_q dL_law_793 rfl ?_
  refine b_iload_n dL_law_794 rfl ?_
  refine b_iconst dL_law_795 (by decide) ?_
  refine b_add dL_law_796 (by omega) ?_
  refine b_sld (by omega) (by omega) hn dL_law_797 ?_
  refine b_aload_q dL_law_798 rfl ?_
  refine b_iload_n dL_law_799 rfl ?_
  refine b_iconst dL_law_800 (by decide) ?_
  refine b_add dL_law_801 (by omega) ?_
  refine b_sld (by omega) (by omega) hn dL_law_802 ?_
  refine b_aload_q dL_law_803 rfl ?_
  refine b_iload_n dL_law_804 rfl ?_
  refine b_iconst dL_law_805 (by decide) ?_
  refine b_add dL_law_806 (by omega) ?_
  refine b_sld (by omega) (by omega) hn dL_law_807 ?_
  refine b_callV mlL_98 dL_law_808 (sh_M hsh) (av := [_, _, _]) rfl rfl (Nat.le_of_ble_eq_true rfl) hr2 (Nat.le_refl _) (Nat.le_refl _) eb.1 eb.2 ?_
  rintro _ m2 ⟨rfl, hI2⟩
  refine b_icmp_eq (tgt := 1362) dL_law_811 rfl (fun _ => ?_) (fun h => absurd rfl h)
  exact kt m2 E1 hI2

theorem lc_overlay {nm : String} {Q : List Frame → Array Value → State → State → Prop} {G : zG} {i : Int} {m : zM} {E : zE} (hn : G.2.2.2.2.1 ≤ 3072) (hI : lwI m E) (h0 : 0 ≤ i) (h1 : i + 6 ≤ ((G.2.2.2.2.1 : Nat) : Int)) (kt : ∀ (m : zM) (E : zE), lwI m E → zB (yL nm) Q G 1362 [zQ 0, zP 0, zP 95, zI i] [] m E) : zB (yL nm) Q G 816 [zQ 0, zP 0, zP 95, zI i] [] m E := by
  have hs0 := lw_s0 hI
  obtain ⟨E1, le, eb, hr⟩ := k_overlay hI (sG G (i + 1)) (sG G (i + 2)) (sG G (i + 3))
  refine b_aload_n dL_law_816 rfl ?_
  refine b_aload_q dL_law_817 rfl ?_
  refine b_iload_n dL_law_818 rfl ?_
  refine b_iconst dL_law_819 (by decide) ?_
  refine b_add dL_law_820 (by omega) ?_
  refine b_sld (by omega) (by omega) hn dL_law_821 ?_
  refine b_aload_q dL_law_822 rfl ?_
  refine b_iload_n dL_law_823 rfl ?_
  refine b_iconst dL_law_824 (by decide) ?_
  refine b_add dL_law_825 (by omega) ?_
  refine b_sld (by omega) (by omega) hn dL_law_826 ?_
  refine b_aload_q dL_law_827 rfl ?_
  refine b_iload_n dL_law_828 rfl ?_
  refine b_iconst dL_law_829 (by decide) ?_
  refine b_add dL_law_830 (by omega) ?_
  refine b_sld (by omega) (by omega) hn dL_law_831 ?_
  refine b_callV mlL_99 dL_law_832 hs0 (av := [_, _, _]) rfl rfl (Nat.le_of_ble_eq_true rfl) hr le.1 le.2 eb.1 eb.2 ?_
  rintro _ m1 ⟨v, rfl, hsh, hr2⟩
  refine b_aload_n dL_law_835 rfl ?_
  refine b_aload_q dL_law_836 rfl ?_
  refine b_iload_n dL_law_837 rfl ?_
  refine b_iconst dL_law_838 (by decide) ?_
  refine b_add dL_law_839 (by omega) ?_
  refine b_sld (by omega) (by omega) hn dL_law_840 ?_
  refine b_aload_q dL_law_841 rfl ?_
  refine b_iload_n dL_law_842 rfl ?_
  refine b_iconst dL_law_843 (by decide) ?_
  refine b_add dL_law_844 (by omega) ?_
  refine b_sld (by omega) (by omega) hn dL_law_845 ?_
  refine b_aload_q dL_law_846 rfl ?_
  refine b_iload_n dL_law_847 rfl ?_
  refine b_iconst dL_law_848 (by decide) ?_
  refine b_add dL_law_849 (by omega) ?_
  refine b_sld (by omega) (by omega) hn dL_law_850 ?_
  refine b_callV mlL_102 dL_law_851 (sh_M hsh) (av := [_, _, _]) rfl rfl (Nat.le_of_ble_eq_true rfl) hr2 (Nat.le_refl _) (Nat.le_refl _) eb.1 eb.2 ?_
  rintro _ m2 ⟨rfl, hI2⟩
  refine b_icmp_eq (tgt := 1362) dL_law_854 rfl (fun _ => ?_) (fun h => absurd rfl h)
  exact kt m2 E1 hI2

theorem lc_by {nm : String} {Q : List Frame → Array Value → State → State → Prop} {G : zG} {i : Int} {m : zM} {E : zE} (hn : G.2.2.2.2.1 ≤ 3072) (hI : lwI m E) (h0 : 0 ≤ i) (h1 : i + 6 ≤ ((G.2.2.2.2.1 : Nat) : Int)) (kt : ∀ (m : zM) (E : zE), lwI m E → zB (yL nm) Q G 1362 [zQ 0, zP 0, zP 95, zI i] [] m E) : zB (yL nm) Q G 859 [zQ 0, zP 0, zP 95, zI i] [] m E := by
  have hs0 := lw_s0 hI
  obtain ⟨E1, le, eb, hr⟩ := k_by hI (sG G (i + 1)) (sG G (i + 2))
  refine b_aload_n dL_law_859 rfl ?_
  refine b_aload_q dL_law_860 rfl ?_
  refine b_iload_n dL_law_861 rfl ?_
  refine b_iconst dL_law_862 (by decide) ?_
  refine b_add dL_law_863 (by omega) ?_
  refine b_sld (by omega) (by omega) hn dL_law_864 ?_
  refine b_aload_q dL_law_865 rfl ?_
  refine b_iload_n dL_law_866 rfl ?_
  refine b_iconst dL_law_867 (by decide) ?_
  refine b_add dL_law_868 (by omega) ?_
  refine b_sld (by omega) (by omega) hn dL_law_869 ?_
  refine b_callV mlL_103 dL_law_870 hs0 (av := [_, _]) rfl rfl (Nat.le_of_ble_eq_true rfl) hr le.1 le.2 eb.1 eb.2 ?_
  rintro _ m1 ⟨v, rfl, hsh, hr2⟩
  refine b_aload_n dL_law_873 rfl ?_
  refine b_aload_q dL_law_874 rfl ?_
  refine b_iload_n dL_law_875 rfl ?_
  refine b_iconst dL_law_876 (by decide) ?_
  refine b_add dL_law_877 (by omega) ?_
  refine b_sld (by omega) (by omega) hn dL_law_878 ?_
  refine b_aload_q dL_law_879 rfl ?_
  refine b_iload_n dL_law_880 rfl ?_
  refine b_iconst dL_law_881 (by decide) ?_
  refine b_add dL_law_882 (by omega) ?_
  refine b_sld (by omega) (by omega) hn dL_law_883 ?_
  refine b_callV mlL_106 dL_law_884 (sh_M hsh) (av := [_, _]) rfl rfl (Nat.le_of_ble_eq_true rfl) hr2 (Nat.le_refl _) (Nat.le_refl _) eb.1 eb.2 ?_
  rintro _ m2 ⟨rfl, hI2⟩
  refine b_icmp_eq (tgt := 1362) dL_law_887 rfl (fun _ => ?_) (fun h => absurd rfl h)
  exact kt m2 E1 hI2

theorem lc_signedBy {nm : String} {Q : List Frame → Array Value → State → State → Prop} {G : zG} {i : Int} {m : zM} {E : zE} (hn : G.2.2.2.2.1 ≤ 3072) (hI : lwI m E) (h0 : 0 ≤ i) (h1 : i + 6 ≤ ((G.2.2.2.2.1 : Nat) : Int)) (kt : ∀ (m : zM) (E : zE), lwI m E → zB (yL nm) Q G 1362 [zQ 0, zP 0, zP 95, zI i] [] m E) : zB (yL nm) Q G 892 [zQ 0, zP 0, zP 95, zI i] [] m E := by
  have hs0 := lw_s0 hI
  obtain ⟨E1, le, eb, hr⟩ := k_signedBy hI (sG G (i + 1)) (sG G (i + 2))
  refine b_aload_n dL_law_892 rfl ?_
  refine b_aload_q dL_law_893 rfl ?_
  refine b_iload_n dL_law_894 rfl ?_
  refine b_iconst dL_law_895 (by decide) ?_
  refine b_add dL_law_896 (by omega) ?_
  refine b_sld (by omega) (by omega) hn dL_law_897 ?_
  refine b_aload_q dL_law_898 rfl ?_
  refine b_iload_n dL_law_899 rfl ?_
  refine b_iconst dL_law_900 (by decide) ?_
  refine b_add dL_law_901 (by omega) ?_
  refine b_sld (by omega) (by omega) hn dL_law_902 ?_
  refine b_callV mlL_107 dL_law_903 hs0 (av := [_, _]) rfl rfl (Nat.le_of_ble_eq_true rfl) hr le.1 le.2 eb.1 eb.2 ?_
  rintro _ m1 ⟨v, rfl, hsh, hr2⟩
  refine b_aload_n dL_law_906 rfl ?_
  refine b_aload_q dL_law_907 rfl ?_
  refine b_iload_n dL_law_908 rfl ?_
  refine b_iconst dL_law_909 (by decide) ?_
  refine b_add dL_law_910 (by omega) ?_
  refine b_sld (by omega) (by omega) hn dL_law_911 ?_
  refine b_aload_q dL_law_912 rfl ?_
  refine b_iload_n dL_law_913 rfl ?_
  refine b_iconst dL_law_914 (by decide) ?_
  refine b_add dL_law_915 (by omega) ?_
  refine b_sld (by omega) (by omega) hn dL_law_916 ?_
  refine b_callV mlL_110 dL_law_917 (sh_M hsh) (av := [_, _]) rfl rfl (Nat.le_of_ble_eq_true rfl) hr2 (Nat.le_refl _) (Nat.le_refl _) eb.1 eb.2 ?_
  rintro _ m2 ⟨rfl, hI2⟩
  refine b_icmp_eq (tgt := 1362) dL_law_920 rfl (fun _ => ?_) (fun h => absurd rfl h)
  exact kt m2 E1 hI2

theorem lc_partial {nm : String} {Q : List Frame → Array Value → State → State → Prop} {G : zG} {i : Int} {m : zM} {E : zE} (hn : G.2.2.2.2.1 ≤ 3072) (hI : lwI m E) (h0 : 0 ≤ i) (h1 : i + 6 ≤ ((G.2.2.2.2.1 : Nat) : Int)) (kt : ∀ (m : zM) (E : zE), lwI m E → zB (yL nm) Q G 1362 [zQ 0, zP 0, zP 95, zI i] [] m E) : zB (yL nm) Q G 925 [zQ 0, zP 0, zP 95, zI i] [] m E := by
  have hs0 := lw_s0 hI
  obtain ⟨E1, le, eb, hr⟩ := k_partial hI (sG G (i + 1))
  refine b_aload_n dL_law_925 rfl ?_
  refine b_aload_q dL_law_926 rfl ?_
  refine b_iload_n dL_law_927 rfl ?_
  refine b_iconst dL_law_928 (by decide) ?_
  refine b_add dL_law_929 (by omega) ?_
  refine b_sld (by omega) (by omega) hn dL_law_930 ?_
  refine b_callV mlL_111 dL_law_931 hs0 (av := [_]) rfl rfl (Nat.le_of_ble_eq_true rfl) hr le.1 le.2 eb.1 eb.2 ?_
  rintro _ m1 ⟨v, rfl, hsh, hr2⟩
  refine b_aload_n dL_law_934 rfl ?_
  refine b_aload_q dL_law_935 rfl ?_
  refine b_iload_n dL_law_936 rfl ?_
  refine b_iconst dL_law_937 (by decide) ?_
  refine b_add dL_law_938 (by omega) ?_
  refine b_sld (by omega) (by omega) hn dL_law_939 ?_
  refine b_callV mlL_114 dL_law_940 (sh_M hsh) (av := [_]) rfl rfl (Nat.le_of_ble_eq_true rfl) hr2 (Nat.le_refl _) (Nat.le_refl _) eb.1 eb.2 ?_
  rintro _ m2 ⟨rfl, hI2⟩
  refine b_icmp_eq (tgt := 1362) dL_law_943 rfl (fun _ => ?_) (fun h => absurd rfl h)
  exact kt m2 E1 hI2

theorem lc_sub {nm : String} {Q : List Frame → Array Value → State → State → Prop} {G : zG} {i : Int} {m : zM} {E : zE} (hn : G.2.2.2.2.1 ≤ 3072) (hI : lwI m E) (h0 : 0 ≤ i) (h1 : i + 6 ≤ ((G.2.2.2.2.1 : Nat) : Int)) (kt : ∀ (m : zM) (E : zE), lwI m E → zB (yL nm) Q G 1362 [zQ 0, zP 0, zP 95, zI i] [] m E) : zB (yL nm) Q G 948 [zQ 0, zP 0, zP 95, zI i] [] m E := by
  have hs0 := lw_s0 hI
  obtain ⟨E1, le, eb, hr⟩ := k_sub hI (sG G (i + 1)) (sG G (i + 2))
  refine b_aload_n dL_law_948 rfl ?_
  refine b_aload_q dL_law_949 rfl ?_
  refine b_iload_n dL_law_950 rfl ?_
  refine b_iconst dL_law_951 (by decide) ?_
  refine b_add dL_law_952 (by omega) ?_
  refine b_sld (by omega) (by omega) hn dL_law_953 ?_
  refine b_aload_q dL_law_954 rfl ?_
  refine b_iload_n dL_law_955 rfl ?_
  refine b_iconst dL_law_956 (by decide) ?_
  refine b_add dL_law_957 (by omega) ?_
  refine b_sld (by omega) (by omega) hn dL_law_958 ?_
  refine b_callV mlL_115 dL_law_959 hs0 (av := [_, _]) rfl rfl (Nat.le_of_ble_eq_true rfl) hr le.1 le.2 eb.1 eb.2 ?_
  rintro _ m1 ⟨v, rfl, hsh, hr2⟩
  refine b_aload_n dL_law_962 rfl ?_
  refine b_aload_q dL_law_963 rfl ?_
  refine b_iload_n dL_law_964 rfl ?_
  refine b_iconst dL_law_965 (by decide) ?_
  refine b_add dL_law_966 (by omega) ?_
  refine b_sld (by omega) (by omega) hn dL_law_967 ?_
  refine b_aload_q dL_law_968 rfl ?_
  refine b_iload_n dL_law_969 rfl ?_
  refine b_iconst dL_law_970 (by decide) ?_
  refine b_add dL_law_971 (by omega) ?_
  refine b_sld (by omega) (by omega) hn dL_law_972 ?_
  refine b_callV mlL_118 dL_law_973 (sh_M hsh) (av := [_, _]) rfl rfl (Nat.le_of_ble_eq_true rfl) hr2 (Nat.le_refl _) (Nat.le_refl _) eb.1 eb.2 ?_
  rintro _ m2 ⟨rfl, hI2⟩
  refine b_icmp_eq (tgt := 1362) dL_law_976 rfl (fun _ => ?_) (fun h => absurd rfl h)
  exact kt m2 E1 hI2

theorem lc_sum {nm : String} {Q : List Frame → Array Value → State → State → Prop} {G : zG} {i : Int} {m : zM} {E : zE} (hn : G.2.2.2.2.1 ≤ 3072) (hI : lwI m E) (h0 : 0 ≤ i) (h1 : i + 6 ≤ ((G.2.2.2.2.1 : Nat) : Int)) (kt : ∀ (m : zM) (E : zE), lwI m E → zB (yL nm) Q G 1362 [zQ 0, zP 0, zP 95, zI i] [] m E) : zB (yL nm) Q G 981 [zQ 0, zP 0, zP 95, zI i] [] m E := by
  have hs0 := lw_s0 hI
  obtain ⟨E1, le, eb, hr⟩ := k_sum hI 
  refine b_aload_n dL_law_981 rfl ?_
  refine b_callV mlL_119 dL_law_982 hs0 (av := []) rfl rfl (Nat.le_of_ble_eq_true rfl) hr le.1 le.2 eb.1 eb.2 ?_
  rintro _ m1 ⟨v, rfl, hsh, hr2⟩
  refine b_aload_n dL_law_985 rfl ?_
  refine b_callV mlL_123 dL_law_986 (sh_M hsh) (av := []) rfl rfl (Nat.le_of_ble_eq_true rfl) hr2 (Nat.le_refl _) (Nat.le_refl _) eb.1 eb.2 ?_
  rintro _ m2 ⟨rfl, hI2⟩
  refine b_lcmp dL_law_989 ?_
  refine b_if_eq (tgt := 1362) dL_law_990 rfl (fun _ => ?_) (fun h => absurd (zcmp_rf v) h)
  exact kt m2 E1 hI2

theorem lc_diagram {nm : String} {Q : List Frame → Array Value → State → State → Prop} {G : zG} {i : Int} {m : zM} {E : zE} (hn : G.2.2.2.2.1 ≤ 3072) (hI : lwI m E) (h0 : 0 ≤ i) (h1 : i + 6 ≤ ((G.2.2.2.2.1 : Nat) : Int)) (kt : ∀ (m : zM) (E : zE), lwI m E → zB (yL nm) Q G 1362 [zQ 0, zP 0, zP 95, zI i] [] m E) : zB (yL nm) Q G 995 [zQ 0, zP 0, zP 95, zI i] [] m E := by
  have hs0 := lw_s0 hI
  obtain ⟨E1, le, eb, hr⟩ := k_diagram hI (sG G (i + 1)) (sG G (i + 2))
  refine b_aload_n dL_law_995 rfl ?_
  refine b_aload_q dL_law_996 rfl ?_
  refine b_iload_n dL_law_997 rfl ?_
  refine b_iconst dL_law_998 (by decide) ?_
  refine b_add dL_law_999 (by omega) ?_
  refine b_sld (by omega) (by omega) hn dL_law_1000 ?_
  refine b_aload_q dL_law_1001 rfl ?_
  refine b_iload_n dL_law_1002 rfl ?_
  refine b_iconst dL_law_1003 (by decide) ?_
  refine b_add dL_law_1004 (by omega) ?_
  refine b_sld (by omega) (by omega) hn dL_law_1005 ?_
  refine b_callV mlL_124 dL_law_1006 hs0 (av := [_, _]) rfl rfl (Nat.le_of_ble_eq_true rfl) hr le.1 le.2 eb.1 eb.2 ?_
  rintro _ m1 ⟨v, rfl, hsh, hr2⟩
  refine b_aload_n dL_law_1009 rfl ?_
  refine b_aload_q dL_law_1010 rfl ?_
  refine b_iload_n dL_law_1011 rfl ?_
  refine b_iconst dL_law_1012 (by decide) ?_
  refine b_add dL_law_1013 (by omega) ?_
  refine b_sld (by omega) (by omega) hn dL_law_1014 ?_
  refine b_aload_q dL_law_1015 rfl ?_
  refine b_iload_n dL_law_1016 rfl ?_
  refine b_iconst dL_law_1017 (by decide) ?_
  refine b_add dL_law_1018 (by omega) ?_
  refine b_sld (by omega) (by omega) hn dL_law_1019 ?_
  refine b_callV mlL_127 dL_law_1020 (sh_M hsh) (av := [_, _]) rfl rfl (Nat.le_of_ble_eq_true rfl) hr2 (Nat.le_refl _) (Nat.le_refl _) eb.1 eb.2 ?_
  rintro _ m2 ⟨rfl, hI2⟩
  refine b_icmp_eq (tgt := 1362) dL_law_1023 rfl (fun _ => ?_) (fun h => absurd rfl h)
  exact kt m2 E1 hI2

theorem lc_name {nm : String} {Q : List Frame → Array Value → State → State → Prop} {G : zG} {i : Int} {m : zM} {E : zE} (hn : G.2.2.2.2.1 ≤ 3072) (hI : lwI m E) (h0 : 0 ≤ i) (h1 : i + 6 ≤ ((G.2.2.2.2.1 : Nat) : Int)) (kt : ∀ (m : zM) (E : zE), lwI m E → zB (yL nm) Q G 1362 [zQ 0, zP 0, zP 95, zI i] [] m E) : zB (yL nm) Q G 1028 [zQ 0, zP 0, zP 95, zI i] [] m E := by
  have hs0 := lw_s0 hI
  obtain ⟨E1, le, eb, hr⟩ := k_name hI (sG G (i + 1)) (sG G (i + 2))
  refine b_aload_n dL_law_1028 rfl ?_
  refine b_aload_q dL_law_1029 rfl ?_
  refine b_iload_n dL_law_1030 rfl ?_
  refine b_iconst dL_law_1031 (by decide) ?_
  refine b_add dL_law_1032 (by omega) ?_
  refine b_sld (by omega) (by omega) hn dL_law_1033 ?_
  refine b_aload_q dL_law_1034 rfl ?_
  refine b_iload_n dL_law_1035 rfl ?_
  refine b_iconst dL_law_1036 (by decide) ?_
  refine b_add dL_law_1037 (by omega) ?_
  refine b_sld (by omega) (by omega) hn dL_law_1038 ?_
  refine b_callV mlL_128 dL_law_1039 hs0 (av := [_, _]) rfl rfl (Nat.le_of_ble_eq_true rfl) hr le.1 le.2 eb.1 eb.2 ?_
  rintro _ m1 ⟨v, rfl, hsh, hr2⟩
  refine b_aload_n dL_law_1042 rfl ?_
  refine b_aload_q dL_law_1043 rfl ?_
  refine b_iload_n dL_law_1044 rfl ?_
  refine b_iconst dL_law_1045 (by decide) ?_
  refine b_add dL_law_1046 (by omega) ?_
  refine b_sld (by omega) (by omega) hn dL_law_1047 ?_
  refine b_aload_q dL_law_1048 rfl ?_
  refine b_iload_n dL_law_1049 rfl ?_
  refine b_iconst dL_law_1050 (by decide) ?_
  refine b_add dL_law_1051 (by omega) ?_
  refine b_sld (by omega) (by omega) hn dL_law_1052 ?_
  refine b_callV mlL_131 dL_law_1053 (sh_M hsh) (av := [_, _]) rfl rfl (Nat.le_of_ble_eq_true rfl) hr2 (Nat.le_refl _) (Nat.le_refl _) eb.1 eb.2 ?_
  rintro _ m2 ⟨rfl, hI2⟩
  refine b_icmp_eq (tgt := 1362) dL_law_1056 rfl (fun _ => ?_) (fun h => absurd rfl h)
  exact kt m2 E1 hI2

theorem lc_part {nm : String} {Q : List Frame → Array Value → State → State → Prop} {G : zG} {i : Int} {m : zM} {E : zE} (hn : G.2.2.2.2.1 ≤ 3072) (hI : lwI m E) (h0 : 0 ≤ i) (h1 : i + 6 ≤ ((G.2.2.2.2.1 : Nat) : Int)) (kt : ∀ (m : zM) (E : zE), lwI m E → zB (yL nm) Q G 1362 [zQ 0, zP 0, zP 95, zI i] [] m E) : zB (yL nm) Q G 1061 [zQ 0, zP 0, zP 95, zI i] [] m E := by
  have hs0 := lw_s0 hI
  obtain ⟨E1, le, eb, hr⟩ := k_part hI (sG G (i + 1)) (sG G (i + 2))
  refine b_aload_n dL_law_1061 rfl ?_
  refine b_aload_q dL_law_1062 rfl ?_
  refine b_iload_n dL_law_1063 rfl ?_
  refine b_iconst dL_law_1064 (by decide) ?_
  refine b_add dL_law_1065 (by omega) ?_
  refine b_sld (by omega) (by omega) hn dL_law_1066 ?_
  refine b_aload_q dL_law_1067 rfl ?_
  refine b_iload_n dL_law_1068 rfl ?_
  refine b_iconst dL_law_1069 (by decide) ?_
  refine b_add dL_law_1070 (by omega) ?_
  refine b_sld (by omega) (by omega) hn dL_law_1071 ?_
  refine b_callV mlL_132 dL_law_1072 hs0 (av := [_, _]) rfl rfl (Nat.le_of_ble_eq_true rfl) hr le.1 le.2 eb.1 eb.2 ?_
  rintro _ m1 ⟨v, rfl, hsh, hr2⟩
  refine b_aload_n dL_law_1075 rfl ?_
  refine b_aload_q dL_law_1076 rfl ?_
  refine b_iload_n dL_law_1077 rfl ?_
  refine b_iconst dL_law_1078 (by decide) ?_
  refine b_add dL_law_1079 (by omega) ?_
  refine b_sld (by omega) (by omega) hn dL_law_1080 ?_
  refine b_aload_q dL_law_1081 rfl ?_
  refine b_iload_n dL_law_1082 rfl ?_
  refine b_iconst dL_law_1083 (by decide) ?_
  refine b_add dL_law_1084 (by omega) ?_
  refine b_sld (by omega) (by omega) hn dL_law_1085 ?_
  refine b_callV mlL_135 dL_law_1086 (sh_M hsh) (av := [_, _]) rfl rfl (Nat.le_of_ble_eq_true rfl) hr2 (Nat.le_refl _) (Nat.le_refl _) eb.1 eb.2 ?_
  rintro _ m2 ⟨rfl, hI2⟩
  refine b_icmp_eq (tgt := 1362) dL_law_1089 rfl (fun _ => ?_) (fun h => absurd rfl h)
  exact kt m2 E1 hI2

theorem lc_far {nm : String} {Q : List Frame → Array Value → State → State → Prop} {G : zG} {i : Int} {m : zM} {E : zE} (hn : G.2.2.2.2.1 ≤ 3072) (hI : lwI m E) (h0 : 0 ≤ i) (h1 : i + 6 ≤ ((G.2.2.2.2.1 : Nat) : Int)) (kt : ∀ (m : zM) (E : zE), lwI m E → zB (yL nm) Q G 1362 [zQ 0, zP 0, zP 95, zI i] [] m E) : zB (yL nm) Q G 1094 [zQ 0, zP 0, zP 95, zI i] [] m E := by
  have hs0 := lw_s0 hI
  obtain ⟨E1, le, eb, hr⟩ := k_far hI (sG G (i + 1)) (sG G (i + 2)) (sG G (i + 3))
  refine b_aload_n dL_law_1094 rfl ?_
  refine b_aload_q dL_law_1095 rfl ?_
  refine b_iload_n dL_law_1096 rfl ?_
  refine b_iconst dL_law_1097 (by decide) ?_
  refine b_add dL_law_1098 (by omega) ?_
  refine b_sld (by omega) (by omega) hn dL_law_1099 ?_
  refine b_aload_q dL_law_1100 rfl ?_
  refine b_iload_n dL_law_1101 rfl ?_
  refine b_iconst dL_law_1102 (by decide) ?_
  refine b_add dL_law_1103 (by omega) ?_
  refine b_sld (by omega) (by omega) hn dL_law_1104 ?_
  refine b_aload_q dL_law_1105 rfl ?_
  refine b_iload_n dL_law_1106 rfl ?_
  refine b_iconst dL_law_1107 (by decide) ?_
  refine b_add dL_law_1108 (by omega) ?_
  refine b_sld (by omega) (by omega) hn dL_law_1109 ?_
  refine b_callV mlL_136 dL_law_1110 hs0 (av := [_, _, _]) rfl rfl (Nat.le_of_ble_eq_true rfl) hr le.1 le.2 eb.1 eb.2 ?_
  rintro _ m1 ⟨v, rfl, hsh, hr2⟩
  refine b_aload_n dL_law_1113 rfl ?_
  refine b_aload_q dL_law_1114 rfl ?_
  refine b_iload_n dL_law_1115 rfl ?_
  refine b_iconst dL_law_1116 (by decide) ?_
  refine b_add dL_law_1117 (by omega) ?_
  refine b_sld (by omega) (by omega) hn dL_law_1118 ?_
  refine b_aload_q dL_law_1119 rfl ?_
  refine b_iload_n dL_law_1120 rfl ?_
  refine b_iconst dL_law_1121 (by decide) ?_
  refine b_add dL_law_1122 (by omega) ?_
  refine b_sld (by omega) (by omega) hn dL_law_1123 ?_
  refine b_aload_q dL_law_1124 rfl ?_
  refine b_iload_n dL_law_1125 rfl ?_
  refine b_iconst dL_law_1126 (by decide) ?_
  refine b_add dL_law_1127 (by omega) ?_
  refine b_sld (by omega) (by omega) hn dL_law_1128 ?_
  refine b_callV mlL_139 dL_law_1129 (sh_M hsh) (av := [_, _, _]) rfl rfl (Nat.le_of_ble_eq_true rfl) hr2 (Nat.le_refl _) (Nat.le_refl _) eb.1 eb.2 ?_
  rintro _ m2 ⟨rfl, hI2⟩
  refine b_icmp_eq (tgt := 1362) dL_law_1132 rfl (fun _ => ?_) (fun h => absurd rfl h)
  exact kt m2 E1 hI2

theorem lc_holds {nm : String} {Q : List Frame → Array Value → State → State → Prop} {G : zG} {i : Int} {m : zM} {E : zE} (hn : G.2.2.2.2.1 ≤ 3072) (hI : lwI m E) (h0 : 0 ≤ i) (h1 : i + 6 ≤ ((G.2.2.2.2.1 : Nat) : Int)) (kt : ∀ (m : zM) (E : zE), lwI m E → zB (yL nm) Q G 1362 [zQ 0, zP 0, zP 95, zI i] [] m E) : zB (yL nm) Q G 1137 [zQ 0, zP 0, zP 95, zI i] [] m E := by
  have hs0 := lw_s0 hI
  obtain ⟨E1, le, eb, hr⟩ := k_holds hI (sG G (i + 1))
  refine b_aload_n dL_law_1137 rfl ?_
  refine b_aload_q dL_law_1138 rfl ?_
  refine b_iload_n dL_law_1139 rfl ?_
  refine b_iconst dL_law_1140 (by decide) ?_
  refine b_add dL_law_1141 (by omega) ?_
  refine b_sld (by omega) (by omega) hn dL_law_1142 ?_
  refine b_callV mlL_140 dL_law_1143 hs0 (av := [_]) rfl rfl (Nat.le_of_ble_eq_true rfl) hr le.1 le.2 eb.1 eb.2 ?_
  rintro _ m1 ⟨v, rfl, hsh, hr2⟩
  refine b_aload_n dL_law_1146 rfl ?_
  refine b_aload_q dL_law_1147 rfl ?_
  refine b_iload_n dL_law_1148 rfl ?_
  refine b_iconst dL_law_1149 (by decide) ?_
  refine b_add dL_law_1150 (by omega) ?_
  refine b_sld (by omega) (by omega) hn dL_law_1151 ?_
  refine b_callV mlL_143 dL_law_1152 (sh_M hsh) (av := [_]) rfl rfl (Nat.le_of_ble_eq_true rfl) hr2 (Nat.le_refl _) (Nat.le_refl _) eb.1 eb.2 ?_
  rintro _ m2 ⟨rfl, hI2⟩
  refine b_icmp_eq (tgt := 1362) dL_law_1155 rfl (fun _ => ?_) (fun h => absurd rfl h)
  exact kt m2 E1 hI2

theorem lc_ofDiagram {nm : String} {Q : List Frame → Array Value → State → State → Prop} {G : zG} {i : Int} {m : zM} {E : zE} (hn : G.2.2.2.2.1 ≤ 3072) (hI : lwI m E) (h0 : 0 ≤ i) (h1 : i + 6 ≤ ((G.2.2.2.2.1 : Nat) : Int)) (kt : ∀ (m : zM) (E : zE), lwI m E → zB (yL nm) Q G 1362 [zQ 0, zP 0, zP 95, zI i] [] m E) : zB (yL nm) Q G 1160 [zQ 0, zP 0, zP 95, zI i] [] m E := by
  have hs0 := lw_s0 hI
  obtain ⟨E1, le, eb, hr⟩ := k_ofDiagram hI (sG G (i + 1)) (sG G (i + 2)) (sG G (i + 3))
  refine b_aload_n dL_law_1160 rfl ?_
  refine b_aload_q dL_law_1161 rfl ?_
  refine b_iload_n dL_law_1162 rfl ?_
  refine b_iconst dL_law_1163 (by decide) ?_
  refine b_add dL_law_1164 (by omega) ?_
  refine b_sld (by omega) (by omega) hn dL_law_1165 ?_
  refine b_aload_q dL_law_1166 rfl ?_
  refine b_iload_n dL_law_1167 rfl ?_
  refine b_iconst dL_law_1168 (by decide) ?_
  refine b_add dL_law_1169 (by omega) ?_
  refine b_sld (by omega) (by omega) hn dL_law_1170 ?_
  refine b_aload_q dL_law_1171 rfl ?_
  refine b_iload_n dL_law_1172 rfl ?_
  refine b_iconst dL_law_1173 (by decide) ?_
  refine b_add dL_law_1174 (by omega) ?_
  refine b_sld (by omega) (by omega) hn dL_law_1175 ?_
  refine b_callV mlL_144 dL_law_1176 hs0 (av := [_, _, _]) rfl rfl (Nat.le_of_ble_eq_true rfl) hr le.1 le.2 eb.1 eb.2 ?_
  rintro _ m1 ⟨v, rfl, hsh, hr2⟩
  refine b_aload_n dL_law_1179 rfl ?_
  refine b_aload_q dL_law_1180 rfl ?_
  refine b_iload_n dL_law_1181 rfl ?_
  refine b_iconst dL_law_1182 (by decide) ?_
  refine b_add dL_law_1183 (by omega) ?_
  refine b_sld (by omega) (by omega) hn dL_law_1184 ?_
  refine b_aload_q dL_law_1185 rfl ?_
  refine b_iload_n dL_law_1186 rfl ?_
  refine b_iconst dL_law_1187 (by decide) ?_
  refine b_add dL_law_1188 (by omega) ?_
  refine b_sld (by omega) (by omega) hn dL_law_1189 ?_
  refine b_aload_q dL_law_1190 rfl ?_
  refine b_iload_n dL_law_1191 rfl ?_
  refine b_iconst dL_law_1192 (by decide) ?_
  refine b_add dL_law_1193 (by omega) ?_
  refine b_sld (by omega) (by omega) hn dL_law_1194 ?_
  refine b_callV mlL_147 dL_law_1195 (sh_M hsh) (av := [_, _, _]) rfl rfl (Nat.le_of_ble_eq_true rfl) hr2 (Nat.le_refl _) (Nat.le_refl _) eb.1 eb.2 ?_
  rintro _ m2 ⟨rfl, hI2⟩
  refine b_icmp_eq (tgt := 1362) dL_law_1198 rfl (fun _ => ?_) (fun h => absurd rfl h)
  exact kt m2 E1 hI2

theorem lc_sumOf {nm : String} {Q : List Frame → Array Value → State → State → Prop} {G : zG} {i : Int} {m : zM} {E : zE} (hn : G.2.2.2.2.1 ≤ 3072) (hI : lwI m E) (h0 : 0 ≤ i) (h1 : i + 6 ≤ ((G.2.2.2.2.1 : Nat) : Int)) (kt : ∀ (m : zM) (E : zE), lwI m E → zB (yL nm) Q G 1362 [zQ 0, zP 0, zP 95, zI i] [] m E) : zB (yL nm) Q G 1203 [zQ 0, zP 0, zP 95, zI i] [] m E := by
  have hs0 := lw_s0 hI
  obtain ⟨E1, le, eb, hr⟩ := k_sumOf hI (sG G (i + 1))
  refine b_aload_n dL_law_1203 rfl ?_
  refine b_aload_q dL_law_1204 rfl ?_
  refine b_iload_n dL_law_1205 rfl ?_
  refine b_iconst dL_law_1206 (by decide) ?_
  refine b_add dL_law_1207 (by omega) ?_
  refine b_sld (by omega) (by omega) hn dL_law_1208 ?_
  refine b_callV mlL_148 dL_law_1209 hs0 (av := [_]) rfl rfl (Nat.le_of_ble_eq_true rfl) hr le.1 le.2 eb.1 eb.2 ?_
  rintro _ m1 ⟨v, rfl, hsh, hr2⟩
  refine b_aload_n dL_law_1212 rfl ?_
  refine b_aload_q dL_law_1213 rfl ?_
  refine b_iload_n dL_law_1214 rfl ?_
  refine b_iconst dL_law_1215 (by decide) ?_
  refine b_add dL_law_1216 (by omega) ?_
  refine b_sld (by omega) (by omega) hn dL_law_1217 ?_
  refine b_callV mlL_152 dL_law_1218 (sh_M hsh) (av := [_]) rfl rfl (Nat.le_of_ble_eq_true rfl) hr2 (Nat.le_refl _) (Nat.le_refl _) eb.1 eb.2 ?_
  rintro _ m2 ⟨rfl, hI2⟩
  refine b_lcmp dL_law_1221 ?_
  refine b_if_eq (tgt := 1362) dL_law_1222 rfl (fun _ => ?_) (fun h => absurd (zcmp_rf v) h)
  exact kt m2 E1 hI2

theorem lc_diagrams {nm : String} {Q : List Frame → Array Value → State → State → Prop} {G : zG} {i : Int} {m : zM} {E : zE} (hn : G.2.2.2.2.1 ≤ 3072) (hI : lwI m E) (h0 : 0 ≤ i) (h1 : i + 6 ≤ ((G.2.2.2.2.1 : Nat) : Int)) (kt : ∀ (m : zM) (E : zE), lwI m E → zB (yL nm) Q G 1362 [zQ 0, zP 0, zP 95, zI i] [] m E) : zB (yL nm) Q G 1227 [zQ 0, zP 0, zP 95, zI i] [] m E := by
  have hs0 := lw_s0 hI
  obtain ⟨E1, le, eb, hr⟩ := k_diagrams hI (sG G (i + 1)) (sG G (i + 2))
  refine b_aload_n dL_law_1227 rfl ?_
  refine b_aload_q dL_law_1228 rfl ?_
  refine b_iload_n dL_law_1229 rfl ?_
  refine b_iconst dL_law_1230 (by decide) ?_
  refine b_add dL_law_1231 (by omega) ?_
  refine b_sld (by omega) (by omega) hn dL_law_1232 ?_
  refine b_aload_q dL_law_1233 rfl ?_
  refine b_iload_n dL_law_1234 rfl ?_
  refine b_iconst dL_law_1235 (by decide) ?_
  refine b_add dL_law_1236 (by omega) ?_
  refine b_sld (by omega) (by omega) hn dL_law_1237 ?_
  refine b_callV mlL_153 dL_law_1238 hs0 (av := [_, _]) rfl rfl (Nat.le_of_ble_eq_true rfl) hr le.1 le.2 eb.1 eb.2 ?_
  rintro _ m1 ⟨v, rfl, hsh, hr2⟩
  refine b_aload_n dL_law_1241 rfl ?_
  refine b_aload_q dL_law_1242 rfl ?_
  refine b_iload_n dL_law_1243 rfl ?_
  refine b_iconst dL_law_1244 (by decide) ?_
  refine b_add dL_law_1245 (by omega) ?_
  refine b_sld (by omega) (by omega) hn dL_law_1246 ?_
  refine b_aload_q dL_law_1247 rfl ?_
  refine b_iload_n dL_law_1248 rfl ?_
  refine b_iconst dL_law_1249 (by decide) ?_
  refine b_add dL_law_1250 (by omega) ?_
  refine b_sld (by omega) (by omega) hn dL_law_1251 ?_
  refine b_callV mlL_156 dL_law_1252 (sh_M hsh) (av := [_, _]) rfl rfl (Nat.le_of_ble_eq_true rfl) hr2 (Nat.le_refl _) (Nat.le_refl _) eb.1 eb.2 ?_
  rintro _ m2 ⟨rfl, hI2⟩
  refine b_icmp_eq (tgt := 1362) dL_law_1255 rfl (fun _ => ?_) (fun h => absurd rfl h)
  exact kt m2 E1 hI2

theorem lc_print {nm : String} {Q : List Frame → Array Value → State → State → Prop} {G : zG} {i : Int} {m : zM} {E : zE} (hn : G.2.2.2.2.1 ≤ 3072) (hI : lwI m E) (h0 : 0 ≤ i) (h1 : i + 6 ≤ ((G.2.2.2.2.1 : Nat) : Int)) (kt : ∀ (m : zM) (E : zE), lwI m E → zB (yL nm) Q G 1362 [zQ 0, zP 0, zP 95, zI i] [] m E) : zB (yL nm) Q G 1260 [zQ 0, zP 0, zP 95, zI i] [] m E := by
  have hs0 := lw_s0 hI
  obtain ⟨E1, le, eb, hr⟩ := k_print hI (sG G (i + 1))
  refine b_aload_n dL_law_1260 rfl ?_
  refine b_aload_q dL_law_1261 rfl ?_
  refine b_iload_n dL_law_1262 rfl ?_
  refine b_iconst dL_law_1263 (by decide) ?_
  refine b_add dL_law_1264 (by omega) ?_
  refine b_sld (by omega) (by omega) hn dL_law_1265 ?_
  refine b_callV mlL_157 dL_law_1266 hs0 (av := [_]) rfl rfl (Nat.le_of_ble_eq_true rfl) hr le.1 le.2 eb.1 eb.2 ?_
  rintro _ m1 ⟨v, rfl, hsh, hr2⟩
  refine b_aload_n dL_law_1269 rfl ?_
  refine b_aload_q dL_law_1270 rfl ?_
  refine b_iload_n dL_law_1271 rfl ?_
  refine b_iconst dL_law_1272 (by decide) ?_
  refine b_add dL_law_1273 (by omega) ?_
  refine b_sld (by omega) (by omega) hn dL_law_1274 ?_
  refine b_callV mlL_160 dL_law_1275 (sh_M hsh) (av := [_]) rfl rfl (Nat.le_of_ble_eq_true rfl) hr2 (Nat.le_refl _) (Nat.le_refl _) eb.1 eb.2 ?_
  rintro _ m2 ⟨rfl, hI2⟩
  refine b_icmp_eq (tgt := 1362) dL_law_1278 rfl (fun _ => ?_) (fun h => absurd rfl h)
  exact kt m2 E1 hI2

theorem lc_printPairs {nm : String} {Q : List Frame → Array Value → State → State → Prop} {G : zG} {i : Int} {m : zM} {E : zE} (hn : G.2.2.2.2.1 ≤ 3072) (hI : lwI m E) (h0 : 0 ≤ i) (h1 : i + 6 ≤ ((G.2.2.2.2.1 : Nat) : Int)) (kt : ∀ (m : zM) (E : zE), lwI m E → zB (yL nm) Q G 1362 [zQ 0, zP 0, zP 95, zI i] [] m E) : zB (yL nm) Q G 1283 [zQ 0, zP 0, zP 95, zI i] [] m E := by
  have hs0 := lw_s0 hI
  obtain ⟨E1, le, eb, hr⟩ := k_printPairs hI (sG G (i + 1))
  refine b_aload_n dL_law_1283 rfl ?_
  refine b_aload_q dL_law_1284 rfl ?_
  refine b_iload_n dL_law_1285 rfl ?_
  refine b_iconst dL_law_1286 (by decide) ?_
  refine b_add dL_law_1287 (by omega) ?_
  refine b_sld (by omega) (by omega) hn dL_law_1288 ?_
  refine b_callV mlL_161 dL_law_1289 hs0 (av := [_]) rfl rfl (Nat.le_of_ble_eq_true rfl) hr le.1 le.2 eb.1 eb.2 ?_
  rintro _ m1 ⟨v, rfl, hsh, hr2⟩
  refine b_aload_n dL_law_1292 rfl ?_
  refine b_aload_q dL_law_1293 rfl ?_
  refine b_iload_n dL_law_1294 rfl ?_
  refine b_iconst dL_law_1295 (by decide) ?_
  refine b_add dL_law_1296 (by omega) ?_
  refine b_sld (by omega) (by omega) hn dL_law_1297 ?_
  refine b_callV mlL_164 dL_law_1298 (sh_M hsh) (av := [_]) rfl rfl (Nat.le_of_ble_eq_true rfl) hr2 (Nat.le_refl _) (Nat.le_refl _) eb.1 eb.2 ?_
  rintro _ m2 ⟨rfl, hI2⟩
  refine b_icmp_eq (tgt := 1362) dL_law_1301 rfl (fun _ => ?_) (fun h => absurd rfl h)
  exact kt m2 E1 hI2

theorem lc_out {nm : String} {Q : List Frame → Array Value → State → State → Prop} {G : zG} {i : Int} {m : zM} {E : zE} (hn : G.2.2.2.2.1 ≤ 3072) (hI : lwI m E) (h0 : 0 ≤ i) (h1 : i + 6 ≤ ((G.2.2.2.2.1 : Nat) : Int)) (kt : ∀ (m : zM) (E : zE), lwI m E → zB (yL nm) Q G 1362 [zQ 0, zP 0, zP 95, zI i] [] m E) : zB (yL nm) Q G 1306 [zQ 0, zP 0, zP 95, zI i] [] m E := by
  have hs0 := lw_s0 hI
  obtain ⟨E1, le, eb, hr⟩ := k_out hI (sG G (i + 1))
  refine b_aload_n dL_law_1306 rfl ?_
  refine b_aload_q dL_law_1307 rfl ?_
  refine b_iload_n dL_law_1308 rfl ?_
  refine b_iconst dL_law_1309 (by decide) ?_
  refine b_add dL_law_1310 (by omega) ?_
  refine b_sld (by omega) (by omega) hn dL_law_1311 ?_
  refine b_callV mlL_165 dL_law_1312 hs0 (av := [_]) rfl rfl (Nat.le_of_ble_eq_true rfl) hr le.1 le.2 eb.1 eb.2 ?_
  rintro _ m1 ⟨v, rfl, hsh, hr2⟩
  refine b_aload_n dL_law_1315 rfl ?_
  refine b_aload_q dL_law_1316 rfl ?_
  refine b_iload_n dL_law_1317 rfl ?_
  refine b_iconst dL_law_1318 (by decide) ?_
  refine b_add dL_law_1319 (by omega) ?_
  refine b_sld (by omega) (by omega) hn dL_law_1320 ?_
  refine b_callV mlL_168 dL_law_1321 (sh_M hsh) (av := [_]) rfl rfl (Nat.le_of_ble_eq_true rfl) hr2 (Nat.le_refl _) (Nat.le_refl _) eb.1 eb.2 ?_
  rintro _ m2 ⟨rfl, hI2⟩
  refine b_icmp_eq (tgt := 1362) dL_law_1324 rfl (fun _ => ?_) (fun h => absurd rfl h)
  exact kt m2 E1 hI2

theorem lc_core {nm : String} {Q : List Frame → Array Value → State → State → Prop} {G : zG} {i : Int} {m : zM} {E : zE} (hn : G.2.2.2.2.1 ≤ 3072) (hI : lwI m E) (h0 : 0 ≤ i) (h1 : i + 6 ≤ ((G.2.2.2.2.1 : Nat) : Int)) (kt : ∀ (m : zM) (E : zE), lwI m E → zB (yL nm) Q G 1362 [zQ 0, zP 0, zP 95, zI i] [] m E) : zB (yL nm) Q G 1329 [zQ 0, zP 0, zP 95, zI i] [] m E := by
  have hs0 := lw_s0 hI
  obtain ⟨E1, le, eb, hr⟩ := k_core hI (sG G (i + 1)) (sG G (i + 2))
  refine b_aload_n dL_law_1329 rfl ?_
  refine b_aload_q dL_law_1330 rfl ?_
  refine b_iload_n dL_law_1331 rfl ?_
  refine b_iconst dL_law_1332 (by decide) ?_
  refine b_add dL_law_1333 (by omega) ?_
  refine b_sld (by omega) (by omega) hn dL_law_1334 ?_
  refine b_aload_q dL_law_1335 rfl ?_
  refine b_iload_n dL_law_1336 rfl ?_
  refine b_iconst dL_law_1337 (by decide) ?_
  refine b_add dL_law_1338 (by omega) ?_
  refine b_sld (by omega) (by omega) hn dL_law_1339 ?_
  refine b_callV mlL_169 dL_law_1340 hs0 (av := [_, _]) rfl rfl (Nat.le_of_ble_eq_true rfl) hr le.1 le.2 eb.1 eb.2 ?_
  rintro _ m1 ⟨v, rfl, hsh, hr2⟩
  refine b_aload_n dL_law_1343 rfl ?_
  refine b_aload_q dL_law_1344 rfl ?_
  refine b_iload_n dL_law_1345 rfl ?_
  refine b_iconst dL_law_1346 (by decide) ?_
  refine b_add dL_law_1347 (by omega) ?_
  refine b_sld (by omega) (by omega) hn dL_law_1348 ?_
  refine b_aload_q dL_law_1349 rfl ?_
  refine b_iload_n dL_law_1350 rfl ?_
  refine b_iconst dL_law_1351 (by decide) ?_
  refine b_add dL_law_1352 (by omega) ?_
  refine b_sld (by omega) (by omega) hn dL_law_1353 ?_
  refine b_callV mlL_172 dL_law_1354 (sh_M hsh) (av := [_, _]) rfl rfl (Nat.le_of_ble_eq_true rfl) hr2 (Nat.le_refl _) (Nat.le_refl _) eb.1 eb.2 ?_
  rintro _ m2 ⟨rfl, hI2⟩
  refine b_icmp_eq (tgt := 1362) dL_law_1357 rfl (fun _ => ?_) (fun h => absurd rfl h)
  exact kt m2 E1 hI2
