set_option maxHeartbeats 4000000 in
set_option maxRecDepth 100000 in
theorem lc_trust {p : Program} {l : Launch} {e : Env} {s : State} {m : MethodId} {below : List Frame} {meth : Method} {c : Code} {H : Heap} {locs : List Loc} {b L : Nat} {xs : Nat → Int32} {D : va_G} {g : Nat → ClassId} {aC aR : Nat → Nat} {u v : Mm} {ls : Array Slot} {i : Nat} (X : LX p s m meth c b L xs D g aC aR) (w : LW D g aC aR s u v H locs) (hR : Rel u v) (hl : lv_has ls 4 [(3, .int (nI i)), (2, .ref (aR 0)), (1, .ref (aC 0)), (0, .ref b)]) (h1 : vp_in (nI i + (1 : Int32)) L) (h2 : vp_in (nI i + (2 : Int32)) L) (h3 : vp_in (nI i + (3 : Int32)) L) (h4 : vp_in (nI i + (4 : Int32)) L) (h5 : vp_in (nI i + (5 : Int32)) L) (hk : ∀ (u v : Mm) (H : Heap) (locs : List Loc) (ls : Array Slot), Rel u v → LW D g aC aR s u v H locs → lv_has ls 4 [(3, .int (nI i)), (2, .ref (aR 0)), (1, .ref (aC 0)), (0, .ref b)] → W p l e room_1 s m #[Value.ref b] below meth c H locs 600000 7302250 (lw_Z below #[Value.ref b] s) (F0 m 2384 ls [])) : W p l e room_1 s m #[Value.ref b] below meth c H locs 600000 7302250 (lw_Z below #[Value.ref b] s) (F0 m 272 ls []) := by
  obtain ⟨hx, hb, hr, hml, hown, hts, hX, hbl, hlocks, hgv⟩ := X.1
  have hbA : ¬ (fun q : Nat => s.heap.size ≤ q) b := Nat.not_le.mpr hbl
  refine lv_aload_n (pc := 272) hx hb dL_law_272 rfl (lv_at hl 2 rfl) ?_
  refine lv_aload_n (pc := 273) hx hb dL_law_273 rfl (lv_at hl 3 rfl) ?_
  refine lv_iload_n (pc := 274) hx hb dL_law_274 rfl (lv_at hl 0 rfl) ?_
  refine lv_iconst (pc := 275) (v := (1 : Int32)) hx hb dL_law_275 (by decide) ?_
  refine lv_iadd (pc := 276) hx hb dL_law_276 ?_
  refine va_sld (pc := 277) hx hb hX hbl hbA w.2.2 h1 dL_law_277 ?_
  refine lv_aload_n (pc := 278) hx hb dL_law_278 rfl (lv_at hl 3 rfl) ?_
  refine lv_iload_n (pc := 279) hx hb dL_law_279 rfl (lv_at hl 0 rfl) ?_
  refine lv_iconst (pc := 280) (v := (2 : Int32)) hx hb dL_law_280 (by decide) ?_
  refine lv_iadd (pc := 281) hx hb dL_law_281 ?_
  refine va_sld (pc := 282) hx hb hX hbl hbA w.2.2 h2 dL_law_282 ?_
  have h := st_trust hR ((xs (nI i + (1 : Int32)).toNatClampNeg)) ((xs (nI i + (2 : Int32)).toNatClampNeg))
  refine LcallCi (pc := 283) (rest := []) X w (LrunC (pc := 283) X w (okX8_trust l X.2.2.2.1 h) kw815 kmX8_trust ⟨rfl, rfl⟩ ⟨by decide, by decide⟩ rfl hl.1 rfl (Nat.le_of_ble_eq_true rfl) dL_law_283) (fun r u1 H locs h w => ?_)
  refine lv_aload_n (pc := 286) hx hb dL_law_286 rfl (lv_at hl 1 rfl) ?_
  refine lv_aload_n (pc := 287) hx hb dL_law_287 rfl (lv_at hl 3 rfl) ?_
  refine lv_iload_n (pc := 288) hx hb dL_law_288 rfl (lv_at hl 0 rfl) ?_
  refine lv_iconst (pc := 289) (v := (1 : Int32)) hx hb dL_law_289 (by decide) ?_
  refine lv_iadd (pc := 290) hx hb dL_law_290 ?_
  refine va_sld (pc := 291) hx hb hX hbl hbA w.2.2 h1 dL_law_291 ?_
  refine lv_aload_n (pc := 292) hx hb dL_law_292 rfl (lv_at hl 3 rfl) ?_
  refine lv_iload_n (pc := 293) hx hb dL_law_293 rfl (lv_at hl 0 rfl) ?_
  refine lv_iconst (pc := 294) (v := (2 : Int32)) hx hb dL_law_294 (by decide) ?_
  refine lv_iadd (pc := 295) hx hb dL_law_295 ?_
  refine va_sld (pc := 296) hx hb hX hbl hbA w.2.2 h2 dL_law_296 ?_
  refine LcallRi (pc := 297) (rest := [.int r]) X w (LrunR (pc := 297) X w (okX9_trust l X.2.2.2.2.1 h) kw819 kmX9_trust ⟨rfl, rfl⟩ ⟨by decide, by decide⟩ rfl hl.1 rfl (Nat.le_of_ble_eq_true rfl) dL_law_297) (fun r2 v1 H locs h w => ?_)
  refine lv_icmp_eq (pc := 300) (tgt := 2384) hx hb dL_law_300 (by decide) (fun _ => ?_) (fun c_ => absurd h.1 c_)
  exact hk _ _ H locs ls h.2 w hl
set_option maxHeartbeats 4000000 in
set_option maxRecDepth 100000 in
theorem lc_code {p : Program} {l : Launch} {e : Env} {s : State} {m : MethodId} {below : List Frame} {meth : Method} {c : Code} {H : Heap} {locs : List Loc} {b L : Nat} {xs : Nat → Int32} {D : va_G} {g : Nat → ClassId} {aC aR : Nat → Nat} {u v : Mm} {ls : Array Slot} {i : Nat} (X : LX p s m meth c b L xs D g aC aR) (w : LW D g aC aR s u v H locs) (hR : Rel u v) (hl : lv_has ls 4 [(3, .int (nI i)), (2, .ref (aR 0)), (1, .ref (aC 0)), (0, .ref b)]) (h1 : vp_in (nI i + (1 : Int32)) L) (h2 : vp_in (nI i + (2 : Int32)) L) (h3 : vp_in (nI i + (3 : Int32)) L) (h4 : vp_in (nI i + (4 : Int32)) L) (h5 : vp_in (nI i + (5 : Int32)) L) (hk : ∀ (u v : Mm) (H : Heap) (locs : List Loc) (ls : Array Slot), Rel u v → LW D g aC aR s u v H locs → lv_has ls 4 [(3, .int (nI i)), (2, .ref (aR 0)), (1, .ref (aC 0)), (0, .ref b)] → W p l e room_1 s m #[Value.ref b] below meth c H locs 600000 7302250 (lw_Z below #[Value.ref b] s) (F0 m 2384 ls [])) : W p l e room_1 s m #[Value.ref b] below meth c H locs 600000 7302250 (lw_Z below #[Value.ref b] s) (F0 m 305 ls []) := by
  obtain ⟨hx, hb, hr, hml, hown, hts, hX, hbl, hlocks, hgv⟩ := X.1
  have hbA : ¬ (fun q : Nat => s.heap.size ≤ q) b := Nat.not_le.mpr hbl
  refine lv_aload_n (pc := 305) hx hb dL_law_305 rfl (lv_at hl 2 rfl) ?_
  refine lv_aload_n (pc := 306) hx hb dL_law_306 rfl (lv_at hl 3 rfl) ?_
  refine lv_iload_n (pc := 307) hx hb dL_law_307 rfl (lv_at hl 0 rfl) ?_
  refine lv_iconst (pc := 308) (v := (1 : Int32)) hx hb dL_law_308 (by decide) ?_
  refine lv_iadd (pc := 309) hx hb dL_law_309 ?_
  refine va_sld (pc := 310) hx hb hX hbl hbA w.2.2 h1 dL_law_310 ?_
  refine lv_aload_n (pc := 311) hx hb dL_law_311 rfl (lv_at hl 3 rfl) ?_
  refine lv_iload_n (pc := 312) hx hb dL_law_312 rfl (lv_at hl 0 rfl) ?_
  refine lv_iconst (pc := 313) (v := (2 : Int32)) hx hb dL_law_313 (by decide) ?_
  refine lv_iadd (pc := 314) hx hb dL_law_314 ?_
  refine va_sld (pc := 315) hx hb hX hbl hbA w.2.2 h2 dL_law_315 ?_
  refine lv_aload_n (pc := 316) hx hb dL_law_316 rfl (lv_at hl 3 rfl) ?_
  refine lv_iload_n (pc := 317) hx hb dL_law_317 rfl (lv_at hl 0 rfl) ?_
  refine lv_iconst (pc := 318) (v := (3 : Int32)) hx hb dL_law_318 (by decide) ?_
  refine lv_iadd (pc := 319) hx hb dL_law_319 ?_
  refine va_sld (pc := 320) hx hb hX hbl hbA w.2.2 h3 dL_law_320 ?_
  refine lv_aload_n (pc := 321) hx hb dL_law_321 rfl (lv_at hl 3 rfl) ?_
  refine lv_iload_n (pc := 322) hx hb dL_law_322 rfl (lv_at hl 0 rfl) ?_
  refine lv_iconst (pc := 323) (v := (4 : Int32)) hx hb dL_law_323 (by decide) ?_
  refine lv_iadd (pc := 324) hx hb dL_law_324 ?_
  refine va_sld (pc := 325) hx hb hX hbl hbA w.2.2 h4 dL_law_325 ?_
  have h := st_code hR ((xs (nI i + (1 : Int32)).toNatClampNeg)) ((xs (nI i + (2 : Int32)).toNatClampNeg)) ((xs (nI i + (3 : Int32)).toNatClampNeg)) ((xs (nI i + (4 : Int32)).toNatClampNeg))
  refine LcallCi (pc := 326) (rest := []) X w (LrunC (pc := 326) X w (okX8_code l X.2.2.2.1 h) kw823 kmX8_code ⟨rfl, rfl⟩ ⟨by decide, by decide⟩ rfl hl.1 rfl (Nat.le_of_ble_eq_true rfl) dL_law_326) (fun r u1 H locs h w => ?_)
  obtain ⟨rfl, h⟩ := h
  refine lv_aload_n (pc := 329) hx hb dL_law_329 rfl (lv_at hl 1 rfl) ?_
  refine lv_aload_n (pc := 330) hx hb dL_law_330 rfl (lv_at hl 3 rfl) ?_
  refine lv_iload_n (pc := 331) hx hb dL_law_331 rfl (lv_at hl 0 rfl) ?_
  refine lv_iconst (pc := 332) (v := (1 : Int32)) hx hb dL_law_332 (by decide) ?_
  refine lv_iadd (pc := 333) hx hb dL_law_333 ?_
  refine va_sld (pc := 334) hx hb hX hbl hbA w.2.2 h1 dL_law_334 ?_
  refine lv_aload_n (pc := 335) hx hb dL_law_335 rfl (lv_at hl 3 rfl) ?_
  refine lv_iload_n (pc := 336) hx hb dL_law_336 rfl (lv_at hl 0 rfl) ?_
  refine lv_iconst (pc := 337) (v := (2 : Int32)) hx hb dL_law_337 (by decide) ?_
  refine lv_iadd (pc := 338) hx hb dL_law_338 ?_
  refine va_sld (pc := 339) hx hb hX hbl hbA w.2.2 h2 dL_law_339 ?_
  refine lv_aload_n (pc := 340) hx hb dL_law_340 rfl (lv_at hl 3 rfl) ?_
  refine lv_iload_n (pc := 341) hx hb dL_law_341 rfl (lv_at hl 0 rfl) ?_
  refine lv_iconst (pc := 342) (v := (3 : Int32)) hx hb dL_law_342 (by decide) ?_
  refine lv_iadd (pc := 343) hx hb dL_law_343 ?_
  refine va_sld (pc := 344) hx hb hX hbl hbA w.2.2 h3 dL_law_344 ?_
  refine lv_aload_n (pc := 345) hx hb dL_law_345 rfl (lv_at hl 3 rfl) ?_
  refine lv_iload_n (pc := 346) hx hb dL_law_346 rfl (lv_at hl 0 rfl) ?_
  refine lv_iconst (pc := 347) (v := (4 : Int32)) hx hb dL_law_347 (by decide) ?_
  refine lv_iadd (pc := 348) hx hb dL_law_348 ?_
  refine va_sld (pc := 349) hx hb hX hbl hbA w.2.2 h4 dL_law_349 ?_
  refine LcallRi (pc := 350) (rest := [.int r]) X w (LrunR (pc := 350) X w (okX9_code l X.2.2.2.2.1 h) kw827 kmX9_code ⟨rfl, rfl⟩ ⟨by decide, by decide⟩ rfl hl.1 rfl (Nat.le_of_ble_eq_true rfl) dL_law_350) (fun r2 v1 H locs h w => ?_)
  obtain ⟨rfl, h⟩ := h
  refine lv_icmp_eq (pc := 353) (tgt := 2384) hx hb dL_law_353 (by decide) (fun _ => ?_) (fun c_ => absurd h.1 c_)
  exact hk _ _ H locs ls h.2 w hl
set_option maxHeartbeats 4000000 in
set_option maxRecDepth 100000 in
theorem lc_annual {p : Program} {l : Launch} {e : Env} {s : State} {m : MethodId} {below : List Frame} {meth : Method} {c : Code} {H : Heap} {locs : List Loc} {b L : Nat} {xs : Nat → Int32} {D : va_G} {g : Nat → ClassId} {aC aR : Nat → Nat} {u v : Mm} {ls : Array Slot} {i : Nat} (X : LX p s m meth c b L xs D g aC aR) (w : LW D g aC aR s u v H locs) (hR : Rel u v) (hl : lv_has ls 4 [(3, .int (nI i)), (2, .ref (aR 0)), (1, .ref (aC 0)), (0, .ref b)]) (h1 : vp_in (nI i + (1 : Int32)) L) (h2 : vp_in (nI i + (2 : Int32)) L) (h3 : vp_in (nI i + (3 : Int32)) L) (h4 : vp_in (nI i + (4 : Int32)) L) (h5 : vp_in (nI i + (5 : Int32)) L) (hk : ∀ (u v : Mm) (H : Heap) (locs : List Loc) (ls : Array Slot), Rel u v → LW D g aC aR s u v H locs → lv_has ls 4 [(3, .int (nI i)), (2, .ref (aR 0)), (1, .ref (aC 0)), (0, .ref b)] → W p l e room_1 s m #[Value.ref b] below meth c H locs 600000 7302250 (lw_Z below #[Value.ref b] s) (F0 m 2384 ls [])) : W p l e room_1 s m #[Value.ref b] below meth c H locs 600000 7302250 (lw_Z below #[Value.ref b] s) (F0 m 358 ls []) := by
  obtain ⟨hx, hb, hr, hml, hown, hts, hX, hbl, hlocks, hgv⟩ := X.1
  have hbA : ¬ (fun q : Nat => s.heap.size ≤ q) b := Nat.not_le.mpr hbl
  refine lv_aload_n (pc := 358) hx hb dL_law_358 rfl (lv_at hl 2 rfl) ?_
  refine lv_aload_n (pc := 359) hx hb dL_law_359 rfl (lv_at hl 3 rfl) ?_
  refine lv_iload_n (pc := 360) hx hb dL_law_360 rfl (lv_at hl 0 rfl) ?_
  refine lv_iconst (pc := 361) (v := (1 : Int32)) hx hb dL_law_361 (by decide) ?_
  refine lv_iadd (pc := 362) hx hb dL_law_362 ?_
  refine va_sld (pc := 363) hx hb hX hbl hbA w.2.2 h1 dL_law_363 ?_
  refine lv_aload_n (pc := 364) hx hb dL_law_364 rfl (lv_at hl 3 rfl) ?_
  refine lv_iload_n (pc := 365) hx hb dL_law_365 rfl (lv_at hl 0 rfl) ?_
  refine lv_iconst (pc := 366) (v := (2 : Int32)) hx hb dL_law_366 (by decide) ?_
  refine lv_iadd (pc := 367) hx hb dL_law_367 ?_
  refine va_sld (pc := 368) hx hb hX hbl hbA w.2.2 h2 dL_law_368 ?_
  refine lv_aload_n (pc := 369) hx hb dL_law_369 rfl (lv_at hl 3 rfl) ?_
  refine lv_iload_n (pc := 370) hx hb dL_law_370 rfl (lv_at hl 0 rfl) ?_
  refine lv_iconst (pc := 371) (v := (3 : Int32)) hx hb dL_law_371 (by decide) ?_
  refine lv_iadd (pc := 372) hx hb dL_law_372 ?_
  refine va_sld (pc := 373) hx hb hX hbl hbA w.2.2 h3 dL_law_373 ?_
  refine lv_aload_n (pc := 374) hx hb dL_law_374 rfl (lv_at hl 3 rfl) ?_
  refine lv_iload_n (pc := 375) hx hb dL_law_375 rfl (lv_at hl 0 rfl) ?_
  refine lv_iconst (pc := 376) (v := (4 : Int32)) hx hb dL_law_376 (by decide) ?_
  refine lv_iadd (pc := 377) hx hb dL_law_377 ?_
  refine va_sld (pc := 378) hx hb hX hbl hbA w.2.2 h4 dL_law_378 ?_
  have h := st_annual hR ((xs (nI i + (1 : Int32)).toNatClampNeg)) ((xs (nI i + (2 : Int32)).toNatClampNeg)) ((xs (nI i + (3 : Int32)).toNatClampNeg)) ((xs (nI i + (4 : Int32)).toNatClampNeg))
  refine LcallCi (pc := 379) (rest := []) X w (LrunC (pc := 379) X w (okX8_annual l X.2.2.2.1 h) kw831 kmX8_annual ⟨rfl, rfl⟩ ⟨by decide, by decide⟩ rfl hl.1 rfl (Nat.le_of_ble_eq_true rfl) dL_law_379) (fun r u1 H locs h w => ?_)
  obtain ⟨rfl, h⟩ := h
  refine lv_aload_n (pc := 382) hx hb dL_law_382 rfl (lv_at hl 1 rfl) ?_
  refine lv_aload_n (pc := 383) hx hb dL_law_383 rfl (lv_at hl 3 rfl) ?_
  refine lv_iload_n (pc := 384) hx hb dL_law_384 rfl (lv_at hl 0 rfl) ?_
  refine lv_iconst (pc := 385) (v := (1 : Int32)) hx hb dL_law_385 (by decide) ?_
  refine lv_iadd (pc := 386) hx hb dL_law_386 ?_
  refine va_sld (pc := 387) hx hb hX hbl hbA w.2.2 h1 dL_law_387 ?_
  refine lv_aload_n (pc := 388) hx hb dL_law_388 rfl (lv_at hl 3 rfl) ?_
  refine lv_iload_n (pc := 389) hx hb dL_law_389 rfl (lv_at hl 0 rfl) ?_
  refine lv_iconst (pc := 390) (v := (2 : Int32)) hx hb dL_law_390 (by decide) ?_
  refine lv_iadd (pc := 391) hx hb dL_law_391 ?_
  refine va_sld (pc := 392) hx hb hX hbl hbA w.2.2 h2 dL_law_392 ?_
  refine lv_aload_n (pc := 393) hx hb dL_law_393 rfl (lv_at hl 3 rfl) ?_
  refine lv_iload_n (pc := 394) hx hb dL_law_394 rfl (lv_at hl 0 rfl) ?_
  refine lv_iconst (pc := 395) (v := (3 : Int32)) hx hb dL_law_395 (by decide) ?_
  refine lv_iadd (pc := 396) hx hb dL_law_396 ?_
  refine va_sld (pc := 397) hx hb hX hbl hbA w.2.2 h3 dL_law_397 ?_
  refine lv_aload_n (pc := 398) hx hb dL_law_398 rfl (lv_at hl 3 rfl) ?_
  refine lv_iload_n (pc := 399) hx hb dL_law_399 rfl (lv_at hl 0 rfl) ?_
  refine lv_iconst (pc := 400) (v := (4 : Int32)) hx hb dL_law_400 (by decide) ?_
  refine lv_iadd (pc := 401) hx hb dL_law_401 ?_
  refine va_sld (pc := 402) hx hb hX hbl hbA w.2.2 h4 dL_law_402 ?_
  refine LcallRi (pc := 403) (rest := [.int r]) X w (LrunR (pc := 403) X w (okX9_annual l X.2.2.2.2.1 h) kw835 kmX9_annual ⟨rfl, rfl⟩ ⟨by decide, by decide⟩ rfl hl.1 rfl (Nat.le_of_ble_eq_true rfl) dL_law_403) (fun r2 v1 H locs h w => ?_)
  obtain ⟨rfl, h⟩ := h
  refine lv_icmp_eq (pc := 406) (tgt := 2384) hx hb dL_law_406 (by decide) (fun _ => ?_) (fun c_ => absurd h.1 c_)
  exact hk _ _ H locs ls h.2 w hl
set_option maxHeartbeats 4000000 in
set_option maxRecDepth 100000 in
theorem lc_decode {p : Program} {l : Launch} {e : Env} {s : State} {m : MethodId} {below : List Frame} {meth : Method} {c : Code} {H : Heap} {locs : List Loc} {b L : Nat} {xs : Nat → Int32} {D : va_G} {g : Nat → ClassId} {aC aR : Nat → Nat} {u v : Mm} {ls : Array Slot} {i : Nat} (X : LX p s m meth c b L xs D g aC aR) (w : LW D g aC aR s u v H locs) (hR : Rel u v) (hl : lv_has ls 4 [(3, .int (nI i)), (2, .ref (aR 0)), (1, .ref (aC 0)), (0, .ref b)]) (h1 : vp_in (nI i + (1 : Int32)) L) (h2 : vp_in (nI i + (2 : Int32)) L) (h3 : vp_in (nI i + (3 : Int32)) L) (h4 : vp_in (nI i + (4 : Int32)) L) (h5 : vp_in (nI i + (5 : Int32)) L) (hk : ∀ (u v : Mm) (H : Heap) (locs : List Loc) (ls : Array Slot), Rel u v → LW D g aC aR s u v H locs → lv_has ls 4 [(3, .int (nI i)), (2, .ref (aR 0)), (1, .ref (aC 0)), (0, .ref b)] → W p l e room_1 s m #[Value.ref b] below meth c H locs 600000 7302250 (lw_Z below #[Value.ref b] s) (F0 m 2384 ls [])) : W p l e room_1 s m #[Value.ref b] below meth c H locs 600000 7302250 (lw_Z below #[Value.ref b] s) (F0 m 411 ls []) := by
  obtain ⟨hx, hb, hr, hml, hown, hts, hX, hbl, hlocks, hgv⟩ := X.1
  have hbA : ¬ (fun q : Nat => s.heap.size ≤ q) b := Nat.not_le.mpr hbl
  refine lv_aload_n (pc := 411) hx hb dL_law_411 rfl (lv_at hl 2 rfl) ?_
  refine lv_aload_n (pc := 412) hx hb dL_law_412 rfl (lv_at hl 3 rfl) ?_
  refine lv_iload_n (pc := 413) hx hb dL_law_413 rfl (lv_at hl 0 rfl) ?_
  refine lv_iconst (pc := 414) (v := (1 : Int32)) hx hb dL_law_414 (by decide) ?_
  refine lv_iadd (pc := 415) hx hb dL_law_415 ?_
  refine va_sld (pc := 416) hx hb hX hbl hbA w.2.2 h1 dL_law_416 ?_
  refine lv_aload_n (pc := 417) hx hb dL_law_417 rfl (lv_at hl 3 rfl) ?_
  refine lv_iload_n (pc := 418) hx hb dL_law_418 rfl (lv_at hl 0 rfl) ?_
  refine lv_iconst (pc := 419) (v := (2 : Int32)) hx hb dL_law_419 (by decide) ?_
  refine lv_iadd (pc := 420) hx hb dL_law_420 ?_
  refine va_sld (pc := 421) hx hb hX hbl hbA w.2.2 h2 dL_law_421 ?_
  have h := st_decode hR ((xs (nI i + (1 : Int32)).toNatClampNeg)) ((xs (nI i + (2 : Int32)).toNatClampNeg))
  refine LcallCi (pc := 422) (rest := []) X w (LrunC (pc := 422) X w (okX8_decode l X.2.2.2.1 h) kw839 kmX8_decode ⟨rfl, rfl⟩ ⟨by decide, by decide⟩ rfl hl.1 rfl (Nat.le_of_ble_eq_true rfl) dL_law_422) (fun r u1 H locs h w => ?_)
  obtain ⟨rfl, h⟩ := h
  refine lv_aload_n (pc := 425) hx hb dL_law_425 rfl (lv_at hl 1 rfl) ?_
  refine lv_aload_n (pc := 426) hx hb dL_law_426 rfl (lv_at hl 3 rfl) ?_
  refine lv_iload_n (pc := 427) hx hb dL_law_427 rfl (lv_at hl 0 rfl) ?_
  refine lv_iconst (pc := 428) (v := (1 : Int32)) hx hb dL_law_428 (by decide) ?_
  refine lv_iadd (pc := 429) hx hb dL_law_429 ?_
  refine va_sld (pc := 430) hx hb hX hbl hbA w.2.2 h1 dL_law_430 ?_
  refine lv_aload_n (pc := 431) hx hb dL_law_431 rfl (lv_at hl 3 rfl) ?_
  refine lv_iload_n (pc := 432) hx hb dL_law_432 rfl (lv_at hl 0 rfl) ?_
  refine lv_iconst (pc := 433) (v := (2 : Int32)) hx hb dL_law_433 (by decide) ?_
  refine lv_iadd (pc := 434) hx hb dL_law_434 ?_
  refine va_sld (pc := 435) hx hb hX hbl hbA w.2.2 h2 dL_law_435 ?_
  refine LcallRi (pc := 436) (rest := [.int r]) X w (LrunR (pc := 436) X w (okX9_decode l X.2.2.2.2.1 h) kw843 kmX9_decode ⟨rfl, rfl⟩ ⟨by decide, by decide⟩ rfl hl.1 rfl (Nat.le_of_ble_eq_true rfl) dL_law_436) (fun r2 v1 H locs h w => ?_)
  obtain ⟨rfl, h⟩ := h
  refine lv_icmp_eq (pc := 439) (tgt := 2384) hx hb dL_law_439 (by decide) (fun _ => ?_) (fun c_ => absurd h.1 c_)
  exact hk _ _ H locs ls h.2 w hl
set_option maxHeartbeats 4000000 in
set_option maxRecDepth 100000 in
theorem lc_row {p : Program} {l : Launch} {e : Env} {s : State} {m : MethodId} {below : List Frame} {meth : Method} {c : Code} {H : Heap} {locs : List Loc} {b L : Nat} {xs : Nat → Int32} {D : va_G} {g : Nat → ClassId} {aC aR : Nat → Nat} {u v : Mm} {ls : Array Slot} {i : Nat} (X : LX p s m meth c b L xs D g aC aR) (w : LW D g aC aR s u v H locs) (hR : Rel u v) (hl : lv_has ls 4 [(3, .int (nI i)), (2, .ref (aR 0)), (1, .ref (aC 0)), (0, .ref b)]) (h1 : vp_in (nI i + (1 : Int32)) L) (h2 : vp_in (nI i + (2 : Int32)) L) (h3 : vp_in (nI i + (3 : Int32)) L) (h4 : vp_in (nI i + (4 : Int32)) L) (h5 : vp_in (nI i + (5 : Int32)) L) (hk : ∀ (u v : Mm) (H : Heap) (locs : List Loc) (ls : Array Slot), Rel u v → LW D g aC aR s u v H locs → lv_has ls 4 [(3, .int (nI i)), (2, .ref (aR 0)), (1, .ref (aC 0)), (0, .ref b)] → W p l e room_1 s m #[Value.ref b] below meth c H locs 600000 7302250 (lw_Z below #[Value.ref b] s) (F0 m 2384 ls [])) : W p l e room_1 s m #[Value.ref b] below meth c H locs 600000 7302250 (lw_Z below #[Value.ref b] s) (F0 m 444 ls []) := by
  obtain ⟨hx, hb, hr, hml, hown, hts, hX, hbl, hlocks, hgv⟩ := X.1
  have hbA : ¬ (fun q : Nat => s.heap.size ≤ q) b := Nat.not_le.mpr hbl
  refine lv_aload_n (pc := 444) hx hb dL_law_444 rfl (lv_at hl 2 rfl) ?_
  refine lv_aload_n (pc := 445) hx hb dL_law_445 rfl (lv_at hl 3 rfl) ?_
  refine lv_iload_n (pc := 446) hx hb dL_law_446 rfl (lv_at hl 0 rfl) ?_
  refine lv_iconst (pc := 447) (v := (1 : Int32)) hx hb dL_law_447 (by decide) ?_
  refine lv_iadd (pc := 448) hx hb dL_law_448 ?_
  refine va_sld (pc := 449) hx hb hX hbl hbA w.2.2 h1 dL_law_449 ?_
  refine lv_aload_n (pc := 450) hx hb dL_law_450 rfl (lv_at hl 3 rfl) ?_
  refine lv_iload_n (pc := 451) hx hb dL_law_451 rfl (lv_at hl 0 rfl) ?_
  refine lv_iconst (pc := 452) (v := (2 : Int32)) hx hb dL_law_452 (by decide) ?_
  refine lv_iadd (pc := 453) hx hb dL_law_453 ?_
  refine va_sld (pc := 454) hx hb hX hbl hbA w.2.2 h2 dL_law_454 ?_
  refine lv_aload_n (pc := 455) hx hb dL_law_455 rfl (lv_at hl 3 rfl) ?_
  refine lv_iload_n (pc := 456) hx hb dL_law_456 rfl (lv_at hl 0 rfl) ?_
  refine lv_iconst (pc := 457) (v := (3 : Int32)) hx hb dL_law_457 (by decide) ?_
  refine lv_iadd (pc := 458) hx hb dL_law_458 ?_
  refine va_sld (pc := 459) hx hb hX hbl hbA w.2.2 h3 dL_law_459 ?_
  refine lv_aload_n (pc := 460) hx hb dL_law_460 rfl (lv_at hl 3 rfl) ?_
  refine lv_iload_n (pc := 461) hx hb dL_law_461 rfl (lv_at hl 0 rfl) ?_
  refine lv_iconst (pc := 462) (v := (4 : Int32)) hx hb dL_law_462 (by decide) ?_
  refine lv_iadd (pc := 463) hx hb dL_law_463 ?_
  refine va_sld (pc := 464) hx hb hX hbl hbA w.2.2 h4 dL_law_464 ?_
  have h := st_row hR ((xs (nI i + (1 : Int32)).toNatClampNeg)) ((xs (nI i + (2 : Int32)).toNatClampNeg)) ((xs (nI i + (3 : Int32)).toNatClampNeg)) ((xs (nI i + (4 : Int32)).toNatClampNeg))
  refine LcallCi (pc := 465) (rest := []) X w (LrunC (pc := 465) X w (okX8_row l X.2.2.2.1 h) kw847 kmX8_row ⟨rfl, rfl⟩ ⟨by decide, by decide⟩ rfl hl.1 rfl (Nat.le_of_ble_eq_true rfl) dL_law_465) (fun r u1 H locs h w => ?_)
  refine lv_aload_n (pc := 468) hx hb dL_law_468 rfl (lv_at hl 1 rfl) ?_
  refine lv_aload_n (pc := 469) hx hb dL_law_469 rfl (lv_at hl 3 rfl) ?_
  refine lv_iload_n (pc := 470) hx hb dL_law_470 rfl (lv_at hl 0 rfl) ?_
  refine lv_iconst (pc := 471) (v := (1 : Int32)) hx hb dL_law_471 (by decide) ?_
  refine lv_iadd (pc := 472) hx hb dL_law_472 ?_
  refine va_sld (pc := 473) hx hb hX hbl hbA w.2.2 h1 dL_law_473 ?_
  refine lv_aload_n (pc := 474) hx hb dL_law_474 rfl (lv_at hl 3 rfl) ?_
  refine lv_iload_n (pc := 475) hx hb dL_law_475 rfl (lv_at hl 0 rfl) ?_
  refine lv_iconst (pc := 476) (v := (2 : Int32)) hx hb dL_law_476 (by decide) ?_
  refine lv_iadd (pc := 477) hx hb dL_law_477 ?_
  refine va_sld (pc := 478) hx hb hX hbl hbA w.2.2 h2 dL_law_478 ?_
  refine lv_aload_n (pc := 479) hx hb dL_law_479 rfl (lv_at hl 3 rfl) ?_
  refine lv_iload_n (pc := 480) hx hb dL_law_480 rfl (lv_at hl 0 rfl) ?_
  refine lv_iconst (pc := 481) (v := (3 : Int32)) hx hb dL_law_481 (by decide) ?_
  refine lv_iadd (pc := 482) hx hb dL_law_482 ?_
  refine va_sld (pc := 483) hx hb hX hbl hbA w.2.2 h3 dL_law_483 ?_
  refine lv_aload_n (pc := 484) hx hb dL_law_484 rfl (lv_at hl 3 rfl) ?_
  refine lv_iload_n (pc := 485) hx hb dL_law_485 rfl (lv_at hl 0 rfl) ?_
  refine lv_iconst (pc := 486) (v := (4 : Int32)) hx hb dL_law_486 (by decide) ?_
  refine lv_iadd (pc := 487) hx hb dL_law_487 ?_
  refine va_sld (pc := 488) hx hb hX hbl hbA w.2.2 h4 dL_law_488 ?_
  refine LcallRi (pc := 489) (rest := [.int r]) X w (LrunR (pc := 489) X w (okX9_row l X.2.2.2.2.1 h) kw848 kmX9_row ⟨rfl, rfl⟩ ⟨by decide, by decide⟩ rfl hl.1 rfl (Nat.le_of_ble_eq_true rfl) dL_law_489) (fun r2 v1 H locs h w => ?_)
  refine lv_icmp_eq (pc := 492) (tgt := 2384) hx hb dL_law_492 (by decide) (fun _ => ?_) (fun c_ => absurd h.1 c_)
  exact hk _ _ H locs ls h.2 w hl
set_option maxHeartbeats 4000000 in
set_option maxRecDepth 100000 in
theorem lc_rowIs {p : Program} {l : Launch} {e : Env} {s : State} {m : MethodId} {below : List Frame} {meth : Method} {c : Code} {H : Heap} {locs : List Loc} {b L : Nat} {xs : Nat → Int32} {D : va_G} {g : Nat → ClassId} {aC aR : Nat → Nat} {u v : Mm} {ls : Array Slot} {i : Nat} (X : LX p s m meth c b L xs D g aC aR) (w : LW D g aC aR s u v H locs) (hR : Rel u v) (hl : lv_has ls 4 [(3, .int (nI i)), (2, .ref (aR 0)), (1, .ref (aC 0)), (0, .ref b)]) (h1 : vp_in (nI i + (1 : Int32)) L) (h2 : vp_in (nI i + (2 : Int32)) L) (h3 : vp_in (nI i + (3 : Int32)) L) (h4 : vp_in (nI i + (4 : Int32)) L) (h5 : vp_in (nI i + (5 : Int32)) L) (hk : ∀ (u v : Mm) (H : Heap) (locs : List Loc) (ls : Array Slot), Rel u v → LW D g aC aR s u v H locs → lv_has ls 4 [(3, .int (nI i)), (2, .ref (aR 0)), (1, .ref (aC 0)), (0, .ref b)] → W p l e room_1 s m #[Value.ref b] below meth c H locs 600000 7302250 (lw_Z below #[Value.ref b] s) (F0 m 2384 ls [])) : W p l e room_1 s m #[Value.ref b] below meth c H locs 600000 7302250 (lw_Z below #[Value.ref b] s) (F0 m 497 ls []) := by
  obtain ⟨hx, hb, hr, hml, hown, hts, hX, hbl, hlocks, hgv⟩ := X.1
  have hbA : ¬ (fun q : Nat => s.heap.size ≤ q) b := Nat.not_le.mpr hbl
  refine lv_aload_n (pc := 497) hx hb dL_law_497 rfl (lv_at hl 2 rfl) ?_
  refine lv_aload_n (pc := 498) hx hb dL_law_498 rfl (lv_at hl 3 rfl) ?_
  refine lv_iload_n (pc := 499) hx hb dL_law_499 rfl (lv_at hl 0 rfl) ?_
  refine lv_iconst (pc := 500) (v := (1 : Int32)) hx hb dL_law_500 (by decide) ?_
  refine lv_iadd (pc := 501) hx hb dL_law_501 ?_
  refine va_sld (pc := 502) hx hb hX hbl hbA w.2.2 h1 dL_law_502 ?_
  refine lv_aload_n (pc := 503) hx hb dL_law_503 rfl (lv_at hl 3 rfl) ?_
  refine lv_iload_n (pc := 504) hx hb dL_law_504 rfl (lv_at hl 0 rfl) ?_
  refine lv_iconst (pc := 505) (v := (2 : Int32)) hx hb dL_law_505 (by decide) ?_
  refine lv_iadd (pc := 506) hx hb dL_law_506 ?_
  refine va_sld (pc := 507) hx hb hX hbl hbA w.2.2 h2 dL_law_507 ?_
  have h := st_rowIs hR ((xs (nI i + (1 : Int32)).toNatClampNeg)) ((xs (nI i + (2 : Int32)).toNatClampNeg))
  refine LcallCi (pc := 508) (rest := []) X w (LrunC (pc := 508) X w (okX8_rowIs l X.2.2.2.1 h) kw852 kmX8_rowIs ⟨rfl, rfl⟩ ⟨by decide, by decide⟩ rfl hl.1 rfl (Nat.le_of_ble_eq_true rfl) dL_law_508) (fun r u1 H locs h w => ?_)
  refine lv_aload_n (pc := 511) hx hb dL_law_511 rfl (lv_at hl 1 rfl) ?_
  refine lv_aload_n (pc := 512) hx hb dL_law_512 rfl (lv_at hl 3 rfl) ?_
  refine lv_iload_n (pc := 513) hx hb dL_law_513 rfl (lv_at hl 0 rfl) ?_
  refine lv_iconst (pc := 514) (v := (1 : Int32)) hx hb dL_law_514 (by decide) ?_
  refine lv_iadd (pc := 515) hx hb dL_law_515 ?_
  refine va_sld (pc := 516) hx hb hX hbl hbA w.2.2 h1 dL_law_516 ?_
  refine lv_aload_n (pc := 517) hx hb dL_law_517 rfl (lv_at hl 3 rfl) ?_
  refine lv_iload_n (pc := 518) hx hb dL_law_518 rfl (lv_at hl 0 rfl) ?_
  refine lv_iconst (pc := 519) (v := (2 : Int32)) hx hb dL_law_519 (by decide) ?_
  refine lv_iadd (pc := 520) hx hb dL_law_520 ?_
  refine va_sld (pc := 521) hx hb hX hbl hbA w.2.2 h2 dL_law_521 ?_
  refine LcallRi (pc := 522) (rest := [.int r]) X w (LrunR (pc := 522) X w (okX9_rowIs l X.2.2.2.2.1 h) kw856 kmX9_rowIs ⟨rfl, rfl⟩ ⟨by decide, by decide⟩ rfl hl.1 rfl (Nat.le_of_ble_eq_true rfl) dL_law_522) (fun r2 v1 H locs h w => ?_)
  refine lv_icmp_eq (pc := 525) (tgt := 2384) hx hb dL_law_525 (by decide) (fun _ => ?_) (fun c_ => absurd h.1 c_)
  exact hk _ _ H locs ls h.2 w hl
set_option maxHeartbeats 4000000 in
set_option maxRecDepth 100000 in
theorem lc_asOf {p : Program} {l : Launch} {e : Env} {s : State} {m : MethodId} {below : List Frame} {meth : Method} {c : Code} {H : Heap} {locs : List Loc} {b L : Nat} {xs : Nat → Int32} {D : va_G} {g : Nat → ClassId} {aC aR : Nat → Nat} {u v : Mm} {ls : Array Slot} {i : Nat} (X : LX p s m meth c b L xs D g aC aR) (w : LW D g aC aR s u v H locs) (hR : Rel u v) (hl : lv_has ls 4 [(3, .int (nI i)), (2, .ref (aR 0)), (1, .ref (aC 0)), (0, .ref b)]) (h1 : vp_in (nI i + (1 : Int32)) L) (h2 : vp_in (nI i + (2 : Int32)) L) (h3 : vp_in (nI i + (3 : Int32)) L) (h4 : vp_in (nI i + (4 : Int32)) L) (h5 : vp_in (nI i + (5 : Int32)) L) (hk : ∀ (u v : Mm) (H : Heap) (locs : List Loc) (ls : Array Slot), Rel u v → LW D g aC aR s u v H locs → lv_has ls 4 [(3, .int (nI i)), (2, .ref (aR 0)), (1, .ref (aC 0)), (0, .ref b)] → W p l e room_1 s m #[Value.ref b] below meth c H locs 600000 7302250 (lw_Z below #[Value.ref b] s) (F0 m 2384 ls [])) : W p l e room_1 s m #[Value.ref b] below meth c H locs 600000 7302250 (lw_Z below #[Value.ref b] s) (F0 m 530 ls []) := by
  obtain ⟨hx, hb, hr, hml, hown, hts, hX, hbl, hlocks, hgv⟩ := X.1
  have hbA : ¬ (fun q : Nat => s.heap.size ≤ q) b := Nat.not_le.mpr hbl
  refine lv_aload_n (pc := 530) hx hb dL_law_530 rfl (lv_at hl 2 rfl) ?_
  refine lv_aload_n (pc := 531) hx hb dL_law_531 rfl (lv_at hl 3 rfl) ?_
  refine lv_iload_n (pc := 532) hx hb dL_law_532 rfl (lv_at hl 0 rfl) ?_
  refine lv_iconst (pc := 533) (v := (1 : Int32)) hx hb dL_law_533 (by decide) ?_
  refine lv_iadd (pc := 534) hx hb dL_law_534 ?_
  refine va_sld (pc := 535) hx hb hX hbl hbA w.2.2 h1 dL_law_535 ?_
  have h := st_asOf hR ((xs (nI i + (1 : Int32)).toNatClampNeg))
  refine LcallCi (pc := 536) (rest := []) X w (LrunC (pc := 536) X w (okX8_asOf l X.2.2.2.1 h) kw860 kmX8_asOf ⟨rfl, rfl⟩ ⟨by decide, by decide⟩ rfl hl.1 rfl (Nat.le_of_ble_eq_true rfl) dL_law_536) (fun r u1 H locs h w => ?_)
  refine lv_aload_n (pc := 539) hx hb dL_law_539 rfl (lv_at hl 1 rfl) ?_
  refine lv_aload_n (pc := 540) hx hb dL_law_540 rfl (lv_at hl 3 rfl) ?_
  refine lv_iload_n (pc := 541) hx hb dL_law_541 rfl (lv_at hl 0 rfl) ?_
  refine lv_iconst (pc := 542) (v := (1 : Int32)) hx hb dL_law_542 (by decide) ?_
  refine lv_iadd (pc := 543) hx hb dL_law_543 ?_
  refine va_sld (pc := 544) hx hb hX hbl hbA w.2.2 h1 dL_law_544 ?_
  refine LcallRi (pc := 545) (rest := [.int r]) X w (LrunR (pc := 545) X w (okX9_asOf l X.2.2.2.2.1 h) kw864 kmX9_asOf ⟨rfl, rfl⟩ ⟨by decide, by decide⟩ rfl hl.1 rfl (Nat.le_of_ble_eq_true rfl) dL_law_545) (fun r2 v1 H locs h w => ?_)
  refine lv_icmp_eq (pc := 548) (tgt := 2384) hx hb dL_law_548 (by decide) (fun _ => ?_) (fun c_ => absurd h.1 c_)
  exact hk _ _ H locs ls h.2 w hl
set_option maxHeartbeats 4000000 in
set_option maxRecDepth 100000 in
theorem lc_column {p : Program} {l : Launch} {e : Env} {s : State} {m : MethodId} {below : List Frame} {meth : Method} {c : Code} {H : Heap} {locs : List Loc} {b L : Nat} {xs : Nat → Int32} {D : va_G} {g : Nat → ClassId} {aC aR : Nat → Nat} {u v : Mm} {ls : Array Slot} {i : Nat} (X : LX p s m meth c b L xs D g aC aR) (w : LW D g aC aR s u v H locs) (hR : Rel u v) (hl : lv_has ls 4 [(3, .int (nI i)), (2, .ref (aR 0)), (1, .ref (aC 0)), (0, .ref b)]) (h1 : vp_in (nI i + (1 : Int32)) L) (h2 : vp_in (nI i + (2 : Int32)) L) (h3 : vp_in (nI i + (3 : Int32)) L) (h4 : vp_in (nI i + (4 : Int32)) L) (h5 : vp_in (nI i + (5 : Int32)) L) (hk : ∀ (u v : Mm) (H : Heap) (locs : List Loc) (ls : Array Slot), Rel u v → LW D g aC aR s u v H locs → lv_has ls 4 [(3, .int (nI i)), (2, .ref (aR 0)), (1, .ref (aC 0)), (0, .ref b)] → W p l e room_1 s m #[Value.ref b] below meth c H locs 600000 7302250 (lw_Z below #[Value.ref b] s) (F0 m 2384 ls [])) : W p l e room_1 s m #[Value.ref b] below meth c H locs 600000 7302250 (lw_Z below #[Value.ref b] s) (F0 m 553 ls []) := by
  obtain ⟨hx, hb, hr, hml, hown, hts, hX, hbl, hlocks, hgv⟩ := X.1
  have hbA : ¬ (fun q : Nat => s.heap.size ≤ q) b := Nat.not_le.mpr hbl
  refine lv_aload_n (pc := 553) hx hb dL_law_553 rfl (lv_at hl 2 rfl) ?_
  refine lv_aload_n (pc := 554) hx hb dL_law_554 rfl (lv_at hl 3 rfl) ?_
  refine lv_iload_n (pc := 555) hx hb dL_law_555 rfl (lv_at hl 0 rfl) ?_
  refine lv_iconst (pc := 556) (v := (1 : Int32)) hx hb dL_law_556 (by decide) ?_
  refine lv_iadd (pc := 557) hx hb dL_law_557 ?_
  refine va_sld (pc := 558) hx hb hX hbl hbA w.2.2 h1 dL_law_558 ?_
  refine lv_aload_n (pc := 559) hx hb dL_law_559 rfl (lv_at hl 3 rfl) ?_
  refine lv_iload_n (pc := 560) hx hb dL_law_560 rfl (lv_at hl 0 rfl) ?_
  refine lv_iconst (pc := 561) (v := (2 : Int32)) hx hb dL_law_561 (by decide) ?_
  refine lv_iadd (pc := 562) hx hb dL_law_562 ?_
  refine va_sld (pc := 563) hx hb hX hbl hbA w.2.2 h2 dL_law_563 ?_
  have h := st_column hR ((xs (nI i + (1 : Int32)).toNatClampNeg)) ((xs (nI i + (2 : Int32)).toNatClampNeg))
  refine LcallCi (pc := 564) (rest := []) X w (LrunC (pc := 564) X w (okX8_column l X.2.2.2.1 h) kw868 kmX8_column ⟨rfl, rfl⟩ ⟨by decide, by decide⟩ rfl hl.1 rfl (Nat.le_of_ble_eq_true rfl) dL_law_564) (fun r u1 H locs h w => ?_)
  refine lv_aload_n (pc := 567) hx hb dL_law_567 rfl (lv_at hl 1 rfl) ?_
  refine lv_aload_n (pc := 568) hx hb dL_law_568 rfl (lv_at hl 3 rfl) ?_
  refine lv_iload_n (pc := 569) hx hb dL_law_569 rfl (lv_at hl 0 rfl) ?_
  refine lv_iconst (pc := 570) (v := (1 : Int32)) hx hb dL_law_570 (by decide) ?_
  refine lv_iadd (pc := 571) hx hb dL_law_571 ?_
  refine va_sld (pc := 572) hx hb hX hbl hbA w.2.2 h1 dL_law_572 ?_
  refine lv_aload_n (pc := 573) hx hb dL_law_573 rfl (lv_at hl 3 rfl) ?_
  refine lv_iload_n (pc := 574) hx hb dL_law_574 rfl (lv_at hl 0 rfl) ?_
  refine lv_iconst (pc := 575) (v := (2 : Int32)) hx hb dL_law_575 (by decide) ?_
  refine lv_iadd (pc := 576) hx hb dL_law_576 ?_
  refine va_sld (pc := 577) hx hb hX hbl hbA w.2.2 h2 dL_law_577 ?_
  refine LcallRi (pc := 578) (rest := [.int r]) X w (LrunR (pc := 578) X w (okX9_column l X.2.2.2.2.1 h) kw872 kmX9_column ⟨rfl, rfl⟩ ⟨by decide, by decide⟩ rfl hl.1 rfl (Nat.le_of_ble_eq_true rfl) dL_law_578) (fun r2 v1 H locs h w => ?_)
  refine lv_icmp_eq (pc := 581) (tgt := 2384) hx hb dL_law_581 (by decide) (fun _ => ?_) (fun c_ => absurd h.1 c_)
  exact hk _ _ H locs ls h.2 w hl
set_option maxHeartbeats 4000000 in
set_option maxRecDepth 100000 in
theorem lc_said {p : Program} {l : Launch} {e : Env} {s : State} {m : MethodId} {below : List Frame} {meth : Method} {c : Code} {H : Heap} {locs : List Loc} {b L : Nat} {xs : Nat → Int32} {D : va_G} {g : Nat → ClassId} {aC aR : Nat → Nat} {u v : Mm} {ls : Array Slot} {i : Nat} (X : LX p s m meth c b L xs D g aC aR) (w : LW D g aC aR s u v H locs) (hR : Rel u v) (hl : lv_has ls 4 [(3, .int (nI i)), (2, .ref (aR 0)), (1, .ref (aC 0)), (0, .ref b)]) (h1 : vp_in (nI i + (1 : Int32)) L) (h2 : vp_in (nI i + (2 : Int32)) L) (h3 : vp_in (nI i + (3 : Int32)) L) (h4 : vp_in (nI i + (4 : Int32)) L) (h5 : vp_in (nI i + (5 : Int32)) L) (hk : ∀ (u v : Mm) (H : Heap) (locs : List Loc) (ls : Array Slot), Rel u v → LW D g aC aR s u v H locs → lv_has ls 4 [(3, .int (nI i)), (2, .ref (aR 0)), (1, .ref (aC 0)), (0, .ref b)] → W p l e room_1 s m #[Value.ref b] below meth c H locs 600000 7302250 (lw_Z below #[Value.ref b] s) (F0 m 2384 ls [])) : W p l e room_1 s m #[Value.ref b] below meth c H locs 600000 7302250 (lw_Z below #[Value.ref b] s) (F0 m 586 ls []) := by
  obtain ⟨hx, hb, hr, hml, hown, hts, hX, hbl, hlocks, hgv⟩ := X.1
  have hbA : ¬ (fun q : Nat => s.heap.size ≤ q) b := Nat.not_le.mpr hbl
  refine lv_aload_n (pc := 586) hx hb dL_law_586 rfl (lv_at hl 2 rfl) ?_
  refine lv_aload_n (pc := 587) hx hb dL_law_587 rfl (lv_at hl 3 rfl) ?_
  refine lv_iload_n (pc := 588) hx hb dL_law_588 rfl (lv_at hl 0 rfl) ?_
  refine lv_iconst (pc := 589) (v := (1 : Int32)) hx hb dL_law_589 (by decide) ?_
  refine lv_iadd (pc := 590) hx hb dL_law_590 ?_
  refine va_sld (pc := 591) hx hb hX hbl hbA w.2.2 h1 dL_law_591 ?_
  have h := st_said hR ((xs (nI i + (1 : Int32)).toNatClampNeg))
  refine LcallCl (pc := 592) (rest := []) X w (LrunC (pc := 592) X w (okX8_said l X.2.2.2.1 h) kw876 kmX8_said ⟨rfl, rfl⟩ ⟨by decide, by decide⟩ rfl hl.1 rfl (Nat.le_of_ble_eq_true rfl) dL_law_592) (fun r u1 H locs h w => ?_)
  refine lv_aload_n (pc := 595) hx hb dL_law_595 rfl (lv_at hl 1 rfl) ?_
  refine lv_aload_n (pc := 596) hx hb dL_law_596 rfl (lv_at hl 3 rfl) ?_
  refine lv_iload_n (pc := 597) hx hb dL_law_597 rfl (lv_at hl 0 rfl) ?_
  refine lv_iconst (pc := 598) (v := (1 : Int32)) hx hb dL_law_598 (by decide) ?_
  refine lv_iadd (pc := 599) hx hb dL_law_599 ?_
  refine va_sld (pc := 600) hx hb hX hbl hbA w.2.2 h1 dL_law_600 ?_
  refine LcallRl (pc := 601) (rest := [.long r]) X w (LrunR (pc := 601) X w (okX9_said l X.2.2.2.2.1 h) kw880 kmX9_said ⟨rfl, rfl⟩ ⟨by decide, by decide⟩ rfl hl.1 rfl (Nat.le_of_ble_eq_true rfl) dL_law_601) (fun r2 v1 H locs h w => ?_)
  refine lq_eq (pc := 604) (tgt := 2384) hx hb dL_law_604 dL_law_605 (by decide) (fun _ => ?_) (fun c_ => absurd h.1 c_)
  exact hk _ _ H locs ls h.2 w hl
set_option maxHeartbeats 4000000 in
set_option maxRecDepth 100000 in
theorem lc_weight {p : Program} {l : Launch} {e : Env} {s : State} {m : MethodId} {below : List Frame} {meth : Method} {c : Code} {H : Heap} {locs : List Loc} {b L : Nat} {xs : Nat → Int32} {D : va_G} {g : Nat → ClassId} {aC aR : Nat → Nat} {u v : Mm} {ls : Array Slot} {i : Nat} (X : LX p s m meth c b L xs D g aC aR) (w : LW D g aC aR s u v H locs) (hR : Rel u v) (hl : lv_has ls 4 [(3, .int (nI i)), (2, .ref (aR 0)), (1, .ref (aC 0)), (0, .ref b)]) (h1 : vp_in (nI i + (1 : Int32)) L) (h2 : vp_in (nI i + (2 : Int32)) L) (h3 : vp_in (nI i + (3 : Int32)) L) (h4 : vp_in (nI i + (4 : Int32)) L) (h5 : vp_in (nI i + (5 : Int32)) L) (hk : ∀ (u v : Mm) (H : Heap) (locs : List Loc) (ls : Array Slot), Rel u v → LW D g aC aR s u v H locs → lv_has ls 4 [(3, .int (nI i)), (2, .ref (aR 0)), (1, .ref (aC 0)), (0, .ref b)] → W p l e room_1 s m #[Value.ref b] below meth c H locs 600000 7302250 (lw_Z below #[Value.ref b] s) (F0 m 2384 ls [])) : W p l e room_1 s m #[Value.ref b] below meth c H locs 600000 7302250 (lw_Z below #[Value.ref b] s) (F0 m 610 ls []) := by
  obtain ⟨hx, hb, hr, hml, hown, hts, hX, hbl, hlocks, hgv⟩ := X.1
  have hbA : ¬ (fun q : Nat => s.heap.size ≤ q) b := Nat.not_le.mpr hbl
  refine lv_aload_n (pc := 610) hx hb dL_law_610 rfl (lv_at hl 2 rfl) ?_
  refine lv_aload_n (pc := 611) hx hb dL_law_611 rfl (lv_at hl 3 rfl) ?_
  refine lv_iload_n (pc := 612) hx hb dL_law_612 rfl (lv_at hl 0 rfl) ?_
  refine lv_iconst (pc := 613) (v := (1 : Int32)) hx hb dL_law_613 (by decide) ?_
  refine lv_iadd (pc := 614) hx hb dL_law_614 ?_
  refine va_sld (pc := 615) hx hb hX hbl hbA w.2.2 h1 dL_law_615 ?_
  have h := st_weight hR ((xs (nI i + (1 : Int32)).toNatClampNeg))
  refine LcallCi (pc := 616) (rest := []) X w (LrunC (pc := 616) X w (okX8_weight l X.2.2.2.1 h) kw884 kmX8_weight ⟨rfl, rfl⟩ ⟨by decide, by decide⟩ rfl hl.1 rfl (Nat.le_of_ble_eq_true rfl) dL_law_616) (fun r u1 H locs h w => ?_)
  refine lv_aload_n (pc := 619) hx hb dL_law_619 rfl (lv_at hl 1 rfl) ?_
  refine lv_aload_n (pc := 620) hx hb dL_law_620 rfl (lv_at hl 3 rfl) ?_
  refine lv_iload_n (pc := 621) hx hb dL_law_621 rfl (lv_at hl 0 rfl) ?_
  refine lv_iconst (pc := 622) (v := (1 : Int32)) hx hb dL_law_622 (by decide) ?_
  refine lv_iadd (pc := 623) hx hb dL_law_623 ?_
  refine va_sld (pc := 624) hx hb hX hbl hbA w.2.2 h1 dL_law_624 ?_
  refine LcallRi (pc := 625) (rest := [.int r]) X w (LrunR (pc := 625) X w (okX9_weight l X.2.2.2.2.1 h) kw888 kmX9_weight ⟨rfl, rfl⟩ ⟨by decide, by decide⟩ rfl hl.1 rfl (Nat.le_of_ble_eq_true rfl) dL_law_625) (fun r2 v1 H locs h w => ?_)
  refine lv_icmp_eq (pc := 628) (tgt := 2384) hx hb dL_law_628 (by decide) (fun _ => ?_) (fun c_ => absurd h.1 c_)
  exact hk _ _ H locs ls h.2 w hl
set_option maxHeartbeats 4000000 in
set_option maxRecDepth 100000 in
theorem lc_bent {p : Program} {l : Launch} {e : Env} {s : State} {m : MethodId} {below : List Frame} {meth : Method} {c : Code} {H : Heap} {locs : List Loc} {b L : Nat} {xs : Nat → Int32} {D : va_G} {g : Nat → ClassId} {aC aR : Nat → Nat} {u v : Mm} {ls : Array Slot} {i : Nat} (X : LX p s m meth c b L xs D g aC aR) (w : LW D g aC aR s u v H locs) (hR : Rel u v) (hl : lv_has ls 4 [(3, .int (nI i)), (2, .ref (aR 0)), (1, .ref (aC 0)), (0, .ref b)]) (h1 : vp_in (nI i + (1 : Int32)) L) (h2 : vp_in (nI i + (2 : Int32)) L) (h3 : vp_in (nI i + (3 : Int32)) L) (h4 : vp_in (nI i + (4 : Int32)) L) (h5 : vp_in (nI i + (5 : Int32)) L) (hk : ∀ (u v : Mm) (H : Heap) (locs : List Loc) (ls : Array Slot), Rel u v → LW D g aC aR s u v H locs → lv_has ls 4 [(3, .int (nI i)), (2, .ref (aR 0)), (1, .ref (aC 0)), (0, .ref b)] → W p l e room_1 s m #[Value.ref b] below meth c H locs 600000 7302250 (lw_Z below #[Value.ref b] s) (F0 m 2384 ls [])) : W p l e room_1 s m #[Value.ref b] below meth c H locs 600000 7302250 (lw_Z below #[Value.ref b] s) (F0 m 633 ls []) := by
  obtain ⟨hx, hb, hr, hml, hown, hts, hX, hbl, hlocks, hgv⟩ := X.1
  have hbA : ¬ (fun q : Nat => s.heap.size ≤ q) b := Nat.not_le.mpr hbl
  refine lv_aload_n (pc := 633) hx hb dL_law_633 rfl (lv_at hl 2 rfl) ?_
  refine lv_aload_n (pc := 634) hx hb dL_law_634 rfl (lv_at hl 3 rfl) ?_
  refine lv_iload_n (pc := 635) hx hb dL_law_635 rfl (lv_at hl 0 rfl) ?_
  refine lv_iconst (pc := 636) (v := (1 : Int32)) hx hb dL_law_636 (by decide) ?_
  refine lv_iadd (pc := 637) hx hb dL_law_637 ?_
  refine va_sld (pc := 638) hx hb hX hbl hbA w.2.2 h1 dL_law_638 ?_
  have h := st_bent hR ((xs (nI i + (1 : Int32)).toNatClampNeg))
  refine LcallCl (pc := 639) (rest := []) X w (LrunC (pc := 639) X w (okX8_bent l X.2.2.2.1 h) kw892 kmX8_bent ⟨rfl, rfl⟩ ⟨by decide, by decide⟩ rfl hl.1 rfl (Nat.le_of_ble_eq_true rfl) dL_law_639) (fun r u1 H locs h w => ?_)
  refine lv_aload_n (pc := 642) hx hb dL_law_642 rfl (lv_at hl 1 rfl) ?_
  refine lv_aload_n (pc := 643) hx hb dL_law_643 rfl (lv_at hl 3 rfl) ?_
  refine lv_iload_n (pc := 644) hx hb dL_law_644 rfl (lv_at hl 0 rfl) ?_
  refine lv_iconst (pc := 645) (v := (1 : Int32)) hx hb dL_law_645 (by decide) ?_
  refine lv_iadd (pc := 646) hx hb dL_law_646 ?_
  refine va_sld (pc := 647) hx hb hX hbl hbA w.2.2 h1 dL_law_647 ?_
  refine LcallRl (pc := 648) (rest := [.long r]) X w (LrunR (pc := 648) X w (okX9_bent l X.2.2.2.2.1 h) kw896 kmX9_bent ⟨rfl, rfl⟩ ⟨by decide, by decide⟩ rfl hl.1 rfl (Nat.le_of_ble_eq_true rfl) dL_law_648) (fun r2 v1 H locs h w => ?_)
  refine lq_eq (pc := 651) (tgt := 2384) hx hb dL_law_651 dL_law_652 (by decide) (fun _ => ?_) (fun c_ => absurd h.1 c_)
  exact hk _ _ H locs ls h.2 w hl
set_option maxHeartbeats 4000000 in
set_option maxRecDepth 100000 in
theorem lc_shape {p : Program} {l : Launch} {e : Env} {s : State} {m : MethodId} {below : List Frame} {meth : Method} {c : Code} {H : Heap} {locs : List Loc} {b L : Nat} {xs : Nat → Int32} {D : va_G} {g : Nat → ClassId} {aC aR : Nat → Nat} {u v : Mm} {ls : Array Slot} {i : Nat} (X : LX p s m meth c b L xs D g aC aR) (w : LW D g aC aR s u v H locs) (hR : Rel u v) (hl : lv_has ls 4 [(3, .int (nI i)), (2, .ref (aR 0)), (1, .ref (aC 0)), (0, .ref b)]) (h1 : vp_in (nI i + (1 : Int32)) L) (h2 : vp_in (nI i + (2 : Int32)) L) (h3 : vp_in (nI i + (3 : Int32)) L) (h4 : vp_in (nI i + (4 : Int32)) L) (h5 : vp_in (nI i + (5 : Int32)) L) (hk : ∀ (u v : Mm) (H : Heap) (locs : List Loc) (ls : Array Slot), Rel u v → LW D g aC aR s u v H locs → lv_has ls 4 [(3, .int (nI i)), (2, .ref (aR 0)), (1, .ref (aC 0)), (0, .ref b)] → W p l e room_1 s m #[Value.ref b] below meth c H locs 600000 7302250 (lw_Z below #[Value.ref b] s) (F0 m 2384 ls [])) : W p l e room_1 s m #[Value.ref b] below meth c H locs 600000 7302250 (lw_Z below #[Value.ref b] s) (F0 m 657 ls []) := by
  obtain ⟨hx, hb, hr, hml, hown, hts, hX, hbl, hlocks, hgv⟩ := X.1
  have hbA : ¬ (fun q : Nat => s.heap.size ≤ q) b := Nat.not_le.mpr hbl
  refine lv_aload_n (pc := 657) hx hb dL_law_657 rfl (lv_at hl 2 rfl) ?_
  refine lv_aload_n (pc := 658) hx hb dL_law_658 rfl (lv_at hl 3 rfl) ?_
  refine lv_iload_n (pc := 659) hx hb dL_law_659 rfl (lv_at hl 0 rfl) ?_
  refine lv_iconst (pc := 660) (v := (1 : Int32)) hx hb dL_law_660 (by decide) ?_
  refine lv_iadd (pc := 661) hx hb dL_law_661 ?_
  refine va_sld (pc := 662) hx hb hX hbl hbA w.2.2 h1 dL_law_662 ?_
  have h := st_shape hR ((xs (nI i + (1 : Int32)).toNatClampNeg))
  refine LcallCl (pc := 663) (rest := []) X w (LrunC (pc := 663) X w (okX8_shape l X.2.2.2.1 h) kw900 kmX8_shape ⟨rfl, rfl⟩ ⟨by decide, by decide⟩ rfl hl.1 rfl (Nat.le_of_ble_eq_true rfl) dL_law_663) (fun r u1 H locs h w => ?_)
  refine lv_aload_n (pc := 666) hx hb dL_law_666 rfl (lv_at hl 1 rfl) ?_
  refine lv_aload_n (pc := 667) hx hb dL_law_667 rfl (lv_at hl 3 rfl) ?_
  refine lv_iload_n (pc := 668) hx hb dL_law_668 rfl (lv_at hl 0 rfl) ?_
  refine lv_iconst (pc := 669) (v := (1 : Int32)) hx hb dL_law_669 (by decide) ?_
  refine lv_iadd (pc := 670) hx hb dL_law_670 ?_
  refine va_sld (pc := 671) hx hb hX hbl hbA w.2.2 h1 dL_law_671 ?_
  refine LcallRl (pc := 672) (rest := [.long r]) X w (LrunR (pc := 672) X w (okX9_shape l X.2.2.2.2.1 h) kw904 kmX9_shape ⟨rfl, rfl⟩ ⟨by decide, by decide⟩ rfl hl.1 rfl (Nat.le_of_ble_eq_true rfl) dL_law_672) (fun r2 v1 H locs h w => ?_)
  refine lq_eq (pc := 675) (tgt := 2384) hx hb dL_law_675 dL_law_676 (by decide) (fun _ => ?_) (fun c_ => absurd h.1 c_)
  exact hk _ _ H locs ls h.2 w hl
set_option maxHeartbeats 4000000 in
set_option maxRecDepth 100000 in
theorem lc_fix {p : Program} {l : Launch} {e : Env} {s : State} {m : MethodId} {below : List Frame} {meth : Method} {c : Code} {H : Heap} {locs : List Loc} {b L : Nat} {xs : Nat → Int32} {D : va_G} {g : Nat → ClassId} {aC aR : Nat → Nat} {u v : Mm} {ls : Array Slot} {i : Nat} (X : LX p s m meth c b L xs D g aC aR) (w : LW D g aC aR s u v H locs) (hR : Rel u v) (hl : lv_has ls 4 [(3, .int (nI i)), (2, .ref (aR 0)), (1, .ref (aC 0)), (0, .ref b)]) (h1 : vp_in (nI i + (1 : Int32)) L) (h2 : vp_in (nI i + (2 : Int32)) L) (h3 : vp_in (nI i + (3 : Int32)) L) (h4 : vp_in (nI i + (4 : Int32)) L) (h5 : vp_in (nI i + (5 : Int32)) L) (hk : ∀ (u v : Mm) (H : Heap) (locs : List Loc) (ls : Array Slot), Rel u v → LW D g aC aR s u v H locs → lv_has ls 4 [(3, .int (nI i)), (2, .ref (aR 0)), (1, .ref (aC 0)), (0, .ref b)] → W p l e room_1 s m #[Value.ref b] below meth c H locs 600000 7302250 (lw_Z below #[Value.ref b] s) (F0 m 2384 ls [])) : W p l e room_1 s m #[Value.ref b] below meth c H locs 600000 7302250 (lw_Z below #[Value.ref b] s) (F0 m 681 ls []) := by
  obtain ⟨hx, hb, hr, hml, hown, hts, hX, hbl, hlocks, hgv⟩ := X.1
  have hbA : ¬ (fun q : Nat => s.heap.size ≤ q) b := Nat.not_le.mpr hbl
  refine lv_aload_n (pc := 681) hx hb dL_law_681 rfl (lv_at hl 2 rfl) ?_
  refine lv_aload_n (pc := 682) hx hb dL_law_682 rfl (lv_at hl 3 rfl) ?_
  refine lv_iload_n (pc := 683) hx hb dL_law_683 rfl (lv_at hl 0 rfl) ?_
  refine lv_iconst (pc := 684) (v := (1 : Int32)) hx hb dL_law_684 (by decide) ?_
  refine lv_iadd (pc := 685) hx hb dL_law_685 ?_
  refine va_sld (pc := 686) hx hb hX hbl hbA w.2.2 h1 dL_law_686 ?_
  refine lv_aload_n (pc := 687) hx hb dL_law_687 rfl (lv_at hl 3 rfl) ?_
  refine lv_iload_n (pc := 688) hx hb dL_law_688 rfl (lv_at hl 0 rfl) ?_
  refine lv_iconst (pc := 689) (v := (2 : Int32)) hx hb dL_law_689 (by decide) ?_
  refine lv_iadd (pc := 690) hx hb dL_law_690 ?_
  refine va_sld (pc := 691) hx hb hX hbl hbA w.2.2 h2 dL_law_691 ?_
  refine lv_aload_n (pc := 692) hx hb dL_law_692 rfl (lv_at hl 3 rfl) ?_
  refine lv_iload_n (pc := 693) hx hb dL_law_693 rfl (lv_at hl 0 rfl) ?_
  refine lv_iconst (pc := 694) (v := (3 : Int32)) hx hb dL_law_694 (by decide) ?_
  refine lv_iadd (pc := 695) hx hb dL_law_695 ?_
  refine va_sld (pc := 696) hx hb hX hbl hbA w.2.2 h3 dL_law_696 ?_
  refine lv_aload_n (pc := 697) hx hb dL_law_697 rfl (lv_at hl 3 rfl) ?_
  refine lv_iload_n (pc := 698) hx hb dL_law_698 rfl (lv_at hl 0 rfl) ?_
  refine lv_iconst (pc := 699) (v := (4 : Int32)) hx hb dL_law_699 (by decide) ?_
  refine lv_iadd (pc := 700) hx hb dL_law_700 ?_
  refine va_sld (pc := 701) hx hb hX hbl hbA w.2.2 h4 dL_law_701 ?_
  refine lv_if_eq (pc := 702) (tgt := 709) hx hb dL_law_702 (by decide) (fun c_ => ?_) (fun c_ => ?_)
  · skip
    refine lv_iconst (pc := 709) (v := (0 : Int32)) hx hb dL_law_709 (by decide) ?_
    have h := st_fix hR ((xs (nI i + (1 : Int32)).toNatClampNeg)) ((xs (nI i + (2 : Int32)).toNatClampNeg)) ((xs (nI i + (3 : Int32)).toNatClampNeg)) ((0 : Int32)) (Or.inl rfl)
    refine LcallCi (pc := 710) (rest := []) X w (LrunC (pc := 710) X w (okX8_fix l X.2.2.2.1 h) kw908 kmX8_fix ⟨rfl, rfl⟩ ⟨by decide, by decide⟩ rfl hl.1 rfl (Nat.le_of_ble_eq_true rfl) dL_law_710) (fun r u1 H locs h w => ?_)
    refine lv_aload_n (pc := 713) hx hb dL_law_713 rfl (lv_at hl 1 rfl) ?_
    refine lv_aload_n (pc := 714) hx hb dL_law_714 rfl (lv_at hl 3 rfl) ?_
    refine lv_iload_n (pc := 715) hx hb dL_law_715 rfl (lv_at hl 0 rfl) ?_
    refine lv_iconst (pc := 716) (v := (1 : Int32)) hx hb dL_law_716 (by decide) ?_
    refine lv_iadd (pc := 717) hx hb dL_law_717 ?_
    refine va_sld (pc := 718) hx hb hX hbl hbA w.2.2 h1 dL_law_718 ?_
    refine lv_aload_n (pc := 719) hx hb dL_law_719 rfl (lv_at hl 3 rfl) ?_
    refine lv_iload_n (pc := 720) hx hb dL_law_720 rfl (lv_at hl 0 rfl) ?_
    refine lv_iconst (pc := 721) (v := (2 : Int32)) hx hb dL_law_721 (by decide) ?_
    refine lv_iadd (pc := 722) hx hb dL_law_722 ?_
    refine va_sld (pc := 723) hx hb hX hbl hbA w.2.2 h2 dL_law_723 ?_
    refine lv_aload_n (pc := 724) hx hb dL_law_724 rfl (lv_at hl 3 rfl) ?_
    refine lv_iload_n (pc := 725) hx hb dL_law_725 rfl (lv_at hl 0 rfl) ?_
    refine lv_iconst (pc := 726) (v := (3 : Int32)) hx hb dL_law_726 (by decide) ?_
    refine lv_iadd (pc := 727) hx hb dL_law_727 ?_
    refine va_sld (pc := 728) hx hb hX hbl hbA w.2.2 h3 dL_law_728 ?_
    refine lv_aload_n (pc := 729) hx hb dL_law_729 rfl (lv_at hl 3 rfl) ?_
    refine lv_iload_n (pc := 730) hx hb dL_law_730 rfl (lv_at hl 0 rfl) ?_
    refine lv_iconst (pc := 731) (v := (4 : Int32)) hx hb dL_law_731 (by decide) ?_
    refine lv_iadd (pc := 732) hx hb dL_law_732 ?_
    refine va_sld (pc := 733) hx hb hX hbl hbA w.2.2 h4 dL_law_733 ?_
    refine lv_if_eq (pc := 734) (tgt := 741) hx hb dL_law_734 (by decide) (fun _ => ?_) (fun d_ => absurd c_ d_)
    refine lv_iconst (pc := 741) (v := (0 : Int32)) hx hb dL_law_741 (by decide) ?_
    refine LcallRi (pc := 742) (rest := [.int r]) X w (LrunR (pc := 742) X w (okX9_fix l X.2.2.2.2.1 h) kw912 kmX9_fix ⟨rfl, rfl⟩ ⟨by decide, by decide⟩ rfl hl.1 rfl (Nat.le_of_ble_eq_true rfl) dL_law_742) (fun r2 v1 H locs h w => ?_)
    refine lv_icmp_eq (pc := 745) (tgt := 2384) hx hb dL_law_745 (by decide) (fun _ => ?_) (fun c_ => absurd h.1 c_)
    exact hk _ _ H locs ls h.2 w hl
  · skip
    refine lv_iconst (pc := 705) (v := (1 : Int32)) hx hb dL_law_705 (by decide) ?_
    refine lv_goto (pc := 706) (tgt := 710) hx hb dL_law_706 (by decide) ?_
    have h := st_fix hR ((xs (nI i + (1 : Int32)).toNatClampNeg)) ((xs (nI i + (2 : Int32)).toNatClampNeg)) ((xs (nI i + (3 : Int32)).toNatClampNeg)) ((1 : Int32)) (Or.inr rfl)
    refine LcallCi (pc := 710) (rest := []) X w (LrunC (pc := 710) X w (okX8_fix l X.2.2.2.1 h) kw908 kmX8_fix ⟨rfl, rfl⟩ ⟨by decide, by decide⟩ rfl hl.1 rfl (Nat.le_of_ble_eq_true rfl) dL_law_710) (fun r u1 H locs h w => ?_)
    refine lv_aload_n (pc := 713) hx hb dL_law_713 rfl (lv_at hl 1 rfl) ?_
    refine lv_aload_n (pc := 714) hx hb dL_law_714 rfl (lv_at hl 3 rfl) ?_
    refine lv_iload_n (pc := 715) hx hb dL_law_715 rfl (lv_at hl 0 rfl) ?_
    refine lv_iconst (pc := 716) (v := (1 : Int32)) hx hb dL_law_716 (by decide) ?_
    refine lv_iadd (pc := 717) hx hb dL_law_717 ?_
    refine va_sld (pc := 718) hx hb hX hbl hbA w.2.2 h1 dL_law_718 ?_
    refine lv_aload_n (pc := 719) hx hb dL_law_719 rfl (lv_at hl 3 rfl) ?_
    refine lv_iload_n (pc := 720) hx hb dL_law_720 rfl (lv_at hl 0 rfl) ?_
    refine lv_iconst (pc := 721) (v := (2 : Int32)) hx hb dL_law_721 (by decide) ?_
    refine lv_iadd (pc := 722) hx hb dL_law_722 ?_
    refine va_sld (pc := 723) hx hb hX hbl hbA w.2.2 h2 dL_law_723 ?_
    refine lv_aload_n (pc := 724) hx hb dL_law_724 rfl (lv_at hl 3 rfl) ?_
    refine lv_iload_n (pc := 725) hx hb dL_law_725 rfl (lv_at hl 0 rfl) ?_
    refine lv_iconst (pc := 726) (v := (3 : Int32)) hx hb dL_law_726 (by decide) ?_
    refine lv_iadd (pc := 727) hx hb dL_law_727 ?_
    refine va_sld (pc := 728) hx hb hX hbl hbA w.2.2 h3 dL_law_728 ?_
    refine lv_aload_n (pc := 729) hx hb dL_law_729 rfl (lv_at hl 3 rfl) ?_
    refine lv_iload_n (pc := 730) hx hb dL_law_730 rfl (lv_at hl 0 rfl) ?_
    refine lv_iconst (pc := 731) (v := (4 : Int32)) hx hb dL_law_731 (by decide) ?_
    refine lv_iadd (pc := 732) hx hb dL_law_732 ?_
    refine va_sld (pc := 733) hx hb hX hbl hbA w.2.2 h4 dL_law_733 ?_
    refine lv_if_eq (pc := 734) (tgt := 741) hx hb dL_law_734 (by decide) (fun d_ => absurd d_ c_) (fun _ => ?_)
    refine lv_iconst (pc := 737) (v := (1 : Int32)) hx hb dL_law_737 (by decide) ?_
    refine lv_goto (pc := 738) (tgt := 742) hx hb dL_law_738 (by decide) ?_
    refine LcallRi (pc := 742) (rest := [.int r]) X w (LrunR (pc := 742) X w (okX9_fix l X.2.2.2.2.1 h) kw912 kmX9_fix ⟨rfl, rfl⟩ ⟨by decide, by decide⟩ rfl hl.1 rfl (Nat.le_of_ble_eq_true rfl) dL_law_742) (fun r2 v1 H locs h w => ?_)
    refine lv_icmp_eq (pc := 745) (tgt := 2384) hx hb dL_law_745 (by decide) (fun _ => ?_) (fun c_ => absurd h.1 c_)
    exact hk _ _ H locs ls h.2 w hl
set_option maxHeartbeats 4000000 in
set_option maxRecDepth 100000 in
theorem lc_rule {p : Program} {l : Launch} {e : Env} {s : State} {m : MethodId} {below : List Frame} {meth : Method} {c : Code} {H : Heap} {locs : List Loc} {b L : Nat} {xs : Nat → Int32} {D : va_G} {g : Nat → ClassId} {aC aR : Nat → Nat} {u v : Mm} {ls : Array Slot} {i : Nat} (X : LX p s m meth c b L xs D g aC aR) (w : LW D g aC aR s u v H locs) (hR : Rel u v) (hl : lv_has ls 4 [(3, .int (nI i)), (2, .ref (aR 0)), (1, .ref (aC 0)), (0, .ref b)]) (h1 : vp_in (nI i + (1 : Int32)) L) (h2 : vp_in (nI i + (2 : Int32)) L) (h3 : vp_in (nI i + (3 : Int32)) L) (h4 : vp_in (nI i + (4 : Int32)) L) (h5 : vp_in (nI i + (5 : Int32)) L) (hk : ∀ (u v : Mm) (H : Heap) (locs : List Loc) (ls : Array Slot), Rel u v → LW D g aC aR s u v H locs → lv_has ls 4 [(3, .int (nI i)), (2, .ref (aR 0)), (1, .ref (aC 0)), (0, .ref b)] → W p l e room_1 s m #[Value.ref b] below meth c H locs 600000 7302250 (lw_Z below #[Value.ref b] s) (F0 m 2384 ls [])) : W p l e room_1 s m #[Value.ref b] below meth c H locs 600000 7302250 (lw_Z below #[Value.ref b] s) (F0 m 750 ls []) := by
  obtain ⟨hx, hb, hr, hml, hown, hts, hX, hbl, hlocks, hgv⟩ := X.1
  have hbA : ¬ (fun q : Nat => s.heap.size ≤ q) b := Nat.not_le.mpr hbl
  refine lv_aload_n (pc := 750) hx hb dL_law_750 rfl (lv_at hl 2 rfl) ?_
  refine lv_aload_n (pc := 751) hx hb dL_law_751 rfl (lv_at hl 3 rfl) ?_
  refine lv_iload_n (pc := 752) hx hb dL_law_752 rfl (lv_at hl 0 rfl) ?_
  refine lv_iconst (pc := 753) (v := (1 : Int32)) hx hb dL_law_753 (by decide) ?_
  refine lv_iadd (pc := 754) hx hb dL_law_754 ?_
  refine va_sld (pc := 755) hx hb hX hbl hbA w.2.2 h1 dL_law_755 ?_
  have h := st_rule hR ((xs (nI i + (1 : Int32)).toNatClampNeg))
  refine LcallCi (pc := 756) (rest := []) X w (LrunC (pc := 756) X w (okX8_rule l X.2.2.2.1 h) kw916 kmX8_rule ⟨rfl, rfl⟩ ⟨by decide, by decide⟩ rfl hl.1 rfl (Nat.le_of_ble_eq_true rfl) dL_law_756) (fun r u1 H locs h w => ?_)
  refine lv_aload_n (pc := 759) hx hb dL_law_759 rfl (lv_at hl 1 rfl) ?_
  refine lv_aload_n (pc := 760) hx hb dL_law_760 rfl (lv_at hl 3 rfl) ?_
  refine lv_iload_n (pc := 761) hx hb dL_law_761 rfl (lv_at hl 0 rfl) ?_
  refine lv_iconst (pc := 762) (v := (1 : Int32)) hx hb dL_law_762 (by decide) ?_
  refine lv_iadd (pc := 763) hx hb dL_law_763 ?_
  refine va_sld (pc := 764) hx hb hX hbl hbA w.2.2 h1 dL_law_764 ?_
  refine LcallRi (pc := 765) (rest := [.int r]) X w (LrunR (pc := 765) X w (okX9_rule l X.2.2.2.2.1 h) kw920 kmX9_rule ⟨rfl, rfl⟩ ⟨by decide, by decide⟩ rfl hl.1 rfl (Nat.le_of_ble_eq_true rfl) dL_law_765) (fun r2 v1 H locs h w => ?_)
  refine lv_icmp_eq (pc := 768) (tgt := 2384) hx hb dL_law_768 (by decide) (fun _ => ?_) (fun c_ => absurd h.1 c_)
  exact hk _ _ H locs ls h.2 w hl
set_option maxHeartbeats 4000000 in
set_option maxRecDepth 100000 in
theorem lc_gap {p : Program} {l : Launch} {e : Env} {s : State} {m : MethodId} {below : List Frame} {meth : Method} {c : Code} {H : Heap} {locs : List Loc} {b L : Nat} {xs : Nat → Int32} {D : va_G} {g : Nat → ClassId} {aC aR : Nat → Nat} {u v : Mm} {ls : Array Slot} {i : Nat} (X : LX p s m meth c b L xs D g aC aR) (w : LW D g aC aR s u v H locs) (hR : Rel u v) (hl : lv_has ls 4 [(3, .int (nI i)), (2, .ref (aR 0)), (1, .ref (aC 0)), (0, .ref b)]) (h1 : vp_in (nI i + (1 : Int32)) L) (h2 : vp_in (nI i + (2 : Int32)) L) (h3 : vp_in (nI i + (3 : Int32)) L) (h4 : vp_in (nI i + (4 : Int32)) L) (h5 : vp_in (nI i + (5 : Int32)) L) (hk : ∀ (u v : Mm) (H : Heap) (locs : List Loc) (ls : Array Slot), Rel u v → LW D g aC aR s u v H locs → lv_has ls 4 [(3, .int (nI i)), (2, .ref (aR 0)), (1, .ref (aC 0)), (0, .ref b)] → W p l e room_1 s m #[Value.ref b] below meth c H locs 600000 7302250 (lw_Z below #[Value.ref b] s) (F0 m 2384 ls [])) : W p l e room_1 s m #[Value.ref b] below meth c H locs 600000 7302250 (lw_Z below #[Value.ref b] s) (F0 m 773 ls []) := by
  obtain ⟨hx, hb, hr, hml, hown, hts, hX, hbl, hlocks, hgv⟩ := X.1
  have hbA : ¬ (fun q : Nat => s.heap.size ≤ q) b := Nat.not_le.mpr hbl
  refine lv_aload_n (pc := 773) hx hb dL_law_773 rfl (lv_at hl 2 rfl) ?_
  refine lv_aload_n (pc := 774) hx hb dL_law_774 rfl (lv_at hl 3 rfl) ?_
  refine lv_iload_n (pc := 775) hx hb dL_law_775 rfl (lv_at hl 0 rfl) ?_
  refine lv_iconst (pc := 776) (v := (1 : Int32)) hx hb dL_law_776 (by decide) ?_
  refine lv_iadd (pc := 777) hx hb dL_law_777 ?_
  refine va_sld (pc := 778) hx hb hX hbl hbA w.2.2 h1 dL_law_778 ?_
  refine lv_aload_n (pc := 779) hx hb dL_law_779 rfl (lv_at hl 3 rfl) ?_
  refine lv_iload_n (pc := 780) hx hb dL_law_780 rfl (lv_at hl 0 rfl) ?_
  refine lv_iconst (pc := 781) (v := (2 : Int32)) hx hb dL_law_781 (by decide) ?_
  refine lv_iadd (pc := 782) hx hb dL_law_782 ?_
  refine va_sld (pc := 783) hx hb hX hbl hbA w.2.2 h2 dL_law_783 ?_
  refine lv_aload_n (pc := 784) hx hb dL_law_784 rfl (lv_at hl 3 rfl) ?_
  refine lv_iload_n (pc := 785) hx hb dL_law_785 rfl (lv_at hl 0 rfl) ?_
  refine lv_iconst (pc := 786) (v := (3 : Int32)) hx hb dL_law_786 (by decide) ?_
  refine lv_iadd (pc := 787) hx hb dL_law_787 ?_
  refine va_sld (pc := 788) hx hb hX hbl hbA w.2.2 h3 dL_law_788 ?_
  have h := st_gap hR ((xs (nI i + (1 : Int32)).toNatClampNeg)) ((xs (nI i + (2 : Int32)).toNatClampNeg)) ((xs (nI i + (3 : Int32)).toNatClampNeg))
  refine LcallCl (pc := 789) (rest := []) X w (LrunC (pc := 789) X w (okX8_gap l X.2.2.2.1 h) kw924 kmX8_gap ⟨rfl, rfl⟩ ⟨by decide, by decide⟩ rfl hl.1 rfl (Nat.le_of_ble_eq_true rfl) dL_law_789) (fun r u1 H locs h w => ?_)
  refine lv_aload_n (pc := 792) hx hb dL_law_792 rfl (lv_at hl 1 rfl) ?_
  refine lv_aload_n (pc := 793) hx hb dL_law_793 rfl (lv_at hl 3 rfl) ?_
  refine lv_iload_n (pc := 794) hx hb dL_law_794 rfl (lv_at hl 0 rfl) ?_
  refine lv_iconst (pc := 795) (v := (1 : Int32)) hx hb dL_law_795 (by decide) ?_
  refine lv_iadd (pc := 796) hx hb dL_law_796 ?_
  refine va_sld (pc := 797) hx hb hX hbl hbA w.2.2 h1 dL_law_797 ?_
  refine lv_aload_n (pc := 798) hx hb dL_law_798 rfl (lv_at hl 3 rfl) ?_
  refine lv_iload_n (pc := 799) hx hb dL_law_799 rfl (lv_at hl 0 rfl) ?_
  refine lv_iconst (pc := 800) (v := (2 : Int32)) hx hb dL_law_800 (by decide) ?_
  refine lv_iadd (pc := 801) hx hb dL_law_801 ?_
  refine va_sld (pc := 802) hx hb hX hbl hbA w.2.2 h2 dL_law_802 ?_
  refine lv_aload_n (pc := 803) hx hb dL_law_803 rfl (lv_at hl 3 rfl) ?_
  refine lv_iload_n (pc := 804) hx hb dL_law_804 rfl (lv_at hl 0 rfl) ?_
  refine lv_iconst (pc := 805) (v := (3 : Int32)) hx hb dL_law_805 (by decide) ?_
  refine lv_iadd (pc := 806) hx hb dL_law_806 ?_
  refine va_sld (pc := 807) hx hb hX hbl hbA w.2.2 h3 dL_law_807 ?_
  refine LcallRl (pc := 808) (rest := [.long r]) X w (LrunR (pc := 808) X w (okX9_gap l X.2.2.2.2.1 h) kw928 kmX9_gap ⟨rfl, rfl⟩ ⟨by decide, by decide⟩ rfl hl.1 rfl (Nat.le_of_ble_eq_true rfl) dL_law_808) (fun r2 v1 H locs h w => ?_)
  refine lq_eq (pc := 811) (tgt := 2384) hx hb dL_law_811 dL_law_812 (by decide) (fun _ => ?_) (fun c_ => absurd h.1 c_)
  exact hk _ _ H locs ls h.2 w hl
set_option maxHeartbeats 4000000 in
set_option maxRecDepth 100000 in
theorem lc_closed {p : Program} {l : Launch} {e : Env} {s : State} {m : MethodId} {below : List Frame} {meth : Method} {c : Code} {H : Heap} {locs : List Loc} {b L : Nat} {xs : Nat → Int32} {D : va_G} {g : Nat → ClassId} {aC aR : Nat → Nat} {u v : Mm} {ls : Array Slot} {i : Nat} (X : LX p s m meth c b L xs D g aC aR) (w : LW D g aC aR s u v H locs) (hR : Rel u v) (hl : lv_has ls 4 [(3, .int (nI i)), (2, .ref (aR 0)), (1, .ref (aC 0)), (0, .ref b)]) (h1 : vp_in (nI i + (1 : Int32)) L) (h2 : vp_in (nI i + (2 : Int32)) L) (h3 : vp_in (nI i + (3 : Int32)) L) (h4 : vp_in (nI i + (4 : Int32)) L) (h5 : vp_in (nI i + (5 : Int32)) L) (hk : ∀ (u v : Mm) (H : Heap) (locs : List Loc) (ls : Array Slot), Rel u v → LW D g aC aR s u v H locs → lv_has ls 4 [(3, .int (nI i)), (2, .ref (aR 0)), (1, .ref (aC 0)), (0, .ref b)] → W p l e room_1 s m #[Value.ref b] below meth c H locs 600000 7302250 (lw_Z below #[Value.ref b] s) (F0 m 2384 ls [])) : W p l e room_1 s m #[Value.ref b] below meth c H locs 600000 7302250 (lw_Z below #[Value.ref b] s) (F0 m 817 ls []) := by
  obtain ⟨hx, hb, hr, hml, hown, hts, hX, hbl, hlocks, hgv⟩ := X.1
  have hbA : ¬ (fun q : Nat => s.heap.size ≤ q) b := Nat.not_le.mpr hbl
  refine lv_aload_n (pc := 817) hx hb dL_law_817 rfl (lv_at hl 2 rfl) ?_
  refine lv_aload_n (pc := 818) hx hb dL_law_818 rfl (lv_at hl 3 rfl) ?_
  refine lv_iload_n (pc := 819) hx hb dL_law_819 rfl (lv_at hl 0 rfl) ?_
  refine lv_iconst (pc := 820) (v := (1 : Int32)) hx hb dL_law_820 (by decide) ?_
  refine lv_iadd (pc := 821) hx hb dL_law_821 ?_
  refine va_sld (pc := 822) hx hb hX hbl hbA w.2.2 h1 dL_law_822 ?_
  have h := st_closed hR ((xs (nI i + (1 : Int32)).toNatClampNeg))
  refine LcallCl (pc := 823) (rest := []) X w (LrunC (pc := 823) X w (okX8_closed l X.2.2.2.1 h) kw932 kmX8_closed ⟨rfl, rfl⟩ ⟨by decide, by decide⟩ rfl hl.1 rfl (Nat.le_of_ble_eq_true rfl) dL_law_823) (fun r u1 H locs h w => ?_)
  refine lv_aload_n (pc := 826) hx hb dL_law_826 rfl (lv_at hl 1 rfl) ?_
  refine lv_aload_n (pc := 827) hx hb dL_law_827 rfl (lv_at hl 3 rfl) ?_
  refine lv_iload_n (pc := 828) hx hb dL_law_828 rfl (lv_at hl 0 rfl) ?_
  refine lv_iconst (pc := 829) (v := (1 : Int32)) hx hb dL_law_829 (by decide) ?_
  refine lv_iadd (pc := 830) hx hb dL_law_830 ?_
  refine va_sld (pc := 831) hx hb hX hbl hbA w.2.2 h1 dL_law_831 ?_
  refine LcallRl (pc := 832) (rest := [.long r]) X w (LrunR (pc := 832) X w (okX9_closed l X.2.2.2.2.1 h) kw936 kmX9_closed ⟨rfl, rfl⟩ ⟨by decide, by decide⟩ rfl hl.1 rfl (Nat.le_of_ble_eq_true rfl) dL_law_832) (fun r2 v1 H locs h w => ?_)
  refine lq_eq (pc := 835) (tgt := 2384) hx hb dL_law_835 dL_law_836 (by decide) (fun _ => ?_) (fun c_ => absurd h.1 c_)
  exact hk _ _ H locs ls h.2 w hl
set_option maxHeartbeats 4000000 in
set_option maxRecDepth 100000 in
theorem lc_moved {p : Program} {l : Launch} {e : Env} {s : State} {m : MethodId} {below : List Frame} {meth : Method} {c : Code} {H : Heap} {locs : List Loc} {b L : Nat} {xs : Nat → Int32} {D : va_G} {g : Nat → ClassId} {aC aR : Nat → Nat} {u v : Mm} {ls : Array Slot} {i : Nat} (X : LX p s m meth c b L xs D g aC aR) (w : LW D g aC aR s u v H locs) (hR : Rel u v) (hl : lv_has ls 4 [(3, .int (nI i)), (2, .ref (aR 0)), (1, .ref (aC 0)), (0, .ref b)]) (h1 : vp_in (nI i + (1 : Int32)) L) (h2 : vp_in (nI i + (2 : Int32)) L) (h3 : vp_in (nI i + (3 : Int32)) L) (h4 : vp_in (nI i + (4 : Int32)) L) (h5 : vp_in (nI i + (5 : Int32)) L) (hk : ∀ (u v : Mm) (H : Heap) (locs : List Loc) (ls : Array Slot), Rel u v → LW D g aC aR s u v H locs → lv_has ls 4 [(3, .int (nI i)), (2, .ref (aR 0)), (1, .ref (aC 0)), (0, .ref b)] → W p l e room_1 s m #[Value.ref b] below meth c H locs 600000 7302250 (lw_Z below #[Value.ref b] s) (F0 m 2384 ls [])) : W p l e room_1 s m #[Value.ref b] below meth c H locs 600000 7302250 (lw_Z below #[Value.ref b] s) (F0 m 841 ls []) := by
  obtain ⟨hx, hb, hr, hml, hown, hts, hX, hbl, hlocks, hgv⟩ := X.1
  have hbA : ¬ (fun q : Nat => s.heap.size ≤ q) b := Nat.not_le.mpr hbl
  refine lv_aload_n (pc := 841) hx hb dL_law_841 rfl (lv_at hl 2 rfl) ?_
  refine lv_aload_n (pc := 842) hx hb dL_law_842 rfl (lv_at hl 3 rfl) ?_
  refine lv_iload_n (pc := 843) hx hb dL_law_843 rfl (lv_at hl 0 rfl) ?_
  refine lv_iconst (pc := 844) (v := (1 : Int32)) hx hb dL_law_844 (by decide) ?_
  refine lv_iadd (pc := 845) hx hb dL_law_845 ?_
  refine va_sld (pc := 846) hx hb hX hbl hbA w.2.2 h1 dL_law_846 ?_
  refine lv_aload_n (pc := 847) hx hb dL_law_847 rfl (lv_at hl 3 rfl) ?_
  refine lv_iload_n (pc := 848) hx hb dL_law_848 rfl (lv_at hl 0 rfl) ?_
  refine lv_iconst (pc := 849) (v := (2 : Int32)) hx hb dL_law_849 (by decide) ?_
  refine lv_iadd (pc := 850) hx hb dL_law_850 ?_
  refine va_sld (pc := 851) hx hb hX hbl hbA w.2.2 h2 dL_law_851 ?_
  refine lv_aload_n (pc := 852) hx hb dL_law_852 rfl (lv_at hl 3 rfl) ?_
  refine lv_iload_n (pc := 853) hx hb dL_law_853 rfl (lv_at hl 0 rfl) ?_
  refine lv_iconst (pc := 854) (v := (3 : Int32)) hx hb dL_law_854 (by decide) ?_
  refine lv_iadd (pc := 855) hx hb dL_law_855 ?_
  refine va_sld (pc := 856) hx hb hX hbl hbA w.2.2 h3 dL_law_856 ?_
  have h := st_moved hR ((xs (nI i + (1 : Int32)).toNatClampNeg)) ((xs (nI i + (2 : Int32)).toNatClampNeg)) ((xs (nI i + (3 : Int32)).toNatClampNeg))
  refine LcallCl (pc := 857) (rest := []) X w (LrunC (pc := 857) X w (okX8_moved l X.2.2.2.1 h) kw940 kmX8_moved ⟨rfl, rfl⟩ ⟨by decide, by decide⟩ rfl hl.1 rfl (Nat.le_of_ble_eq_true rfl) dL_law_857) (fun r u1 H locs h w => ?_)
  refine lv_aload_n (pc := 860) hx hb dL_law_860 rfl (lv_at hl 1 rfl) ?_
  refine lv_aload_n (pc := 861) hx hb dL_law_861 rfl (lv_at hl 3 rfl) ?_
  refine lv_iload_n (pc := 862) hx hb dL_law_862 rfl (lv_at hl 0 rfl) ?_
  refine lv_iconst (pc := 863) (v := (1 : Int32)) hx hb dL_law_863 (by decide) ?_
  refine lv_iadd (pc := 864) hx hb dL_law_864 ?_
  refine va_sld (pc := 865) hx hb hX hbl hbA w.2.2 h1 dL_law_865 ?_
  refine lv_aload_n (pc := 866) hx hb dL_law_866 rfl (lv_at hl 3 rfl) ?_
  refine lv_iload_n (pc := 867) hx hb dL_law_867 rfl (lv_at hl 0 rfl) ?_
  refine lv_iconst (pc := 868) (v := (2 : Int32)) hx hb dL_law_868 (by decide) ?_
  refine lv_iadd (pc := 869) hx hb dL_law_869 ?_
  refine va_sld (pc := 870) hx hb hX hbl hbA w.2.2 h2 dL_law_870 ?_
  refine lv_aload_n (pc := 871) hx hb dL_law_871 rfl (lv_at hl 3 rfl) ?_
  refine lv_iload_n (pc := 872) hx hb dL_law_872 rfl (lv_at hl 0 rfl) ?_
  refine lv_iconst (pc := 873) (v := (3 : Int32)) hx hb dL_law_873 (by decide) ?_
  refine lv_iadd (pc := 874) hx hb dL_law_874 ?_
  refine va_sld (pc := 875) hx hb hX hbl hbA w.2.2 h3 dL_law_875 ?_
  refine LcallRl (pc := 876) (rest := [.long r]) X w (LrunR (pc := 876) X w (okX9_moved l X.2.2.2.2.1 h) kw944 kmX9_moved ⟨rfl, rfl⟩ ⟨by decide, by decide⟩ rfl hl.1 rfl (Nat.le_of_ble_eq_true rfl) dL_law_876) (fun r2 v1 H locs h w => ?_)
  refine lq_eq (pc := 879) (tgt := 2384) hx hb dL_law_879 dL_law_880 (by decide) (fun _ => ?_) (fun c_ => absurd h.1 c_)
  exact hk _ _ H locs ls h.2 w hl
set_option maxHeartbeats 4000000 in
set_option maxRecDepth 100000 in
theorem lc_total {p : Program} {l : Launch} {e : Env} {s : State} {m : MethodId} {below : List Frame} {meth : Method} {c : Code} {H : Heap} {locs : List Loc} {b L : Nat} {xs : Nat → Int32} {D : va_G} {g : Nat → ClassId} {aC aR : Nat → Nat} {u v : Mm} {ls : Array Slot} {i : Nat} (X : LX p s m meth c b L xs D g aC aR) (w : LW D g aC aR s u v H locs) (hR : Rel u v) (hl : lv_has ls 4 [(3, .int (nI i)), (2, .ref (aR 0)), (1, .ref (aC 0)), (0, .ref b)]) (h1 : vp_in (nI i + (1 : Int32)) L) (h2 : vp_in (nI i + (2 : Int32)) L) (h3 : vp_in (nI i + (3 : Int32)) L) (h4 : vp_in (nI i + (4 : Int32)) L) (h5 : vp_in (nI i + (5 : Int32)) L) (hk : ∀ (u v : Mm) (H : Heap) (locs : List Loc) (ls : Array Slot), Rel u v → LW D g aC aR s u v H locs → lv_has ls 4 [(3, .int (nI i)), (2, .ref (aR 0)), (1, .ref (aC 0)), (0, .ref b)] → W p l e room_1 s m #[Value.ref b] below meth c H locs 600000 7302250 (lw_Z below #[Value.ref b] s) (F0 m 2384 ls [])) : W p l e room_1 s m #[Value.ref b] below meth c H locs 600000 7302250 (lw_Z below #[Value.ref b] s) (F0 m 885 ls []) := by
  obtain ⟨hx, hb, hr, hml, hown, hts, hX, hbl, hlocks, hgv⟩ := X.1
  have hbA : ¬ (fun q : Nat => s.heap.size ≤ q) b := Nat.not_le.mpr hbl
  refine lv_aload_n (pc := 885) hx hb dL_law_885 rfl (lv_at hl 2 rfl) ?_
  refine lv_aload_n (pc := 886) hx hb dL_law_886 rfl (lv_at hl 3 rfl) ?_
  refine lv_iload_n (pc := 887) hx hb dL_law_887 rfl (lv_at hl 0 rfl) ?_
  refine lv_iconst (pc := 888) (v := (1 : Int32)) hx hb dL_law_888 (by decide) ?_
  refine lv_iadd (pc := 889) hx hb dL_law_889 ?_
  refine va_sld (pc := 890) hx hb hX hbl hbA w.2.2 h1 dL_law_890 ?_
  refine lv_aload_n (pc := 891) hx hb dL_law_891 rfl (lv_at hl 3 rfl) ?_
  refine lv_iload_n (pc := 892) hx hb dL_law_892 rfl (lv_at hl 0 rfl) ?_
  refine lv_iconst (pc := 893) (v := (2 : Int32)) hx hb dL_law_893 (by decide) ?_
  refine lv_iadd (pc := 894) hx hb dL_law_894 ?_
  refine va_sld (pc := 895) hx hb hX hbl hbA w.2.2 h2 dL_law_895 ?_
  refine lv_aload_n (pc := 896) hx hb dL_law_896 rfl (lv_at hl 3 rfl) ?_
  refine lv_iload_n (pc := 897) hx hb dL_law_897 rfl (lv_at hl 0 rfl) ?_
  refine lv_iconst (pc := 898) (v := (3 : Int32)) hx hb dL_law_898 (by decide) ?_
  refine lv_iadd (pc := 899) hx hb dL_law_899 ?_
  refine va_sld (pc := 900) hx hb hX hbl hbA w.2.2 h3 dL_law_900 ?_
  refine lv_aload_n (pc := 901) hx hb dL_law_901 rfl (lv_at hl 3 rfl) ?_
  refine lv_iload_n (pc := 902) hx hb dL_law_902 rfl (lv_at hl 0 rfl) ?_
  refine lv_iconst (pc := 903) (v := (4 : Int32)) hx hb dL_law_903 (by decide) ?_
  refine lv_iadd (pc := 904) hx hb dL_law_904 ?_
  refine va_sld (pc := 905) hx hb hX hbl hbA w.2.2 h4 dL_law_905 ?_
  have h := st_total hR ((xs (nI i + (1 : Int32)).toNatClampNeg)) ((xs (nI i + (2 : Int32)).toNatClampNeg)) ((xs (nI i + (3 : Int32)).toNatClampNeg)) ((xs (nI i + (4 : Int32)).toNatClampNeg))
  refine LcallCl (pc := 906) (rest := []) X w (LrunC (pc := 906) X w (okX8_total l X.2.2.2.1 h) kw948 kmX8_total ⟨rfl, rfl⟩ ⟨by decide, by decide⟩ rfl hl.1 rfl (Nat.le_of_ble_eq_true rfl) dL_law_906) (fun r u1 H locs h w => ?_)
  refine lv_aload_n (pc := 909) hx hb dL_law_909 rfl (lv_at hl 1 rfl) ?_
  refine lv_aload_n (pc := 910) hx hb dL_law_910 rfl (lv_at hl 3 rfl) ?_
  refine lv_iload_n (pc := 911) hx hb dL_law_911 rfl (lv_at hl 0 rfl) ?_
  refine lv_iconst (pc := 912) (v := (1 : Int32)) hx hb dL_law_912 (by decide) ?_
  refine lv_iadd (pc := 913) hx hb dL_law_913 ?_
  refine va_sld (pc := 914) hx hb hX hbl hbA w.2.2 h1 dL_law_914 ?_
  refine lv_aload_n (pc := 915) hx hb dL_law_915 rfl (lv_at hl 3 rfl) ?_
  refine lv_iload_n (pc := 916) hx hb dL_law_916 rfl (lv_at hl 0 rfl) ?_
  refine lv_iconst (pc := 917) (v := (2 : Int32)) hx hb dL_law_917 (by decide) ?_
  refine lv_iadd (pc := 918) hx hb dL_law_918 ?_
  refine va_sld (pc := 919) hx hb hX hbl hbA w.2.2 h2 dL_law_919 ?_
  refine lv_aload_n (pc := 920) hx hb dL_law_920 rfl (lv_at hl 3 rfl) ?_
  refine lv_iload_n (pc := 921) hx hb dL_law_921 rfl (lv_at hl 0 rfl) ?_
  refine lv_iconst (pc := 922) (v := (3 : Int32)) hx hb dL_law_922 (by decide) ?_
  refine lv_iadd (pc := 923) hx hb dL_law_923 ?_
  refine va_sld (pc := 924) hx hb hX hbl hbA w.2.2 h3 dL_law_924 ?_
  refine lv_aload_n (pc := 925) hx hb dL_law_925 rfl (lv_at hl 3 rfl) ?_
  refine lv_iload_n (pc := 926) hx hb dL_law_926 rfl (lv_at hl 0 rfl) ?_
  refine lv_iconst (pc := 927) (v := (4 : Int32)) hx hb dL_law_927 (by decide) ?_
  refine lv_iadd (pc := 928) hx hb dL_law_928 ?_
  refine va_sld (pc := 929) hx hb hX hbl hbA w.2.2 h4 dL_law_929 ?_
  refine LcallRl (pc := 930) (rest := [.long r]) X w (LrunR (pc := 930) X w (okX9_total l X.2.2.2.2.1 h) kw952 kmX9_total ⟨rfl, rfl⟩ ⟨by decide, by decide⟩ rfl hl.1 rfl (Nat.le_of_ble_eq_true rfl) dL_law_930) (fun r2 v1 H locs h w => ?_)
  refine lq_eq (pc := 933) (tgt := 2384) hx hb dL_law_933 dL_law_934 (by decide) (fun _ => ?_) (fun c_ => absurd h.1 c_)
  exact hk _ _ H locs ls h.2 w hl
set_option maxHeartbeats 4000000 in
set_option maxRecDepth 100000 in
theorem lc_open {p : Program} {l : Launch} {e : Env} {s : State} {m : MethodId} {below : List Frame} {meth : Method} {c : Code} {H : Heap} {locs : List Loc} {b L : Nat} {xs : Nat → Int32} {D : va_G} {g : Nat → ClassId} {aC aR : Nat → Nat} {u v : Mm} {ls : Array Slot} {i : Nat} (X : LX p s m meth c b L xs D g aC aR) (w : LW D g aC aR s u v H locs) (hR : Rel u v) (hl : lv_has ls 4 [(3, .int (nI i)), (2, .ref (aR 0)), (1, .ref (aC 0)), (0, .ref b)]) (h1 : vp_in (nI i + (1 : Int32)) L) (h2 : vp_in (nI i + (2 : Int32)) L) (h3 : vp_in (nI i + (3 : Int32)) L) (h4 : vp_in (nI i + (4 : Int32)) L) (h5 : vp_in (nI i + (5 : Int32)) L) (hk : ∀ (u v : Mm) (H : Heap) (locs : List Loc) (ls : Array Slot), Rel u v → LW D g aC aR s u v H locs → lv_has ls 4 [(3, .int (nI i)), (2, .ref (aR 0)), (1, .ref (aC 0)), (0, .ref b)] → W p l e room_1 s m #[Value.ref b] below meth c H locs 600000 7302250 (lw_Z below #[Value.ref b] s) (F0 m 2384 ls [])) : W p l e room_1 s m #[Value.ref b] below meth c H locs 600000 7302250 (lw_Z below #[Value.ref b] s) (F0 m 939 ls []) := by
  obtain ⟨hx, hb, hr, hml, hown, hts, hX, hbl, hlocks, hgv⟩ := X.1
  have hbA : ¬ (fun q : Nat => s.heap.size ≤ q) b := Nat.not_le.mpr hbl
  refine lv_aload_n (pc := 939) hx hb dL_law_939 rfl (lv_at hl 2 rfl) ?_
  have h := st_open hR
  refine LcallCi (pc := 940) (rest := []) X w (LrunC (pc := 940) X w (okX8_open l X.2.2.2.1 h) kw956 kmX8_open ⟨rfl, rfl⟩ ⟨by decide, by decide⟩ rfl hl.1 rfl (Nat.le_of_ble_eq_true rfl) dL_law_940) (fun r u1 H locs h w => ?_)
  refine lv_aload_n (pc := 943) hx hb dL_law_943 rfl (lv_at hl 1 rfl) ?_
  refine LcallRi (pc := 944) (rest := [.int r]) X w (LrunR (pc := 944) X w (okX9_open l X.2.2.2.2.1 h) kw960 kmX9_open ⟨rfl, rfl⟩ ⟨by decide, by decide⟩ rfl hl.1 rfl (Nat.le_of_ble_eq_true rfl) dL_law_944) (fun r2 v1 H locs h w => ?_)
  refine lv_icmp_eq (pc := 947) (tgt := 2384) hx hb dL_law_947 (by decide) (fun _ => ?_) (fun c_ => absurd h.1 c_)
  exact hk _ _ H locs ls h.2 w hl
set_option maxHeartbeats 4000000 in
set_option maxRecDepth 100000 in
theorem lc_broken {p : Program} {l : Launch} {e : Env} {s : State} {m : MethodId} {below : List Frame} {meth : Method} {c : Code} {H : Heap} {locs : List Loc} {b L : Nat} {xs : Nat → Int32} {D : va_G} {g : Nat → ClassId} {aC aR : Nat → Nat} {u v : Mm} {ls : Array Slot} {i : Nat} (X : LX p s m meth c b L xs D g aC aR) (w : LW D g aC aR s u v H locs) (hR : Rel u v) (hl : lv_has ls 4 [(3, .int (nI i)), (2, .ref (aR 0)), (1, .ref (aC 0)), (0, .ref b)]) (h1 : vp_in (nI i + (1 : Int32)) L) (h2 : vp_in (nI i + (2 : Int32)) L) (h3 : vp_in (nI i + (3 : Int32)) L) (h4 : vp_in (nI i + (4 : Int32)) L) (h5 : vp_in (nI i + (5 : Int32)) L) (hk : ∀ (u v : Mm) (H : Heap) (locs : List Loc) (ls : Array Slot), Rel u v → LW D g aC aR s u v H locs → lv_has ls 4 [(3, .int (nI i)), (2, .ref (aR 0)), (1, .ref (aC 0)), (0, .ref b)] → W p l e room_1 s m #[Value.ref b] below meth c H locs 600000 7302250 (lw_Z below #[Value.ref b] s) (F0 m 2384 ls [])) : W p l e room_1 s m #[Value.ref b] below meth c H locs 600000 7302250 (lw_Z below #[Value.ref b] s) (F0 m 952 ls []) := by
  obtain ⟨hx, hb, hr, hml, hown, hts, hX, hbl, hlocks, hgv⟩ := X.1
  have hbA : ¬ (fun q : Nat => s.heap.size ≤ q) b := Nat.not_le.mpr hbl
  refine lv_aload_n (pc := 952) hx hb dL_law_952 rfl (lv_at hl 2 rfl) ?_
  have h := st_broken hR
  refine LcallCi (pc := 953) (rest := []) X w (LrunC (pc := 953) X w (okX8_broken l X.2.2.2.1 h) kw964 kmX8_broken ⟨rfl, rfl⟩ ⟨by decide, by decide⟩ rfl hl.1 rfl (Nat.le_of_ble_eq_true rfl) dL_law_953) (fun r u1 H locs h w => ?_)
  refine lv_aload_n (pc := 956) hx hb dL_law_956 rfl (lv_at hl 1 rfl) ?_
  refine LcallRi (pc := 957) (rest := [.int r]) X w (LrunR (pc := 957) X w (okX9_broken l X.2.2.2.2.1 h) kw968 kmX9_broken ⟨rfl, rfl⟩ ⟨by decide, by decide⟩ rfl hl.1 rfl (Nat.le_of_ble_eq_true rfl) dL_law_957) (fun r2 v1 H locs h w => ?_)
  refine lv_icmp_eq (pc := 960) (tgt := 2384) hx hb dL_law_960 (by decide) (fun _ => ?_) (fun c_ => absurd h.1 c_)
  exact hk _ _ H locs ls h.2 w hl
set_option maxHeartbeats 4000000 in
set_option maxRecDepth 100000 in
theorem lc_breaks {p : Program} {l : Launch} {e : Env} {s : State} {m : MethodId} {below : List Frame} {meth : Method} {c : Code} {H : Heap} {locs : List Loc} {b L : Nat} {xs : Nat → Int32} {D : va_G} {g : Nat → ClassId} {aC aR : Nat → Nat} {u v : Mm} {ls : Array Slot} {i : Nat} (X : LX p s m meth c b L xs D g aC aR) (w : LW D g aC aR s u v H locs) (hR : Rel u v) (hl : lv_has ls 4 [(3, .int (nI i)), (2, .ref (aR 0)), (1, .ref (aC 0)), (0, .ref b)]) (h1 : vp_in (nI i + (1 : Int32)) L) (h2 : vp_in (nI i + (2 : Int32)) L) (h3 : vp_in (nI i + (3 : Int32)) L) (h4 : vp_in (nI i + (4 : Int32)) L) (h5 : vp_in (nI i + (5 : Int32)) L) (hk : ∀ (u v : Mm) (H : Heap) (locs : List Loc) (ls : Array Slot), Rel u v → LW D g aC aR s u v H locs → lv_has ls 4 [(3, .int (nI i)), (2, .ref (aR 0)), (1, .ref (aC 0)), (0, .ref b)] → W p l e room_1 s m #[Value.ref b] below meth c H locs 600000 7302250 (lw_Z below #[Value.ref b] s) (F0 m 2384 ls [])) : W p l e room_1 s m #[Value.ref b] below meth c H locs 600000 7302250 (lw_Z below #[Value.ref b] s) (F0 m 965 ls []) := by
  obtain ⟨hx, hb, hr, hml, hown, hts, hX, hbl, hlocks, hgv⟩ := X.1
  have hbA : ¬ (fun q : Nat => s.heap.size ≤ q) b := Nat.not_le.mpr hbl
  refine lv_aload_n (pc := 965) hx hb dL_law_965 rfl (lv_at hl 2 rfl) ?_
  refine lv_aload_n (pc := 966) hx hb dL_law_966 rfl (lv_at hl 3 rfl) ?_
  refine lv_iload_n (pc := 967) hx hb dL_law_967 rfl (lv_at hl 0 rfl) ?_
  refine lv_iconst (pc := 968) (v := (1 : Int32)) hx hb dL_law_968 (by decide) ?_
  refine lv_iadd (pc := 969) hx hb dL_law_969 ?_
  refine va_sld (pc := 970) hx hb hX hbl hbA w.2.2 h1 dL_law_970 ?_
  have h := st_breaks hR ((xs (nI i + (1 : Int32)).toNatClampNeg))
  refine LcallCi (pc := 971) (rest := []) X w (LrunC (pc := 971) X w (okX8_breaks l X.2.2.2.1 h) kw972 kmX8_breaks ⟨rfl, rfl⟩ ⟨by decide, by decide⟩ rfl hl.1 rfl (Nat.le_of_ble_eq_true rfl) dL_law_971) (fun r u1 H locs h w => ?_)
  refine lv_aload_n (pc := 974) hx hb dL_law_974 rfl (lv_at hl 1 rfl) ?_
  refine lv_aload_n (pc := 975) hx hb dL_law_975 rfl (lv_at hl 3 rfl) ?_
  refine lv_iload_n (pc := 976) hx hb dL_law_976 rfl (lv_at hl 0 rfl) ?_
  refine lv_iconst (pc := 977) (v := (1 : Int32)) hx hb dL_law_977 (by decide) ?_
  refine lv_iadd (pc := 978) hx hb dL_law_978 ?_
  refine va_sld (pc := 979) hx hb hX hbl hbA w.2.2 h1 dL_law_979 ?_
  refine LcallRi (pc := 980) (rest := [.int r]) X w (LrunR (pc := 980) X w (okX9_breaks l X.2.2.2.2.1 h) kw976 kmX9_breaks ⟨rfl, rfl⟩ ⟨by decide, by decide⟩ rfl hl.1 rfl (Nat.le_of_ble_eq_true rfl) dL_law_980) (fun r2 v1 H locs h w => ?_)
  refine lv_icmp_eq (pc := 983) (tgt := 2384) hx hb dL_law_983 (by decide) (fun _ => ?_) (fun c_ => absurd h.1 c_)
  exact hk _ _ H locs ls h.2 w hl
set_option maxHeartbeats 4000000 in
set_option maxRecDepth 100000 in
theorem lc_price {p : Program} {l : Launch} {e : Env} {s : State} {m : MethodId} {below : List Frame} {meth : Method} {c : Code} {H : Heap} {locs : List Loc} {b L : Nat} {xs : Nat → Int32} {D : va_G} {g : Nat → ClassId} {aC aR : Nat → Nat} {u v : Mm} {ls : Array Slot} {i : Nat} (X : LX p s m meth c b L xs D g aC aR) (w : LW D g aC aR s u v H locs) (hR : Rel u v) (hl : lv_has ls 4 [(3, .int (nI i)), (2, .ref (aR 0)), (1, .ref (aC 0)), (0, .ref b)]) (h1 : vp_in (nI i + (1 : Int32)) L) (h2 : vp_in (nI i + (2 : Int32)) L) (h3 : vp_in (nI i + (3 : Int32)) L) (h4 : vp_in (nI i + (4 : Int32)) L) (h5 : vp_in (nI i + (5 : Int32)) L) (hk : ∀ (u v : Mm) (H : Heap) (locs : List Loc) (ls : Array Slot), Rel u v → LW D g aC aR s u v H locs → lv_has ls 4 [(3, .int (nI i)), (2, .ref (aR 0)), (1, .ref (aC 0)), (0, .ref b)] → W p l e room_1 s m #[Value.ref b] below meth c H locs 600000 7302250 (lw_Z below #[Value.ref b] s) (F0 m 2384 ls [])) : W p l e room_1 s m #[Value.ref b] below meth c H locs 600000 7302250 (lw_Z below #[Value.ref b] s) (F0 m 988 ls []) := by
  obtain ⟨hx, hb, hr, hml, hown, hts, hX, hbl, hlocks, hgv⟩ := X.1
  have hbA : ¬ (fun q : Nat => s.heap.size ≤ q) b := Nat.not_le.mpr hbl
  refine lv_aload_n (pc := 988) hx hb dL_law_988 rfl (lv_at hl 2 rfl) ?_
  refine lv_aload_n (pc := 989) hx hb dL_law_989 rfl (lv_at hl 3 rfl) ?_
  refine lv_iload_n (pc := 990) hx hb dL_law_990 rfl (lv_at hl 0 rfl) ?_
  refine lv_iconst (pc := 991) (v := (1 : Int32)) hx hb dL_law_991 (by decide) ?_
  refine lv_iadd (pc := 992) hx hb dL_law_992 ?_
  refine va_sld (pc := 993) hx hb hX hbl hbA w.2.2 h1 dL_law_993 ?_
  refine lv_aload_n (pc := 994) hx hb dL_law_994 rfl (lv_at hl 3 rfl) ?_
  refine lv_iload_n (pc := 995) hx hb dL_law_995 rfl (lv_at hl 0 rfl) ?_
  refine lv_iconst (pc := 996) (v := (2 : Int32)) hx hb dL_law_996 (by decide) ?_
  refine lv_iadd (pc := 997) hx hb dL_law_997 ?_
  refine va_sld (pc := 998) hx hb hX hbl hbA w.2.2 h2 dL_law_998 ?_
  refine lv_aload_n (pc := 999) hx hb dL_law_999 rfl (lv_at hl 3 rfl) ?_
  refine lv_iload_n (pc := 1000) hx hb dL_law_1000 rfl (lv_at hl 0 rfl) ?_
  refine lv_iconst (pc := 1001) (v := (3 : Int32)) hx hb dL_law_1001 (by decide) ?_
  refine lv_iadd (pc := 1002) hx hb dL_law_1002 ?_
  refine va_sld (pc := 1003) hx hb hX hbl hbA w.2.2 h3 dL_law_1003 ?_
  have h := st_price hR ((xs (nI i + (1 : Int32)).toNatClampNeg)) ((xs (nI i + (2 : Int32)).toNatClampNeg)) ((xs (nI i + (3 : Int32)).toNatClampNeg))
  refine LcallCi (pc := 1004) (rest := []) X w (LrunC (pc := 1004) X w (okX8_price l X.2.2.2.1 h) kw980 kmX8_price ⟨rfl, rfl⟩ ⟨by decide, by decide⟩ rfl hl.1 rfl (Nat.le_of_ble_eq_true rfl) dL_law_1004) (fun r u1 H locs h w => ?_)
  refine lv_aload_n (pc := 1007) hx hb dL_law_1007 rfl (lv_at hl 1 rfl) ?_
  refine lv_aload_n (pc := 1008) hx hb dL_law_1008 rfl (lv_at hl 3 rfl) ?_
  refine lv_iload_n (pc := 1009) hx hb dL_law_1009 rfl (lv_at hl 0 rfl) ?_
  refine lv_iconst (pc := 1010) (v := (1 : Int32)) hx hb dL_law_1010 (by decide) ?_
  refine lv_iadd (pc := 1011) hx hb dL_law_1011 ?_
  refine va_sld (pc := 1012) hx hb hX hbl hbA w.2.2 h1 dL_law_1012 ?_
  refine lv_aload_n (pc := 1013) hx hb dL_law_1013 rfl (lv_at hl 3 rfl) ?_
  refine lv_iload_n (pc := 1014) hx hb dL_law_1014 rfl (lv_at hl 0 rfl) ?_
  refine lv_iconst (pc := 1015) (v := (2 : Int32)) hx hb dL_law_1015 (by decide) ?_
  refine lv_iadd (pc := 1016) hx hb dL_law_1016 ?_
  refine va_sld (pc := 1017) hx hb hX hbl hbA w.2.2 h2 dL_law_1017 ?_
  refine lv_aload_n (pc := 1018) hx hb dL_law_1018 rfl (lv_at hl 3 rfl) ?_
  refine lv_iload_n (pc := 1019) hx hb dL_law_1019 rfl (lv_at hl 0 rfl) ?_
  refine lv_iconst (pc := 1020) (v := (3 : Int32)) hx hb dL_law_1020 (by decide) ?_
  refine lv_iadd (pc := 1021) hx hb dL_law_1021 ?_
  refine va_sld (pc := 1022) hx hb hX hbl hbA w.2.2 h3 dL_law_1022 ?_
  refine LcallRi (pc := 1023) (rest := [.int r]) X w (LrunR (pc := 1023) X w (okX9_price l X.2.2.2.2.1 h) kw984 kmX9_price ⟨rfl, rfl⟩ ⟨by decide, by decide⟩ rfl hl.1 rfl (Nat.le_of_ble_eq_true rfl) dL_law_1023) (fun r2 v1 H locs h w => ?_)
  refine lv_icmp_eq (pc := 1026) (tgt := 2384) hx hb dL_law_1026 (by decide) (fun _ => ?_) (fun c_ => absurd h.1 c_)
  exact hk _ _ H locs ls h.2 w hl
set_option maxHeartbeats 4000000 in
set_option maxRecDepth 100000 in
theorem lc_volume {p : Program} {l : Launch} {e : Env} {s : State} {m : MethodId} {below : List Frame} {meth : Method} {c : Code} {H : Heap} {locs : List Loc} {b L : Nat} {xs : Nat → Int32} {D : va_G} {g : Nat → ClassId} {aC aR : Nat → Nat} {u v : Mm} {ls : Array Slot} {i : Nat} (X : LX p s m meth c b L xs D g aC aR) (w : LW D g aC aR s u v H locs) (hR : Rel u v) (hl : lv_has ls 4 [(3, .int (nI i)), (2, .ref (aR 0)), (1, .ref (aC 0)), (0, .ref b)]) (h1 : vp_in (nI i + (1 : Int32)) L) (h2 : vp_in (nI i + (2 : Int32)) L) (h3 : vp_in (nI i + (3 : Int32)) L) (h4 : vp_in (nI i + (4 : Int32)) L) (h5 : vp_in (nI i + (5 : Int32)) L) (hk : ∀ (u v : Mm) (H : Heap) (locs : List Loc) (ls : Array Slot), Rel u v → LW D g aC aR s u v H locs → lv_has ls 4 [(3, .int (nI i)), (2, .ref (aR 0)), (1, .ref (aC 0)), (0, .ref b)] → W p l e room_1 s m #[Value.ref b] below meth c H locs 600000 7302250 (lw_Z below #[Value.ref b] s) (F0 m 2384 ls [])) : W p l e room_1 s m #[Value.ref b] below meth c H locs 600000 7302250 (lw_Z below #[Value.ref b] s) (F0 m 1031 ls []) := by
  obtain ⟨hx, hb, hr, hml, hown, hts, hX, hbl, hlocks, hgv⟩ := X.1
  have hbA : ¬ (fun q : Nat => s.heap.size ≤ q) b := Nat.not_le.mpr hbl
  refine lv_aload_n (pc := 1031) hx hb dL_law_1031 rfl (lv_at hl 2 rfl) ?_
  refine lv_aload_n (pc := 1032) hx hb dL_law_1032 rfl (lv_at hl 3 rfl) ?_
  refine lv_iload_n (pc := 1033) hx hb dL_law_1033 rfl (lv_at hl 0 rfl) ?_
  refine lv_iconst (pc := 1034) (v := (1 : Int32)) hx hb dL_law_1034 (by decide) ?_
  refine lv_iadd (pc := 1035) hx hb dL_law_1035 ?_
  refine va_sld (pc := 1036) hx hb hX hbl hbA w.2.2 h1 dL_law_1036 ?_
  refine lv_aload_n (pc := 1037) hx hb dL_law_1037 rfl (lv_at hl 3 rfl) ?_
  refine lv_iload_n (pc := 1038) hx hb dL_law_1038 rfl (lv_at hl 0 rfl) ?_
  refine lv_iconst (pc := 1039) (v := (2 : Int32)) hx hb dL_law_1039 (by decide) ?_
  refine lv_iadd (pc := 1040) hx hb dL_law_1040 ?_
  refine va_sld (pc := 1041) hx hb hX hbl hbA w.2.2 h2 dL_law_1041 ?_
  refine lv_aload_n (pc := 1042) hx hb dL_law_1042 rfl (lv_at hl 3 rfl) ?_
  refine lv_iload_n (pc := 1043) hx hb dL_law_1043 rfl (lv_at hl 0 rfl) ?_
  refine lv_iconst (pc := 1044) (v := (3 : Int32)) hx hb dL_law_1044 (by decide) ?_
  refine lv_iadd (pc := 1045) hx hb dL_law_1045 ?_
  refine va_sld (pc := 1046) hx hb hX hbl hbA w.2.2 h3 dL_law_1046 ?_
  have h := st_volume hR ((xs (nI i + (1 : Int32)).toNatClampNeg)) ((xs (nI i + (2 : Int32)).toNatClampNeg)) ((xs (nI i + (3 : Int32)).toNatClampNeg))
  refine LcallCl (pc := 1047) (rest := []) X w (LrunC (pc := 1047) X w (okX8_volume l X.2.2.2.1 h) kw988 kmX8_volume ⟨rfl, rfl⟩ ⟨by decide, by decide⟩ rfl hl.1 rfl (Nat.le_of_ble_eq_true rfl) dL_law_1047) (fun r u1 H locs h w => ?_)
  refine lv_aload_n (pc := 1050) hx hb dL_law_1050 rfl (lv_at hl 1 rfl) ?_
  refine lv_aload_n (pc := 1051) hx hb dL_law_1051 rfl (lv_at hl 3 rfl) ?_
  refine lv_iload_n (pc := 1052) hx hb dL_law_1052 rfl (lv_at hl 0 rfl) ?_
  refine lv_iconst (pc := 1053) (v := (1 : Int32)) hx hb dL_law_1053 (by decide) ?_
  refine lv_iadd (pc := 1054) hx hb dL_law_1054 ?_
  refine va_sld (pc := 1055) hx hb hX hbl hbA w.2.2 h1 dL_law_1055 ?_
  refine lv_aload_n (pc := 1056) hx hb dL_law_1056 rfl (lv_at hl 3 rfl) ?_
  refine lv_iload_n (pc := 1057) hx hb dL_law_1057 rfl (lv_at hl 0 rfl) ?_
  refine lv_iconst (pc := 1058) (v := (2 : Int32)) hx hb dL_law_1058 (by decide) ?_
  refine lv_iadd (pc := 1059) hx hb dL_law_1059 ?_
  refine va_sld (pc := 1060) hx hb hX hbl hbA w.2.2 h2 dL_law_1060 ?_
  refine lv_aload_n (pc := 1061) hx hb dL_law_1061 rfl (lv_at hl 3 rfl) ?_
  refine lv_iload_n (pc := 1062) hx hb dL_law_1062 rfl (lv_at hl 0 rfl) ?_
  refine lv_iconst (pc := 1063) (v := (3 : Int32)) hx hb dL_law_1063 (by decide) ?_
  refine lv_iadd (pc := 1064) hx hb dL_law_1064 ?_
  refine va_sld (pc := 1065) hx hb hX hbl hbA w.2.2 h3 dL_law_1065 ?_
  refine LcallRl (pc := 1066) (rest := [.long r]) X w (LrunR (pc := 1066) X w (okX9_volume l X.2.2.2.2.1 h) kw992 kmX9_volume ⟨rfl, rfl⟩ ⟨by decide, by decide⟩ rfl hl.1 rfl (Nat.le_of_ble_eq_true rfl) dL_law_1066) (fun r2 v1 H locs h w => ?_)
  refine lq_eq (pc := 1069) (tgt := 2384) hx hb dL_law_1069 dL_law_1070 (by decide) (fun _ => ?_) (fun c_ => absurd h.1 c_)
  exact hk _ _ H locs ls h.2 w hl
set_option maxHeartbeats 4000000 in
set_option maxRecDepth 100000 in
theorem lc_atPrices {p : Program} {l : Launch} {e : Env} {s : State} {m : MethodId} {below : List Frame} {meth : Method} {c : Code} {H : Heap} {locs : List Loc} {b L : Nat} {xs : Nat → Int32} {D : va_G} {g : Nat → ClassId} {aC aR : Nat → Nat} {u v : Mm} {ls : Array Slot} {i : Nat} (X : LX p s m meth c b L xs D g aC aR) (w : LW D g aC aR s u v H locs) (hR : Rel u v) (hl : lv_has ls 4 [(3, .int (nI i)), (2, .ref (aR 0)), (1, .ref (aC 0)), (0, .ref b)]) (h1 : vp_in (nI i + (1 : Int32)) L) (h2 : vp_in (nI i + (2 : Int32)) L) (h3 : vp_in (nI i + (3 : Int32)) L) (h4 : vp_in (nI i + (4 : Int32)) L) (h5 : vp_in (nI i + (5 : Int32)) L) (hk : ∀ (u v : Mm) (H : Heap) (locs : List Loc) (ls : Array Slot), Rel u v → LW D g aC aR s u v H locs → lv_has ls 4 [(3, .int (nI i)), (2, .ref (aR 0)), (1, .ref (aC 0)), (0, .ref b)] → W p l e room_1 s m #[Value.ref b] below meth c H locs 600000 7302250 (lw_Z below #[Value.ref b] s) (F0 m 2384 ls [])) : W p l e room_1 s m #[Value.ref b] below meth c H locs 600000 7302250 (lw_Z below #[Value.ref b] s) (F0 m 1075 ls []) := by
  obtain ⟨hx, hb, hr, hml, hown, hts, hX, hbl, hlocks, hgv⟩ := X.1
  have hbA : ¬ (fun q : Nat => s.heap.size ≤ q) b := Nat.not_le.mpr hbl
  refine lv_aload_n (pc := 1075) hx hb dL_law_1075 rfl (lv_at hl 2 rfl) ?_
  refine lv_aload_n (pc := 1076) hx hb dL_law_1076 rfl (lv_at hl 3 rfl) ?_
  refine lv_iload_n (pc := 1077) hx hb dL_law_1077 rfl (lv_at hl 0 rfl) ?_
  refine lv_iconst (pc := 1078) (v := (1 : Int32)) hx hb dL_law_1078 (by decide) ?_
  refine lv_iadd (pc := 1079) hx hb dL_law_1079 ?_
  refine va_sld (pc := 1080) hx hb hX hbl hbA w.2.2 h1 dL_law_1080 ?_
  refine lv_aload_n (pc := 1081) hx hb dL_law_1081 rfl (lv_at hl 3 rfl) ?_
  refine lv_iload_n (pc := 1082) hx hb dL_law_1082 rfl (lv_at hl 0 rfl) ?_
  refine lv_iconst (pc := 1083) (v := (2 : Int32)) hx hb dL_law_1083 (by decide) ?_
  refine lv_iadd (pc := 1084) hx hb dL_law_1084 ?_
  refine va_sld (pc := 1085) hx hb hX hbl hbA w.2.2 h2 dL_law_1085 ?_
  refine lv_aload_n (pc := 1086) hx hb dL_law_1086 rfl (lv_at hl 3 rfl) ?_
  refine lv_iload_n (pc := 1087) hx hb dL_law_1087 rfl (lv_at hl 0 rfl) ?_
  refine lv_iconst (pc := 1088) (v := (3 : Int32)) hx hb dL_law_1088 (by decide) ?_
  refine lv_iadd (pc := 1089) hx hb dL_law_1089 ?_
  refine va_sld (pc := 1090) hx hb hX hbl hbA w.2.2 h3 dL_law_1090 ?_
  refine lv_aload_n (pc := 1091) hx hb dL_law_1091 rfl (lv_at hl 3 rfl) ?_
  refine lv_iload_n (pc := 1092) hx hb dL_law_1092 rfl (lv_at hl 0 rfl) ?_
  refine lv_iconst (pc := 1093) (v := (4 : Int32)) hx hb dL_law_1093 (by decide) ?_
  refine lv_iadd (pc := 1094) hx hb dL_law_1094 ?_
  refine va_sld (pc := 1095) hx hb hX hbl hbA w.2.2 h4 dL_law_1095 ?_
  have h := st_atPrices hR ((xs (nI i + (1 : Int32)).toNatClampNeg)) ((xs (nI i + (2 : Int32)).toNatClampNeg)) ((xs (nI i + (3 : Int32)).toNatClampNeg)) ((xs (nI i + (4 : Int32)).toNatClampNeg))
  refine LcallCl (pc := 1096) (rest := []) X w (LrunC (pc := 1096) X w (okX8_atPrices l X.2.2.2.1 h) kw996 kmX8_atPrices ⟨rfl, rfl⟩ ⟨by decide, by decide⟩ rfl hl.1 rfl (Nat.le_of_ble_eq_true rfl) dL_law_1096) (fun r u1 H locs h w => ?_)
  refine lv_aload_n (pc := 1099) hx hb dL_law_1099 rfl (lv_at hl 1 rfl) ?_
  refine lv_aload_n (pc := 1100) hx hb dL_law_1100 rfl (lv_at hl 3 rfl) ?_
  refine lv_iload_n (pc := 1101) hx hb dL_law_1101 rfl (lv_at hl 0 rfl) ?_
  refine lv_iconst (pc := 1102) (v := (1 : Int32)) hx hb dL_law_1102 (by decide) ?_
  refine lv_iadd (pc := 1103) hx hb dL_law_1103 ?_
  refine va_sld (pc := 1104) hx hb hX hbl hbA w.2.2 h1 dL_law_1104 ?_
  refine lv_aload_n (pc := 1105) hx hb dL_law_1105 rfl (lv_at hl 3 rfl) ?_
  refine lv_iload_n (pc := 1106) hx hb dL_law_1106 rfl (lv_at hl 0 rfl) ?_
  refine lv_iconst (pc := 1107) (v := (2 : Int32)) hx hb dL_law_1107 (by decide) ?_
  refine lv_iadd (pc := 1108) hx hb dL_law_1108 ?_
  refine va_sld (pc := 1109) hx hb hX hbl hbA w.2.2 h2 dL_law_1109 ?_
  refine lv_aload_n (pc := 1110) hx hb dL_law_1110 rfl (lv_at hl 3 rfl) ?_
  refine lv_iload_n (pc := 1111) hx hb dL_law_1111 rfl (lv_at hl 0 rfl) ?_
  refine lv_iconst (pc := 1112) (v := (3 : Int32)) hx hb dL_law_1112 (by decide) ?_
  refine lv_iadd (pc := 1113) hx hb dL_law_1113 ?_
  refine va_sld (pc := 1114) hx hb hX hbl hbA w.2.2 h3 dL_law_1114 ?_
  refine lv_aload_n (pc := 1115) hx hb dL_law_1115 rfl (lv_at hl 3 rfl) ?_
  refine lv_iload_n (pc := 1116) hx hb dL_law_1116 rfl (lv_at hl 0 rfl) ?_
  refine lv_iconst (pc := 1117) (v := (4 : Int32)) hx hb dL_law_1117 (by decide) ?_
  refine lv_iadd (pc := 1118) hx hb dL_law_1118 ?_
  refine va_sld (pc := 1119) hx hb hX hbl hbA w.2.2 h4 dL_law_1119 ?_
  refine LcallRl (pc := 1120) (rest := [.long r]) X w (LrunR (pc := 1120) X w (okX9_atPrices l X.2.2.2.2.1 h) kw1000 kmX9_atPrices ⟨rfl, rfl⟩ ⟨by decide, by decide⟩ rfl hl.1 rfl (Nat.le_of_ble_eq_true rfl) dL_law_1120) (fun r2 v1 H locs h w => ?_)
  refine lq_eq (pc := 1123) (tgt := 2384) hx hb dL_law_1123 dL_law_1124 (by decide) (fun _ => ?_) (fun c_ => absurd h.1 c_)
  exact hk _ _ H locs ls h.2 w hl
set_option maxHeartbeats 4000000 in
set_option maxRecDepth 100000 in
theorem lc_growth {p : Program} {l : Launch} {e : Env} {s : State} {m : MethodId} {below : List Frame} {meth : Method} {c : Code} {H : Heap} {locs : List Loc} {b L : Nat} {xs : Nat → Int32} {D : va_G} {g : Nat → ClassId} {aC aR : Nat → Nat} {u v : Mm} {ls : Array Slot} {i : Nat} (X : LX p s m meth c b L xs D g aC aR) (w : LW D g aC aR s u v H locs) (hR : Rel u v) (hl : lv_has ls 4 [(3, .int (nI i)), (2, .ref (aR 0)), (1, .ref (aC 0)), (0, .ref b)]) (h1 : vp_in (nI i + (1 : Int32)) L) (h2 : vp_in (nI i + (2 : Int32)) L) (h3 : vp_in (nI i + (3 : Int32)) L) (h4 : vp_in (nI i + (4 : Int32)) L) (h5 : vp_in (nI i + (5 : Int32)) L) (hk : ∀ (u v : Mm) (H : Heap) (locs : List Loc) (ls : Array Slot), Rel u v → LW D g aC aR s u v H locs → lv_has ls 4 [(3, .int (nI i)), (2, .ref (aR 0)), (1, .ref (aC 0)), (0, .ref b)] → W p l e room_1 s m #[Value.ref b] below meth c H locs 600000 7302250 (lw_Z below #[Value.ref b] s) (F0 m 2384 ls [])) : W p l e room_1 s m #[Value.ref b] below meth c H locs 600000 7302250 (lw_Z below #[Value.ref b] s) (F0 m 1129 ls []) := by
  obtain ⟨hx, hb, hr, hml, hown, hts, hX, hbl, hlocks, hgv⟩ := X.1
  have hbA : ¬ (fun q : Nat => s.heap.size ≤ q) b := Nat.not_le.mpr hbl
  refine lv_aload_n (pc := 1129) hx hb dL_law_1129 rfl (lv_at hl 2 rfl) ?_
  refine lv_aload_n (pc := 1130) hx hb dL_law_1130 rfl (lv_at hl 3 rfl) ?_
  refine lv_iload_n (pc := 1131) hx hb dL_law_1131 rfl (lv_at hl 0 rfl) ?_
  refine lv_iconst (pc := 1132) (v := (1 : Int32)) hx hb dL_law_1132 (by decide) ?_
  refine lv_iadd (pc := 1133) hx hb dL_law_1133 ?_
  refine va_sld (pc := 1134) hx hb hX hbl hbA w.2.2 h1 dL_law_1134 ?_
  refine lv_aload_n (pc := 1135) hx hb dL_law_1135 rfl (lv_at hl 3 rfl) ?_
  refine lv_iload_n (pc := 1136) hx hb dL_law_1136 rfl (lv_at hl 0 rfl) ?_
  refine lv_iconst (pc := 1137) (v := (2 : Int32)) hx hb dL_law_1137 (by decide) ?_
  refine lv_iadd (pc := 1138) hx hb dL_law_1138 ?_
  refine va_sld (pc := 1139) hx hb hX hbl hbA w.2.2 h2 dL_law_1139 ?_
  refine lv_aload_n (pc := 1140) hx hb dL_law_1140 rfl (lv_at hl 3 rfl) ?_
  refine lv_iload_n (pc := 1141) hx hb dL_law_1141 rfl (lv_at hl 0 rfl) ?_
  refine lv_iconst (pc := 1142) (v := (3 : Int32)) hx hb dL_law_1142 (by decide) ?_
  refine lv_iadd (pc := 1143) hx hb dL_law_1143 ?_
  refine va_sld (pc := 1144) hx hb hX hbl hbA w.2.2 h3 dL_law_1144 ?_
  have h := st_growth hR ((xs (nI i + (1 : Int32)).toNatClampNeg)) ((xs (nI i + (2 : Int32)).toNatClampNeg)) ((xs (nI i + (3 : Int32)).toNatClampNeg))
  refine LcallCl (pc := 1145) (rest := []) X w (LrunC (pc := 1145) X w (okX8_growth l X.2.2.2.1 h) kw1004 kmX8_growth ⟨rfl, rfl⟩ ⟨by decide, by decide⟩ rfl hl.1 rfl (Nat.le_of_ble_eq_true rfl) dL_law_1145) (fun r u1 H locs h w => ?_)
  refine lv_aload_n (pc := 1148) hx hb dL_law_1148 rfl (lv_at hl 1 rfl) ?_
  refine lv_aload_n (pc := 1149) hx hb dL_law_1149 rfl (lv_at hl 3 rfl) ?_
  refine lv_iload_n (pc := 1150) hx hb dL_law_1150 rfl (lv_at hl 0 rfl) ?_
  refine lv_iconst (pc := 1151) (v := (1 : Int32)) hx hb dL_law_1151 (by decide) ?_
  refine lv_iadd (pc := 1152) hx hb dL_law_1152 ?_
  refine va_sld (pc := 1153) hx hb hX hbl hbA w.2.2 h1 dL_law_1153 ?_
  refine lv_aload_n (pc := 1154) hx hb dL_law_1154 rfl (lv_at hl 3 rfl) ?_
  refine lv_iload_n (pc := 1155) hx hb dL_law_1155 rfl (lv_at hl 0 rfl) ?_
  refine lv_iconst (pc := 1156) (v := (2 : Int32)) hx hb dL_law_1156 (by decide) ?_
  refine lv_iadd (pc := 1157) hx hb dL_law_1157 ?_
  refine va_sld (pc := 1158) hx hb hX hbl hbA w.2.2 h2 dL_law_1158 ?_
  refine lv_aload_n (pc := 1159) hx hb dL_law_1159 rfl (lv_at hl 3 rfl) ?_
  refine lv_iload_n (pc := 1160) hx hb dL_law_1160 rfl (lv_at hl 0 rfl) ?_
  refine lv_iconst (pc := 1161) (v := (3 : Int32)) hx hb dL_law_1161 (by decide) ?_
  refine lv_iadd (pc := 1162) hx hb dL_law_1162 ?_
  refine va_sld (pc := 1163) hx hb hX hbl hbA w.2.2 h3 dL_law_1163 ?_
  refine LcallRl (pc := 1164) (rest := [.long r]) X w (LrunR (pc := 1164) X w (okX9_growth l X.2.2.2.2.1 h) kw1008 kmX9_growth ⟨rfl, rfl⟩ ⟨by decide, by decide⟩ rfl hl.1 rfl (Nat.le_of_ble_eq_true rfl) dL_law_1164) (fun r2 v1 H locs h w => ?_)
  refine lq_eq (pc := 1167) (tgt := 2384) hx hb dL_law_1167 dL_law_1168 (by decide) (fun _ => ?_) (fun c_ => absurd h.1 c_)
  exact hk _ _ H locs ls h.2 w hl
set_option maxHeartbeats 4000000 in
set_option maxRecDepth 100000 in
theorem lc_chain {p : Program} {l : Launch} {e : Env} {s : State} {m : MethodId} {below : List Frame} {meth : Method} {c : Code} {H : Heap} {locs : List Loc} {b L : Nat} {xs : Nat → Int32} {D : va_G} {g : Nat → ClassId} {aC aR : Nat → Nat} {u v : Mm} {ls : Array Slot} {i : Nat} (X : LX p s m meth c b L xs D g aC aR) (w : LW D g aC aR s u v H locs) (hR : Rel u v) (hl : lv_has ls 4 [(3, .int (nI i)), (2, .ref (aR 0)), (1, .ref (aC 0)), (0, .ref b)]) (h1 : vp_in (nI i + (1 : Int32)) L) (h2 : vp_in (nI i + (2 : Int32)) L) (h3 : vp_in (nI i + (3 : Int32)) L) (h4 : vp_in (nI i + (4 : Int32)) L) (h5 : vp_in (nI i + (5 : Int32)) L) (hk : ∀ (u v : Mm) (H : Heap) (locs : List Loc) (ls : Array Slot), Rel u v → LW D g aC aR s u v H locs → lv_has ls 4 [(3, .int (nI i)), (2, .ref (aR 0)), (1, .ref (aC 0)), (0, .ref b)] → W p l e room_1 s m #[Value.ref b] below meth c H locs 600000 7302250 (lw_Z below #[Value.ref b] s) (F0 m 2384 ls [])) : W p l e room_1 s m #[Value.ref b] below meth c H locs 600000 7302250 (lw_Z below #[Value.ref b] s) (F0 m 1173 ls []) := by
  obtain ⟨hx, hb, hr, hml, hown, hts, hX, hbl, hlocks, hgv⟩ := X.1
  have hbA : ¬ (fun q : Nat => s.heap.size ≤ q) b := Nat.not_le.mpr hbl
  refine lv_aload_n (pc := 1173) hx hb dL_law_1173 rfl (lv_at hl 2 rfl) ?_
  refine lv_aload_n (pc := 1174) hx hb dL_law_1174 rfl (lv_at hl 3 rfl) ?_
  refine lv_iload_n (pc := 1175) hx hb dL_law_1175 rfl (lv_at hl 0 rfl) ?_
  refine lv_iconst (pc := 1176) (v := (1 : Int32)) hx hb dL_law_1176 (by decide) ?_
  refine lv_iadd (pc := 1177) hx hb dL_law_1177 ?_
  refine va_sld (pc := 1178) hx hb hX hbl hbA w.2.2 h1 dL_law_1178 ?_
  refine lv_aload_n (pc := 1179) hx hb dL_law_1179 rfl (lv_at hl 3 rfl) ?_
  refine lv_iload_n (pc := 1180) hx hb dL_law_1180 rfl (lv_at hl 0 rfl) ?_
  refine lv_iconst (pc := 1181) (v := (2 : Int32)) hx hb dL_law_1181 (by decide) ?_
  refine lv_iadd (pc := 1182) hx hb dL_law_1182 ?_
  refine va_sld (pc := 1183) hx hb hX hbl hbA w.2.2 h2 dL_law_1183 ?_
  refine lv_aload_n (pc := 1184) hx hb dL_law_1184 rfl (lv_at hl 3 rfl) ?_
  refine lv_iload_n (pc := 1185) hx hb dL_law_1185 rfl (lv_at hl 0 rfl) ?_
  refine lv_iconst (pc := 1186) (v := (3 : Int32)) hx hb dL_law_1186 (by decide) ?_
  refine lv_iadd (pc := 1187) hx hb dL_law_1187 ?_
  refine va_sld (pc := 1188) hx hb hX hbl hbA w.2.2 h3 dL_law_1188 ?_
  have h := st_chain hR ((xs (nI i + (1 : Int32)).toNatClampNeg)) ((xs (nI i + (2 : Int32)).toNatClampNeg)) ((xs (nI i + (3 : Int32)).toNatClampNeg))
  refine LcallCl (pc := 1189) (rest := []) X w (LrunC (pc := 1189) X w (okX8_chain l X.2.2.2.1 h) kw1012 kmX8_chain ⟨rfl, rfl⟩ ⟨by decide, by decide⟩ rfl hl.1 rfl (Nat.le_of_ble_eq_true rfl) dL_law_1189) (fun r u1 H locs h w => ?_)
  refine lv_aload_n (pc := 1192) hx hb dL_law_1192 rfl (lv_at hl 1 rfl) ?_
  refine lv_aload_n (pc := 1193) hx hb dL_law_1193 rfl (lv_at hl 3 rfl) ?_
  refine lv_iload_n (pc := 1194) hx hb dL_law_1194 rfl (lv_at hl 0 rfl) ?_
  refine lv_iconst (pc := 1195) (v := (1 : Int32)) hx hb dL_law_1195 (by decide) ?_
  refine lv_iadd (pc := 1196) hx hb dL_law_1196 ?_
  refine va_sld (pc := 1197) hx hb hX hbl hbA w.2.2 h1 dL_law_1197 ?_
  refine lv_aload_n (pc := 1198) hx hb dL_law_1198 rfl (lv_at hl 3 rfl) ?_
  refine lv_iload_n (pc := 1199) hx hb dL_law_1199 rfl (lv_at hl 0 rfl) ?_
  refine lv_iconst (pc := 1200) (v := (2 : Int32)) hx hb dL_law_1200 (by decide) ?_
  refine lv_iadd (pc := 1201) hx hb dL_law_1201 ?_
  refine va_sld (pc := 1202) hx hb hX hbl hbA w.2.2 h2 dL_law_1202 ?_
  refine lv_aload_n (pc := 1203) hx hb dL_law_1203 rfl (lv_at hl 3 rfl) ?_
  refine lv_iload_n (pc := 1204) hx hb dL_law_1204 rfl (lv_at hl 0 rfl) ?_
  refine lv_iconst (pc := 1205) (v := (3 : Int32)) hx hb dL_law_1205 (by decide) ?_
  refine lv_iadd (pc := 1206) hx hb dL_law_1206 ?_
  refine va_sld (pc := 1207) hx hb hX hbl hbA w.2.2 h3 dL_law_1207 ?_
  refine LcallRl (pc := 1208) (rest := [.long r]) X w (LrunR (pc := 1208) X w (okX9_chain l X.2.2.2.2.1 h) kw1016 kmX9_chain ⟨rfl, rfl⟩ ⟨by decide, by decide⟩ rfl hl.1 rfl (Nat.le_of_ble_eq_true rfl) dL_law_1208) (fun r2 v1 H locs h w => ?_)
  refine lq_eq (pc := 1211) (tgt := 2384) hx hb dL_law_1211 dL_law_1212 (by decide) (fun _ => ?_) (fun c_ => absurd h.1 c_)
  exact hk _ _ H locs ls h.2 w hl
set_option maxHeartbeats 4000000 in
set_option maxRecDepth 100000 in
theorem lc_part {p : Program} {l : Launch} {e : Env} {s : State} {m : MethodId} {below : List Frame} {meth : Method} {c : Code} {H : Heap} {locs : List Loc} {b L : Nat} {xs : Nat → Int32} {D : va_G} {g : Nat → ClassId} {aC aR : Nat → Nat} {u v : Mm} {ls : Array Slot} {i : Nat} (X : LX p s m meth c b L xs D g aC aR) (w : LW D g aC aR s u v H locs) (hR : Rel u v) (hl : lv_has ls 4 [(3, .int (nI i)), (2, .ref (aR 0)), (1, .ref (aC 0)), (0, .ref b)]) (h1 : vp_in (nI i + (1 : Int32)) L) (h2 : vp_in (nI i + (2 : Int32)) L) (h3 : vp_in (nI i + (3 : Int32)) L) (h4 : vp_in (nI i + (4 : Int32)) L) (h5 : vp_in (nI i + (5 : Int32)) L) (hk : ∀ (u v : Mm) (H : Heap) (locs : List Loc) (ls : Array Slot), Rel u v → LW D g aC aR s u v H locs → lv_has ls 4 [(3, .int (nI i)), (2, .ref (aR 0)), (1, .ref (aC 0)), (0, .ref b)] → W p l e room_1 s m #[Value.ref b] below meth c H locs 600000 7302250 (lw_Z below #[Value.ref b] s) (F0 m 2384 ls [])) : W p l e room_1 s m #[Value.ref b] below meth c H locs 600000 7302250 (lw_Z below #[Value.ref b] s) (F0 m 1217 ls []) := by
  obtain ⟨hx, hb, hr, hml, hown, hts, hX, hbl, hlocks, hgv⟩ := X.1
  have hbA : ¬ (fun q : Nat => s.heap.size ≤ q) b := Nat.not_le.mpr hbl
  refine lv_aload_n (pc := 1217) hx hb dL_law_1217 rfl (lv_at hl 2 rfl) ?_
  refine lv_aload_n (pc := 1218) hx hb dL_law_1218 rfl (lv_at hl 3 rfl) ?_
  refine lv_iload_n (pc := 1219) hx hb dL_law_1219 rfl (lv_at hl 0 rfl) ?_
  refine lv_iconst (pc := 1220) (v := (1 : Int32)) hx hb dL_law_1220 (by decide) ?_
  refine lv_iadd (pc := 1221) hx hb dL_law_1221 ?_
  refine va_sld (pc := 1222) hx hb hX hbl hbA w.2.2 h1 dL_law_1222 ?_
  refine lv_aload_n (pc := 1223) hx hb dL_law_1223 rfl (lv_at hl 3 rfl) ?_
  refine lv_iload_n (pc := 1224) hx hb dL_law_1224 rfl (lv_at hl 0 rfl) ?_
  refine lv_iconst (pc := 1225) (v := (2 : Int32)) hx hb dL_law_1225 (by decide) ?_
  refine lv_iadd (pc := 1226) hx hb dL_law_1226 ?_
  refine va_sld (pc := 1227) hx hb hX hbl hbA w.2.2 h2 dL_law_1227 ?_
  refine lv_aload_n (pc := 1228) hx hb dL_law_1228 rfl (lv_at hl 3 rfl) ?_
  refine lv_iload_n (pc := 1229) hx hb dL_law_1229 rfl (lv_at hl 0 rfl) ?_
  refine lv_iconst (pc := 1230) (v := (3 : Int32)) hx hb dL_law_1230 (by decide) ?_
  refine lv_iadd (pc := 1231) hx hb dL_law_1231 ?_
  refine va_sld (pc := 1232) hx hb hX hbl hbA w.2.2 h3 dL_law_1232 ?_
  have h := st_part hR ((xs (nI i + (1 : Int32)).toNatClampNeg)) ((xs (nI i + (2 : Int32)).toNatClampNeg)) ((xs (nI i + (3 : Int32)).toNatClampNeg))
  refine LcallCl (pc := 1233) (rest := []) X w (LrunC (pc := 1233) X w (okX8_part l X.2.2.2.1 h) kw1020 kmX8_part ⟨rfl, rfl⟩ ⟨by decide, by decide⟩ rfl hl.1 rfl (Nat.le_of_ble_eq_true rfl) dL_law_1233) (fun r u1 H locs h w => ?_)
  refine lv_aload_n (pc := 1236) hx hb dL_law_1236 rfl (lv_at hl 1 rfl) ?_
  refine lv_aload_n (pc := 1237) hx hb dL_law_1237 rfl (lv_at hl 3 rfl) ?_
  refine lv_iload_n (pc := 1238) hx hb dL_law_1238 rfl (lv_at hl 0 rfl) ?_
  refine lv_iconst (pc := 1239) (v := (1 : Int32)) hx hb dL_law_1239 (by decide) ?_
  refine lv_iadd (pc := 1240) hx hb dL_law_1240 ?_
  refine va_sld (pc := 1241) hx hb hX hbl hbA w.2.2 h1 dL_law_1241 ?_
  refine lv_aload_n (pc := 1242) hx hb dL_law_1242 rfl (lv_at hl 3 rfl) ?_
  refine lv_iload_n (pc := 1243) hx hb dL_law_1243 rfl (lv_at hl 0 rfl) ?_
  refine lv_iconst (pc := 1244) (v := (2 : Int32)) hx hb dL_law_1244 (by decide) ?_
  refine lv_iadd (pc := 1245) hx hb dL_law_1245 ?_
  refine va_sld (pc := 1246) hx hb hX hbl hbA w.2.2 h2 dL_law_1246 ?_
  refine lv_aload_n (pc := 1247) hx hb dL_law_1247 rfl (lv_at hl 3 rfl) ?_
  refine lv_iload_n (pc := 1248) hx hb dL_law_1248 rfl (lv_at hl 0 rfl) ?_
  refine lv_iconst (pc := 1249) (v := (3 : Int32)) hx hb dL_law_1249 (by decide) ?_
  refine lv_iadd (pc := 1250) hx hb dL_law_1250 ?_
  refine va_sld (pc := 1251) hx hb hX hbl hbA w.2.2 h3 dL_law_1251 ?_
  refine LcallRl (pc := 1252) (rest := [.long r]) X w (LrunR (pc := 1252) X w (okX9_part l X.2.2.2.2.1 h) kw1024 kmX9_part ⟨rfl, rfl⟩ ⟨by decide, by decide⟩ rfl hl.1 rfl (Nat.le_of_ble_eq_true rfl) dL_law_1252) (fun r2 v1 H locs h w => ?_)
  refine lq_eq (pc := 1255) (tgt := 2384) hx hb dL_law_1255 dL_law_1256 (by decide) (fun _ => ?_) (fun c_ => absurd h.1 c_)
  exact hk _ _ H locs ls h.2 w hl
set_option maxHeartbeats 4000000 in
set_option maxRecDepth 100000 in
theorem lc_apart {p : Program} {l : Launch} {e : Env} {s : State} {m : MethodId} {below : List Frame} {meth : Method} {c : Code} {H : Heap} {locs : List Loc} {b L : Nat} {xs : Nat → Int32} {D : va_G} {g : Nat → ClassId} {aC aR : Nat → Nat} {u v : Mm} {ls : Array Slot} {i : Nat} (X : LX p s m meth c b L xs D g aC aR) (w : LW D g aC aR s u v H locs) (hR : Rel u v) (hl : lv_has ls 4 [(3, .int (nI i)), (2, .ref (aR 0)), (1, .ref (aC 0)), (0, .ref b)]) (h1 : vp_in (nI i + (1 : Int32)) L) (h2 : vp_in (nI i + (2 : Int32)) L) (h3 : vp_in (nI i + (3 : Int32)) L) (h4 : vp_in (nI i + (4 : Int32)) L) (h5 : vp_in (nI i + (5 : Int32)) L) (hk : ∀ (u v : Mm) (H : Heap) (locs : List Loc) (ls : Array Slot), Rel u v → LW D g aC aR s u v H locs → lv_has ls 4 [(3, .int (nI i)), (2, .ref (aR 0)), (1, .ref (aC 0)), (0, .ref b)] → W p l e room_1 s m #[Value.ref b] below meth c H locs 600000 7302250 (lw_Z below #[Value.ref b] s) (F0 m 2384 ls [])) : W p l e room_1 s m #[Value.ref b] below meth c H locs 600000 7302250 (lw_Z below #[Value.ref b] s) (F0 m 1261 ls []) := by
  obtain ⟨hx, hb, hr, hml, hown, hts, hX, hbl, hlocks, hgv⟩ := X.1
  have hbA : ¬ (fun q : Nat => s.heap.size ≤ q) b := Nat.not_le.mpr hbl
  refine lv_aload_n (pc := 1261) hx hb dL_law_1261 rfl (lv_at hl 2 rfl) ?_
  refine lv_aload_n (pc := 1262) hx hb dL_law_1262 rfl (lv_at hl 3 rfl) ?_
  refine lv_iload_n (pc := 1263) hx hb dL_law_1263 rfl (lv_at hl 0 rfl) ?_
  refine lv_iconst (pc := 1264) (v := (1 : Int32)) hx hb dL_law_1264 (by decide) ?_
  refine lv_iadd (pc := 1265) hx hb dL_law_1265 ?_
  refine va_sld (pc := 1266) hx hb hX hbl hbA w.2.2 h1 dL_law_1266 ?_
  refine lv_aload_n (pc := 1267) hx hb dL_law_1267 rfl (lv_at hl 3 rfl) ?_
  refine lv_iload_n (pc := 1268) hx hb dL_law_1268 rfl (lv_at hl 0 rfl) ?_
  refine lv_iconst (pc := 1269) (v := (2 : Int32)) hx hb dL_law_1269 (by decide) ?_
  refine lv_iadd (pc := 1270) hx hb dL_law_1270 ?_
  refine va_sld (pc := 1271) hx hb hX hbl hbA w.2.2 h2 dL_law_1271 ?_
  have h := st_apart hR ((xs (nI i + (1 : Int32)).toNatClampNeg)) ((xs (nI i + (2 : Int32)).toNatClampNeg))
  refine LcallCl (pc := 1272) (rest := []) X w (LrunC (pc := 1272) X w (okX8_apart l X.2.2.2.1 h) kw1028 kmX8_apart ⟨rfl, rfl⟩ ⟨by decide, by decide⟩ rfl hl.1 rfl (Nat.le_of_ble_eq_true rfl) dL_law_1272) (fun r u1 H locs h w => ?_)
  refine lv_aload_n (pc := 1275) hx hb dL_law_1275 rfl (lv_at hl 1 rfl) ?_
  refine lv_aload_n (pc := 1276) hx hb dL_law_1276 rfl (lv_at hl 3 rfl) ?_
  refine lv_iload_n (pc := 1277) hx hb dL_law_1277 rfl (lv_at hl 0 rfl) ?_
  refine lv_iconst (pc := 1278) (v := (1 : Int32)) hx hb dL_law_1278 (by decide) ?_
  refine lv_iadd (pc := 1279) hx hb dL_law_1279 ?_
  refine va_sld (pc := 1280) hx hb hX hbl hbA w.2.2 h1 dL_law_1280 ?_
  refine lv_aload_n (pc := 1281) hx hb dL_law_1281 rfl (lv_at hl 3 rfl) ?_
  refine lv_iload_n (pc := 1282) hx hb dL_law_1282 rfl (lv_at hl 0 rfl) ?_
  refine lv_iconst (pc := 1283) (v := (2 : Int32)) hx hb dL_law_1283 (by decide) ?_
  refine lv_iadd (pc := 1284) hx hb dL_law_1284 ?_
  refine va_sld (pc := 1285) hx hb hX hbl hbA w.2.2 h2 dL_law_1285 ?_
  refine LcallRl (pc := 1286) (rest := [.long r]) X w (LrunR (pc := 1286) X w (okX9_apart l X.2.2.2.2.1 h) kw1032 kmX9_apart ⟨rfl, rfl⟩ ⟨by decide, by decide⟩ rfl hl.1 rfl (Nat.le_of_ble_eq_true rfl) dL_law_1286) (fun r2 v1 H locs h w => ?_)
  refine lq_eq (pc := 1289) (tgt := 2384) hx hb dL_law_1289 dL_law_1290 (by decide) (fun _ => ?_) (fun c_ => absurd h.1 c_)
  exact hk _ _ H locs ls h.2 w hl
set_option maxHeartbeats 4000000 in
set_option maxRecDepth 100000 in
theorem lc_trade {p : Program} {l : Launch} {e : Env} {s : State} {m : MethodId} {below : List Frame} {meth : Method} {c : Code} {H : Heap} {locs : List Loc} {b L : Nat} {xs : Nat → Int32} {D : va_G} {g : Nat → ClassId} {aC aR : Nat → Nat} {u v : Mm} {ls : Array Slot} {i : Nat} (X : LX p s m meth c b L xs D g aC aR) (w : LW D g aC aR s u v H locs) (hR : Rel u v) (hl : lv_has ls 4 [(3, .int (nI i)), (2, .ref (aR 0)), (1, .ref (aC 0)), (0, .ref b)]) (h1 : vp_in (nI i + (1 : Int32)) L) (h2 : vp_in (nI i + (2 : Int32)) L) (h3 : vp_in (nI i + (3 : Int32)) L) (h4 : vp_in (nI i + (4 : Int32)) L) (h5 : vp_in (nI i + (5 : Int32)) L) (hk : ∀ (u v : Mm) (H : Heap) (locs : List Loc) (ls : Array Slot), Rel u v → LW D g aC aR s u v H locs → lv_has ls 4 [(3, .int (nI i)), (2, .ref (aR 0)), (1, .ref (aC 0)), (0, .ref b)] → W p l e room_1 s m #[Value.ref b] below meth c H locs 600000 7302250 (lw_Z below #[Value.ref b] s) (F0 m 2384 ls [])) : W p l e room_1 s m #[Value.ref b] below meth c H locs 600000 7302250 (lw_Z below #[Value.ref b] s) (F0 m 1295 ls []) := by
  obtain ⟨hx, hb, hr, hml, hown, hts, hX, hbl, hlocks, hgv⟩ := X.1
  have hbA : ¬ (fun q : Nat => s.heap.size ≤ q) b := Nat.not_le.mpr hbl
  refine lv_aload_n (pc := 1295) hx hb dL_law_1295 rfl (lv_at hl 2 rfl) ?_
  refine lv_aload_n (pc := 1296) hx hb dL_law_1296 rfl (lv_at hl 3 rfl) ?_
  refine lv_iload_n (pc := 1297) hx hb dL_law_1297 rfl (lv_at hl 0 rfl) ?_
  refine lv_iconst (pc := 1298) (v := (1 : Int32)) hx hb dL_law_1298 (by decide) ?_
  refine lv_iadd (pc := 1299) hx hb dL_law_1299 ?_
  refine va_sld (pc := 1300) hx hb hX hbl hbA w.2.2 h1 dL_law_1300 ?_
  refine lv_aload_n (pc := 1301) hx hb dL_law_1301 rfl (lv_at hl 3 rfl) ?_
  refine lv_iload_n (pc := 1302) hx hb dL_law_1302 rfl (lv_at hl 0 rfl) ?_
  refine lv_iconst (pc := 1303) (v := (2 : Int32)) hx hb dL_law_1303 (by decide) ?_
  refine lv_iadd (pc := 1304) hx hb dL_law_1304 ?_
  refine va_sld (pc := 1305) hx hb hX hbl hbA w.2.2 h2 dL_law_1305 ?_
  refine lv_aload_n (pc := 1306) hx hb dL_law_1306 rfl (lv_at hl 3 rfl) ?_
  refine lv_iload_n (pc := 1307) hx hb dL_law_1307 rfl (lv_at hl 0 rfl) ?_
  refine lv_iconst (pc := 1308) (v := (3 : Int32)) hx hb dL_law_1308 (by decide) ?_
  refine lv_iadd (pc := 1309) hx hb dL_law_1309 ?_
  refine va_sld (pc := 1310) hx hb hX hbl hbA w.2.2 h3 dL_law_1310 ?_
  refine lv_aload_n (pc := 1311) hx hb dL_law_1311 rfl (lv_at hl 3 rfl) ?_
  refine lv_iload_n (pc := 1312) hx hb dL_law_1312 rfl (lv_at hl 0 rfl) ?_
  refine lv_iconst (pc := 1313) (v := (4 : Int32)) hx hb dL_law_1313 (by decide) ?_
  refine lv_iadd (pc := 1314) hx hb dL_law_1314 ?_
  refine va_sld (pc := 1315) hx hb hX hbl hbA w.2.2 h4 dL_law_1315 ?_
  refine lv_aload_n (pc := 1316) hx hb dL_law_1316 rfl (lv_at hl 3 rfl) ?_
  refine lv_iload_n (pc := 1317) hx hb dL_law_1317 rfl (lv_at hl 0 rfl) ?_
  refine lv_iconst (pc := 1318) (v := (5 : Int32)) hx hb dL_law_1318 (by decide) ?_
  refine lv_iadd (pc := 1319) hx hb dL_law_1319 ?_
  refine va_sld (pc := 1320) hx hb hX hbl hbA w.2.2 h5 dL_law_1320 ?_
  have h := st_trade hR ((xs (nI i + (1 : Int32)).toNatClampNeg)) ((xs (nI i + (2 : Int32)).toNatClampNeg)) ((xs (nI i + (3 : Int32)).toNatClampNeg)) ((xs (nI i + (4 : Int32)).toNatClampNeg)) ((xs (nI i + (5 : Int32)).toNatClampNeg))
  refine LcallCi (pc := 1321) (rest := []) X w (LrunC (pc := 1321) X w (okX8_trade l X.2.2.2.1 h) kw1036 kmX8_trade ⟨rfl, rfl⟩ ⟨by decide, by decide⟩ rfl hl.1 rfl (Nat.le_of_ble_eq_true rfl) dL_law_1321) (fun r u1 H locs h w => ?_)
  refine lv_aload_n (pc := 1324) hx hb dL_law_1324 rfl (lv_at hl 1 rfl) ?_
  refine lv_aload_n (pc := 1325) hx hb dL_law_1325 rfl (lv_at hl 3 rfl) ?_
  refine lv_iload_n (pc := 1326) hx hb dL_law_1326 rfl (lv_at hl 0 rfl) ?_
  refine lv_iconst (pc := 1327) (v := (1 : Int32)) hx hb dL_law_1327 (by decide) ?_
  refine lv_iadd (pc := 1328) hx hb dL_law_1328 ?_
  refine va_sld (pc := 1329) hx hb hX hbl hbA w.2.2 h1 dL_law_1329 ?_
  refine lv_aload_n (pc := 1330) hx hb dL_law_1330 rfl (lv_at hl 3 rfl) ?_
  refine lv_iload_n (pc := 1331) hx hb dL_law_1331 rfl (lv_at hl 0 rfl) ?_
  refine lv_iconst (pc := 1332) (v := (2 : Int32)) hx hb dL_law_1332 (by decide) ?_
  refine lv_iadd (pc := 1333) hx hb dL_law_1333 ?_
  refine va_sld (pc := 1334) hx hb hX hbl hbA w.2.2 h2 dL_law_1334 ?_
  refine lv_aload_n (pc := 1335) hx hb dL_law_1335 rfl (lv_at hl 3 rfl) ?_
  refine lv_iload_n (pc := 1336) hx hb dL_law_1336 rfl (lv_at hl 0 rfl) ?_
  refine lv_iconst (pc := 1337) (v := (3 : Int32)) hx hb dL_law_1337 (by decide) ?_
  refine lv_iadd (pc := 1338) hx hb dL_law_1338 ?_
  refine va_sld (pc := 1339) hx hb hX hbl hbA w.2.2 h3 dL_law_1339 ?_
  refine lv_aload_n (pc := 1340) hx hb dL_law_1340 rfl (lv_at hl 3 rfl) ?_
  refine lv_iload_n (pc := 1341) hx hb dL_law_1341 rfl (lv_at hl 0 rfl) ?_
  refine lv_iconst (pc := 1342) (v := (4 : Int32)) hx hb dL_law_1342 (by decide) ?_
  refine lv_iadd (pc := 1343) hx hb dL_law_1343 ?_
  refine va_sld (pc := 1344) hx hb hX hbl hbA w.2.2 h4 dL_law_1344 ?_
  refine lv_aload_n (pc := 1345) hx hb dL_law_1345 rfl (lv_at hl 3 rfl) ?_
  refine lv_iload_n (pc := 1346) hx hb dL_law_1346 rfl (lv_at hl 0 rfl) ?_
  refine lv_iconst (pc := 1347) (v := (5 : Int32)) hx hb dL_law_1347 (by decide) ?_
  refine lv_iadd (pc := 1348) hx hb dL_law_1348 ?_
  refine va_sld (pc := 1349) hx hb hX hbl hbA w.2.2 h5 dL_law_1349 ?_
  refine LcallRi (pc := 1350) (rest := [.int r]) X w (LrunR (pc := 1350) X w (okX9_trade l X.2.2.2.2.1 h) kw1040 kmX9_trade ⟨rfl, rfl⟩ ⟨by decide, by decide⟩ rfl hl.1 rfl (Nat.le_of_ble_eq_true rfl) dL_law_1350) (fun r2 v1 H locs h w => ?_)
  refine lv_icmp_eq (pc := 1353) (tgt := 2384) hx hb dL_law_1353 (by decide) (fun _ => ?_) (fun c_ => absurd h.1 c_)
  exact hk _ _ H locs ls h.2 w hl
set_option maxHeartbeats 4000000 in
set_option maxRecDepth 100000 in
theorem lc_precise {p : Program} {l : Launch} {e : Env} {s : State} {m : MethodId} {below : List Frame} {meth : Method} {c : Code} {H : Heap} {locs : List Loc} {b L : Nat} {xs : Nat → Int32} {D : va_G} {g : Nat → ClassId} {aC aR : Nat → Nat} {u v : Mm} {ls : Array Slot} {i : Nat} (X : LX p s m meth c b L xs D g aC aR) (w : LW D g aC aR s u v H locs) (hR : Rel u v) (hl : lv_has ls 4 [(3, .int (nI i)), (2, .ref (aR 0)), (1, .ref (aC 0)), (0, .ref b)]) (h1 : vp_in (nI i + (1 : Int32)) L) (h2 : vp_in (nI i + (2 : Int32)) L) (h3 : vp_in (nI i + (3 : Int32)) L) (h4 : vp_in (nI i + (4 : Int32)) L) (h5 : vp_in (nI i + (5 : Int32)) L) (hk : ∀ (u v : Mm) (H : Heap) (locs : List Loc) (ls : Array Slot), Rel u v → LW D g aC aR s u v H locs → lv_has ls 4 [(3, .int (nI i)), (2, .ref (aR 0)), (1, .ref (aC 0)), (0, .ref b)] → W p l e room_1 s m #[Value.ref b] below meth c H locs 600000 7302250 (lw_Z below #[Value.ref b] s) (F0 m 2384 ls [])) : W p l e room_1 s m #[Value.ref b] below meth c H locs 600000 7302250 (lw_Z below #[Value.ref b] s) (F0 m 1358 ls []) := by
  obtain ⟨hx, hb, hr, hml, hown, hts, hX, hbl, hlocks, hgv⟩ := X.1
  have hbA : ¬ (fun q : Nat => s.heap.size ≤ q) b := Nat.not_le.mpr hbl
  refine lv_aload_n (pc := 1358) hx hb dL_law_1358 rfl (lv_at hl 2 rfl) ?_
  refine lv_aload_n (pc := 1359) hx hb dL_law_1359 rfl (lv_at hl 3 rfl) ?_
  refine lv_iload_n (pc := 1360) hx hb dL_law_1360 rfl (lv_at hl 0 rfl) ?_
  refine lv_iconst (pc := 1361) (v := (1 : Int32)) hx hb dL_law_1361 (by decide) ?_
  refine lv_iadd (pc := 1362) hx hb dL_law_1362 ?_
  refine va_sld (pc := 1363) hx hb hX hbl hbA w.2.2 h1 dL_law_1363 ?_
  refine lv_aload_n (pc := 1364) hx hb dL_law_1364 rfl (lv_at hl 3 rfl) ?_
  refine lv_iload_n (pc := 1365) hx hb dL_law_1365 rfl (lv_at hl 0 rfl) ?_
  refine lv_iconst (pc := 1366) (v := (2 : Int32)) hx hb dL_law_1366 (by decide) ?_
  refine lv_iadd (pc := 1367) hx hb dL_law_1367 ?_
  refine va_sld (pc := 1368) hx hb hX hbl hbA w.2.2 h2 dL_law_1368 ?_
  have h := st_precise hR ((xs (nI i + (1 : Int32)).toNatClampNeg)) ((xs (nI i + (2 : Int32)).toNatClampNeg))
  refine LcallCi (pc := 1369) (rest := []) X w (LrunC (pc := 1369) X w (okX8_precise l X.2.2.2.1 h) kw1044 kmX8_precise ⟨rfl, rfl⟩ ⟨by decide, by decide⟩ rfl hl.1 rfl (Nat.le_of_ble_eq_true rfl) dL_law_1369) (fun r u1 H locs h w => ?_)
  refine lv_aload_n (pc := 1372) hx hb dL_law_1372 rfl (lv_at hl 1 rfl) ?_
  refine lv_aload_n (pc := 1373) hx hb dL_law_1373 rfl (lv_at hl 3 rfl) ?_
  refine lv_iload_n (pc := 1374) hx hb dL_law_1374 rfl (lv_at hl 0 rfl) ?_
  refine lv_iconst (pc := 1375) (v := (1 : Int32)) hx hb dL_law_1375 (by decide) ?_
  refine lv_iadd (pc := 1376) hx hb dL_law_1376 ?_
  refine va_sld (pc := 1377) hx hb hX hbl hbA w.2.2 h1 dL_law_1377 ?_
  refine lv_aload_n (pc := 1378) hx hb dL_law_1378 rfl (lv_at hl 3 rfl) ?_
  refine lv_iload_n (pc := 1379) hx hb dL_law_1379 rfl (lv_at hl 0 rfl) ?_
  refine lv_iconst (pc := 1380) (v := (2 : Int32)) hx hb dL_law_1380 (by decide) ?_
  refine lv_iadd (pc := 1381) hx hb dL_law_1381 ?_
  refine va_sld (pc := 1382) hx hb hX hbl hbA w.2.2 h2 dL_law_1382 ?_
  refine LcallRi (pc := 1383) (rest := [.int r]) X w (LrunR (pc := 1383) X w (okX9_precise l X.2.2.2.2.1 h) kw1048 kmX9_precise ⟨rfl, rfl⟩ ⟨by decide, by decide⟩ rfl hl.1 rfl (Nat.le_of_ble_eq_true rfl) dL_law_1383) (fun r2 v1 H locs h w => ?_)
  refine lv_icmp_eq (pc := 1386) (tgt := 2384) hx hb dL_law_1386 (by decide) (fun _ => ?_) (fun c_ => absurd h.1 c_)
  exact hk _ _ H locs ls h.2 w hl
set_option maxHeartbeats 4000000 in
set_option maxRecDepth 100000 in
theorem lc_hidden {p : Program} {l : Launch} {e : Env} {s : State} {m : MethodId} {below : List Frame} {meth : Method} {c : Code} {H : Heap} {locs : List Loc} {b L : Nat} {xs : Nat → Int32} {D : va_G} {g : Nat → ClassId} {aC aR : Nat → Nat} {u v : Mm} {ls : Array Slot} {i : Nat} (X : LX p s m meth c b L xs D g aC aR) (w : LW D g aC aR s u v H locs) (hR : Rel u v) (hl : lv_has ls 4 [(3, .int (nI i)), (2, .ref (aR 0)), (1, .ref (aC 0)), (0, .ref b)]) (h1 : vp_in (nI i + (1 : Int32)) L) (h2 : vp_in (nI i + (2 : Int32)) L) (h3 : vp_in (nI i + (3 : Int32)) L) (h4 : vp_in (nI i + (4 : Int32)) L) (h5 : vp_in (nI i + (5 : Int32)) L) (hk : ∀ (u v : Mm) (H : Heap) (locs : List Loc) (ls : Array Slot), Rel u v → LW D g aC aR s u v H locs → lv_has ls 4 [(3, .int (nI i)), (2, .ref (aR 0)), (1, .ref (aC 0)), (0, .ref b)] → W p l e room_1 s m #[Value.ref b] below meth c H locs 600000 7302250 (lw_Z below #[Value.ref b] s) (F0 m 2384 ls [])) : W p l e room_1 s m #[Value.ref b] below meth c H locs 600000 7302250 (lw_Z below #[Value.ref b] s) (F0 m 1391 ls []) := by
  obtain ⟨hx, hb, hr, hml, hown, hts, hX, hbl, hlocks, hgv⟩ := X.1
  have hbA : ¬ (fun q : Nat => s.heap.size ≤ q) b := Nat.not_le.mpr hbl
  refine lv_aload_n (pc := 1391) hx hb dL_law_1391 rfl (lv_at hl 2 rfl) ?_
  refine lv_aload_n (pc := 1392) hx hb dL_law_1392 rfl (lv_at hl 3 rfl) ?_
  refine lv_iload_n (pc := 1393) hx hb dL_law_1393 rfl (lv_at hl 0 rfl) ?_
  refine lv_iconst (pc := 1394) (v := (1 : Int32)) hx hb dL_law_1394 (by decide) ?_
  refine lv_iadd (pc := 1395) hx hb dL_law_1395 ?_
  refine va_sld (pc := 1396) hx hb hX hbl hbA w.2.2 h1 dL_law_1396 ?_
  refine lv_aload_n (pc := 1397) hx hb dL_law_1397 rfl (lv_at hl 3 rfl) ?_
  refine lv_iload_n (pc := 1398) hx hb dL_law_1398 rfl (lv_at hl 0 rfl) ?_
  refine lv_iconst (pc := 1399) (v := (2 : Int32)) hx hb dL_law_1399 (by decide) ?_
  refine lv_iadd (pc := 1400) hx hb dL_law_1400 ?_
  refine va_sld (pc := 1401) hx hb hX hbl hbA w.2.2 h2 dL_law_1401 ?_
  refine lv_aload_n (pc := 1402) hx hb dL_law_1402 rfl (lv_at hl 3 rfl) ?_
  refine lv_iload_n (pc := 1403) hx hb dL_law_1403 rfl (lv_at hl 0 rfl) ?_
  refine lv_iconst (pc := 1404) (v := (3 : Int32)) hx hb dL_law_1404 (by decide) ?_
  refine lv_iadd (pc := 1405) hx hb dL_law_1405 ?_
  refine va_sld (pc := 1406) hx hb hX hbl hbA w.2.2 h3 dL_law_1406 ?_
  have h := st_hidden hR ((xs (nI i + (1 : Int32)).toNatClampNeg)) ((xs (nI i + (2 : Int32)).toNatClampNeg)) ((xs (nI i + (3 : Int32)).toNatClampNeg))
  refine LcallCi (pc := 1407) (rest := []) X w (LrunC (pc := 1407) X w (okX8_hidden l X.2.2.2.1 h) kw1052 kmX8_hidden ⟨rfl, rfl⟩ ⟨by decide, by decide⟩ rfl hl.1 rfl (Nat.le_of_ble_eq_true rfl) dL_law_1407) (fun r u1 H locs h w => ?_)
  obtain ⟨rfl, h⟩ := h
  refine lv_aload_n (pc := 1410) hx hb dL_law_1410 rfl (lv_at hl 1 rfl) ?_
  refine lv_aload_n (pc := 1411) hx hb dL_law_1411 rfl (lv_at hl 3 rfl) ?_
  refine lv_iload_n (pc := 1412) hx hb dL_law_1412 rfl (lv_at hl 0 rfl) ?_
  refine lv_iconst (pc := 1413) (v := (1 : Int32)) hx hb dL_law_1413 (by decide) ?_
  refine lv_iadd (pc := 1414) hx hb dL_law_1414 ?_
  refine va_sld (pc := 1415) hx hb hX hbl hbA w.2.2 h1 dL_law_1415 ?_
  refine lv_aload_n (pc := 1416) hx hb dL_law_1416 rfl (lv_at hl 3 rfl) ?_
  refine lv_iload_n (pc := 1417) hx hb dL_law_1417 rfl (lv_at hl 0 rfl) ?_
  refine lv_iconst (pc := 1418) (v := (2 : Int32)) hx hb dL_law_1418 (by decide) ?_
  refine lv_iadd (pc := 1419) hx hb dL_law_1419 ?_
  refine va_sld (pc := 1420) hx hb hX hbl hbA w.2.2 h2 dL_law_1420 ?_
  refine lv_aload_n (pc := 1421) hx hb dL_law_1421 rfl (lv_at hl 3 rfl) ?_
  refine lv_iload_n (pc := 1422) hx hb dL_law_1422 rfl (lv_at hl 0 rfl) ?_
  refine lv_iconst (pc := 1423) (v := (3 : Int32)) hx hb dL_law_1423 (by decide) ?_
  refine lv_iadd (pc := 1424) hx hb dL_law_1424 ?_
  refine va_sld (pc := 1425) hx hb hX hbl hbA w.2.2 h3 dL_law_1425 ?_
  refine LcallRi (pc := 1426) (rest := [.int r]) X w (LrunR (pc := 1426) X w (okX9_hidden l X.2.2.2.2.1 h) kw1056 kmX9_hidden ⟨rfl, rfl⟩ ⟨by decide, by decide⟩ rfl hl.1 rfl (Nat.le_of_ble_eq_true rfl) dL_law_1426) (fun r2 v1 H locs h w => ?_)
  obtain ⟨rfl, h⟩ := h
  refine lv_icmp_eq (pc := 1429) (tgt := 2384) hx hb dL_law_1429 (by decide) (fun _ => ?_) (fun c_ => absurd h.1 c_)
  exact hk _ _ H locs ls h.2 w hl
set_option maxHeartbeats 4000000 in
set_option maxRecDepth 100000 in
theorem lc_agreed {p : Program} {l : Launch} {e : Env} {s : State} {m : MethodId} {below : List Frame} {meth : Method} {c : Code} {H : Heap} {locs : List Loc} {b L : Nat} {xs : Nat → Int32} {D : va_G} {g : Nat → ClassId} {aC aR : Nat → Nat} {u v : Mm} {ls : Array Slot} {i : Nat} (X : LX p s m meth c b L xs D g aC aR) (w : LW D g aC aR s u v H locs) (hR : Rel u v) (hl : lv_has ls 4 [(3, .int (nI i)), (2, .ref (aR 0)), (1, .ref (aC 0)), (0, .ref b)]) (h1 : vp_in (nI i + (1 : Int32)) L) (h2 : vp_in (nI i + (2 : Int32)) L) (h3 : vp_in (nI i + (3 : Int32)) L) (h4 : vp_in (nI i + (4 : Int32)) L) (h5 : vp_in (nI i + (5 : Int32)) L) (hk : ∀ (u v : Mm) (H : Heap) (locs : List Loc) (ls : Array Slot), Rel u v → LW D g aC aR s u v H locs → lv_has ls 4 [(3, .int (nI i)), (2, .ref (aR 0)), (1, .ref (aC 0)), (0, .ref b)] → W p l e room_1 s m #[Value.ref b] below meth c H locs 600000 7302250 (lw_Z below #[Value.ref b] s) (F0 m 2384 ls [])) : W p l e room_1 s m #[Value.ref b] below meth c H locs 600000 7302250 (lw_Z below #[Value.ref b] s) (F0 m 1434 ls []) := by
  obtain ⟨hx, hb, hr, hml, hown, hts, hX, hbl, hlocks, hgv⟩ := X.1
  have hbA : ¬ (fun q : Nat => s.heap.size ≤ q) b := Nat.not_le.mpr hbl
  refine lv_aload_n (pc := 1434) hx hb dL_law_1434 rfl (lv_at hl 2 rfl) ?_
  refine lv_aload_n (pc := 1435) hx hb dL_law_1435 rfl (lv_at hl 3 rfl) ?_
  refine lv_iload_n (pc := 1436) hx hb dL_law_1436 rfl (lv_at hl 0 rfl) ?_
  refine lv_iconst (pc := 1437) (v := (1 : Int32)) hx hb dL_law_1437 (by decide) ?_
  refine lv_iadd (pc := 1438) hx hb dL_law_1438 ?_
  refine va_sld (pc := 1439) hx hb hX hbl hbA w.2.2 h1 dL_law_1439 ?_
  refine lv_aload_n (pc := 1440) hx hb dL_law_1440 rfl (lv_at hl 3 rfl) ?_
  refine lv_iload_n (pc := 1441) hx hb dL_law_1441 rfl (lv_at hl 0 rfl) ?_
  refine lv_iconst (pc := 1442) (v := (2 : Int32)) hx hb dL_law_1442 (by decide) ?_
  refine lv_iadd (pc := 1443) hx hb dL_law_1443 ?_
  refine va_sld (pc := 1444) hx hb hX hbl hbA w.2.2 h2 dL_law_1444 ?_
  refine lv_aload_n (pc := 1445) hx hb dL_law_1445 rfl (lv_at hl 3 rfl) ?_
  refine lv_iload_n (pc := 1446) hx hb dL_law_1446 rfl (lv_at hl 0 rfl) ?_
  refine lv_iconst (pc := 1447) (v := (3 : Int32)) hx hb dL_law_1447 (by decide) ?_
  refine lv_iadd (pc := 1448) hx hb dL_law_1448 ?_
  refine va_sld (pc := 1449) hx hb hX hbl hbA w.2.2 h3 dL_law_1449 ?_
  have h := st_agreed hR ((xs (nI i + (1 : Int32)).toNatClampNeg)) ((xs (nI i + (2 : Int32)).toNatClampNeg)) ((xs (nI i + (3 : Int32)).toNatClampNeg))
  refine LcallCi (pc := 1450) (rest := []) X w (LrunC (pc := 1450) X w (okX8_agreed l X.2.2.2.1 h) kw1060 kmX8_agreed ⟨rfl, rfl⟩ ⟨by decide, by decide⟩ rfl hl.1 rfl (Nat.le_of_ble_eq_true rfl) dL_law_1450) (fun r u1 H locs h w => ?_)
  obtain ⟨rfl, h⟩ := h
  refine lv_aload_n (pc := 1453) hx hb dL_law_1453 rfl (lv_at hl 1 rfl) ?_
  refine lv_aload_n (pc := 1454) hx hb dL_law_1454 rfl (lv_at hl 3 rfl) ?_
  refine lv_iload_n (pc := 1455) hx hb dL_law_1455 rfl (lv_at hl 0 rfl) ?_
  refine lv_iconst (pc := 1456) (v := (1 : Int32)) hx hb dL_law_1456 (by decide) ?_
  refine lv_iadd (pc := 1457) hx hb dL_law_1457 ?_
  refine va_sld (pc := 1458) hx hb hX hbl hbA w.2.2 h1 dL_law_1458 ?_
  refine lv_aload_n (pc := 1459) hx hb dL_law_1459 rfl (lv_at hl 3 rfl) ?_
  refine lv_iload_n (pc := 1460) hx hb dL_law_1460 rfl (lv_at hl 0 rfl) ?_
  refine lv_iconst (pc := 1461) (v := (2 : Int32)) hx hb dL_law_1461 (by decide) ?_
  refine lv_iadd (pc := 1462) hx hb dL_law_1462 ?_
  refine va_sld (pc := 1463) hx hb hX hbl hbA w.2.2 h2 dL_law_1463 ?_
  refine lv_aload_n (pc := 1464) hx hb dL_law_1464 rfl (lv_at hl 3 rfl) ?_
  refine lv_iload_n (pc := 1465) hx hb dL_law_1465 rfl (lv_at hl 0 rfl) ?_
  refine lv_iconst (pc := 1466) (v := (3 : Int32)) hx hb dL_law_1466 (by decide) ?_
  refine lv_iadd (pc := 1467) hx hb dL_law_1467 ?_
  refine va_sld (pc := 1468) hx hb hX hbl hbA w.2.2 h3 dL_law_1468 ?_
  refine LcallRi (pc := 1469) (rest := [.int r]) X w (LrunR (pc := 1469) X w (okX9_agreed l X.2.2.2.2.1 h) kw1064 kmX9_agreed ⟨rfl, rfl⟩ ⟨by decide, by decide⟩ rfl hl.1 rfl (Nat.le_of_ble_eq_true rfl) dL_law_1469) (fun r2 v1 H locs h w => ?_)
  obtain ⟨rfl, h⟩ := h
  refine lv_icmp_eq (pc := 1472) (tgt := 2384) hx hb dL_law_1472 (by decide) (fun _ => ?_) (fun c_ => absurd h.1 c_)
  exact hk _ _ H locs ls h.2 w hl
set_option maxHeartbeats 4000000 in
set_option maxRecDepth 100000 in
theorem lc_flow {p : Program} {l : Launch} {e : Env} {s : State} {m : MethodId} {below : List Frame} {meth : Method} {c : Code} {H : Heap} {locs : List Loc} {b L : Nat} {xs : Nat → Int32} {D : va_G} {g : Nat → ClassId} {aC aR : Nat → Nat} {u v : Mm} {ls : Array Slot} {i : Nat} (X : LX p s m meth c b L xs D g aC aR) (w : LW D g aC aR s u v H locs) (hR : Rel u v) (hl : lv_has ls 4 [(3, .int (nI i)), (2, .ref (aR 0)), (1, .ref (aC 0)), (0, .ref b)]) (h1 : vp_in (nI i + (1 : Int32)) L) (h2 : vp_in (nI i + (2 : Int32)) L) (h3 : vp_in (nI i + (3 : Int32)) L) (h4 : vp_in (nI i + (4 : Int32)) L) (h5 : vp_in (nI i + (5 : Int32)) L) (hk : ∀ (u v : Mm) (H : Heap) (locs : List Loc) (ls : Array Slot), Rel u v → LW D g aC aR s u v H locs → lv_has ls 4 [(3, .int (nI i)), (2, .ref (aR 0)), (1, .ref (aC 0)), (0, .ref b)] → W p l e room_1 s m #[Value.ref b] below meth c H locs 600000 7302250 (lw_Z below #[Value.ref b] s) (F0 m 2384 ls [])) : W p l e room_1 s m #[Value.ref b] below meth c H locs 600000 7302250 (lw_Z below #[Value.ref b] s) (F0 m 1477 ls []) := by
  obtain ⟨hx, hb, hr, hml, hown, hts, hX, hbl, hlocks, hgv⟩ := X.1
  have hbA : ¬ (fun q : Nat => s.heap.size ≤ q) b := Nat.not_le.mpr hbl
  refine lv_aload_n (pc := 1477) hx hb dL_law_1477 rfl (lv_at hl 2 rfl) ?_
  refine lv_aload_n (pc := 1478) hx hb dL_law_1478 rfl (lv_at hl 3 rfl) ?_
  refine lv_iload_n (pc := 1479) hx hb dL_law_1479 rfl (lv_at hl 0 rfl) ?_
  refine lv_iconst (pc := 1480) (v := (1 : Int32)) hx hb dL_law_1480 (by decide) ?_
  refine lv_iadd (pc := 1481) hx hb dL_law_1481 ?_
  refine va_sld (pc := 1482) hx hb hX hbl hbA w.2.2 h1 dL_law_1482 ?_
  refine lv_aload_n (pc := 1483) hx hb dL_law_1483 rfl (lv_at hl 3 rfl) ?_
  refine lv_iload_n (pc := 1484) hx hb dL_law_1484 rfl (lv_at hl 0 rfl) ?_
  refine lv_iconst (pc := 1485) (v := (2 : Int32)) hx hb dL_law_1485 (by decide) ?_
  refine lv_iadd (pc := 1486) hx hb dL_law_1486 ?_
  refine va_sld (pc := 1487) hx hb hX hbl hbA w.2.2 h2 dL_law_1487 ?_
  refine lv_aload_n (pc := 1488) hx hb dL_law_1488 rfl (lv_at hl 3 rfl) ?_
  refine lv_iload_n (pc := 1489) hx hb dL_law_1489 rfl (lv_at hl 0 rfl) ?_
  refine lv_iconst (pc := 1490) (v := (3 : Int32)) hx hb dL_law_1490 (by decide) ?_
  refine lv_iadd (pc := 1491) hx hb dL_law_1491 ?_
  refine va_sld (pc := 1492) hx hb hX hbl hbA w.2.2 h3 dL_law_1492 ?_
  refine lv_aload_n (pc := 1493) hx hb dL_law_1493 rfl (lv_at hl 3 rfl) ?_
  refine lv_iload_n (pc := 1494) hx hb dL_law_1494 rfl (lv_at hl 0 rfl) ?_
  refine lv_iconst (pc := 1495) (v := (4 : Int32)) hx hb dL_law_1495 (by decide) ?_
  refine lv_iadd (pc := 1496) hx hb dL_law_1496 ?_
  refine va_sld (pc := 1497) hx hb hX hbl hbA w.2.2 h4 dL_law_1497 ?_
  have h := st_flow hR ((xs (nI i + (1 : Int32)).toNatClampNeg)) ((xs (nI i + (2 : Int32)).toNatClampNeg)) ((xs (nI i + (3 : Int32)).toNatClampNeg)) ((xs (nI i + (4 : Int32)).toNatClampNeg))
  refine LcallCl (pc := 1498) (rest := []) X w (LrunC (pc := 1498) X w (okX8_flow l X.2.2.2.1 h) kw1068 kmX8_flow ⟨rfl, rfl⟩ ⟨by decide, by decide⟩ rfl hl.1 rfl (Nat.le_of_ble_eq_true rfl) dL_law_1498) (fun r u1 H locs h w => ?_)
  refine lv_aload_n (pc := 1501) hx hb dL_law_1501 rfl (lv_at hl 1 rfl) ?_
  refine lv_aload_n (pc := 1502) hx hb dL_law_1502 rfl (lv_at hl 3 rfl) ?_
  refine lv_iload_n (pc := 1503) hx hb dL_law_1503 rfl (lv_at hl 0 rfl) ?_
  refine lv_iconst (pc := 1504) (v := (1 : Int32)) hx hb dL_law_1504 (by decide) ?_
  refine lv_iadd (pc := 1505) hx hb dL_law_1505 ?_
  refine va_sld (pc := 1506) hx hb hX hbl hbA w.2.2 h1 dL_law_1506 ?_
  refine lv_aload_n (pc := 1507) hx hb dL_law_1507 rfl (lv_at hl 3 rfl) ?_
  refine lv_iload_n (pc := 1508) hx hb dL_law_1508 rfl (lv_at hl 0 rfl) ?_
  refine lv_iconst (pc := 1509) (v := (2 : Int32)) hx hb dL_law_1509 (by decide) ?_
  refine lv_iadd (pc := 1510) hx hb dL_law_1510 ?_
  refine va_sld (pc := 1511) hx hb hX hbl hbA w.2.2 h2 dL_law_1511 ?_
  refine lv_aload_n (pc := 1512) hx hb dL_law_1512 rfl (lv_at hl 3 rfl) ?_
  refine lv_iload_n (pc := 1513) hx hb dL_law_1513 rfl (lv_at hl 0 rfl) ?_
  refine lv_iconst (pc := 1514) (v := (3 : Int32)) hx hb dL_law_1514 (by decide) ?_
  refine lv_iadd (pc := 1515) hx hb dL_law_1515 ?_
  refine va_sld (pc := 1516) hx hb hX hbl hbA w.2.2 h3 dL_law_1516 ?_
  refine lv_aload_n (pc := 1517) hx hb dL_law_1517 rfl (lv_at hl 3 rfl) ?_
  refine lv_iload_n (pc := 1518) hx hb dL_law_1518 rfl (lv_at hl 0 rfl) ?_
  refine lv_iconst (pc := 1519) (v := (4 : Int32)) hx hb dL_law_1519 (by decide) ?_
  refine lv_iadd (pc := 1520) hx hb dL_law_1520 ?_
  refine va_sld (pc := 1521) hx hb hX hbl hbA w.2.2 h4 dL_law_1521 ?_
  refine LcallRl (pc := 1522) (rest := [.long r]) X w (LrunR (pc := 1522) X w (okX9_flow l X.2.2.2.2.1 h) kw1072 kmX9_flow ⟨rfl, rfl⟩ ⟨by decide, by decide⟩ rfl hl.1 rfl (Nat.le_of_ble_eq_true rfl) dL_law_1522) (fun r2 v1 H locs h w => ?_)
  refine lq_eq (pc := 1525) (tgt := 2384) hx hb dL_law_1525 dL_law_1526 (by decide) (fun _ => ?_) (fun c_ => absurd h.1 c_)
  exact hk _ _ H locs ls h.2 w hl
set_option maxHeartbeats 4000000 in
set_option maxRecDepth 100000 in
theorem lc_net {p : Program} {l : Launch} {e : Env} {s : State} {m : MethodId} {below : List Frame} {meth : Method} {c : Code} {H : Heap} {locs : List Loc} {b L : Nat} {xs : Nat → Int32} {D : va_G} {g : Nat → ClassId} {aC aR : Nat → Nat} {u v : Mm} {ls : Array Slot} {i : Nat} (X : LX p s m meth c b L xs D g aC aR) (w : LW D g aC aR s u v H locs) (hR : Rel u v) (hl : lv_has ls 4 [(3, .int (nI i)), (2, .ref (aR 0)), (1, .ref (aC 0)), (0, .ref b)]) (h1 : vp_in (nI i + (1 : Int32)) L) (h2 : vp_in (nI i + (2 : Int32)) L) (h3 : vp_in (nI i + (3 : Int32)) L) (h4 : vp_in (nI i + (4 : Int32)) L) (h5 : vp_in (nI i + (5 : Int32)) L) (hk : ∀ (u v : Mm) (H : Heap) (locs : List Loc) (ls : Array Slot), Rel u v → LW D g aC aR s u v H locs → lv_has ls 4 [(3, .int (nI i)), (2, .ref (aR 0)), (1, .ref (aC 0)), (0, .ref b)] → W p l e room_1 s m #[Value.ref b] below meth c H locs 600000 7302250 (lw_Z below #[Value.ref b] s) (F0 m 2384 ls [])) : W p l e room_1 s m #[Value.ref b] below meth c H locs 600000 7302250 (lw_Z below #[Value.ref b] s) (F0 m 1531 ls []) := by
  obtain ⟨hx, hb, hr, hml, hown, hts, hX, hbl, hlocks, hgv⟩ := X.1
  have hbA : ¬ (fun q : Nat => s.heap.size ≤ q) b := Nat.not_le.mpr hbl
  refine lv_aload_n (pc := 1531) hx hb dL_law_1531 rfl (lv_at hl 2 rfl) ?_
  refine lv_aload_n (pc := 1532) hx hb dL_law_1532 rfl (lv_at hl 3 rfl) ?_
  refine lv_iload_n (pc := 1533) hx hb dL_law_1533 rfl (lv_at hl 0 rfl) ?_
  refine lv_iconst (pc := 1534) (v := (1 : Int32)) hx hb dL_law_1534 (by decide) ?_
  refine lv_iadd (pc := 1535) hx hb dL_law_1535 ?_
  refine va_sld (pc := 1536) hx hb hX hbl hbA w.2.2 h1 dL_law_1536 ?_
  refine lv_aload_n (pc := 1537) hx hb dL_law_1537 rfl (lv_at hl 3 rfl) ?_
  refine lv_iload_n (pc := 1538) hx hb dL_law_1538 rfl (lv_at hl 0 rfl) ?_
  refine lv_iconst (pc := 1539) (v := (2 : Int32)) hx hb dL_law_1539 (by decide) ?_
  refine lv_iadd (pc := 1540) hx hb dL_law_1540 ?_
  refine va_sld (pc := 1541) hx hb hX hbl hbA w.2.2 h2 dL_law_1541 ?_
  have h := st_net hR ((xs (nI i + (1 : Int32)).toNatClampNeg)) ((xs (nI i + (2 : Int32)).toNatClampNeg))
  refine LcallCl (pc := 1542) (rest := []) X w (LrunC (pc := 1542) X w (okX8_net l X.2.2.2.1 h) kw1076 kmX8_net ⟨rfl, rfl⟩ ⟨by decide, by decide⟩ rfl hl.1 rfl (Nat.le_of_ble_eq_true rfl) dL_law_1542) (fun r u1 H locs h w => ?_)
  obtain ⟨rfl, h⟩ := h
  refine lv_aload_n (pc := 1545) hx hb dL_law_1545 rfl (lv_at hl 1 rfl) ?_
  refine lv_aload_n (pc := 1546) hx hb dL_law_1546 rfl (lv_at hl 3 rfl) ?_
  refine lv_iload_n (pc := 1547) hx hb dL_law_1547 rfl (lv_at hl 0 rfl) ?_
  refine lv_iconst (pc := 1548) (v := (1 : Int32)) hx hb dL_law_1548 (by decide) ?_
  refine lv_iadd (pc := 1549) hx hb dL_law_1549 ?_
  refine va_sld (pc := 1550) hx hb hX hbl hbA w.2.2 h1 dL_law_1550 ?_
  refine lv_aload_n (pc := 1551) hx hb dL_law_1551 rfl (lv_at hl 3 rfl) ?_
  refine lv_iload_n (pc := 1552) hx hb dL_law_1552 rfl (lv_at hl 0 rfl) ?_
  refine lv_iconst (pc := 1553) (v := (2 : Int32)) hx hb dL_law_1553 (by decide) ?_
  refine lv_iadd (pc := 1554) hx hb dL_law_1554 ?_
  refine va_sld (pc := 1555) hx hb hX hbl hbA w.2.2 h2 dL_law_1555 ?_
  refine LcallRl (pc := 1556) (rest := [.long r]) X w (LrunR (pc := 1556) X w (okX9_net l X.2.2.2.2.1 h) kw1080 kmX9_net ⟨rfl, rfl⟩ ⟨by decide, by decide⟩ rfl hl.1 rfl (Nat.le_of_ble_eq_true rfl) dL_law_1556) (fun r2 v1 H locs h w => ?_)
  obtain ⟨rfl, h⟩ := h
  refine lq_eq (pc := 1559) (tgt := 2384) hx hb dL_law_1559 dL_law_1560 (by decide) (fun _ => ?_) (fun c_ => absurd h.1 c_)
  exact hk _ _ H locs ls h.2 w hl
set_option maxHeartbeats 4000000 in
set_option maxRecDepth 100000 in
theorem lc_stock {p : Program} {l : Launch} {e : Env} {s : State} {m : MethodId} {below : List Frame} {meth : Method} {c : Code} {H : Heap} {locs : List Loc} {b L : Nat} {xs : Nat → Int32} {D : va_G} {g : Nat → ClassId} {aC aR : Nat → Nat} {u v : Mm} {ls : Array Slot} {i : Nat} (X : LX p s m meth c b L xs D g aC aR) (w : LW D g aC aR s u v H locs) (hR : Rel u v) (hl : lv_has ls 4 [(3, .int (nI i)), (2, .ref (aR 0)), (1, .ref (aC 0)), (0, .ref b)]) (h1 : vp_in (nI i + (1 : Int32)) L) (h2 : vp_in (nI i + (2 : Int32)) L) (h3 : vp_in (nI i + (3 : Int32)) L) (h4 : vp_in (nI i + (4 : Int32)) L) (h5 : vp_in (nI i + (5 : Int32)) L) (hk : ∀ (u v : Mm) (H : Heap) (locs : List Loc) (ls : Array Slot), Rel u v → LW D g aC aR s u v H locs → lv_has ls 4 [(3, .int (nI i)), (2, .ref (aR 0)), (1, .ref (aC 0)), (0, .ref b)] → W p l e room_1 s m #[Value.ref b] below meth c H locs 600000 7302250 (lw_Z below #[Value.ref b] s) (F0 m 2384 ls [])) : W p l e room_1 s m #[Value.ref b] below meth c H locs 600000 7302250 (lw_Z below #[Value.ref b] s) (F0 m 1565 ls []) := by
  obtain ⟨hx, hb, hr, hml, hown, hts, hX, hbl, hlocks, hgv⟩ := X.1
  have hbA : ¬ (fun q : Nat => s.heap.size ≤ q) b := Nat.not_le.mpr hbl
  refine lv_aload_n (pc := 1565) hx hb dL_law_1565 rfl (lv_at hl 2 rfl) ?_
  refine lv_aload_n (pc := 1566) hx hb dL_law_1566 rfl (lv_at hl 3 rfl) ?_
  refine lv_iload_n (pc := 1567) hx hb dL_law_1567 rfl (lv_at hl 0 rfl) ?_
  refine lv_iconst (pc := 1568) (v := (1 : Int32)) hx hb dL_law_1568 (by decide) ?_
  refine lv_iadd (pc := 1569) hx hb dL_law_1569 ?_
  refine va_sld (pc := 1570) hx hb hX hbl hbA w.2.2 h1 dL_law_1570 ?_
  refine lv_aload_n (pc := 1571) hx hb dL_law_1571 rfl (lv_at hl 3 rfl) ?_
  refine lv_iload_n (pc := 1572) hx hb dL_law_1572 rfl (lv_at hl 0 rfl) ?_
  refine lv_iconst (pc := 1573) (v := (2 : Int32)) hx hb dL_law_1573 (by decide) ?_
  refine lv_iadd (pc := 1574) hx hb dL_law_1574 ?_
  refine va_sld (pc := 1575) hx hb hX hbl hbA w.2.2 h2 dL_law_1575 ?_
  refine lv_aload_n (pc := 1576) hx hb dL_law_1576 rfl (lv_at hl 3 rfl) ?_
  refine lv_iload_n (pc := 1577) hx hb dL_law_1577 rfl (lv_at hl 0 rfl) ?_
  refine lv_iconst (pc := 1578) (v := (3 : Int32)) hx hb dL_law_1578 (by decide) ?_
  refine lv_iadd (pc := 1579) hx hb dL_law_1579 ?_
  refine va_sld (pc := 1580) hx hb hX hbl hbA w.2.2 h3 dL_law_1580 ?_
  have h := st_stock hR ((xs (nI i + (1 : Int32)).toNatClampNeg)) ((xs (nI i + (2 : Int32)).toNatClampNeg)) ((xs (nI i + (3 : Int32)).toNatClampNeg))
  refine LcallCi (pc := 1581) (rest := []) X w (LrunC (pc := 1581) X w (okX8_stock l X.2.2.2.1 h) kw1084 kmX8_stock ⟨rfl, rfl⟩ ⟨by decide, by decide⟩ rfl hl.1 rfl (Nat.le_of_ble_eq_true rfl) dL_law_1581) (fun r u1 H locs h w => ?_)
  refine lv_aload_n (pc := 1584) hx hb dL_law_1584 rfl (lv_at hl 1 rfl) ?_
  refine lv_aload_n (pc := 1585) hx hb dL_law_1585 rfl (lv_at hl 3 rfl) ?_
  refine lv_iload_n (pc := 1586) hx hb dL_law_1586 rfl (lv_at hl 0 rfl) ?_
  refine lv_iconst (pc := 1587) (v := (1 : Int32)) hx hb dL_law_1587 (by decide) ?_
  refine lv_iadd (pc := 1588) hx hb dL_law_1588 ?_
  refine va_sld (pc := 1589) hx hb hX hbl hbA w.2.2 h1 dL_law_1589 ?_
  refine lv_aload_n (pc := 1590) hx hb dL_law_1590 rfl (lv_at hl 3 rfl) ?_
  refine lv_iload_n (pc := 1591) hx hb dL_law_1591 rfl (lv_at hl 0 rfl) ?_
  refine lv_iconst (pc := 1592) (v := (2 : Int32)) hx hb dL_law_1592 (by decide) ?_
  refine lv_iadd (pc := 1593) hx hb dL_law_1593 ?_
  refine va_sld (pc := 1594) hx hb hX hbl hbA w.2.2 h2 dL_law_1594 ?_
  refine lv_aload_n (pc := 1595) hx hb dL_law_1595 rfl (lv_at hl 3 rfl) ?_
  refine lv_iload_n (pc := 1596) hx hb dL_law_1596 rfl (lv_at hl 0 rfl) ?_
  refine lv_iconst (pc := 1597) (v := (3 : Int32)) hx hb dL_law_1597 (by decide) ?_
  refine lv_iadd (pc := 1598) hx hb dL_law_1598 ?_
  refine va_sld (pc := 1599) hx hb hX hbl hbA w.2.2 h3 dL_law_1599 ?_
  refine LcallRi (pc := 1600) (rest := [.int r]) X w (LrunR (pc := 1600) X w (okX9_stock l X.2.2.2.2.1 h) kw1088 kmX9_stock ⟨rfl, rfl⟩ ⟨by decide, by decide⟩ rfl hl.1 rfl (Nat.le_of_ble_eq_true rfl) dL_law_1600) (fun r2 v1 H locs h w => ?_)
  refine lv_icmp_eq (pc := 1603) (tgt := 2384) hx hb dL_law_1603 (by decide) (fun _ => ?_) (fun c_ => absurd h.1 c_)
  exact hk _ _ H locs ls h.2 w hl
set_option maxHeartbeats 4000000 in
set_option maxRecDepth 100000 in
theorem lc_unstock {p : Program} {l : Launch} {e : Env} {s : State} {m : MethodId} {below : List Frame} {meth : Method} {c : Code} {H : Heap} {locs : List Loc} {b L : Nat} {xs : Nat → Int32} {D : va_G} {g : Nat → ClassId} {aC aR : Nat → Nat} {u v : Mm} {ls : Array Slot} {i : Nat} (X : LX p s m meth c b L xs D g aC aR) (w : LW D g aC aR s u v H locs) (hR : Rel u v) (hl : lv_has ls 4 [(3, .int (nI i)), (2, .ref (aR 0)), (1, .ref (aC 0)), (0, .ref b)]) (h1 : vp_in (nI i + (1 : Int32)) L) (h2 : vp_in (nI i + (2 : Int32)) L) (h3 : vp_in (nI i + (3 : Int32)) L) (h4 : vp_in (nI i + (4 : Int32)) L) (h5 : vp_in (nI i + (5 : Int32)) L) (hk : ∀ (u v : Mm) (H : Heap) (locs : List Loc) (ls : Array Slot), Rel u v → LW D g aC aR s u v H locs → lv_has ls 4 [(3, .int (nI i)), (2, .ref (aR 0)), (1, .ref (aC 0)), (0, .ref b)] → W p l e room_1 s m #[Value.ref b] below meth c H locs 600000 7302250 (lw_Z below #[Value.ref b] s) (F0 m 2384 ls [])) : W p l e room_1 s m #[Value.ref b] below meth c H locs 600000 7302250 (lw_Z below #[Value.ref b] s) (F0 m 1608 ls []) := by
  obtain ⟨hx, hb, hr, hml, hown, hts, hX, hbl, hlocks, hgv⟩ := X.1
  have hbA : ¬ (fun q : Nat => s.heap.size ≤ q) b := Nat.not_le.mpr hbl
  refine lv_aload_n (pc := 1608) hx hb dL_law_1608 rfl (lv_at hl 2 rfl) ?_
  refine lv_aload_n (pc := 1609) hx hb dL_law_1609 rfl (lv_at hl 3 rfl) ?_
  refine lv_iload_n (pc := 1610) hx hb dL_law_1610 rfl (lv_at hl 0 rfl) ?_
  refine lv_iconst (pc := 1611) (v := (1 : Int32)) hx hb dL_law_1611 (by decide) ?_
  refine lv_iadd (pc := 1612) hx hb dL_law_1612 ?_
  refine va_sld (pc := 1613) hx hb hX hbl hbA w.2.2 h1 dL_law_1613 ?_
  refine lv_aload_n (pc := 1614) hx hb dL_law_1614 rfl (lv_at hl 3 rfl) ?_
  refine lv_iload_n (pc := 1615) hx hb dL_law_1615 rfl (lv_at hl 0 rfl) ?_
  refine lv_iconst (pc := 1616) (v := (2 : Int32)) hx hb dL_law_1616 (by decide) ?_
  refine lv_iadd (pc := 1617) hx hb dL_law_1617 ?_
  refine va_sld (pc := 1618) hx hb hX hbl hbA w.2.2 h2 dL_law_1618 ?_
  have h := st_unstock hR ((xs (nI i + (1 : Int32)).toNatClampNeg)) ((xs (nI i + (2 : Int32)).toNatClampNeg))
  refine LcallCi (pc := 1619) (rest := []) X w (LrunC (pc := 1619) X w (okX8_unstock l X.2.2.2.1 h) kw1092 kmX8_unstock ⟨rfl, rfl⟩ ⟨by decide, by decide⟩ rfl hl.1 rfl (Nat.le_of_ble_eq_true rfl) dL_law_1619) (fun r u1 H locs h w => ?_)
  refine lv_aload_n (pc := 1622) hx hb dL_law_1622 rfl (lv_at hl 1 rfl) ?_
  refine lv_aload_n (pc := 1623) hx hb dL_law_1623 rfl (lv_at hl 3 rfl) ?_
  refine lv_iload_n (pc := 1624) hx hb dL_law_1624 rfl (lv_at hl 0 rfl) ?_
  refine lv_iconst (pc := 1625) (v := (1 : Int32)) hx hb dL_law_1625 (by decide) ?_
  refine lv_iadd (pc := 1626) hx hb dL_law_1626 ?_
  refine va_sld (pc := 1627) hx hb hX hbl hbA w.2.2 h1 dL_law_1627 ?_
  refine lv_aload_n (pc := 1628) hx hb dL_law_1628 rfl (lv_at hl 3 rfl) ?_
  refine lv_iload_n (pc := 1629) hx hb dL_law_1629 rfl (lv_at hl 0 rfl) ?_
  refine lv_iconst (pc := 1630) (v := (2 : Int32)) hx hb dL_law_1630 (by decide) ?_
  refine lv_iadd (pc := 1631) hx hb dL_law_1631 ?_
  refine va_sld (pc := 1632) hx hb hX hbl hbA w.2.2 h2 dL_law_1632 ?_
  refine LcallRi (pc := 1633) (rest := [.int r]) X w (LrunR (pc := 1633) X w (okX9_unstock l X.2.2.2.2.1 h) kw1096 kmX9_unstock ⟨rfl, rfl⟩ ⟨by decide, by decide⟩ rfl hl.1 rfl (Nat.le_of_ble_eq_true rfl) dL_law_1633) (fun r2 v1 H locs h w => ?_)
  refine lv_icmp_eq (pc := 1636) (tgt := 2384) hx hb dL_law_1636 (by decide) (fun _ => ?_) (fun c_ => absurd h.1 c_)
  exact hk _ _ H locs ls h.2 w hl
set_option maxHeartbeats 4000000 in
set_option maxRecDepth 100000 in
theorem lc_due {p : Program} {l : Launch} {e : Env} {s : State} {m : MethodId} {below : List Frame} {meth : Method} {c : Code} {H : Heap} {locs : List Loc} {b L : Nat} {xs : Nat → Int32} {D : va_G} {g : Nat → ClassId} {aC aR : Nat → Nat} {u v : Mm} {ls : Array Slot} {i : Nat} (X : LX p s m meth c b L xs D g aC aR) (w : LW D g aC aR s u v H locs) (hR : Rel u v) (hl : lv_has ls 4 [(3, .int (nI i)), (2, .ref (aR 0)), (1, .ref (aC 0)), (0, .ref b)]) (h1 : vp_in (nI i + (1 : Int32)) L) (h2 : vp_in (nI i + (2 : Int32)) L) (h3 : vp_in (nI i + (3 : Int32)) L) (h4 : vp_in (nI i + (4 : Int32)) L) (h5 : vp_in (nI i + (5 : Int32)) L) (hk : ∀ (u v : Mm) (H : Heap) (locs : List Loc) (ls : Array Slot), Rel u v → LW D g aC aR s u v H locs → lv_has ls 4 [(3, .int (nI i)), (2, .ref (aR 0)), (1, .ref (aC 0)), (0, .ref b)] → W p l e room_1 s m #[Value.ref b] below meth c H locs 600000 7302250 (lw_Z below #[Value.ref b] s) (F0 m 2384 ls [])) : W p l e room_1 s m #[Value.ref b] below meth c H locs 600000 7302250 (lw_Z below #[Value.ref b] s) (F0 m 1641 ls []) := by
  obtain ⟨hx, hb, hr, hml, hown, hts, hX, hbl, hlocks, hgv⟩ := X.1
  have hbA : ¬ (fun q : Nat => s.heap.size ≤ q) b := Nat.not_le.mpr hbl
  refine lv_aload_n (pc := 1641) hx hb dL_law_1641 rfl (lv_at hl 2 rfl) ?_
  refine lv_aload_n (pc := 1642) hx hb dL_law_1642 rfl (lv_at hl 3 rfl) ?_
  refine lv_iload_n (pc := 1643) hx hb dL_law_1643 rfl (lv_at hl 0 rfl) ?_
  refine lv_iconst (pc := 1644) (v := (1 : Int32)) hx hb dL_law_1644 (by decide) ?_
  refine lv_iadd (pc := 1645) hx hb dL_law_1645 ?_
  refine va_sld (pc := 1646) hx hb hX hbl hbA w.2.2 h1 dL_law_1646 ?_
  refine lv_aload_n (pc := 1647) hx hb dL_law_1647 rfl (lv_at hl 3 rfl) ?_
  refine lv_iload_n (pc := 1648) hx hb dL_law_1648 rfl (lv_at hl 0 rfl) ?_
  refine lv_iconst (pc := 1649) (v := (2 : Int32)) hx hb dL_law_1649 (by decide) ?_
  refine lv_iadd (pc := 1650) hx hb dL_law_1650 ?_
  refine va_sld (pc := 1651) hx hb hX hbl hbA w.2.2 h2 dL_law_1651 ?_
  have h := st_due hR ((xs (nI i + (1 : Int32)).toNatClampNeg)) ((xs (nI i + (2 : Int32)).toNatClampNeg))
  refine LcallCl (pc := 1652) (rest := []) X w (LrunC (pc := 1652) X w (okX8_due l X.2.2.2.1 h) kw1100 kmX8_due ⟨rfl, rfl⟩ ⟨by decide, by decide⟩ rfl hl.1 rfl (Nat.le_of_ble_eq_true rfl) dL_law_1652) (fun r u1 H locs h w => ?_)
  obtain ⟨rfl, h⟩ := h
  refine lv_aload_n (pc := 1655) hx hb dL_law_1655 rfl (lv_at hl 1 rfl) ?_
  refine lv_aload_n (pc := 1656) hx hb dL_law_1656 rfl (lv_at hl 3 rfl) ?_
  refine lv_iload_n (pc := 1657) hx hb dL_law_1657 rfl (lv_at hl 0 rfl) ?_
  refine lv_iconst (pc := 1658) (v := (1 : Int32)) hx hb dL_law_1658 (by decide) ?_
  refine lv_iadd (pc := 1659) hx hb dL_law_1659 ?_
  refine va_sld (pc := 1660) hx hb hX hbl hbA w.2.2 h1 dL_law_1660 ?_
  refine lv_aload_n (pc := 1661) hx hb dL_law_1661 rfl (lv_at hl 3 rfl) ?_
  refine lv_iload_n (pc := 1662) hx hb dL_law_1662 rfl (lv_at hl 0 rfl) ?_
  refine lv_iconst (pc := 1663) (v := (2 : Int32)) hx hb dL_law_1663 (by decide) ?_
  refine lv_iadd (pc := 1664) hx hb dL_law_1664 ?_
  refine va_sld (pc := 1665) hx hb hX hbl hbA w.2.2 h2 dL_law_1665 ?_
  refine LcallRl (pc := 1666) (rest := [.long r]) X w (LrunR (pc := 1666) X w (okX9_due l X.2.2.2.2.1 h) kw1104 kmX9_due ⟨rfl, rfl⟩ ⟨by decide, by decide⟩ rfl hl.1 rfl (Nat.le_of_ble_eq_true rfl) dL_law_1666) (fun r2 v1 H locs h w => ?_)
  obtain ⟨rfl, h⟩ := h
  refine lq_eq (pc := 1669) (tgt := 2384) hx hb dL_law_1669 dL_law_1670 (by decide) (fun _ => ?_) (fun c_ => absurd h.1 c_)
  exact hk _ _ H locs ls h.2 w hl
set_option maxHeartbeats 4000000 in
set_option maxRecDepth 100000 in
theorem lc_off {p : Program} {l : Launch} {e : Env} {s : State} {m : MethodId} {below : List Frame} {meth : Method} {c : Code} {H : Heap} {locs : List Loc} {b L : Nat} {xs : Nat → Int32} {D : va_G} {g : Nat → ClassId} {aC aR : Nat → Nat} {u v : Mm} {ls : Array Slot} {i : Nat} (X : LX p s m meth c b L xs D g aC aR) (w : LW D g aC aR s u v H locs) (hR : Rel u v) (hl : lv_has ls 4 [(3, .int (nI i)), (2, .ref (aR 0)), (1, .ref (aC 0)), (0, .ref b)]) (h1 : vp_in (nI i + (1 : Int32)) L) (h2 : vp_in (nI i + (2 : Int32)) L) (h3 : vp_in (nI i + (3 : Int32)) L) (h4 : vp_in (nI i + (4 : Int32)) L) (h5 : vp_in (nI i + (5 : Int32)) L) (hk : ∀ (u v : Mm) (H : Heap) (locs : List Loc) (ls : Array Slot), Rel u v → LW D g aC aR s u v H locs → lv_has ls 4 [(3, .int (nI i)), (2, .ref (aR 0)), (1, .ref (aC 0)), (0, .ref b)] → W p l e room_1 s m #[Value.ref b] below meth c H locs 600000 7302250 (lw_Z below #[Value.ref b] s) (F0 m 2384 ls [])) : W p l e room_1 s m #[Value.ref b] below meth c H locs 600000 7302250 (lw_Z below #[Value.ref b] s) (F0 m 1675 ls []) := by
  obtain ⟨hx, hb, hr, hml, hown, hts, hX, hbl, hlocks, hgv⟩ := X.1
  have hbA : ¬ (fun q : Nat => s.heap.size ≤ q) b := Nat.not_le.mpr hbl
  refine lv_aload_n (pc := 1675) hx hb dL_law_1675 rfl (lv_at hl 2 rfl) ?_
  refine lv_aload_n (pc := 1676) hx hb dL_law_1676 rfl (lv_at hl 3 rfl) ?_
  refine lv_iload_n (pc := 1677) hx hb dL_law_1677 rfl (lv_at hl 0 rfl) ?_
  refine lv_iconst (pc := 1678) (v := (1 : Int32)) hx hb dL_law_1678 (by decide) ?_
  refine lv_iadd (pc := 1679) hx hb dL_law_1679 ?_
  refine va_sld (pc := 1680) hx hb hX hbl hbA w.2.2 h1 dL_law_1680 ?_
  refine lv_aload_n (pc := 1681) hx hb dL_law_1681 rfl (lv_at hl 3 rfl) ?_
  refine lv_iload_n (pc := 1682) hx hb dL_law_1682 rfl (lv_at hl 0 rfl) ?_
  refine lv_iconst (pc := 1683) (v := (2 : Int32)) hx hb dL_law_1683 (by decide) ?_
  refine lv_iadd (pc := 1684) hx hb dL_law_1684 ?_
  refine va_sld (pc := 1685) hx hb hX hbl hbA w.2.2 h2 dL_law_1685 ?_
  have h := st_off hR ((xs (nI i + (1 : Int32)).toNatClampNeg)) ((xs (nI i + (2 : Int32)).toNatClampNeg))
  refine LcallCl (pc := 1686) (rest := []) X w (LrunC (pc := 1686) X w (okX8_off l X.2.2.2.1 h) kw1108 kmX8_off ⟨rfl, rfl⟩ ⟨by decide, by decide⟩ rfl hl.1 rfl (Nat.le_of_ble_eq_true rfl) dL_law_1686) (fun r u1 H locs h w => ?_)
  obtain ⟨rfl, h⟩ := h
  refine lv_aload_n (pc := 1689) hx hb dL_law_1689 rfl (lv_at hl 1 rfl) ?_
  refine lv_aload_n (pc := 1690) hx hb dL_law_1690 rfl (lv_at hl 3 rfl) ?_
  refine lv_iload_n (pc := 1691) hx hb dL_law_1691 rfl (lv_at hl 0 rfl) ?_
  refine lv_iconst (pc := 1692) (v := (1 : Int32)) hx hb dL_law_1692 (by decide) ?_
  refine lv_iadd (pc := 1693) hx hb dL_law_1693 ?_
  refine va_sld (pc := 1694) hx hb hX hbl hbA w.2.2 h1 dL_law_1694 ?_
  refine lv_aload_n (pc := 1695) hx hb dL_law_1695 rfl (lv_at hl 3 rfl) ?_
  refine lv_iload_n (pc := 1696) hx hb dL_law_1696 rfl (lv_at hl 0 rfl) ?_
  refine lv_iconst (pc := 1697) (v := (2 : Int32)) hx hb dL_law_1697 (by decide) ?_
  refine lv_iadd (pc := 1698) hx hb dL_law_1698 ?_
  refine va_sld (pc := 1699) hx hb hX hbl hbA w.2.2 h2 dL_law_1699 ?_
  refine LcallRl (pc := 1700) (rest := [.long r]) X w (LrunR (pc := 1700) X w (okX9_off l X.2.2.2.2.1 h) kw1112 kmX9_off ⟨rfl, rfl⟩ ⟨by decide, by decide⟩ rfl hl.1 rfl (Nat.le_of_ble_eq_true rfl) dL_law_1700) (fun r2 v1 H locs h w => ?_)
  obtain ⟨rfl, h⟩ := h
  refine lq_eq (pc := 1703) (tgt := 2384) hx hb dL_law_1703 dL_law_1704 (by decide) (fun _ => ?_) (fun c_ => absurd h.1 c_)
  exact hk _ _ H locs ls h.2 w hl
set_option maxHeartbeats 4000000 in
set_option maxRecDepth 100000 in
theorem lc_type {p : Program} {l : Launch} {e : Env} {s : State} {m : MethodId} {below : List Frame} {meth : Method} {c : Code} {H : Heap} {locs : List Loc} {b L : Nat} {xs : Nat → Int32} {D : va_G} {g : Nat → ClassId} {aC aR : Nat → Nat} {u v : Mm} {ls : Array Slot} {i : Nat} (X : LX p s m meth c b L xs D g aC aR) (w : LW D g aC aR s u v H locs) (hR : Rel u v) (hl : lv_has ls 4 [(3, .int (nI i)), (2, .ref (aR 0)), (1, .ref (aC 0)), (0, .ref b)]) (h1 : vp_in (nI i + (1 : Int32)) L) (h2 : vp_in (nI i + (2 : Int32)) L) (h3 : vp_in (nI i + (3 : Int32)) L) (h4 : vp_in (nI i + (4 : Int32)) L) (h5 : vp_in (nI i + (5 : Int32)) L) (hk : ∀ (u v : Mm) (H : Heap) (locs : List Loc) (ls : Array Slot), Rel u v → LW D g aC aR s u v H locs → lv_has ls 4 [(3, .int (nI i)), (2, .ref (aR 0)), (1, .ref (aC 0)), (0, .ref b)] → W p l e room_1 s m #[Value.ref b] below meth c H locs 600000 7302250 (lw_Z below #[Value.ref b] s) (F0 m 2384 ls [])) : W p l e room_1 s m #[Value.ref b] below meth c H locs 600000 7302250 (lw_Z below #[Value.ref b] s) (F0 m 1709 ls []) := by
  obtain ⟨hx, hb, hr, hml, hown, hts, hX, hbl, hlocks, hgv⟩ := X.1
  have hbA : ¬ (fun q : Nat => s.heap.size ≤ q) b := Nat.not_le.mpr hbl
  refine lv_aload_n (pc := 1709) hx hb dL_law_1709 rfl (lv_at hl 2 rfl) ?_
  refine lv_aload_n (pc := 1710) hx hb dL_law_1710 rfl (lv_at hl 3 rfl) ?_
  refine lv_iload_n (pc := 1711) hx hb dL_law_1711 rfl (lv_at hl 0 rfl) ?_
  refine lv_iconst (pc := 1712) (v := (1 : Int32)) hx hb dL_law_1712 (by decide) ?_
  refine lv_iadd (pc := 1713) hx hb dL_law_1713 ?_
  refine va_sld (pc := 1714) hx hb hX hbl hbA w.2.2 h1 dL_law_1714 ?_
  refine lv_aload_n (pc := 1715) hx hb dL_law_1715 rfl (lv_at hl 3 rfl) ?_
  refine lv_iload_n (pc := 1716) hx hb dL_law_1716 rfl (lv_at hl 0 rfl) ?_
  refine lv_iconst (pc := 1717) (v := (2 : Int32)) hx hb dL_law_1717 (by decide) ?_
  refine lv_iadd (pc := 1718) hx hb dL_law_1718 ?_
  refine va_sld (pc := 1719) hx hb hX hbl hbA w.2.2 h2 dL_law_1719 ?_
  have h := st_type hR ((xs (nI i + (1 : Int32)).toNatClampNeg)) ((xs (nI i + (2 : Int32)).toNatClampNeg))
  refine LcallCi (pc := 1720) (rest := []) X w (LrunC (pc := 1720) X w (okX8_type l X.2.2.2.1 h) kw1116 kmX8_type ⟨rfl, rfl⟩ ⟨by decide, by decide⟩ rfl hl.1 rfl (Nat.le_of_ble_eq_true rfl) dL_law_1720) (fun r u1 H locs h w => ?_)
  refine lv_aload_n (pc := 1723) hx hb dL_law_1723 rfl (lv_at hl 1 rfl) ?_
  refine lv_aload_n (pc := 1724) hx hb dL_law_1724 rfl (lv_at hl 3 rfl) ?_
  refine lv_iload_n (pc := 1725) hx hb dL_law_1725 rfl (lv_at hl 0 rfl) ?_
  refine lv_iconst (pc := 1726) (v := (1 : Int32)) hx hb dL_law_1726 (by decide) ?_
  refine lv_iadd (pc := 1727) hx hb dL_law_1727 ?_
  refine va_sld (pc := 1728) hx hb hX hbl hbA w.2.2 h1 dL_law_1728 ?_
  refine lv_aload_n (pc := 1729) hx hb dL_law_1729 rfl (lv_at hl 3 rfl) ?_
  refine lv_iload_n (pc := 1730) hx hb dL_law_1730 rfl (lv_at hl 0 rfl) ?_
  refine lv_iconst (pc := 1731) (v := (2 : Int32)) hx hb dL_law_1731 (by decide) ?_
  refine lv_iadd (pc := 1732) hx hb dL_law_1732 ?_
  refine va_sld (pc := 1733) hx hb hX hbl hbA w.2.2 h2 dL_law_1733 ?_
  refine LcallRi (pc := 1734) (rest := [.int r]) X w (LrunR (pc := 1734) X w (okX9_type l X.2.2.2.2.1 h) kw1120 kmX9_type ⟨rfl, rfl⟩ ⟨by decide, by decide⟩ rfl hl.1 rfl (Nat.le_of_ble_eq_true rfl) dL_law_1734) (fun r2 v1 H locs h w => ?_)
  refine lv_icmp_eq (pc := 1737) (tgt := 2384) hx hb dL_law_1737 (by decide) (fun _ => ?_) (fun c_ => absurd h.1 c_)
  exact hk _ _ H locs ls h.2 w hl
set_option maxHeartbeats 4000000 in
set_option maxRecDepth 100000 in
theorem lc_repeal {p : Program} {l : Launch} {e : Env} {s : State} {m : MethodId} {below : List Frame} {meth : Method} {c : Code} {H : Heap} {locs : List Loc} {b L : Nat} {xs : Nat → Int32} {D : va_G} {g : Nat → ClassId} {aC aR : Nat → Nat} {u v : Mm} {ls : Array Slot} {i : Nat} (X : LX p s m meth c b L xs D g aC aR) (w : LW D g aC aR s u v H locs) (hR : Rel u v) (hl : lv_has ls 4 [(3, .int (nI i)), (2, .ref (aR 0)), (1, .ref (aC 0)), (0, .ref b)]) (h1 : vp_in (nI i + (1 : Int32)) L) (h2 : vp_in (nI i + (2 : Int32)) L) (h3 : vp_in (nI i + (3 : Int32)) L) (h4 : vp_in (nI i + (4 : Int32)) L) (h5 : vp_in (nI i + (5 : Int32)) L) (hk : ∀ (u v : Mm) (H : Heap) (locs : List Loc) (ls : Array Slot), Rel u v → LW D g aC aR s u v H locs → lv_has ls 4 [(3, .int (nI i)), (2, .ref (aR 0)), (1, .ref (aC 0)), (0, .ref b)] → W p l e room_1 s m #[Value.ref b] below meth c H locs 600000 7302250 (lw_Z below #[Value.ref b] s) (F0 m 2384 ls [])) : W p l e room_1 s m #[Value.ref b] below meth c H locs 600000 7302250 (lw_Z below #[Value.ref b] s) (F0 m 1742 ls []) := by
  obtain ⟨hx, hb, hr, hml, hown, hts, hX, hbl, hlocks, hgv⟩ := X.1
  have hbA : ¬ (fun q : Nat => s.heap.size ≤ q) b := Nat.not_le.mpr hbl
  refine lv_aload_n (pc := 1742) hx hb dL_law_1742 rfl (lv_at hl 2 rfl) ?_
  refine lv_aload_n (pc := 1743) hx hb dL_law_1743 rfl (lv_at hl 3 rfl) ?_
  refine lv_iload_n (pc := 1744) hx hb dL_law_1744 rfl (lv_at hl 0 rfl) ?_
  refine lv_iconst (pc := 1745) (v := (1 : Int32)) hx hb dL_law_1745 (by decide) ?_
  refine lv_iadd (pc := 1746) hx hb dL_law_1746 ?_
  refine va_sld (pc := 1747) hx hb hX hbl hbA w.2.2 h1 dL_law_1747 ?_
  have h := st_repeal hR ((xs (nI i + (1 : Int32)).toNatClampNeg))
  refine LcallCi (pc := 1748) (rest := []) X w (LrunC (pc := 1748) X w (okX8_repeal l X.2.2.2.1 h) kw1124 kmX8_repeal ⟨rfl, rfl⟩ ⟨by decide, by decide⟩ rfl hl.1 rfl (Nat.le_of_ble_eq_true rfl) dL_law_1748) (fun r u1 H locs h w => ?_)
  refine lv_aload_n (pc := 1751) hx hb dL_law_1751 rfl (lv_at hl 1 rfl) ?_
  refine lv_aload_n (pc := 1752) hx hb dL_law_1752 rfl (lv_at hl 3 rfl) ?_
  refine lv_iload_n (pc := 1753) hx hb dL_law_1753 rfl (lv_at hl 0 rfl) ?_
  refine lv_iconst (pc := 1754) (v := (1 : Int32)) hx hb dL_law_1754 (by decide) ?_
  refine lv_iadd (pc := 1755) hx hb dL_law_1755 ?_
  refine va_sld (pc := 1756) hx hb hX hbl hbA w.2.2 h1 dL_law_1756 ?_
  refine LcallRi (pc := 1757) (rest := [.int r]) X w (LrunR (pc := 1757) X w (okX9_repeal l X.2.2.2.2.1 h) kw1128 kmX9_repeal ⟨rfl, rfl⟩ ⟨by decide, by decide⟩ rfl hl.1 rfl (Nat.le_of_ble_eq_true rfl) dL_law_1757) (fun r2 v1 H locs h w => ?_)
  refine lv_icmp_eq (pc := 1760) (tgt := 2384) hx hb dL_law_1760 (by decide) (fun _ => ?_) (fun c_ => absurd h.1 c_)
  exact hk _ _ H locs ls h.2 w hl
set_option maxHeartbeats 4000000 in
set_option maxRecDepth 100000 in
theorem lc_fault {p : Program} {l : Launch} {e : Env} {s : State} {m : MethodId} {below : List Frame} {meth : Method} {c : Code} {H : Heap} {locs : List Loc} {b L : Nat} {xs : Nat → Int32} {D : va_G} {g : Nat → ClassId} {aC aR : Nat → Nat} {u v : Mm} {ls : Array Slot} {i : Nat} (X : LX p s m meth c b L xs D g aC aR) (w : LW D g aC aR s u v H locs) (hR : Rel u v) (hl : lv_has ls 4 [(3, .int (nI i)), (2, .ref (aR 0)), (1, .ref (aC 0)), (0, .ref b)]) (h1 : vp_in (nI i + (1 : Int32)) L) (h2 : vp_in (nI i + (2 : Int32)) L) (h3 : vp_in (nI i + (3 : Int32)) L) (h4 : vp_in (nI i + (4 : Int32)) L) (h5 : vp_in (nI i + (5 : Int32)) L) (hk : ∀ (u v : Mm) (H : Heap) (locs : List Loc) (ls : Array Slot), Rel u v → LW D g aC aR s u v H locs → lv_has ls 4 [(3, .int (nI i)), (2, .ref (aR 0)), (1, .ref (aC 0)), (0, .ref b)] → W p l e room_1 s m #[Value.ref b] below meth c H locs 600000 7302250 (lw_Z below #[Value.ref b] s) (F0 m 2384 ls [])) : W p l e room_1 s m #[Value.ref b] below meth c H locs 600000 7302250 (lw_Z below #[Value.ref b] s) (F0 m 1765 ls []) := by
  obtain ⟨hx, hb, hr, hml, hown, hts, hX, hbl, hlocks, hgv⟩ := X.1
  have hbA : ¬ (fun q : Nat => s.heap.size ≤ q) b := Nat.not_le.mpr hbl
  refine lv_aload_n (pc := 1765) hx hb dL_law_1765 rfl (lv_at hl 2 rfl) ?_
  refine lv_aload_n (pc := 1766) hx hb dL_law_1766 rfl (lv_at hl 3 rfl) ?_
  refine lv_iload_n (pc := 1767) hx hb dL_law_1767 rfl (lv_at hl 0 rfl) ?_
  refine lv_iconst (pc := 1768) (v := (1 : Int32)) hx hb dL_law_1768 (by decide) ?_
  refine lv_iadd (pc := 1769) hx hb dL_law_1769 ?_
  refine va_sld (pc := 1770) hx hb hX hbl hbA w.2.2 h1 dL_law_1770 ?_
  have h := st_fault hR ((xs (nI i + (1 : Int32)).toNatClampNeg))
  refine LcallCi (pc := 1771) (rest := []) X w (LrunC (pc := 1771) X w (okX8_fault l X.2.2.2.1 h) kw1132 kmX8_fault ⟨rfl, rfl⟩ ⟨by decide, by decide⟩ rfl hl.1 rfl (Nat.le_of_ble_eq_true rfl) dL_law_1771) (fun r u1 H locs h w => ?_)
  refine lv_aload_n (pc := 1774) hx hb dL_law_1774 rfl (lv_at hl 1 rfl) ?_
  refine lv_aload_n (pc := 1775) hx hb dL_law_1775 rfl (lv_at hl 3 rfl) ?_
  refine lv_iload_n (pc := 1776) hx hb dL_law_1776 rfl (lv_at hl 0 rfl) ?_
  refine lv_iconst (pc := 1777) (v := (1 : Int32)) hx hb dL_law_1777 (by decide) ?_
  refine lv_iadd (pc := 1778) hx hb dL_law_1778 ?_
  refine va_sld (pc := 1779) hx hb hX hbl hbA w.2.2 h1 dL_law_1779 ?_
  refine LcallRi (pc := 1780) (rest := [.int r]) X w (LrunR (pc := 1780) X w (okX9_fault l X.2.2.2.2.1 h) kw1136 kmX9_fault ⟨rfl, rfl⟩ ⟨by decide, by decide⟩ rfl hl.1 rfl (Nat.le_of_ble_eq_true rfl) dL_law_1780) (fun r2 v1 H locs h w => ?_)
  refine lv_icmp_eq (pc := 1783) (tgt := 2384) hx hb dL_law_1783 (by decide) (fun _ => ?_) (fun c_ => absurd h.1 c_)
  exact hk _ _ H locs ls h.2 w hl
set_option maxHeartbeats 4000000 in
set_option maxRecDepth 100000 in
theorem lc_left {p : Program} {l : Launch} {e : Env} {s : State} {m : MethodId} {below : List Frame} {meth : Method} {c : Code} {H : Heap} {locs : List Loc} {b L : Nat} {xs : Nat → Int32} {D : va_G} {g : Nat → ClassId} {aC aR : Nat → Nat} {u v : Mm} {ls : Array Slot} {i : Nat} (X : LX p s m meth c b L xs D g aC aR) (w : LW D g aC aR s u v H locs) (hR : Rel u v) (hl : lv_has ls 4 [(3, .int (nI i)), (2, .ref (aR 0)), (1, .ref (aC 0)), (0, .ref b)]) (h1 : vp_in (nI i + (1 : Int32)) L) (h2 : vp_in (nI i + (2 : Int32)) L) (h3 : vp_in (nI i + (3 : Int32)) L) (h4 : vp_in (nI i + (4 : Int32)) L) (h5 : vp_in (nI i + (5 : Int32)) L) (hk : ∀ (u v : Mm) (H : Heap) (locs : List Loc) (ls : Array Slot), Rel u v → LW D g aC aR s u v H locs → lv_has ls 4 [(3, .int (nI i)), (2, .ref (aR 0)), (1, .ref (aC 0)), (0, .ref b)] → W p l e room_1 s m #[Value.ref b] below meth c H locs 600000 7302250 (lw_Z below #[Value.ref b] s) (F0 m 2384 ls [])) : W p l e room_1 s m #[Value.ref b] below meth c H locs 600000 7302250 (lw_Z below #[Value.ref b] s) (F0 m 1788 ls []) := by
  obtain ⟨hx, hb, hr, hml, hown, hts, hX, hbl, hlocks, hgv⟩ := X.1
  have hbA : ¬ (fun q : Nat => s.heap.size ≤ q) b := Nat.not_le.mpr hbl
  refine lv_aload_n (pc := 1788) hx hb dL_law_1788 rfl (lv_at hl 2 rfl) ?_
  refine lv_aload_n (pc := 1789) hx hb dL_law_1789 rfl (lv_at hl 3 rfl) ?_
  refine lv_iload_n (pc := 1790) hx hb dL_law_1790 rfl (lv_at hl 0 rfl) ?_
  refine lv_iconst (pc := 1791) (v := (1 : Int32)) hx hb dL_law_1791 (by decide) ?_
  refine lv_iadd (pc := 1792) hx hb dL_law_1792 ?_
  refine va_sld (pc := 1793) hx hb hX hbl hbA w.2.2 h1 dL_law_1793 ?_
  refine lv_aload_n (pc := 1794) hx hb dL_law_1794 rfl (lv_at hl 3 rfl) ?_
  refine lv_iload_n (pc := 1795) hx hb dL_law_1795 rfl (lv_at hl 0 rfl) ?_
  refine lv_iconst (pc := 1796) (v := (2 : Int32)) hx hb dL_law_1796 (by decide) ?_
  refine lv_iadd (pc := 1797) hx hb dL_law_1797 ?_
  refine va_sld (pc := 1798) hx hb hX hbl hbA w.2.2 h2 dL_law_1798 ?_
  have h := st_left hR ((xs (nI i + (1 : Int32)).toNatClampNeg)) ((xs (nI i + (2 : Int32)).toNatClampNeg))
  refine LcallCl (pc := 1799) (rest := []) X w (LrunC (pc := 1799) X w (okX8_left l X.2.2.2.1 h) kw1140 kmX8_left ⟨rfl, rfl⟩ ⟨by decide, by decide⟩ rfl hl.1 rfl (Nat.le_of_ble_eq_true rfl) dL_law_1799) (fun r u1 H locs h w => ?_)
  refine lv_aload_n (pc := 1802) hx hb dL_law_1802 rfl (lv_at hl 1 rfl) ?_
  refine lv_aload_n (pc := 1803) hx hb dL_law_1803 rfl (lv_at hl 3 rfl) ?_
  refine lv_iload_n (pc := 1804) hx hb dL_law_1804 rfl (lv_at hl 0 rfl) ?_
  refine lv_iconst (pc := 1805) (v := (1 : Int32)) hx hb dL_law_1805 (by decide) ?_
  refine lv_iadd (pc := 1806) hx hb dL_law_1806 ?_
  refine va_sld (pc := 1807) hx hb hX hbl hbA w.2.2 h1 dL_law_1807 ?_
  refine lv_aload_n (pc := 1808) hx hb dL_law_1808 rfl (lv_at hl 3 rfl) ?_
  refine lv_iload_n (pc := 1809) hx hb dL_law_1809 rfl (lv_at hl 0 rfl) ?_
  refine lv_iconst (pc := 1810) (v := (2 : Int32)) hx hb dL_law_1810 (by decide) ?_
  refine lv_iadd (pc := 1811) hx hb dL_law_1811 ?_
  refine va_sld (pc := 1812) hx hb hX hbl hbA w.2.2 h2 dL_law_1812 ?_
  refine LcallRl (pc := 1813) (rest := [.long r]) X w (LrunR (pc := 1813) X w (okX9_left l X.2.2.2.2.1 h) kw1144 kmX9_left ⟨rfl, rfl⟩ ⟨by decide, by decide⟩ rfl hl.1 rfl (Nat.le_of_ble_eq_true rfl) dL_law_1813) (fun r2 v1 H locs h w => ?_)
  refine lq_eq (pc := 1816) (tgt := 2384) hx hb dL_law_1816 dL_law_1817 (by decide) (fun _ => ?_) (fun c_ => absurd h.1 c_)
  exact hk _ _ H locs ls h.2 w hl
set_option maxHeartbeats 4000000 in
set_option maxRecDepth 100000 in
theorem lc_unkept {p : Program} {l : Launch} {e : Env} {s : State} {m : MethodId} {below : List Frame} {meth : Method} {c : Code} {H : Heap} {locs : List Loc} {b L : Nat} {xs : Nat → Int32} {D : va_G} {g : Nat → ClassId} {aC aR : Nat → Nat} {u v : Mm} {ls : Array Slot} {i : Nat} (X : LX p s m meth c b L xs D g aC aR) (w : LW D g aC aR s u v H locs) (hR : Rel u v) (hl : lv_has ls 4 [(3, .int (nI i)), (2, .ref (aR 0)), (1, .ref (aC 0)), (0, .ref b)]) (h1 : vp_in (nI i + (1 : Int32)) L) (h2 : vp_in (nI i + (2 : Int32)) L) (h3 : vp_in (nI i + (3 : Int32)) L) (h4 : vp_in (nI i + (4 : Int32)) L) (h5 : vp_in (nI i + (5 : Int32)) L) (hk : ∀ (u v : Mm) (H : Heap) (locs : List Loc) (ls : Array Slot), Rel u v → LW D g aC aR s u v H locs → lv_has ls 4 [(3, .int (nI i)), (2, .ref (aR 0)), (1, .ref (aC 0)), (0, .ref b)] → W p l e room_1 s m #[Value.ref b] below meth c H locs 600000 7302250 (lw_Z below #[Value.ref b] s) (F0 m 2384 ls [])) : W p l e room_1 s m #[Value.ref b] below meth c H locs 600000 7302250 (lw_Z below #[Value.ref b] s) (F0 m 1822 ls []) := by
  obtain ⟨hx, hb, hr, hml, hown, hts, hX, hbl, hlocks, hgv⟩ := X.1
  have hbA : ¬ (fun q : Nat => s.heap.size ≤ q) b := Nat.not_le.mpr hbl
  refine lv_aload_n (pc := 1822) hx hb dL_law_1822 rfl (lv_at hl 2 rfl) ?_
  refine lv_aload_n (pc := 1823) hx hb dL_law_1823 rfl (lv_at hl 3 rfl) ?_
  refine lv_iload_n (pc := 1824) hx hb dL_law_1824 rfl (lv_at hl 0 rfl) ?_
  refine lv_iconst (pc := 1825) (v := (1 : Int32)) hx hb dL_law_1825 (by decide) ?_
  refine lv_iadd (pc := 1826) hx hb dL_law_1826 ?_
  refine va_sld (pc := 1827) hx hb hX hbl hbA w.2.2 h1 dL_law_1827 ?_
  have h := st_unkept hR ((xs (nI i + (1 : Int32)).toNatClampNeg))
  refine LcallCi (pc := 1828) (rest := []) X w (LrunC (pc := 1828) X w (okX8_unkept l X.2.2.2.1 h) kw1148 kmX8_unkept ⟨rfl, rfl⟩ ⟨by decide, by decide⟩ rfl hl.1 rfl (Nat.le_of_ble_eq_true rfl) dL_law_1828) (fun r u1 H locs h w => ?_)
  refine lv_aload_n (pc := 1831) hx hb dL_law_1831 rfl (lv_at hl 1 rfl) ?_
  refine lv_aload_n (pc := 1832) hx hb dL_law_1832 rfl (lv_at hl 3 rfl) ?_
  refine lv_iload_n (pc := 1833) hx hb dL_law_1833 rfl (lv_at hl 0 rfl) ?_
  refine lv_iconst (pc := 1834) (v := (1 : Int32)) hx hb dL_law_1834 (by decide) ?_
  refine lv_iadd (pc := 1835) hx hb dL_law_1835 ?_
  refine va_sld (pc := 1836) hx hb hX hbl hbA w.2.2 h1 dL_law_1836 ?_
  refine LcallRi (pc := 1837) (rest := [.int r]) X w (LrunR (pc := 1837) X w (okX9_unkept l X.2.2.2.2.1 h) kw1152 kmX9_unkept ⟨rfl, rfl⟩ ⟨by decide, by decide⟩ rfl hl.1 rfl (Nat.le_of_ble_eq_true rfl) dL_law_1837) (fun r2 v1 H locs h w => ?_)
  refine lv_icmp_eq (pc := 1840) (tgt := 2384) hx hb dL_law_1840 (by decide) (fun _ => ?_) (fun c_ => absurd h.1 c_)
  exact hk _ _ H locs ls h.2 w hl
set_option maxHeartbeats 4000000 in
set_option maxRecDepth 100000 in
theorem lc_revision {p : Program} {l : Launch} {e : Env} {s : State} {m : MethodId} {below : List Frame} {meth : Method} {c : Code} {H : Heap} {locs : List Loc} {b L : Nat} {xs : Nat → Int32} {D : va_G} {g : Nat → ClassId} {aC aR : Nat → Nat} {u v : Mm} {ls : Array Slot} {i : Nat} (X : LX p s m meth c b L xs D g aC aR) (w : LW D g aC aR s u v H locs) (hR : Rel u v) (hl : lv_has ls 4 [(3, .int (nI i)), (2, .ref (aR 0)), (1, .ref (aC 0)), (0, .ref b)]) (h1 : vp_in (nI i + (1 : Int32)) L) (h2 : vp_in (nI i + (2 : Int32)) L) (h3 : vp_in (nI i + (3 : Int32)) L) (h4 : vp_in (nI i + (4 : Int32)) L) (h5 : vp_in (nI i + (5 : Int32)) L) (hk : ∀ (u v : Mm) (H : Heap) (locs : List Loc) (ls : Array Slot), Rel u v → LW D g aC aR s u v H locs → lv_has ls 4 [(3, .int (nI i)), (2, .ref (aR 0)), (1, .ref (aC 0)), (0, .ref b)] → W p l e room_1 s m #[Value.ref b] below meth c H locs 600000 7302250 (lw_Z below #[Value.ref b] s) (F0 m 2384 ls [])) : W p l e room_1 s m #[Value.ref b] below meth c H locs 600000 7302250 (lw_Z below #[Value.ref b] s) (F0 m 1845 ls []) := by
  obtain ⟨hx, hb, hr, hml, hown, hts, hX, hbl, hlocks, hgv⟩ := X.1
  have hbA : ¬ (fun q : Nat => s.heap.size ≤ q) b := Nat.not_le.mpr hbl
  refine lv_aload_n (pc := 1845) hx hb dL_law_1845 rfl (lv_at hl 2 rfl) ?_
  refine lv_aload_n (pc := 1846) hx hb dL_law_1846 rfl (lv_at hl 3 rfl) ?_
  refine lv_iload_n (pc := 1847) hx hb dL_law_1847 rfl (lv_at hl 0 rfl) ?_
  refine lv_iconst (pc := 1848) (v := (1 : Int32)) hx hb dL_law_1848 (by decide) ?_
  refine lv_iadd (pc := 1849) hx hb dL_law_1849 ?_
  refine va_sld (pc := 1850) hx hb hX hbl hbA w.2.2 h1 dL_law_1850 ?_
  refine lv_aload_n (pc := 1851) hx hb dL_law_1851 rfl (lv_at hl 3 rfl) ?_
  refine lv_iload_n (pc := 1852) hx hb dL_law_1852 rfl (lv_at hl 0 rfl) ?_
  refine lv_iconst (pc := 1853) (v := (2 : Int32)) hx hb dL_law_1853 (by decide) ?_
  refine lv_iadd (pc := 1854) hx hb dL_law_1854 ?_
  refine va_sld (pc := 1855) hx hb hX hbl hbA w.2.2 h2 dL_law_1855 ?_
  refine lv_aload_n (pc := 1856) hx hb dL_law_1856 rfl (lv_at hl 3 rfl) ?_
  refine lv_iload_n (pc := 1857) hx hb dL_law_1857 rfl (lv_at hl 0 rfl) ?_
  refine lv_iconst (pc := 1858) (v := (3 : Int32)) hx hb dL_law_1858 (by decide) ?_
  refine lv_iadd (pc := 1859) hx hb dL_law_1859 ?_
  refine va_sld (pc := 1860) hx hb hX hbl hbA w.2.2 h3 dL_law_1860 ?_
  have h := st_revision hR ((xs (nI i + (1 : Int32)).toNatClampNeg)) ((xs (nI i + (2 : Int32)).toNatClampNeg)) ((xs (nI i + (3 : Int32)).toNatClampNeg))
  refine LcallCl (pc := 1861) (rest := []) X w (LrunC (pc := 1861) X w (okX8_revision l X.2.2.2.1 h) kw1156 kmX8_revision ⟨rfl, rfl⟩ ⟨by decide, by decide⟩ rfl hl.1 rfl (Nat.le_of_ble_eq_true rfl) dL_law_1861) (fun r u1 H locs h w => ?_)
  refine lv_aload_n (pc := 1864) hx hb dL_law_1864 rfl (lv_at hl 1 rfl) ?_
  refine lv_aload_n (pc := 1865) hx hb dL_law_1865 rfl (lv_at hl 3 rfl) ?_
  refine lv_iload_n (pc := 1866) hx hb dL_law_1866 rfl (lv_at hl 0 rfl) ?_
  refine lv_iconst (pc := 1867) (v := (1 : Int32)) hx hb dL_law_1867 (by decide) ?_
  refine lv_iadd (pc := 1868) hx hb dL_law_1868 ?_
  refine va_sld (pc := 1869) hx hb hX hbl hbA w.2.2 h1 dL_law_1869 ?_
  refine lv_aload_n (pc := 1870) hx hb dL_law_1870 rfl (lv_at hl 3 rfl) ?_
  refine lv_iload_n (pc := 1871) hx hb dL_law_1871 rfl (lv_at hl 0 rfl) ?_
  refine lv_iconst (pc := 1872) (v := (2 : Int32)) hx hb dL_law_1872 (by decide) ?_
  refine lv_iadd (pc := 1873) hx hb dL_law_1873 ?_
  refine va_sld (pc := 1874) hx hb hX hbl hbA w.2.2 h2 dL_law_1874 ?_
  refine lv_aload_n (pc := 1875) hx hb dL_law_1875 rfl (lv_at hl 3 rfl) ?_
  refine lv_iload_n (pc := 1876) hx hb dL_law_1876 rfl (lv_at hl 0 rfl) ?_
  refine lv_iconst (pc := 1877) (v := (3 : Int32)) hx hb dL_law_1877 (by decide) ?_
  refine lv_iadd (pc := 1878) hx hb dL_law_1878 ?_
  refine va_sld (pc := 1879) hx hb hX hbl hbA w.2.2 h3 dL_law_1879 ?_
  refine LcallRl (pc := 1880) (rest := [.long r]) X w (LrunR (pc := 1880) X w (okX9_revision l X.2.2.2.2.1 h) kw1160 kmX9_revision ⟨rfl, rfl⟩ ⟨by decide, by decide⟩ rfl hl.1 rfl (Nat.le_of_ble_eq_true rfl) dL_law_1880) (fun r2 v1 H locs h w => ?_)
  refine lq_eq (pc := 1883) (tgt := 2384) hx hb dL_law_1883 dL_law_1884 (by decide) (fun _ => ?_) (fun c_ => absurd h.1 c_)
  exact hk _ _ H locs ls h.2 w hl
set_option maxHeartbeats 4000000 in
set_option maxRecDepth 100000 in
theorem lc_steps {p : Program} {l : Launch} {e : Env} {s : State} {m : MethodId} {below : List Frame} {meth : Method} {c : Code} {H : Heap} {locs : List Loc} {b L : Nat} {xs : Nat → Int32} {D : va_G} {g : Nat → ClassId} {aC aR : Nat → Nat} {u v : Mm} {ls : Array Slot} {i : Nat} (X : LX p s m meth c b L xs D g aC aR) (w : LW D g aC aR s u v H locs) (hR : Rel u v) (hl : lv_has ls 4 [(3, .int (nI i)), (2, .ref (aR 0)), (1, .ref (aC 0)), (0, .ref b)]) (h1 : vp_in (nI i + (1 : Int32)) L) (h2 : vp_in (nI i + (2 : Int32)) L) (h3 : vp_in (nI i + (3 : Int32)) L) (h4 : vp_in (nI i + (4 : Int32)) L) (h5 : vp_in (nI i + (5 : Int32)) L) (hk : ∀ (u v : Mm) (H : Heap) (locs : List Loc) (ls : Array Slot), Rel u v → LW D g aC aR s u v H locs → lv_has ls 4 [(3, .int (nI i)), (2, .ref (aR 0)), (1, .ref (aC 0)), (0, .ref b)] → W p l e room_1 s m #[Value.ref b] below meth c H locs 600000 7302250 (lw_Z below #[Value.ref b] s) (F0 m 2384 ls [])) : W p l e room_1 s m #[Value.ref b] below meth c H locs 600000 7302250 (lw_Z below #[Value.ref b] s) (F0 m 1889 ls []) := by
  obtain ⟨hx, hb, hr, hml, hown, hts, hX, hbl, hlocks, hgv⟩ := X.1
  have hbA : ¬ (fun q : Nat => s.heap.size ≤ q) b := Nat.not_le.mpr hbl
  refine lv_aload_n (pc := 1889) hx hb dL_law_1889 rfl (lv_at hl 2 rfl) ?_
  refine lv_aload_n (pc := 1890) hx hb dL_law_1890 rfl (lv_at hl 3 rfl) ?_
  refine lv_iload_n (pc := 1891) hx hb dL_law_1891 rfl (lv_at hl 0 rfl) ?_
  refine lv_iconst (pc := 1892) (v := (1 : Int32)) hx hb dL_law_1892 (by decide) ?_
  refine lv_iadd (pc := 1893) hx hb dL_law_1893 ?_
  refine va_sld (pc := 1894) hx hb hX hbl hbA w.2.2 h1 dL_law_1894 ?_
  refine lv_aload_n (pc := 1895) hx hb dL_law_1895 rfl (lv_at hl 3 rfl) ?_
  refine lv_iload_n (pc := 1896) hx hb dL_law_1896 rfl (lv_at hl 0 rfl) ?_
  refine lv_iconst (pc := 1897) (v := (2 : Int32)) hx hb dL_law_1897 (by decide) ?_
  refine lv_iadd (pc := 1898) hx hb dL_law_1898 ?_
  refine va_sld (pc := 1899) hx hb hX hbl hbA w.2.2 h2 dL_law_1899 ?_
  refine lv_aload_n (pc := 1900) hx hb dL_law_1900 rfl (lv_at hl 3 rfl) ?_
  refine lv_iload_n (pc := 1901) hx hb dL_law_1901 rfl (lv_at hl 0 rfl) ?_
  refine lv_iconst (pc := 1902) (v := (3 : Int32)) hx hb dL_law_1902 (by decide) ?_
  refine lv_iadd (pc := 1903) hx hb dL_law_1903 ?_
  refine va_sld (pc := 1904) hx hb hX hbl hbA w.2.2 h3 dL_law_1904 ?_
  have h := st_steps hR ((xs (nI i + (1 : Int32)).toNatClampNeg)) ((xs (nI i + (2 : Int32)).toNatClampNeg)) ((xs (nI i + (3 : Int32)).toNatClampNeg))
  refine LcallCi (pc := 1905) (rest := []) X w (LrunC (pc := 1905) X w (okX8_steps l X.2.2.2.1 h) kw1164 kmX8_steps ⟨rfl, rfl⟩ ⟨by decide, by decide⟩ rfl hl.1 rfl (Nat.le_of_ble_eq_true rfl) dL_law_1905) (fun r u1 H locs h w => ?_)
  obtain ⟨rfl, h⟩ := h
  refine lv_aload_n (pc := 1908) hx hb dL_law_1908 rfl (lv_at hl 1 rfl) ?_
  refine lv_aload_n (pc := 1909) hx hb dL_law_1909 rfl (lv_at hl 3 rfl) ?_
  refine lv_iload_n (pc := 1910) hx hb dL_law_1910 rfl (lv_at hl 0 rfl) ?_
  refine lv_iconst (pc := 1911) (v := (1 : Int32)) hx hb dL_law_1911 (by decide) ?_
  refine lv_iadd (pc := 1912) hx hb dL_law_1912 ?_
  refine va_sld (pc := 1913) hx hb hX hbl hbA w.2.2 h1 dL_law_1913 ?_
  refine lv_aload_n (pc := 1914) hx hb dL_law_1914 rfl (lv_at hl 3 rfl) ?_
  refine lv_iload_n (pc := 1915) hx hb dL_law_1915 rfl (lv_at hl 0 rfl) ?_
  refine lv_iconst (pc := 1916) (v := (2 : Int32)) hx hb dL_law_1916 (by decide) ?_
  refine lv_iadd (pc := 1917) hx hb dL_law_1917 ?_
  refine va_sld (pc := 1918) hx hb hX hbl hbA w.2.2 h2 dL_law_1918 ?_
  refine lv_aload_n (pc := 1919) hx hb dL_law_1919 rfl (lv_at hl 3 rfl) ?_
  refine lv_iload_n (pc := 1920) hx hb dL_law_1920 rfl (lv_at hl 0 rfl) ?_
  refine lv_iconst (pc := 1921) (v := (3 : Int32)) hx hb dL_law_1921 (by decide) ?_
  refine lv_iadd (pc := 1922) hx hb dL_law_1922 ?_
  refine va_sld (pc := 1923) hx hb hX hbl hbA w.2.2 h3 dL_law_1923 ?_
  refine LcallRi (pc := 1924) (rest := [.int r]) X w (LrunR (pc := 1924) X w (okX9_steps l X.2.2.2.2.1 h) kw1168 kmX9_steps ⟨rfl, rfl⟩ ⟨by decide, by decide⟩ rfl hl.1 rfl (Nat.le_of_ble_eq_true rfl) dL_law_1924) (fun r2 v1 H locs h w => ?_)
  refine lv_icmp_eq (pc := 1927) (tgt := 2384) hx hb dL_law_1927 (by decide) (fun _ => ?_) (fun c_ => absurd h.1 c_)
  exact hk _ _ H locs ls h.2 w hl
set_option maxHeartbeats 4000000 in
set_option maxRecDepth 100000 in
theorem lc_step {p : Program} {l : Launch} {e : Env} {s : State} {m : MethodId} {below : List Frame} {meth : Method} {c : Code} {H : Heap} {locs : List Loc} {b L : Nat} {xs : Nat → Int32} {D : va_G} {g : Nat → ClassId} {aC aR : Nat → Nat} {u v : Mm} {ls : Array Slot} {i : Nat} (X : LX p s m meth c b L xs D g aC aR) (w : LW D g aC aR s u v H locs) (hR : Rel u v) (hl : lv_has ls 4 [(3, .int (nI i)), (2, .ref (aR 0)), (1, .ref (aC 0)), (0, .ref b)]) (h1 : vp_in (nI i + (1 : Int32)) L) (h2 : vp_in (nI i + (2 : Int32)) L) (h3 : vp_in (nI i + (3 : Int32)) L) (h4 : vp_in (nI i + (4 : Int32)) L) (h5 : vp_in (nI i + (5 : Int32)) L) (hk : ∀ (u v : Mm) (H : Heap) (locs : List Loc) (ls : Array Slot), Rel u v → LW D g aC aR s u v H locs → lv_has ls 4 [(3, .int (nI i)), (2, .ref (aR 0)), (1, .ref (aC 0)), (0, .ref b)] → W p l e room_1 s m #[Value.ref b] below meth c H locs 600000 7302250 (lw_Z below #[Value.ref b] s) (F0 m 2384 ls [])) : W p l e room_1 s m #[Value.ref b] below meth c H locs 600000 7302250 (lw_Z below #[Value.ref b] s) (F0 m 1932 ls []) := by
  obtain ⟨hx, hb, hr, hml, hown, hts, hX, hbl, hlocks, hgv⟩ := X.1
  have hbA : ¬ (fun q : Nat => s.heap.size ≤ q) b := Nat.not_le.mpr hbl
  refine lv_aload_n (pc := 1932) hx hb dL_law_1932 rfl (lv_at hl 2 rfl) ?_
  refine lv_aload_n (pc := 1933) hx hb dL_law_1933 rfl (lv_at hl 3 rfl) ?_
  refine lv_iload_n (pc := 1934) hx hb dL_law_1934 rfl (lv_at hl 0 rfl) ?_
  refine lv_iconst (pc := 1935) (v := (1 : Int32)) hx hb dL_law_1935 (by decide) ?_
  refine lv_iadd (pc := 1936) hx hb dL_law_1936 ?_
  refine va_sld (pc := 1937) hx hb hX hbl hbA w.2.2 h1 dL_law_1937 ?_
  refine lv_aload_n (pc := 1938) hx hb dL_law_1938 rfl (lv_at hl 3 rfl) ?_
  refine lv_iload_n (pc := 1939) hx hb dL_law_1939 rfl (lv_at hl 0 rfl) ?_
  refine lv_iconst (pc := 1940) (v := (2 : Int32)) hx hb dL_law_1940 (by decide) ?_
  refine lv_iadd (pc := 1941) hx hb dL_law_1941 ?_
  refine va_sld (pc := 1942) hx hb hX hbl hbA w.2.2 h2 dL_law_1942 ?_
  refine lv_aload_n (pc := 1943) hx hb dL_law_1943 rfl (lv_at hl 3 rfl) ?_
  refine lv_iload_n (pc := 1944) hx hb dL_law_1944 rfl (lv_at hl 0 rfl) ?_
  refine lv_iconst (pc := 1945) (v := (3 : Int32)) hx hb dL_law_1945 (by decide) ?_
  refine lv_iadd (pc := 1946) hx hb dL_law_1946 ?_
  refine va_sld (pc := 1947) hx hb hX hbl hbA w.2.2 h3 dL_law_1947 ?_
  refine lv_aload_n (pc := 1948) hx hb dL_law_1948 rfl (lv_at hl 3 rfl) ?_
  refine lv_iload_n (pc := 1949) hx hb dL_law_1949 rfl (lv_at hl 0 rfl) ?_
  refine lv_iconst (pc := 1950) (v := (4 : Int32)) hx hb dL_law_1950 (by decide) ?_
  refine lv_iadd (pc := 1951) hx hb dL_law_1951 ?_
  refine va_sld (pc := 1952) hx hb hX hbl hbA w.2.2 h4 dL_law_1952 ?_
  refine lv_aload_n (pc := 1953) hx hb dL_law_1953 rfl (lv_at hl 3 rfl) ?_
  refine lv_iload_n (pc := 1954) hx hb dL_law_1954 rfl (lv_at hl 0 rfl) ?_
  refine lv_iconst (pc := 1955) (v := (5 : Int32)) hx hb dL_law_1955 (by decide) ?_
  refine lv_iadd (pc := 1956) hx hb dL_law_1956 ?_
  refine va_sld (pc := 1957) hx hb hX hbl hbA w.2.2 h5 dL_law_1957 ?_
  have h := st_step hR ((xs (nI i + (1 : Int32)).toNatClampNeg)) ((xs (nI i + (2 : Int32)).toNatClampNeg)) ((xs (nI i + (3 : Int32)).toNatClampNeg)) ((xs (nI i + (4 : Int32)).toNatClampNeg)) ((xs (nI i + (5 : Int32)).toNatClampNeg))
  refine LcallCl (pc := 1958) (rest := []) X w (LrunC (pc := 1958) X w (okX8_step l X.2.2.2.1 h) kw1172 kmX8_step ⟨rfl, rfl⟩ ⟨by decide, by decide⟩ rfl hl.1 rfl (Nat.le_of_ble_eq_true rfl) dL_law_1958) (fun r u1 H locs h w => ?_)
  refine lv_aload_n (pc := 1961) hx hb dL_law_1961 rfl (lv_at hl 1 rfl) ?_
  refine lv_aload_n (pc := 1962) hx hb dL_law_1962 rfl (lv_at hl 3 rfl) ?_
  refine lv_iload_n (pc := 1963) hx hb dL_law_1963 rfl (lv_at hl 0 rfl) ?_
  refine lv_iconst (pc := 1964) (v := (1 : Int32)) hx hb dL_law_1964 (by decide) ?_
  refine lv_iadd (pc := 1965) hx hb dL_law_1965 ?_
  refine va_sld (pc := 1966) hx hb hX hbl hbA w.2.2 h1 dL_law_1966 ?_
  refine lv_aload_n (pc := 1967) hx hb dL_law_1967 rfl (lv_at hl 3 rfl) ?_
  refine lv_iload_n (pc := 1968) hx hb dL_law_1968 rfl (lv_at hl 0 rfl) ?_
  refine lv_iconst (pc := 1969) (v := (2 : Int32)) hx hb dL_law_1969 (by decide) ?_
  refine lv_iadd (pc := 1970) hx hb dL_law_1970 ?_
  refine va_sld (pc := 1971) hx hb hX hbl hbA w.2.2 h2 dL_law_1971 ?_
  refine lv_aload_n (pc := 1972) hx hb dL_law_1972 rfl (lv_at hl 3 rfl) ?_
  refine lv_iload_n (pc := 1973) hx hb dL_law_1973 rfl (lv_at hl 0 rfl) ?_
  refine lv_iconst (pc := 1974) (v := (3 : Int32)) hx hb dL_law_1974 (by decide) ?_
  refine lv_iadd (pc := 1975) hx hb dL_law_1975 ?_
  refine va_sld (pc := 1976) hx hb hX hbl hbA w.2.2 h3 dL_law_1976 ?_
  refine lv_aload_n (pc := 1977) hx hb dL_law_1977 rfl (lv_at hl 3 rfl) ?_
  refine lv_iload_n (pc := 1978) hx hb dL_law_1978 rfl (lv_at hl 0 rfl) ?_
  refine lv_iconst (pc := 1979) (v := (4 : Int32)) hx hb dL_law_1979 (by decide) ?_
  refine lv_iadd (pc := 1980) hx hb dL_law_1980 ?_
  refine va_sld (pc := 1981) hx hb hX hbl hbA w.2.2 h4 dL_law_1981 ?_
  refine lv_aload_n (pc := 1982) hx hb dL_law_1982 rfl (lv_at hl 3 rfl) ?_
  refine lv_iload_n (pc := 1983) hx hb dL_law_1983 rfl (lv_at hl 0 rfl) ?_
  refine lv_iconst (pc := 1984) (v := (5 : Int32)) hx hb dL_law_1984 (by decide) ?_
  refine lv_iadd (pc := 1985) hx hb dL_law_1985 ?_
  refine va_sld (pc := 1986) hx hb hX hbl hbA w.2.2 h5 dL_law_1986 ?_
  refine LcallRl (pc := 1987) (rest := [.long r]) X w (LrunR (pc := 1987) X w (okX9_step l X.2.2.2.2.1 h) kw1176 kmX9_step ⟨rfl, rfl⟩ ⟨by decide, by decide⟩ rfl hl.1 rfl (Nat.le_of_ble_eq_true rfl) dL_law_1987) (fun r2 v1 H locs h w => ?_)
  refine lq_eq (pc := 1990) (tgt := 2384) hx hb dL_law_1990 dL_law_1991 (by decide) (fun _ => ?_) (fun c_ => absurd h.1 c_)
  exact hk _ _ H locs ls h.2 w hl
set_option maxHeartbeats 4000000 in
set_option maxRecDepth 100000 in
theorem lc_led {p : Program} {l : Launch} {e : Env} {s : State} {m : MethodId} {below : List Frame} {meth : Method} {c : Code} {H : Heap} {locs : List Loc} {b L : Nat} {xs : Nat → Int32} {D : va_G} {g : Nat → ClassId} {aC aR : Nat → Nat} {u v : Mm} {ls : Array Slot} {i : Nat} (X : LX p s m meth c b L xs D g aC aR) (w : LW D g aC aR s u v H locs) (hR : Rel u v) (hl : lv_has ls 4 [(3, .int (nI i)), (2, .ref (aR 0)), (1, .ref (aC 0)), (0, .ref b)]) (h1 : vp_in (nI i + (1 : Int32)) L) (h2 : vp_in (nI i + (2 : Int32)) L) (h3 : vp_in (nI i + (3 : Int32)) L) (h4 : vp_in (nI i + (4 : Int32)) L) (h5 : vp_in (nI i + (5 : Int32)) L) (hk : ∀ (u v : Mm) (H : Heap) (locs : List Loc) (ls : Array Slot), Rel u v → LW D g aC aR s u v H locs → lv_has ls 4 [(3, .int (nI i)), (2, .ref (aR 0)), (1, .ref (aC 0)), (0, .ref b)] → W p l e room_1 s m #[Value.ref b] below meth c H locs 600000 7302250 (lw_Z below #[Value.ref b] s) (F0 m 2384 ls [])) : W p l e room_1 s m #[Value.ref b] below meth c H locs 600000 7302250 (lw_Z below #[Value.ref b] s) (F0 m 1996 ls []) := by
  obtain ⟨hx, hb, hr, hml, hown, hts, hX, hbl, hlocks, hgv⟩ := X.1
  have hbA : ¬ (fun q : Nat => s.heap.size ≤ q) b := Nat.not_le.mpr hbl
  refine lv_aload_n (pc := 1996) hx hb dL_law_1996 rfl (lv_at hl 2 rfl) ?_
  refine lv_aload_n (pc := 1997) hx hb dL_law_1997 rfl (lv_at hl 3 rfl) ?_
  refine lv_iload_n (pc := 1998) hx hb dL_law_1998 rfl (lv_at hl 0 rfl) ?_
  refine lv_iconst (pc := 1999) (v := (1 : Int32)) hx hb dL_law_1999 (by decide) ?_
  refine lv_iadd (pc := 2000) hx hb dL_law_2000 ?_
  refine va_sld (pc := 2001) hx hb hX hbl hbA w.2.2 h1 dL_law_2001 ?_
  refine lv_aload_n (pc := 2002) hx hb dL_law_2002 rfl (lv_at hl 3 rfl) ?_
  refine lv_iload_n (pc := 2003) hx hb dL_law_2003 rfl (lv_at hl 0 rfl) ?_
  refine lv_iconst (pc := 2004) (v := (2 : Int32)) hx hb dL_law_2004 (by decide) ?_
  refine lv_iadd (pc := 2005) hx hb dL_law_2005 ?_
  refine va_sld (pc := 2006) hx hb hX hbl hbA w.2.2 h2 dL_law_2006 ?_
  refine lv_if_eq (pc := 2007) (tgt := 2014) hx hb dL_law_2007 (by decide) (fun c_ => ?_) (fun c_ => ?_)
  · skip
    refine lv_iconst (pc := 2014) (v := (0 : Int32)) hx hb dL_law_2014 (by decide) ?_
    have h := st_led hR ((xs (nI i + (1 : Int32)).toNatClampNeg)) ((0 : Int32)) (Or.inl rfl)
    refine LcallCl (pc := 2015) (rest := []) X w (LrunC (pc := 2015) X w (okX8_led l X.2.2.2.1 h) kw1180 kmX8_led ⟨rfl, rfl⟩ ⟨by decide, by decide⟩ rfl hl.1 rfl (Nat.le_of_ble_eq_true rfl) dL_law_2015) (fun r u1 H locs h w => ?_)
    refine lv_aload_n (pc := 2018) hx hb dL_law_2018 rfl (lv_at hl 1 rfl) ?_
    refine lv_aload_n (pc := 2019) hx hb dL_law_2019 rfl (lv_at hl 3 rfl) ?_
    refine lv_iload_n (pc := 2020) hx hb dL_law_2020 rfl (lv_at hl 0 rfl) ?_
    refine lv_iconst (pc := 2021) (v := (1 : Int32)) hx hb dL_law_2021 (by decide) ?_
    refine lv_iadd (pc := 2022) hx hb dL_law_2022 ?_
    refine va_sld (pc := 2023) hx hb hX hbl hbA w.2.2 h1 dL_law_2023 ?_
    refine lv_aload_n (pc := 2024) hx hb dL_law_2024 rfl (lv_at hl 3 rfl) ?_
    refine lv_iload_n (pc := 2025) hx hb dL_law_2025 rfl (lv_at hl 0 rfl) ?_
    refine lv_iconst (pc := 2026) (v := (2 : Int32)) hx hb dL_law_2026 (by decide) ?_
    refine lv_iadd (pc := 2027) hx hb dL_law_2027 ?_
    refine va_sld (pc := 2028) hx hb hX hbl hbA w.2.2 h2 dL_law_2028 ?_
    refine lv_if_eq (pc := 2029) (tgt := 2036) hx hb dL_law_2029 (by decide) (fun _ => ?_) (fun d_ => absurd c_ d_)
    refine lv_iconst (pc := 2036) (v := (0 : Int32)) hx hb dL_law_2036 (by decide) ?_
    refine LcallRl (pc := 2037) (rest := [.long r]) X w (LrunR (pc := 2037) X w (okX9_led l X.2.2.2.2.1 h) kw1184 kmX9_led ⟨rfl, rfl⟩ ⟨by decide, by decide⟩ rfl hl.1 rfl (Nat.le_of_ble_eq_true rfl) dL_law_2037) (fun r2 v1 H locs h w => ?_)
    refine lq_eq (pc := 2040) (tgt := 2384) hx hb dL_law_2040 dL_law_2041 (by decide) (fun _ => ?_) (fun c_ => absurd h.1 c_)
    exact hk _ _ H locs ls h.2 w hl
  · skip
    refine lv_iconst (pc := 2010) (v := (1 : Int32)) hx hb dL_law_2010 (by decide) ?_
    refine lv_goto (pc := 2011) (tgt := 2015) hx hb dL_law_2011 (by decide) ?_
    have h := st_led hR ((xs (nI i + (1 : Int32)).toNatClampNeg)) ((1 : Int32)) (Or.inr rfl)
    refine LcallCl (pc := 2015) (rest := []) X w (LrunC (pc := 2015) X w (okX8_led l X.2.2.2.1 h) kw1180 kmX8_led ⟨rfl, rfl⟩ ⟨by decide, by decide⟩ rfl hl.1 rfl (Nat.le_of_ble_eq_true rfl) dL_law_2015) (fun r u1 H locs h w => ?_)
    refine lv_aload_n (pc := 2018) hx hb dL_law_2018 rfl (lv_at hl 1 rfl) ?_
    refine lv_aload_n (pc := 2019) hx hb dL_law_2019 rfl (lv_at hl 3 rfl) ?_
    refine lv_iload_n (pc := 2020) hx hb dL_law_2020 rfl (lv_at hl 0 rfl) ?_
    refine lv_iconst (pc := 2021) (v := (1 : Int32)) hx hb dL_law_2021 (by decide) ?_
    refine lv_iadd (pc := 2022) hx hb dL_law_2022 ?_
    refine va_sld (pc := 2023) hx hb hX hbl hbA w.2.2 h1 dL_law_2023 ?_
    refine lv_aload_n (pc := 2024) hx hb dL_law_2024 rfl (lv_at hl 3 rfl) ?_
    refine lv_iload_n (pc := 2025) hx hb dL_law_2025 rfl (lv_at hl 0 rfl) ?_
    refine lv_iconst (pc := 2026) (v := (2 : Int32)) hx hb dL_law_2026 (by decide) ?_
    refine lv_iadd (pc := 2027) hx hb dL_law_2027 ?_
    refine va_sld (pc := 2028) hx hb hX hbl hbA w.2.2 h2 dL_law_2028 ?_
    refine lv_if_eq (pc := 2029) (tgt := 2036) hx hb dL_law_2029 (by decide) (fun d_ => absurd d_ c_) (fun _ => ?_)
    refine lv_iconst (pc := 2032) (v := (1 : Int32)) hx hb dL_law_2032 (by decide) ?_
    refine lv_goto (pc := 2033) (tgt := 2037) hx hb dL_law_2033 (by decide) ?_
    refine LcallRl (pc := 2037) (rest := [.long r]) X w (LrunR (pc := 2037) X w (okX9_led l X.2.2.2.2.1 h) kw1184 kmX9_led ⟨rfl, rfl⟩ ⟨by decide, by decide⟩ rfl hl.1 rfl (Nat.le_of_ble_eq_true rfl) dL_law_2037) (fun r2 v1 H locs h w => ?_)
    refine lq_eq (pc := 2040) (tgt := 2384) hx hb dL_law_2040 dL_law_2041 (by decide) (fun _ => ?_) (fun c_ => absurd h.1 c_)
    exact hk _ _ H locs ls h.2 w hl
set_option maxHeartbeats 4000000 in
set_option maxRecDepth 100000 in
theorem lc_sheet {p : Program} {l : Launch} {e : Env} {s : State} {m : MethodId} {below : List Frame} {meth : Method} {c : Code} {H : Heap} {locs : List Loc} {b L : Nat} {xs : Nat → Int32} {D : va_G} {g : Nat → ClassId} {aC aR : Nat → Nat} {u v : Mm} {ls : Array Slot} {i : Nat} (X : LX p s m meth c b L xs D g aC aR) (w : LW D g aC aR s u v H locs) (hR : Rel u v) (hl : lv_has ls 4 [(3, .int (nI i)), (2, .ref (aR 0)), (1, .ref (aC 0)), (0, .ref b)]) (h1 : vp_in (nI i + (1 : Int32)) L) (h2 : vp_in (nI i + (2 : Int32)) L) (h3 : vp_in (nI i + (3 : Int32)) L) (h4 : vp_in (nI i + (4 : Int32)) L) (h5 : vp_in (nI i + (5 : Int32)) L) (hk : ∀ (u v : Mm) (H : Heap) (locs : List Loc) (ls : Array Slot), Rel u v → LW D g aC aR s u v H locs → lv_has ls 4 [(3, .int (nI i)), (2, .ref (aR 0)), (1, .ref (aC 0)), (0, .ref b)] → W p l e room_1 s m #[Value.ref b] below meth c H locs 600000 7302250 (lw_Z below #[Value.ref b] s) (F0 m 2384 ls [])) : W p l e room_1 s m #[Value.ref b] below meth c H locs 600000 7302250 (lw_Z below #[Value.ref b] s) (F0 m 2046 ls []) := by
  obtain ⟨hx, hb, hr, hml, hown, hts, hX, hbl, hlocks, hgv⟩ := X.1
  have hbA : ¬ (fun q : Nat => s.heap.size ≤ q) b := Nat.not_le.mpr hbl
  refine lv_aload_n (pc := 2046) hx hb dL_law_2046 rfl (lv_at hl 2 rfl) ?_
  refine lv_aload_n (pc := 2047) hx hb dL_law_2047 rfl (lv_at hl 3 rfl) ?_
  refine lv_iload_n (pc := 2048) hx hb dL_law_2048 rfl (lv_at hl 0 rfl) ?_
  refine lv_iconst (pc := 2049) (v := (1 : Int32)) hx hb dL_law_2049 (by decide) ?_
  refine lv_iadd (pc := 2050) hx hb dL_law_2050 ?_
  refine va_sld (pc := 2051) hx hb hX hbl hbA w.2.2 h1 dL_law_2051 ?_
  refine lv_aload_n (pc := 2052) hx hb dL_law_2052 rfl (lv_at hl 3 rfl) ?_
  refine lv_iload_n (pc := 2053) hx hb dL_law_2053 rfl (lv_at hl 0 rfl) ?_
  refine lv_iconst (pc := 2054) (v := (2 : Int32)) hx hb dL_law_2054 (by decide) ?_
  refine lv_iadd (pc := 2055) hx hb dL_law_2055 ?_
  refine va_sld (pc := 2056) hx hb hX hbl hbA w.2.2 h2 dL_law_2056 ?_
  refine lv_aload_n (pc := 2057) hx hb dL_law_2057 rfl (lv_at hl 3 rfl) ?_
  refine lv_iload_n (pc := 2058) hx hb dL_law_2058 rfl (lv_at hl 0 rfl) ?_
  refine lv_iconst (pc := 2059) (v := (3 : Int32)) hx hb dL_law_2059 (by decide) ?_
  refine lv_iadd (pc := 2060) hx hb dL_law_2060 ?_
  refine va_sld (pc := 2061) hx hb hX hbl hbA w.2.2 h3 dL_law_2061 ?_
  have h := st_sheet hR ((xs (nI i + (1 : Int32)).toNatClampNeg)) ((xs (nI i + (2 : Int32)).toNatClampNeg)) ((xs (nI i + (3 : Int32)).toNatClampNeg))
  refine LcallCi (pc := 2062) (rest := []) X w (LrunC (pc := 2062) X w (okX8_sheet l X.2.2.2.1 h) kw1188 kmX8_sheet ⟨rfl, rfl⟩ ⟨by decide, by decide⟩ rfl hl.1 rfl (Nat.le_of_ble_eq_true rfl) dL_law_2062) (fun r u1 H locs h w => ?_)
  refine lv_aload_n (pc := 2065) hx hb dL_law_2065 rfl (lv_at hl 1 rfl) ?_
  refine lv_aload_n (pc := 2066) hx hb dL_law_2066 rfl (lv_at hl 3 rfl) ?_
  refine lv_iload_n (pc := 2067) hx hb dL_law_2067 rfl (lv_at hl 0 rfl) ?_
  refine lv_iconst (pc := 2068) (v := (1 : Int32)) hx hb dL_law_2068 (by decide) ?_
  refine lv_iadd (pc := 2069) hx hb dL_law_2069 ?_
  refine va_sld (pc := 2070) hx hb hX hbl hbA w.2.2 h1 dL_law_2070 ?_
  refine lv_aload_n (pc := 2071) hx hb dL_law_2071 rfl (lv_at hl 3 rfl) ?_
  refine lv_iload_n (pc := 2072) hx hb dL_law_2072 rfl (lv_at hl 0 rfl) ?_
  refine lv_iconst (pc := 2073) (v := (2 : Int32)) hx hb dL_law_2073 (by decide) ?_
  refine lv_iadd (pc := 2074) hx hb dL_law_2074 ?_
  refine va_sld (pc := 2075) hx hb hX hbl hbA w.2.2 h2 dL_law_2075 ?_
  refine lv_aload_n (pc := 2076) hx hb dL_law_2076 rfl (lv_at hl 3 rfl) ?_
  refine lv_iload_n (pc := 2077) hx hb dL_law_2077 rfl (lv_at hl 0 rfl) ?_
  refine lv_iconst (pc := 2078) (v := (3 : Int32)) hx hb dL_law_2078 (by decide) ?_
  refine lv_iadd (pc := 2079) hx hb dL_law_2079 ?_
  refine va_sld (pc := 2080) hx hb hX hbl hbA w.2.2 h3 dL_law_2080 ?_
  refine LcallRi (pc := 2081) (rest := [.int r]) X w (LrunR (pc := 2081) X w (okX9_sheet l X.2.2.2.2.1 h) kw1192 kmX9_sheet ⟨rfl, rfl⟩ ⟨by decide, by decide⟩ rfl hl.1 rfl (Nat.le_of_ble_eq_true rfl) dL_law_2081) (fun r2 v1 H locs h w => ?_)
  refine lv_icmp_eq (pc := 2084) (tgt := 2384) hx hb dL_law_2084 (by decide) (fun _ => ?_) (fun c_ => absurd h.1 c_)
  exact hk _ _ H locs ls h.2 w hl
set_option maxHeartbeats 4000000 in
set_option maxRecDepth 100000 in
theorem lc_lose {p : Program} {l : Launch} {e : Env} {s : State} {m : MethodId} {below : List Frame} {meth : Method} {c : Code} {H : Heap} {locs : List Loc} {b L : Nat} {xs : Nat → Int32} {D : va_G} {g : Nat → ClassId} {aC aR : Nat → Nat} {u v : Mm} {ls : Array Slot} {i : Nat} (X : LX p s m meth c b L xs D g aC aR) (w : LW D g aC aR s u v H locs) (hR : Rel u v) (hl : lv_has ls 4 [(3, .int (nI i)), (2, .ref (aR 0)), (1, .ref (aC 0)), (0, .ref b)]) (h1 : vp_in (nI i + (1 : Int32)) L) (h2 : vp_in (nI i + (2 : Int32)) L) (h3 : vp_in (nI i + (3 : Int32)) L) (h4 : vp_in (nI i + (4 : Int32)) L) (h5 : vp_in (nI i + (5 : Int32)) L) (hk : ∀ (u v : Mm) (H : Heap) (locs : List Loc) (ls : Array Slot), Rel u v → LW D g aC aR s u v H locs → lv_has ls 4 [(3, .int (nI i)), (2, .ref (aR 0)), (1, .ref (aC 0)), (0, .ref b)] → W p l e room_1 s m #[Value.ref b] below meth c H locs 600000 7302250 (lw_Z below #[Value.ref b] s) (F0 m 2384 ls [])) : W p l e room_1 s m #[Value.ref b] below meth c H locs 600000 7302250 (lw_Z below #[Value.ref b] s) (F0 m 2089 ls []) := by
  obtain ⟨hx, hb, hr, hml, hown, hts, hX, hbl, hlocks, hgv⟩ := X.1
  have hbA : ¬ (fun q : Nat => s.heap.size ≤ q) b := Nat.not_le.mpr hbl
  refine lv_aload_n (pc := 2089) hx hb dL_law_2089 rfl (lv_at hl 2 rfl) ?_
  refine lv_aload_n (pc := 2090) hx hb dL_law_2090 rfl (lv_at hl 3 rfl) ?_
  refine lv_iload_n (pc := 2091) hx hb dL_law_2091 rfl (lv_at hl 0 rfl) ?_
  refine lv_iconst (pc := 2092) (v := (1 : Int32)) hx hb dL_law_2092 (by decide) ?_
  refine lv_iadd (pc := 2093) hx hb dL_law_2093 ?_
  refine va_sld (pc := 2094) hx hb hX hbl hbA w.2.2 h1 dL_law_2094 ?_
  have h := st_lose hR ((xs (nI i + (1 : Int32)).toNatClampNeg))
  refine LcallCi (pc := 2095) (rest := []) X w (LrunC (pc := 2095) X w (okX8_lose l X.2.2.2.1 h) kw1196 kmX8_lose ⟨rfl, rfl⟩ ⟨by decide, by decide⟩ rfl hl.1 rfl (Nat.le_of_ble_eq_true rfl) dL_law_2095) (fun r u1 H locs h w => ?_)
  refine lv_aload_n (pc := 2098) hx hb dL_law_2098 rfl (lv_at hl 1 rfl) ?_
  refine lv_aload_n (pc := 2099) hx hb dL_law_2099 rfl (lv_at hl 3 rfl) ?_
  refine lv_iload_n (pc := 2100) hx hb dL_law_2100 rfl (lv_at hl 0 rfl) ?_
  refine lv_iconst (pc := 2101) (v := (1 : Int32)) hx hb dL_law_2101 (by decide) ?_
  refine lv_iadd (pc := 2102) hx hb dL_law_2102 ?_
  refine va_sld (pc := 2103) hx hb hX hbl hbA w.2.2 h1 dL_law_2103 ?_
  refine LcallRi (pc := 2104) (rest := [.int r]) X w (LrunR (pc := 2104) X w (okX9_lose l X.2.2.2.2.1 h) kw1200 kmX9_lose ⟨rfl, rfl⟩ ⟨by decide, by decide⟩ rfl hl.1 rfl (Nat.le_of_ble_eq_true rfl) dL_law_2104) (fun r2 v1 H locs h w => ?_)
  refine lv_icmp_eq (pc := 2107) (tgt := 2384) hx hb dL_law_2107 (by decide) (fun _ => ?_) (fun c_ => absurd h.1 c_)
  exact hk _ _ H locs ls h.2 w hl
set_option maxHeartbeats 4000000 in
set_option maxRecDepth 100000 in
theorem lc_put {p : Program} {l : Launch} {e : Env} {s : State} {m : MethodId} {below : List Frame} {meth : Method} {c : Code} {H : Heap} {locs : List Loc} {b L : Nat} {xs : Nat → Int32} {D : va_G} {g : Nat → ClassId} {aC aR : Nat → Nat} {u v : Mm} {ls : Array Slot} {i : Nat} (X : LX p s m meth c b L xs D g aC aR) (w : LW D g aC aR s u v H locs) (hR : Rel u v) (hl : lv_has ls 4 [(3, .int (nI i)), (2, .ref (aR 0)), (1, .ref (aC 0)), (0, .ref b)]) (h1 : vp_in (nI i + (1 : Int32)) L) (h2 : vp_in (nI i + (2 : Int32)) L) (h3 : vp_in (nI i + (3 : Int32)) L) (h4 : vp_in (nI i + (4 : Int32)) L) (h5 : vp_in (nI i + (5 : Int32)) L) (hk : ∀ (u v : Mm) (H : Heap) (locs : List Loc) (ls : Array Slot), Rel u v → LW D g aC aR s u v H locs → lv_has ls 4 [(3, .int (nI i)), (2, .ref (aR 0)), (1, .ref (aC 0)), (0, .ref b)] → W p l e room_1 s m #[Value.ref b] below meth c H locs 600000 7302250 (lw_Z below #[Value.ref b] s) (F0 m 2384 ls [])) : W p l e room_1 s m #[Value.ref b] below meth c H locs 600000 7302250 (lw_Z below #[Value.ref b] s) (F0 m 2112 ls []) := by
  obtain ⟨hx, hb, hr, hml, hown, hts, hX, hbl, hlocks, hgv⟩ := X.1
  have hbA : ¬ (fun q : Nat => s.heap.size ≤ q) b := Nat.not_le.mpr hbl
  refine lv_aload_n (pc := 2112) hx hb dL_law_2112 rfl (lv_at hl 2 rfl) ?_
  refine lv_aload_n (pc := 2113) hx hb dL_law_2113 rfl (lv_at hl 3 rfl) ?_
  refine lv_iload_n (pc := 2114) hx hb dL_law_2114 rfl (lv_at hl 0 rfl) ?_
  refine lv_iconst (pc := 2115) (v := (1 : Int32)) hx hb dL_law_2115 (by decide) ?_
  refine lv_iadd (pc := 2116) hx hb dL_law_2116 ?_
  refine va_sld (pc := 2117) hx hb hX hbl hbA w.2.2 h1 dL_law_2117 ?_
  refine lv_aload_n (pc := 2118) hx hb dL_law_2118 rfl (lv_at hl 3 rfl) ?_
  refine lv_iload_n (pc := 2119) hx hb dL_law_2119 rfl (lv_at hl 0 rfl) ?_
  refine lv_iconst (pc := 2120) (v := (2 : Int32)) hx hb dL_law_2120 (by decide) ?_
  refine lv_iadd (pc := 2121) hx hb dL_law_2121 ?_
  refine va_sld (pc := 2122) hx hb hX hbl hbA w.2.2 h2 dL_law_2122 ?_
  refine lv_aload_n (pc := 2123) hx hb dL_law_2123 rfl (lv_at hl 3 rfl) ?_
  refine lv_iload_n (pc := 2124) hx hb dL_law_2124 rfl (lv_at hl 0 rfl) ?_
  refine lv_iconst (pc := 2125) (v := (3 : Int32)) hx hb dL_law_2125 (by decide) ?_
  refine lv_iadd (pc := 2126) hx hb dL_law_2126 ?_
  refine va_sld (pc := 2127) hx hb hX hbl hbA w.2.2 h3 dL_law_2127 ?_
  refine lv_aload_n (pc := 2128) hx hb dL_law_2128 rfl (lv_at hl 3 rfl) ?_
  refine lv_iload_n (pc := 2129) hx hb dL_law_2129 rfl (lv_at hl 0 rfl) ?_
  refine lv_iconst (pc := 2130) (v := (4 : Int32)) hx hb dL_law_2130 (by decide) ?_
  refine lv_iadd (pc := 2131) hx hb dL_law_2131 ?_
  refine va_sld (pc := 2132) hx hb hX hbl hbA w.2.2 h4 dL_law_2132 ?_
  have h := st_put hR ((xs (nI i + (1 : Int32)).toNatClampNeg)) ((xs (nI i + (2 : Int32)).toNatClampNeg)) ((xs (nI i + (3 : Int32)).toNatClampNeg)) ((xs (nI i + (4 : Int32)).toNatClampNeg))
  refine LcallCi (pc := 2133) (rest := []) X w (LrunC (pc := 2133) X w (okX8_put l X.2.2.2.1 h) kw1204 kmX8_put ⟨rfl, rfl⟩ ⟨by decide, by decide⟩ rfl hl.1 rfl (Nat.le_of_ble_eq_true rfl) dL_law_2133) (fun r u1 H locs h w => ?_)
  refine lv_aload_n (pc := 2136) hx hb dL_law_2136 rfl (lv_at hl 1 rfl) ?_
  refine lv_aload_n (pc := 2137) hx hb dL_law_2137 rfl (lv_at hl 3 rfl) ?_
  refine lv_iload_n (pc := 2138) hx hb dL_law_2138 rfl (lv_at hl 0 rfl) ?_
  refine lv_iconst (pc := 2139) (v := (1 : Int32)) hx hb dL_law_2139 (by decide) ?_
  refine lv_iadd (pc := 2140) hx hb dL_law_2140 ?_
  refine va_sld (pc := 2141) hx hb hX hbl hbA w.2.2 h1 dL_law_2141 ?_
  refine lv_aload_n (pc := 2142) hx hb dL_law_2142 rfl (lv_at hl 3 rfl) ?_
  refine lv_iload_n (pc := 2143) hx hb dL_law_2143 rfl (lv_at hl 0 rfl) ?_
  refine lv_iconst (pc := 2144) (v := (2 : Int32)) hx hb dL_law_2144 (by decide) ?_
  refine lv_iadd (pc := 2145) hx hb dL_law_2145 ?_
  refine va_sld (pc := 2146) hx hb hX hbl hbA w.2.2 h2 dL_law_2146 ?_
  refine lv_aload_n (pc := 2147) hx hb dL_law_2147 rfl (lv_at hl 3 rfl) ?_
  refine lv_iload_n (pc := 2148) hx hb dL_law_2148 rfl (lv_at hl 0 rfl) ?_
  refine lv_iconst (pc := 2149) (v := (3 : Int32)) hx hb dL_law_2149 (by decide) ?_
  refine lv_iadd (pc := 2150) hx hb dL_law_2150 ?_
  refine va_sld (pc := 2151) hx hb hX hbl hbA w.2.2 h3 dL_law_2151 ?_
  refine lv_aload_n (pc := 2152) hx hb dL_law_2152 rfl (lv_at hl 3 rfl) ?_
  refine lv_iload_n (pc := 2153) hx hb dL_law_2153 rfl (lv_at hl 0 rfl) ?_
  refine lv_iconst (pc := 2154) (v := (4 : Int32)) hx hb dL_law_2154 (by decide) ?_
  refine lv_iadd (pc := 2155) hx hb dL_law_2155 ?_
  refine va_sld (pc := 2156) hx hb hX hbl hbA w.2.2 h4 dL_law_2156 ?_
  refine LcallRi (pc := 2157) (rest := [.int r]) X w (LrunR (pc := 2157) X w (okX9_put l X.2.2.2.2.1 h) kw1208 kmX9_put ⟨rfl, rfl⟩ ⟨by decide, by decide⟩ rfl hl.1 rfl (Nat.le_of_ble_eq_true rfl) dL_law_2157) (fun r2 v1 H locs h w => ?_)
  refine lv_icmp_eq (pc := 2160) (tgt := 2384) hx hb dL_law_2160 (by decide) (fun _ => ?_) (fun c_ => absurd h.1 c_)
  exact hk _ _ H locs ls h.2 w hl
set_option maxHeartbeats 4000000 in
set_option maxRecDepth 100000 in
theorem lc_get {p : Program} {l : Launch} {e : Env} {s : State} {m : MethodId} {below : List Frame} {meth : Method} {c : Code} {H : Heap} {locs : List Loc} {b L : Nat} {xs : Nat → Int32} {D : va_G} {g : Nat → ClassId} {aC aR : Nat → Nat} {u v : Mm} {ls : Array Slot} {i : Nat} (X : LX p s m meth c b L xs D g aC aR) (w : LW D g aC aR s u v H locs) (hR : Rel u v) (hl : lv_has ls 4 [(3, .int (nI i)), (2, .ref (aR 0)), (1, .ref (aC 0)), (0, .ref b)]) (h1 : vp_in (nI i + (1 : Int32)) L) (h2 : vp_in (nI i + (2 : Int32)) L) (h3 : vp_in (nI i + (3 : Int32)) L) (h4 : vp_in (nI i + (4 : Int32)) L) (h5 : vp_in (nI i + (5 : Int32)) L) (hk : ∀ (u v : Mm) (H : Heap) (locs : List Loc) (ls : Array Slot), Rel u v → LW D g aC aR s u v H locs → lv_has ls 4 [(3, .int (nI i)), (2, .ref (aR 0)), (1, .ref (aC 0)), (0, .ref b)] → W p l e room_1 s m #[Value.ref b] below meth c H locs 600000 7302250 (lw_Z below #[Value.ref b] s) (F0 m 2384 ls [])) : W p l e room_1 s m #[Value.ref b] below meth c H locs 600000 7302250 (lw_Z below #[Value.ref b] s) (F0 m 2165 ls []) := by
  obtain ⟨hx, hb, hr, hml, hown, hts, hX, hbl, hlocks, hgv⟩ := X.1
  have hbA : ¬ (fun q : Nat => s.heap.size ≤ q) b := Nat.not_le.mpr hbl
  refine lv_aload_n (pc := 2165) hx hb dL_law_2165 rfl (lv_at hl 2 rfl) ?_
  refine lv_aload_n (pc := 2166) hx hb dL_law_2166 rfl (lv_at hl 3 rfl) ?_
  refine lv_iload_n (pc := 2167) hx hb dL_law_2167 rfl (lv_at hl 0 rfl) ?_
  refine lv_iconst (pc := 2168) (v := (1 : Int32)) hx hb dL_law_2168 (by decide) ?_
  refine lv_iadd (pc := 2169) hx hb dL_law_2169 ?_
  refine va_sld (pc := 2170) hx hb hX hbl hbA w.2.2 h1 dL_law_2170 ?_
  refine lv_aload_n (pc := 2171) hx hb dL_law_2171 rfl (lv_at hl 3 rfl) ?_
  refine lv_iload_n (pc := 2172) hx hb dL_law_2172 rfl (lv_at hl 0 rfl) ?_
  refine lv_iconst (pc := 2173) (v := (2 : Int32)) hx hb dL_law_2173 (by decide) ?_
  refine lv_iadd (pc := 2174) hx hb dL_law_2174 ?_
  refine va_sld (pc := 2175) hx hb hX hbl hbA w.2.2 h2 dL_law_2175 ?_
  refine lv_aload_n (pc := 2176) hx hb dL_law_2176 rfl (lv_at hl 3 rfl) ?_
  refine lv_iload_n (pc := 2177) hx hb dL_law_2177 rfl (lv_at hl 0 rfl) ?_
  refine lv_iconst (pc := 2178) (v := (3 : Int32)) hx hb dL_law_2178 (by decide) ?_
  refine lv_iadd (pc := 2179) hx hb dL_law_2179 ?_
  refine va_sld (pc := 2180) hx hb hX hbl hbA w.2.2 h3 dL_law_2180 ?_
  have h := st_get hR ((xs (nI i + (1 : Int32)).toNatClampNeg)) ((xs (nI i + (2 : Int32)).toNatClampNeg)) ((xs (nI i + (3 : Int32)).toNatClampNeg))
  refine LcallCi (pc := 2181) (rest := []) X w (LrunC (pc := 2181) X w (okX8_get l X.2.2.2.1 h) kw1212 kmX8_get ⟨rfl, rfl⟩ ⟨by decide, by decide⟩ rfl hl.1 rfl (Nat.le_of_ble_eq_true rfl) dL_law_2181) (fun r u1 H locs h w => ?_)
  refine lv_aload_n (pc := 2184) hx hb dL_law_2184 rfl (lv_at hl 1 rfl) ?_
  refine lv_aload_n (pc := 2185) hx hb dL_law_2185 rfl (lv_at hl 3 rfl) ?_
  refine lv_iload_n (pc := 2186) hx hb dL_law_2186 rfl (lv_at hl 0 rfl) ?_
  refine lv_iconst (pc := 2187) (v := (1 : Int32)) hx hb dL_law_2187 (by decide) ?_
  refine lv_iadd (pc := 2188) hx hb dL_law_2188 ?_
  refine va_sld (pc := 2189) hx hb hX hbl hbA w.2.2 h1 dL_law_2189 ?_
  refine lv_aload_n (pc := 2190) hx hb dL_law_2190 rfl (lv_at hl 3 rfl) ?_
  refine lv_iload_n (pc := 2191) hx hb dL_law_2191 rfl (lv_at hl 0 rfl) ?_
  refine lv_iconst (pc := 2192) (v := (2 : Int32)) hx hb dL_law_2192 (by decide) ?_
  refine lv_iadd (pc := 2193) hx hb dL_law_2193 ?_
  refine va_sld (pc := 2194) hx hb hX hbl hbA w.2.2 h2 dL_law_2194 ?_
  refine lv_aload_n (pc := 2195) hx hb dL_law_2195 rfl (lv_at hl 3 rfl) ?_
  refine lv_iload_n (pc := 2196) hx hb dL_law_2196 rfl (lv_at hl 0 rfl) ?_
  refine lv_iconst (pc := 2197) (v := (3 : Int32)) hx hb dL_law_2197 (by decide) ?_
  refine lv_iadd (pc := 2198) hx hb dL_law_2198 ?_
  refine va_sld (pc := 2199) hx hb hX hbl hbA w.2.2 h3 dL_law_2199 ?_
  refine LcallRi (pc := 2200) (rest := [.int r]) X w (LrunR (pc := 2200) X w (okX9_get l X.2.2.2.2.1 h) kw1216 kmX9_get ⟨rfl, rfl⟩ ⟨by decide, by decide⟩ rfl hl.1 rfl (Nat.le_of_ble_eq_true rfl) dL_law_2200) (fun r2 v1 H locs h w => ?_)
  refine lv_icmp_eq (pc := 2203) (tgt := 2384) hx hb dL_law_2203 (by decide) (fun _ => ?_) (fun c_ => absurd h.1 c_)
  exact hk _ _ H locs ls h.2 w hl
set_option maxHeartbeats 4000000 in
set_option maxRecDepth 100000 in
theorem lc_copy {p : Program} {l : Launch} {e : Env} {s : State} {m : MethodId} {below : List Frame} {meth : Method} {c : Code} {H : Heap} {locs : List Loc} {b L : Nat} {xs : Nat → Int32} {D : va_G} {g : Nat → ClassId} {aC aR : Nat → Nat} {u v : Mm} {ls : Array Slot} {i : Nat} (X : LX p s m meth c b L xs D g aC aR) (w : LW D g aC aR s u v H locs) (hR : Rel u v) (hl : lv_has ls 4 [(3, .int (nI i)), (2, .ref (aR 0)), (1, .ref (aC 0)), (0, .ref b)]) (h1 : vp_in (nI i + (1 : Int32)) L) (h2 : vp_in (nI i + (2 : Int32)) L) (h3 : vp_in (nI i + (3 : Int32)) L) (h4 : vp_in (nI i + (4 : Int32)) L) (h5 : vp_in (nI i + (5 : Int32)) L) (hk : ∀ (u v : Mm) (H : Heap) (locs : List Loc) (ls : Array Slot), Rel u v → LW D g aC aR s u v H locs → lv_has ls 4 [(3, .int (nI i)), (2, .ref (aR 0)), (1, .ref (aC 0)), (0, .ref b)] → W p l e room_1 s m #[Value.ref b] below meth c H locs 600000 7302250 (lw_Z below #[Value.ref b] s) (F0 m 2384 ls [])) : W p l e room_1 s m #[Value.ref b] below meth c H locs 600000 7302250 (lw_Z below #[Value.ref b] s) (F0 m 2208 ls []) := by
  obtain ⟨hx, hb, hr, hml, hown, hts, hX, hbl, hlocks, hgv⟩ := X.1
  have hbA : ¬ (fun q : Nat => s.heap.size ≤ q) b := Nat.not_le.mpr hbl
  refine lv_aload_n (pc := 2208) hx hb dL_law_2208 rfl (lv_at hl 2 rfl) ?_
  refine lv_aload_n (pc := 2209) hx hb dL_law_2209 rfl (lv_at hl 3 rfl) ?_
  refine lv_iload_n (pc := 2210) hx hb dL_law_2210 rfl (lv_at hl 0 rfl) ?_
  refine lv_iconst (pc := 2211) (v := (1 : Int32)) hx hb dL_law_2211 (by decide) ?_
  refine lv_iadd (pc := 2212) hx hb dL_law_2212 ?_
  refine va_sld (pc := 2213) hx hb hX hbl hbA w.2.2 h1 dL_law_2213 ?_
  refine lv_aload_n (pc := 2214) hx hb dL_law_2214 rfl (lv_at hl 3 rfl) ?_
  refine lv_iload_n (pc := 2215) hx hb dL_law_2215 rfl (lv_at hl 0 rfl) ?_
  refine lv_iconst (pc := 2216) (v := (2 : Int32)) hx hb dL_law_2216 (by decide) ?_
  refine lv_iadd (pc := 2217) hx hb dL_law_2217 ?_
  refine va_sld (pc := 2218) hx hb hX hbl hbA w.2.2 h2 dL_law_2218 ?_
  refine lv_aload_n (pc := 2219) hx hb dL_law_2219 rfl (lv_at hl 3 rfl) ?_
  refine lv_iload_n (pc := 2220) hx hb dL_law_2220 rfl (lv_at hl 0 rfl) ?_
  refine lv_iconst (pc := 2221) (v := (3 : Int32)) hx hb dL_law_2221 (by decide) ?_
  refine lv_iadd (pc := 2222) hx hb dL_law_2222 ?_
  refine va_sld (pc := 2223) hx hb hX hbl hbA w.2.2 h3 dL_law_2223 ?_
  refine lv_aload_n (pc := 2224) hx hb dL_law_2224 rfl (lv_at hl 3 rfl) ?_
  refine lv_iload_n (pc := 2225) hx hb dL_law_2225 rfl (lv_at hl 0 rfl) ?_
  refine lv_iconst (pc := 2226) (v := (4 : Int32)) hx hb dL_law_2226 (by decide) ?_
  refine lv_iadd (pc := 2227) hx hb dL_law_2227 ?_
  refine va_sld (pc := 2228) hx hb hX hbl hbA w.2.2 h4 dL_law_2228 ?_
  refine lv_aload_n (pc := 2229) hx hb dL_law_2229 rfl (lv_at hl 3 rfl) ?_
  refine lv_iload_n (pc := 2230) hx hb dL_law_2230 rfl (lv_at hl 0 rfl) ?_
  refine lv_iconst (pc := 2231) (v := (5 : Int32)) hx hb dL_law_2231 (by decide) ?_
  refine lv_iadd (pc := 2232) hx hb dL_law_2232 ?_
  refine va_sld (pc := 2233) hx hb hX hbl hbA w.2.2 h5 dL_law_2233 ?_
  have h := st_copy hR ((xs (nI i + (1 : Int32)).toNatClampNeg)) ((xs (nI i + (2 : Int32)).toNatClampNeg)) ((xs (nI i + (3 : Int32)).toNatClampNeg)) ((xs (nI i + (4 : Int32)).toNatClampNeg)) ((xs (nI i + (5 : Int32)).toNatClampNeg))
  refine LcallCi (pc := 2234) (rest := []) X w (LrunC (pc := 2234) X w (okX8_copy l X.2.2.2.1 h) kw1220 kmX8_copy ⟨rfl, rfl⟩ ⟨by decide, by decide⟩ rfl hl.1 rfl (Nat.le_of_ble_eq_true rfl) dL_law_2234) (fun r u1 H locs h w => ?_)
  refine lv_aload_n (pc := 2237) hx hb dL_law_2237 rfl (lv_at hl 1 rfl) ?_
  refine lv_aload_n (pc := 2238) hx hb dL_law_2238 rfl (lv_at hl 3 rfl) ?_
  refine lv_iload_n (pc := 2239) hx hb dL_law_2239 rfl (lv_at hl 0 rfl) ?_
  refine lv_iconst (pc := 2240) (v := (1 : Int32)) hx hb dL_law_2240 (by decide) ?_
  refine lv_iadd (pc := 2241) hx hb dL_law_2241 ?_
  refine va_sld (pc := 2242) hx hb hX hbl hbA w.2.2 h1 dL_law_2242 ?_
  refine lv_aload_n (pc := 2243) hx hb dL_law_2243 rfl (lv_at hl 3 rfl) ?_
  refine lv_iload_n (pc := 2244) hx hb dL_law_2244 rfl (lv_at hl 0 rfl) ?_
  refine lv_iconst (pc := 2245) (v := (2 : Int32)) hx hb dL_law_2245 (by decide) ?_
  refine lv_iadd (pc := 2246) hx hb dL_law_2246 ?_
  refine va_sld (pc := 2247) hx hb hX hbl hbA w.2.2 h2 dL_law_2247 ?_
  refine lv_aload_n (pc := 2248) hx hb dL_law_2248 rfl (lv_at hl 3 rfl) ?_
  refine lv_iload_n (pc := 2249) hx hb dL_law_2249 rfl (lv_at hl 0 rfl) ?_
  refine lv_iconst (pc := 2250) (v := (3 : Int32)) hx hb dL_law_2250 (by decide) ?_
  refine lv_iadd (pc := 2251) hx hb dL_law_2251 ?_
  refine va_sld (pc := 2252) hx hb hX hbl hbA w.2.2 h3 dL_law_2252 ?_
  refine lv_aload_n (pc := 2253) hx hb dL_law_2253 rfl (lv_at hl 3 rfl) ?_
  refine lv_iload_n (pc := 2254) hx hb dL_law_2254 rfl (lv_at hl 0 rfl) ?_
  refine lv_iconst (pc := 2255) (v := (4 : Int32)) hx hb dL_law_2255 (by decide) ?_
  refine lv_iadd (pc := 2256) hx hb dL_law_2256 ?_
  refine va_sld (pc := 2257) hx hb hX hbl hbA w.2.2 h4 dL_law_2257 ?_
  refine lv_aload_n (pc := 2258) hx hb dL_law_2258 rfl (lv_at hl 3 rfl) ?_
  refine lv_iload_n (pc := 2259) hx hb dL_law_2259 rfl (lv_at hl 0 rfl) ?_
  refine lv_iconst (pc := 2260) (v := (5 : Int32)) hx hb dL_law_2260 (by decide) ?_
  refine lv_iadd (pc := 2261) hx hb dL_law_2261 ?_
  refine va_sld (pc := 2262) hx hb hX hbl hbA w.2.2 h5 dL_law_2262 ?_
  refine LcallRi (pc := 2263) (rest := [.int r]) X w (LrunR (pc := 2263) X w (okX9_copy l X.2.2.2.2.1 h) kw1224 kmX9_copy ⟨rfl, rfl⟩ ⟨by decide, by decide⟩ rfl hl.1 rfl (Nat.le_of_ble_eq_true rfl) dL_law_2263) (fun r2 v1 H locs h w => ?_)
  refine lv_icmp_eq (pc := 2266) (tgt := 2384) hx hb dL_law_2266 (by decide) (fun _ => ?_) (fun c_ => absurd h.1 c_)
  exact hk _ _ H locs ls h.2 w hl
set_option maxHeartbeats 4000000 in
set_option maxRecDepth 100000 in
theorem lc_read {p : Program} {l : Launch} {e : Env} {s : State} {m : MethodId} {below : List Frame} {meth : Method} {c : Code} {H : Heap} {locs : List Loc} {b L : Nat} {xs : Nat → Int32} {D : va_G} {g : Nat → ClassId} {aC aR : Nat → Nat} {u v : Mm} {ls : Array Slot} {i : Nat} (X : LX p s m meth c b L xs D g aC aR) (w : LW D g aC aR s u v H locs) (hR : Rel u v) (hl : lv_has ls 4 [(3, .int (nI i)), (2, .ref (aR 0)), (1, .ref (aC 0)), (0, .ref b)]) (h1 : vp_in (nI i + (1 : Int32)) L) (h2 : vp_in (nI i + (2 : Int32)) L) (h3 : vp_in (nI i + (3 : Int32)) L) (h4 : vp_in (nI i + (4 : Int32)) L) (h5 : vp_in (nI i + (5 : Int32)) L) (hk : ∀ (u v : Mm) (H : Heap) (locs : List Loc) (ls : Array Slot), Rel u v → LW D g aC aR s u v H locs → lv_has ls 4 [(3, .int (nI i)), (2, .ref (aR 0)), (1, .ref (aC 0)), (0, .ref b)] → W p l e room_1 s m #[Value.ref b] below meth c H locs 600000 7302250 (lw_Z below #[Value.ref b] s) (F0 m 2384 ls [])) : W p l e room_1 s m #[Value.ref b] below meth c H locs 600000 7302250 (lw_Z below #[Value.ref b] s) (F0 m 2271 ls []) := by
  obtain ⟨hx, hb, hr, hml, hown, hts, hX, hbl, hlocks, hgv⟩ := X.1
  have hbA : ¬ (fun q : Nat => s.heap.size ≤ q) b := Nat.not_le.mpr hbl
  refine lv_aload_n (pc := 2271) hx hb dL_law_2271 rfl (lv_at hl 2 rfl) ?_
  refine lv_aload_n (pc := 2272) hx hb dL_law_2272 rfl (lv_at hl 3 rfl) ?_
  refine lv_iload_n (pc := 2273) hx hb dL_law_2273 rfl (lv_at hl 0 rfl) ?_
  refine lv_iconst (pc := 2274) (v := (1 : Int32)) hx hb dL_law_2274 (by decide) ?_
  refine lv_iadd (pc := 2275) hx hb dL_law_2275 ?_
  refine va_sld (pc := 2276) hx hb hX hbl hbA w.2.2 h1 dL_law_2276 ?_
  have h := st_read hR ((xs (nI i + (1 : Int32)).toNatClampNeg))
  refine LcallCi (pc := 2277) (rest := []) X w (LrunC (pc := 2277) X w (okX8_read l X.2.2.2.1 h) kw1228 kmX8_read ⟨rfl, rfl⟩ ⟨by decide, by decide⟩ rfl hl.1 rfl (Nat.le_of_ble_eq_true rfl) dL_law_2277) (fun r u1 H locs h w => ?_)
  refine lv_aload_n (pc := 2280) hx hb dL_law_2280 rfl (lv_at hl 1 rfl) ?_
  refine lv_aload_n (pc := 2281) hx hb dL_law_2281 rfl (lv_at hl 3 rfl) ?_
  refine lv_iload_n (pc := 2282) hx hb dL_law_2282 rfl (lv_at hl 0 rfl) ?_
  refine lv_iconst (pc := 2283) (v := (1 : Int32)) hx hb dL_law_2283 (by decide) ?_
  refine lv_iadd (pc := 2284) hx hb dL_law_2284 ?_
  refine va_sld (pc := 2285) hx hb hX hbl hbA w.2.2 h1 dL_law_2285 ?_
  refine LcallRi (pc := 2286) (rest := [.int r]) X w (LrunR (pc := 2286) X w (okX9_read l X.2.2.2.2.1 h) kw1232 kmX9_read ⟨rfl, rfl⟩ ⟨by decide, by decide⟩ rfl hl.1 rfl (Nat.le_of_ble_eq_true rfl) dL_law_2286) (fun r2 v1 H locs h w => ?_)
  refine lv_icmp_eq (pc := 2289) (tgt := 2384) hx hb dL_law_2289 (by decide) (fun _ => ?_) (fun c_ => absurd h.1 c_)
  exact hk _ _ H locs ls h.2 w hl
set_option maxHeartbeats 4000000 in
set_option maxRecDepth 100000 in
theorem lc_write {p : Program} {l : Launch} {e : Env} {s : State} {m : MethodId} {below : List Frame} {meth : Method} {c : Code} {H : Heap} {locs : List Loc} {b L : Nat} {xs : Nat → Int32} {D : va_G} {g : Nat → ClassId} {aC aR : Nat → Nat} {u v : Mm} {ls : Array Slot} {i : Nat} (X : LX p s m meth c b L xs D g aC aR) (w : LW D g aC aR s u v H locs) (hR : Rel u v) (hl : lv_has ls 4 [(3, .int (nI i)), (2, .ref (aR 0)), (1, .ref (aC 0)), (0, .ref b)]) (h1 : vp_in (nI i + (1 : Int32)) L) (h2 : vp_in (nI i + (2 : Int32)) L) (h3 : vp_in (nI i + (3 : Int32)) L) (h4 : vp_in (nI i + (4 : Int32)) L) (h5 : vp_in (nI i + (5 : Int32)) L) (hk : ∀ (u v : Mm) (H : Heap) (locs : List Loc) (ls : Array Slot), Rel u v → LW D g aC aR s u v H locs → lv_has ls 4 [(3, .int (nI i)), (2, .ref (aR 0)), (1, .ref (aC 0)), (0, .ref b)] → W p l e room_1 s m #[Value.ref b] below meth c H locs 600000 7302250 (lw_Z below #[Value.ref b] s) (F0 m 2384 ls [])) : W p l e room_1 s m #[Value.ref b] below meth c H locs 600000 7302250 (lw_Z below #[Value.ref b] s) (F0 m 2294 ls []) := by
  obtain ⟨hx, hb, hr, hml, hown, hts, hX, hbl, hlocks, hgv⟩ := X.1
  have hbA : ¬ (fun q : Nat => s.heap.size ≤ q) b := Nat.not_le.mpr hbl
  refine lv_aload_n (pc := 2294) hx hb dL_law_2294 rfl (lv_at hl 2 rfl) ?_
  refine lv_aload_n (pc := 2295) hx hb dL_law_2295 rfl (lv_at hl 3 rfl) ?_
  refine lv_iload_n (pc := 2296) hx hb dL_law_2296 rfl (lv_at hl 0 rfl) ?_
  refine lv_iconst (pc := 2297) (v := (1 : Int32)) hx hb dL_law_2297 (by decide) ?_
  refine lv_iadd (pc := 2298) hx hb dL_law_2298 ?_
  refine va_sld (pc := 2299) hx hb hX hbl hbA w.2.2 h1 dL_law_2299 ?_
  refine lv_aload_n (pc := 2300) hx hb dL_law_2300 rfl (lv_at hl 3 rfl) ?_
  refine lv_iload_n (pc := 2301) hx hb dL_law_2301 rfl (lv_at hl 0 rfl) ?_
  refine lv_iconst (pc := 2302) (v := (2 : Int32)) hx hb dL_law_2302 (by decide) ?_
  refine lv_iadd (pc := 2303) hx hb dL_law_2303 ?_
  refine va_sld (pc := 2304) hx hb hX hbl hbA w.2.2 h2 dL_law_2304 ?_
  refine lv_aload_n (pc := 2305) hx hb dL_law_2305 rfl (lv_at hl 3 rfl) ?_
  refine lv_iload_n (pc := 2306) hx hb dL_law_2306 rfl (lv_at hl 0 rfl) ?_
  refine lv_iconst (pc := 2307) (v := (3 : Int32)) hx hb dL_law_2307 (by decide) ?_
  refine lv_iadd (pc := 2308) hx hb dL_law_2308 ?_
  refine va_sld (pc := 2309) hx hb hX hbl hbA w.2.2 h3 dL_law_2309 ?_
  refine lv_aload_n (pc := 2310) hx hb dL_law_2310 rfl (lv_at hl 3 rfl) ?_
  refine lv_iload_n (pc := 2311) hx hb dL_law_2311 rfl (lv_at hl 0 rfl) ?_
  refine lv_iconst (pc := 2312) (v := (4 : Int32)) hx hb dL_law_2312 (by decide) ?_
  refine lv_iadd (pc := 2313) hx hb dL_law_2313 ?_
  refine va_sld (pc := 2314) hx hb hX hbl hbA w.2.2 h4 dL_law_2314 ?_
  have h := st_write hR ((xs (nI i + (1 : Int32)).toNatClampNeg)) ((xs (nI i + (2 : Int32)).toNatClampNeg)) ((xs (nI i + (3 : Int32)).toNatClampNeg)) ((xs (nI i + (4 : Int32)).toNatClampNeg))
  refine LcallCi (pc := 2315) (rest := []) X w (LrunC (pc := 2315) X w (okX8_write l X.2.2.2.1 h) kw1236 kmX8_write ⟨rfl, rfl⟩ ⟨by decide, by decide⟩ rfl hl.1 rfl (Nat.le_of_ble_eq_true rfl) dL_law_2315) (fun r u1 H locs h w => ?_)
  refine lv_aload_n (pc := 2318) hx hb dL_law_2318 rfl (lv_at hl 1 rfl) ?_
  refine lv_aload_n (pc := 2319) hx hb dL_law_2319 rfl (lv_at hl 3 rfl) ?_
  refine lv_iload_n (pc := 2320) hx hb dL_law_2320 rfl (lv_at hl 0 rfl) ?_
  refine lv_iconst (pc := 2321) (v := (1 : Int32)) hx hb dL_law_2321 (by decide) ?_
  refine lv_iadd (pc := 2322) hx hb dL_law_2322 ?_
  refine va_sld (pc := 2323) hx hb hX hbl hbA w.2.2 h1 dL_law_2323 ?_
  refine lv_aload_n (pc := 2324) hx hb dL_law_2324 rfl (lv_at hl 3 rfl) ?_
  refine lv_iload_n (pc := 2325) hx hb dL_law_2325 rfl (lv_at hl 0 rfl) ?_
  refine lv_iconst (pc := 2326) (v := (2 : Int32)) hx hb dL_law_2326 (by decide) ?_
  refine lv_iadd (pc := 2327) hx hb dL_law_2327 ?_
  refine va_sld (pc := 2328) hx hb hX hbl hbA w.2.2 h2 dL_law_2328 ?_
  refine lv_aload_n (pc := 2329) hx hb dL_law_2329 rfl (lv_at hl 3 rfl) ?_
  refine lv_iload_n (pc := 2330) hx hb dL_law_2330 rfl (lv_at hl 0 rfl) ?_
  refine lv_iconst (pc := 2331) (v := (3 : Int32)) hx hb dL_law_2331 (by decide) ?_
  refine lv_iadd (pc := 2332) hx hb dL_law_2332 ?_
  refine va_sld (pc := 2333) hx hb hX hbl hbA w.2.2 h3 dL_law_2333 ?_
  refine lv_aload_n (pc := 2334) hx hb dL_law_2334 rfl (lv_at hl 3 rfl) ?_
  refine lv_iload_n (pc := 2335) hx hb dL_law_2335 rfl (lv_at hl 0 rfl) ?_
  refine lv_iconst (pc := 2336) (v := (4 : Int32)) hx hb dL_law_2336 (by decide) ?_
  refine lv_iadd (pc := 2337) hx hb dL_law_2337 ?_
  refine va_sld (pc := 2338) hx hb hX hbl hbA w.2.2 h4 dL_law_2338 ?_
  refine LcallRi (pc := 2339) (rest := [.int r]) X w (LrunR (pc := 2339) X w (okX9_write l X.2.2.2.2.1 h) kw1240 kmX9_write ⟨rfl, rfl⟩ ⟨by decide, by decide⟩ rfl hl.1 rfl (Nat.le_of_ble_eq_true rfl) dL_law_2339) (fun r2 v1 H locs h w => ?_)
  refine lv_icmp_eq (pc := 2342) (tgt := 2384) hx hb dL_law_2342 (by decide) (fun _ => ?_) (fun c_ => absurd h.1 c_)
  exact hk _ _ H locs ls h.2 w hl
set_option maxHeartbeats 4000000 in
set_option maxRecDepth 100000 in
theorem lc_count {p : Program} {l : Launch} {e : Env} {s : State} {m : MethodId} {below : List Frame} {meth : Method} {c : Code} {H : Heap} {locs : List Loc} {b L : Nat} {xs : Nat → Int32} {D : va_G} {g : Nat → ClassId} {aC aR : Nat → Nat} {u v : Mm} {ls : Array Slot} {i : Nat} (X : LX p s m meth c b L xs D g aC aR) (w : LW D g aC aR s u v H locs) (hR : Rel u v) (hl : lv_has ls 4 [(3, .int (nI i)), (2, .ref (aR 0)), (1, .ref (aC 0)), (0, .ref b)]) (h1 : vp_in (nI i + (1 : Int32)) L) (h2 : vp_in (nI i + (2 : Int32)) L) (h3 : vp_in (nI i + (3 : Int32)) L) (h4 : vp_in (nI i + (4 : Int32)) L) (h5 : vp_in (nI i + (5 : Int32)) L) (hk : ∀ (u v : Mm) (H : Heap) (locs : List Loc) (ls : Array Slot), Rel u v → LW D g aC aR s u v H locs → lv_has ls 4 [(3, .int (nI i)), (2, .ref (aR 0)), (1, .ref (aC 0)), (0, .ref b)] → W p l e room_1 s m #[Value.ref b] below meth c H locs 600000 7302250 (lw_Z below #[Value.ref b] s) (F0 m 2384 ls [])) : W p l e room_1 s m #[Value.ref b] below meth c H locs 600000 7302250 (lw_Z below #[Value.ref b] s) (F0 m 2347 ls []) := by
  obtain ⟨hx, hb, hr, hml, hown, hts, hX, hbl, hlocks, hgv⟩ := X.1
  have hbA : ¬ (fun q : Nat => s.heap.size ≤ q) b := Nat.not_le.mpr hbl
  refine lv_aload_n (pc := 2347) hx hb dL_law_2347 rfl (lv_at hl 2 rfl) ?_
  refine lv_aload_n (pc := 2348) hx hb dL_law_2348 rfl (lv_at hl 3 rfl) ?_
  refine lv_iload_n (pc := 2349) hx hb dL_law_2349 rfl (lv_at hl 0 rfl) ?_
  refine lv_iconst (pc := 2350) (v := (1 : Int32)) hx hb dL_law_2350 (by decide) ?_
  refine lv_iadd (pc := 2351) hx hb dL_law_2351 ?_
  refine va_sld (pc := 2352) hx hb hX hbl hbA w.2.2 h1 dL_law_2352 ?_
  have h := st_count hR ((xs (nI i + (1 : Int32)).toNatClampNeg))
  refine LcallCi (pc := 2353) (rest := []) X w (LrunC (pc := 2353) X w (okX8_count l X.2.2.2.1 h) kw1244 kmX8_count ⟨rfl, rfl⟩ ⟨by decide, by decide⟩ rfl hl.1 rfl (Nat.le_of_ble_eq_true rfl) dL_law_2353) (fun r u1 H locs h w => ?_)
  refine lv_aload_n (pc := 2356) hx hb dL_law_2356 rfl (lv_at hl 1 rfl) ?_
  refine lv_aload_n (pc := 2357) hx hb dL_law_2357 rfl (lv_at hl 3 rfl) ?_
  refine lv_iload_n (pc := 2358) hx hb dL_law_2358 rfl (lv_at hl 0 rfl) ?_
  refine lv_iconst (pc := 2359) (v := (1 : Int32)) hx hb dL_law_2359 (by decide) ?_
  refine lv_iadd (pc := 2360) hx hb dL_law_2360 ?_
  refine va_sld (pc := 2361) hx hb hX hbl hbA w.2.2 h1 dL_law_2361 ?_
  refine LcallRi (pc := 2362) (rest := [.int r]) X w (LrunR (pc := 2362) X w (okX9_count l X.2.2.2.2.1 h) kw1245 kmX9_count ⟨rfl, rfl⟩ ⟨by decide, by decide⟩ rfl hl.1 rfl (Nat.le_of_ble_eq_true rfl) dL_law_2362) (fun r2 v1 H locs h w => ?_)
  refine lv_icmp_eq (pc := 2365) (tgt := 2384) hx hb dL_law_2365 (by decide) (fun _ => ?_) (fun c_ => absurd h.1 c_)
  exact hk _ _ H locs ls h.2 w hl
set_option maxHeartbeats 4000000 in
set_option maxRecDepth 100000 in
theorem lc_digest {p : Program} {l : Launch} {e : Env} {s : State} {m : MethodId} {below : List Frame} {meth : Method} {c : Code} {H : Heap} {locs : List Loc} {b L : Nat} {xs : Nat → Int32} {D : va_G} {g : Nat → ClassId} {aC aR : Nat → Nat} {u v : Mm} {ls : Array Slot} {i : Nat} (X : LX p s m meth c b L xs D g aC aR) (w : LW D g aC aR s u v H locs) (hR : Rel u v) (hl : lv_has ls 4 [(3, .int (nI i)), (2, .ref (aR 0)), (1, .ref (aC 0)), (0, .ref b)]) (h1 : vp_in (nI i + (1 : Int32)) L) (h2 : vp_in (nI i + (2 : Int32)) L) (h3 : vp_in (nI i + (3 : Int32)) L) (h4 : vp_in (nI i + (4 : Int32)) L) (h5 : vp_in (nI i + (5 : Int32)) L) (hk : ∀ (u v : Mm) (H : Heap) (locs : List Loc) (ls : Array Slot), Rel u v → LW D g aC aR s u v H locs → lv_has ls 4 [(3, .int (nI i)), (2, .ref (aR 0)), (1, .ref (aC 0)), (0, .ref b)] → W p l e room_1 s m #[Value.ref b] below meth c H locs 600000 7302250 (lw_Z below #[Value.ref b] s) (F0 m 2384 ls [])) : W p l e room_1 s m #[Value.ref b] below meth c H locs 600000 7302250 (lw_Z below #[Value.ref b] s) (F0 m 2370 ls []) := by
  obtain ⟨hx, hb, hr, hml, hown, hts, hX, hbl, hlocks, hgv⟩ := X.1
  have hbA : ¬ (fun q : Nat => s.heap.size ≤ q) b := Nat.not_le.mpr hbl
  refine lv_aload_n (pc := 2370) hx hb dL_law_2370 rfl (lv_at hl 2 rfl) ?_
  have h := st_digest hR
  refine LcallCl (pc := 2371) (rest := []) X w (LrunC (pc := 2371) X w (okX8_digest l X.2.2.2.1 h) kw1246 kmX8_digest ⟨rfl, rfl⟩ ⟨by decide, by decide⟩ rfl hl.1 rfl (Nat.le_of_ble_eq_true rfl) dL_law_2371) (fun r u1 H locs h w => ?_)
  refine lv_aload_n (pc := 2374) hx hb dL_law_2374 rfl (lv_at hl 1 rfl) ?_
  refine LcallRl (pc := 2375) (rest := [.long r]) X w (LrunR (pc := 2375) X w (okX9_digest l X.2.2.2.2.1 h) kw1250 kmX9_digest ⟨rfl, rfl⟩ ⟨by decide, by decide⟩ rfl hl.1 rfl (Nat.le_of_ble_eq_true rfl) dL_law_2375) (fun r2 v1 H locs h w => ?_)
  refine lq_eq (pc := 2378) (tgt := 2384) hx hb dL_law_2378 dL_law_2379 (by decide) (fun _ => ?_) (fun c_ => absurd h.1 c_)
  exact hk _ _ H locs ls h.2 w hl
