/-! ===== cases of the law (by wip/gen/walkl.py) ===== -/
set_option maxRecDepth 100000 in
theorem lk_7 {p : Program} {l : Launch} {e : Env} {s : State} {m : MethodId} {below : List Frame} {meth : Method} {c : Code} {b L i : Nat} {xs : Nat → Int32} {D : va_G} {cs : ClassId × ClassId × ClassId × ClassId} {adX adM : Nat → Nat} {h g : mm_H} {v : Nat} {H : Heap} {locs : List Loc} {ls : Array Slot} (F : lw_F p s m c b L xs D cs adX adM) (hi : i + 6 ≤ L) (S : lw_S D cs adX adM s h g v H locs) (hl : lv_has ls 4 [(3, .int (nI i)), (0, .ref b), (1, .ref (adX 0)), (2, .ref (adM 0))]) (next : ∀ (h g : mm_H) (v : Nat) (H : Heap) (locs : List Loc), lw_S D cs adX adM s h g v H locs → W p l e room_1 s m #[Value.ref b] below meth c H locs 600000 7302250 (lw_Z below #[Value.ref b] s) (F0 m 844 ls [])) : W p l e room_1 s m #[Value.ref b] below meth c H locs 600000 7302250 (lw_Z below #[Value.ref b] s) (F0 m 301 ls []) := by
  obtain ⟨hrel, hokX, hokM, hPX, hDX, hPM, hDM, hS⟩ := S
  have hx := F.1
  have hb := F.2.1
  obtain ⟨r, h2, g2, v2, e1, e2, hrel2⟩ := op_hour hrel (xs (i + 1)).toInt (xs (i + 2)).toInt
  refine lv_aload_n hx hb dL_law_301 rfl (lv_at hl 2 rfl) ?_
  refine la_a (j := 1) F hi (by decide) (by decide) hl hS dL_law_302 dL_law_303 dL_law_304 dL_law_305 dL_law_306 ?_
  refine la_a (j := 2) F hi (by decide) (by decide) hl hS dL_law_307 dL_law_308 dL_law_309 dL_law_310 dL_law_311 ?_
  refine la_X (n := 2) F (y := 74) (I := in_X10_hour) rfl (as := [mm_i (xs (i + 1)).toInt, mm_i (xs (i + 2)).toInt]) (h := h) (g := g) e1 (mm_okS_c (v := mm_i (xs (i + 1)).toInt) (mm_toI _) (mm_okS_c (v := mm_i (xs (i + 2)).toInt) (mm_toI _) (fun _ z => absurd z List.not_mem_nil))) hokX rfl (Nat.le_of_ble_eq_true rfl) vw_281 vw_188 vw_282 vw_283 vw_284 (by decide +kernel) ⟨Nat.le_of_ble_eq_true rfl, Nat.le_of_ble_eq_true rfl⟩ hPX hDX hPM hS hl.1 rfl (rest := []) rfl (Nat.le_of_ble_eq_true rfl) dL_law_312 (fun H locs hPX hDX hokX hPM hS => ?_)
  refine lv_aload_n hx hb dL_law_315 rfl (lv_at hl 3 rfl) ?_
  refine la_a (j := 1) F hi (by decide) (by decide) hl hS dL_law_316 dL_law_317 dL_law_318 dL_law_319 dL_law_320 ?_
  refine la_a (j := 2) F hi (by decide) (by decide) hl hS dL_law_321 dL_law_322 dL_law_323 dL_law_324 dL_law_325 ?_
  refine la_M (n := 2) F (y := 29) (I := in_X11_hour) rfl (as := [mm_i (xs (i + 1)).toInt, mm_i (xs (i + 2)).toInt]) (h := h2) (g := g) e2 (mm_okS_c (v := mm_i (xs (i + 1)).toInt) (mm_toI _) (mm_okS_c (v := mm_i (xs (i + 2)).toInt) (mm_toI _) (fun _ z => absurd z List.not_mem_nil))) hokM rfl (Nat.le_of_ble_eq_true rfl) vw_285 vw_205 vw_286 vw_287 vw_288 (by decide +kernel) ⟨Nat.le_of_ble_eq_true rfl, Nat.le_of_ble_eq_true rfl⟩ hPX hPM hDM hS hl.1 rfl (rest := [.int (Int32.ofInt r)]) rfl (Nat.le_of_ble_eq_true rfl) dL_law_326 (fun H locs hPM hDM hokM hPX hS => ?_)
  refine lv_icmp_eq (tgt := 844) hx hb dL_law_329 (by decide) (fun _ => ?_) (fun z => absurd rfl z)
  exact next h2 g2 v2 H locs ⟨hrel2, hokX, hokM, hPX, hDX, hPM, hDM, hS⟩
set_option maxRecDepth 100000 in
theorem lk_8 {p : Program} {l : Launch} {e : Env} {s : State} {m : MethodId} {below : List Frame} {meth : Method} {c : Code} {b L i : Nat} {xs : Nat → Int32} {D : va_G} {cs : ClassId × ClassId × ClassId × ClassId} {adX adM : Nat → Nat} {h g : mm_H} {v : Nat} {H : Heap} {locs : List Loc} {ls : Array Slot} (F : lw_F p s m c b L xs D cs adX adM) (hi : i + 6 ≤ L) (S : lw_S D cs adX adM s h g v H locs) (hl : lv_has ls 4 [(3, .int (nI i)), (0, .ref b), (1, .ref (adX 0)), (2, .ref (adM 0))]) (next : ∀ (h g : mm_H) (v : Nat) (H : Heap) (locs : List Loc), lw_S D cs adX adM s h g v H locs → W p l e room_1 s m #[Value.ref b] below meth c H locs 600000 7302250 (lw_Z below #[Value.ref b] s) (F0 m 844 ls [])) : W p l e room_1 s m #[Value.ref b] below meth c H locs 600000 7302250 (lw_Z below #[Value.ref b] s) (F0 m 334 ls []) := by
  obtain ⟨hrel, hokX, hokM, hPX, hDX, hPM, hDM, hS⟩ := S
  have hx := F.1
  have hb := F.2.1
  obtain ⟨r, h2, g2, v2, e1, e2, hrel2⟩ := op_grease hrel (xs (i + 1)).toInt
  refine lv_aload_n hx hb dL_law_334 rfl (lv_at hl 2 rfl) ?_
  refine la_a (j := 1) F hi (by decide) (by decide) hl hS dL_law_335 dL_law_336 dL_law_337 dL_law_338 dL_law_339 ?_
  refine la_X (n := 1) F (y := 75) (I := in_X10_grease) rfl (as := [mm_i (xs (i + 1)).toInt]) (h := h) (g := g) e1 (mm_okS_c (v := mm_i (xs (i + 1)).toInt) (mm_toI _) (fun _ z => absurd z List.not_mem_nil)) hokX rfl (Nat.le_of_ble_eq_true rfl) vw_289 vw_188 vw_290 vw_291 vw_292 (by decide +kernel) ⟨Nat.le_of_ble_eq_true rfl, Nat.le_of_ble_eq_true rfl⟩ hPX hDX hPM hS hl.1 rfl (rest := []) rfl (Nat.le_of_ble_eq_true rfl) dL_law_340 (fun H locs hPX hDX hokX hPM hS => ?_)
  refine lv_aload_n hx hb dL_law_343 rfl (lv_at hl 3 rfl) ?_
  refine la_a (j := 1) F hi (by decide) (by decide) hl hS dL_law_344 dL_law_345 dL_law_346 dL_law_347 dL_law_348 ?_
  refine la_M (n := 1) F (y := 30) (I := in_X11_grease) rfl (as := [mm_i (xs (i + 1)).toInt]) (h := h2) (g := g) e2 (mm_okS_c (v := mm_i (xs (i + 1)).toInt) (mm_toI _) (fun _ z => absurd z List.not_mem_nil)) hokM rfl (Nat.le_of_ble_eq_true rfl) vw_293 vw_205 vw_294 vw_295 vw_296 (by decide +kernel) ⟨Nat.le_of_ble_eq_true rfl, Nat.le_of_ble_eq_true rfl⟩ hPX hPM hDM hS hl.1 rfl (rest := [.int (Int32.ofInt r)]) rfl (Nat.le_of_ble_eq_true rfl) dL_law_349 (fun H locs hPM hDM hokM hPX hS => ?_)
  refine lv_icmp_eq (tgt := 844) hx hb dL_law_352 (by decide) (fun _ => ?_) (fun z => absurd rfl z)
  exact next h2 g2 v2 H locs ⟨hrel2, hokX, hokM, hPX, hDX, hPM, hDM, hS⟩
set_option maxRecDepth 100000 in
theorem lk_9 {p : Program} {l : Launch} {e : Env} {s : State} {m : MethodId} {below : List Frame} {meth : Method} {c : Code} {b L i : Nat} {xs : Nat → Int32} {D : va_G} {cs : ClassId × ClassId × ClassId × ClassId} {adX adM : Nat → Nat} {h g : mm_H} {v : Nat} {H : Heap} {locs : List Loc} {ls : Array Slot} (F : lw_F p s m c b L xs D cs adX adM) (hi : i + 6 ≤ L) (S : lw_S D cs adX adM s h g v H locs) (hl : lv_has ls 4 [(3, .int (nI i)), (0, .ref b), (1, .ref (adX 0)), (2, .ref (adM 0))]) (next : ∀ (h g : mm_H) (v : Nat) (H : Heap) (locs : List Loc), lw_S D cs adX adM s h g v H locs → W p l e room_1 s m #[Value.ref b] below meth c H locs 600000 7302250 (lw_Z below #[Value.ref b] s) (F0 m 844 ls [])) : W p l e room_1 s m #[Value.ref b] below meth c H locs 600000 7302250 (lw_Z below #[Value.ref b] s) (F0 m 357 ls []) := by
  obtain ⟨hrel, hokX, hokM, hPX, hDX, hPM, hDM, hS⟩ := S
  have hx := F.1
  have hb := F.2.1
  obtain ⟨r, h2, g2, v2, e1, e2, hrel2⟩ := op_undo hrel 
  refine lv_aload_n hx hb dL_law_357 rfl (lv_at hl 2 rfl) ?_
  refine la_X (n := 0) F (y := 76) (I := in_X10_undo) rfl (as := []) (h := h) (g := g) e1 (fun _ z => absurd z List.not_mem_nil) hokX rfl (Nat.le_of_ble_eq_true rfl) vw_297 vw_188 vw_298 vw_299 vw_300 (by decide +kernel) ⟨Nat.le_of_ble_eq_true rfl, Nat.le_of_ble_eq_true rfl⟩ hPX hDX hPM hS hl.1 rfl (rest := []) rfl (Nat.le_of_ble_eq_true rfl) dL_law_358 (fun H locs hPX hDX hokX hPM hS => ?_)
  refine lv_aload_n hx hb dL_law_361 rfl (lv_at hl 3 rfl) ?_
  refine la_M (n := 0) F (y := 31) (I := in_X11_undo) rfl (as := []) (h := h2) (g := g) e2 (fun _ z => absurd z List.not_mem_nil) hokM rfl (Nat.le_of_ble_eq_true rfl) vw_301 vw_205 vw_302 vw_303 vw_304 (by decide +kernel) ⟨Nat.le_of_ble_eq_true rfl, Nat.le_of_ble_eq_true rfl⟩ hPX hPM hDM hS hl.1 rfl (rest := [.int (Int32.ofInt r)]) rfl (Nat.le_of_ble_eq_true rfl) dL_law_362 (fun H locs hPM hDM hokM hPX hS => ?_)
  refine lv_icmp_eq (tgt := 844) hx hb dL_law_365 (by decide) (fun _ => ?_) (fun z => absurd rfl z)
  exact next h2 g2 v2 H locs ⟨hrel2, hokX, hokM, hPX, hDX, hPM, hDM, hS⟩
set_option maxRecDepth 100000 in
theorem lk_10 {p : Program} {l : Launch} {e : Env} {s : State} {m : MethodId} {below : List Frame} {meth : Method} {c : Code} {b L i : Nat} {xs : Nat → Int32} {D : va_G} {cs : ClassId × ClassId × ClassId × ClassId} {adX adM : Nat → Nat} {h g : mm_H} {v : Nat} {H : Heap} {locs : List Loc} {ls : Array Slot} (F : lw_F p s m c b L xs D cs adX adM) (hi : i + 6 ≤ L) (S : lw_S D cs adX adM s h g v H locs) (hl : lv_has ls 4 [(3, .int (nI i)), (0, .ref b), (1, .ref (adX 0)), (2, .ref (adM 0))]) (next : ∀ (h g : mm_H) (v : Nat) (H : Heap) (locs : List Loc), lw_S D cs adX adM s h g v H locs → W p l e room_1 s m #[Value.ref b] below meth c H locs 600000 7302250 (lw_Z below #[Value.ref b] s) (F0 m 844 ls [])) : W p l e room_1 s m #[Value.ref b] below meth c H locs 600000 7302250 (lw_Z below #[Value.ref b] s) (F0 m 370 ls []) := by
  obtain ⟨hrel, hokX, hokM, hPX, hDX, hPM, hDM, hS⟩ := S
  have hx := F.1
  have hb := F.2.1
  obtain ⟨r, h2, g2, v2, e1, e2, hrel2⟩ := op_met hrel 
  refine lv_aload_n hx hb dL_law_370 rfl (lv_at hl 2 rfl) ?_
  refine la_X (n := 0) F (y := 77) (I := in_X10_met) rfl (as := []) (h := h) (g := g) e1 (fun _ z => absurd z List.not_mem_nil) hokX rfl (Nat.le_of_ble_eq_true rfl) vw_305 vw_188 vw_306 vw_307 vw_308 (by decide +kernel) ⟨Nat.le_of_ble_eq_true rfl, Nat.le_of_ble_eq_true rfl⟩ hPX hDX hPM hS hl.1 rfl (rest := []) rfl (Nat.le_of_ble_eq_true rfl) dL_law_371 (fun H locs hPX hDX hokX hPM hS => ?_)
  refine lv_aload_n hx hb dL_law_374 rfl (lv_at hl 3 rfl) ?_
  refine la_M (n := 0) F (y := 32) (I := in_X11_met) rfl (as := []) (h := h2) (g := g) e2 (fun _ z => absurd z List.not_mem_nil) hokM rfl (Nat.le_of_ble_eq_true rfl) vw_309 vw_205 vw_310 vw_311 vw_312 (by decide +kernel) ⟨Nat.le_of_ble_eq_true rfl, Nat.le_of_ble_eq_true rfl⟩ hPX hPM hDM hS hl.1 rfl (rest := [.int (Int32.ofInt r)]) rfl (Nat.le_of_ble_eq_true rfl) dL_law_375 (fun H locs hPM hDM hokM hPX hS => ?_)
  refine lv_icmp_eq (tgt := 844) hx hb dL_law_378 (by decide) (fun _ => ?_) (fun z => absurd rfl z)
  exact next h2 g2 v2 H locs ⟨hrel2, hokX, hokM, hPX, hDX, hPM, hDM, hS⟩
set_option maxRecDepth 100000 in
theorem lk_11 {p : Program} {l : Launch} {e : Env} {s : State} {m : MethodId} {below : List Frame} {meth : Method} {c : Code} {b L i : Nat} {xs : Nat → Int32} {D : va_G} {cs : ClassId × ClassId × ClassId × ClassId} {adX adM : Nat → Nat} {h g : mm_H} {v : Nat} {H : Heap} {locs : List Loc} {ls : Array Slot} (F : lw_F p s m c b L xs D cs adX adM) (hi : i + 6 ≤ L) (S : lw_S D cs adX adM s h g v H locs) (hl : lv_has ls 4 [(3, .int (nI i)), (0, .ref b), (1, .ref (adX 0)), (2, .ref (adM 0))]) (next : ∀ (h g : mm_H) (v : Nat) (H : Heap) (locs : List Loc), lw_S D cs adX adM s h g v H locs → W p l e room_1 s m #[Value.ref b] below meth c H locs 600000 7302250 (lw_Z below #[Value.ref b] s) (F0 m 844 ls [])) : W p l e room_1 s m #[Value.ref b] below meth c H locs 600000 7302250 (lw_Z below #[Value.ref b] s) (F0 m 383 ls []) := by
  obtain ⟨hrel, hokX, hokM, hPX, hDX, hPM, hDM, hS⟩ := S
  have hx := F.1
  have hb := F.2.1
  obtain ⟨r, h2, g2, v2, e1, e2, hrel2⟩ := op_noon hrel 
  refine lv_aload_n hx hb dL_law_383 rfl (lv_at hl 2 rfl) ?_
  refine la_X (n := 0) F (y := 78) (I := in_X10_noon) rfl (as := []) (h := h) (g := g) e1 (fun _ z => absurd z List.not_mem_nil) hokX rfl (Nat.le_of_ble_eq_true rfl) vw_313 vw_188 vw_314 vw_315 vw_316 (by decide +kernel) ⟨Nat.le_of_ble_eq_true rfl, Nat.le_of_ble_eq_true rfl⟩ hPX hDX hPM hS hl.1 rfl (rest := []) rfl (Nat.le_of_ble_eq_true rfl) dL_law_384 (fun H locs hPX hDX hokX hPM hS => ?_)
  refine lv_aload_n hx hb dL_law_387 rfl (lv_at hl 3 rfl) ?_
  refine la_M (n := 0) F (y := 34) (I := in_X11_noon) rfl (as := []) (h := h2) (g := g) e2 (fun _ z => absurd z List.not_mem_nil) hokM rfl (Nat.le_of_ble_eq_true rfl) vw_317 vw_205 vw_318 vw_319 vw_320 (by decide +kernel) ⟨Nat.le_of_ble_eq_true rfl, Nat.le_of_ble_eq_true rfl⟩ hPX hPM hDM hS hl.1 rfl (rest := [.int (Int32.ofInt r)]) rfl (Nat.le_of_ble_eq_true rfl) dL_law_388 (fun H locs hPM hDM hokM hPX hS => ?_)
  refine lv_icmp_eq (tgt := 844) hx hb dL_law_391 (by decide) (fun _ => ?_) (fun z => absurd rfl z)
  exact next h2 g2 v2 H locs ⟨hrel2, hokX, hokM, hPX, hDX, hPM, hDM, hS⟩
set_option maxRecDepth 100000 in
theorem lk_12 {p : Program} {l : Launch} {e : Env} {s : State} {m : MethodId} {below : List Frame} {meth : Method} {c : Code} {b L i : Nat} {xs : Nat → Int32} {D : va_G} {cs : ClassId × ClassId × ClassId × ClassId} {adX adM : Nat → Nat} {h g : mm_H} {v : Nat} {H : Heap} {locs : List Loc} {ls : Array Slot} (F : lw_F p s m c b L xs D cs adX adM) (hi : i + 6 ≤ L) (S : lw_S D cs adX adM s h g v H locs) (hl : lv_has ls 4 [(3, .int (nI i)), (0, .ref b), (1, .ref (adX 0)), (2, .ref (adM 0))]) (next : ∀ (h g : mm_H) (v : Nat) (H : Heap) (locs : List Loc), lw_S D cs adX adM s h g v H locs → W p l e room_1 s m #[Value.ref b] below meth c H locs 600000 7302250 (lw_Z below #[Value.ref b] s) (F0 m 844 ls [])) : W p l e room_1 s m #[Value.ref b] below meth c H locs 600000 7302250 (lw_Z below #[Value.ref b] s) (F0 m 396 ls []) := by
  obtain ⟨hrel, hokX, hokM, hPX, hDX, hPM, hDM, hS⟩ := S
  have hx := F.1
  have hb := F.2.1
  obtain ⟨r, h2, g2, v2, e1, e2, hrel2⟩ := op_soon hrel (xs (i + 1)).toInt (xs (i + 2)).toInt
  refine lv_aload_n hx hb dL_law_396 rfl (lv_at hl 2 rfl) ?_
  refine la_a (j := 1) F hi (by decide) (by decide) hl hS dL_law_397 dL_law_398 dL_law_399 dL_law_400 dL_law_401 ?_
  refine la_a (j := 2) F hi (by decide) (by decide) hl hS dL_law_402 dL_law_403 dL_law_404 dL_law_405 dL_law_406 ?_
  refine la_X (n := 2) F (y := 79) (I := in_X10_soon) rfl (as := [mm_i (xs (i + 1)).toInt, mm_i (xs (i + 2)).toInt]) (h := h) (g := g) e1 (mm_okS_c (v := mm_i (xs (i + 1)).toInt) (mm_toI _) (mm_okS_c (v := mm_i (xs (i + 2)).toInt) (mm_toI _) (fun _ z => absurd z List.not_mem_nil))) hokX rfl (Nat.le_of_ble_eq_true rfl) vw_321 vw_188 vw_322 vw_323 vw_324 (by decide +kernel) ⟨Nat.le_of_ble_eq_true rfl, Nat.le_of_ble_eq_true rfl⟩ hPX hDX hPM hS hl.1 rfl (rest := []) rfl (Nat.le_of_ble_eq_true rfl) dL_law_407 (fun H locs hPX hDX hokX hPM hS => ?_)
  refine lv_aload_n hx hb dL_law_410 rfl (lv_at hl 3 rfl) ?_
  refine la_a (j := 1) F hi (by decide) (by decide) hl hS dL_law_411 dL_law_412 dL_law_413 dL_law_414 dL_law_415 ?_
  refine la_a (j := 2) F hi (by decide) (by decide) hl hS dL_law_416 dL_law_417 dL_law_418 dL_law_419 dL_law_420 ?_
  refine la_M (n := 2) F (y := 37) (I := in_X11_soon) rfl (as := [mm_i (xs (i + 1)).toInt, mm_i (xs (i + 2)).toInt]) (h := h2) (g := g) e2 (mm_okS_c (v := mm_i (xs (i + 1)).toInt) (mm_toI _) (mm_okS_c (v := mm_i (xs (i + 2)).toInt) (mm_toI _) (fun _ z => absurd z List.not_mem_nil))) hokM rfl (Nat.le_of_ble_eq_true rfl) vw_325 vw_205 vw_326 vw_327 vw_328 (by decide +kernel) ⟨Nat.le_of_ble_eq_true rfl, Nat.le_of_ble_eq_true rfl⟩ hPX hPM hDM hS hl.1 rfl (rest := [.int (Int32.ofInt r)]) rfl (Nat.le_of_ble_eq_true rfl) dL_law_421 (fun H locs hPM hDM hokM hPX hS => ?_)
  refine lv_icmp_eq (tgt := 844) hx hb dL_law_424 (by decide) (fun _ => ?_) (fun z => absurd rfl z)
  exact next h2 g2 v2 H locs ⟨hrel2, hokX, hokM, hPX, hDX, hPM, hDM, hS⟩
set_option maxRecDepth 100000 in
theorem lk_13 {p : Program} {l : Launch} {e : Env} {s : State} {m : MethodId} {below : List Frame} {meth : Method} {c : Code} {b L i : Nat} {xs : Nat → Int32} {D : va_G} {cs : ClassId × ClassId × ClassId × ClassId} {adX adM : Nat → Nat} {h g : mm_H} {v : Nat} {H : Heap} {locs : List Loc} {ls : Array Slot} (F : lw_F p s m c b L xs D cs adX adM) (hi : i + 6 ≤ L) (S : lw_S D cs adX adM s h g v H locs) (hl : lv_has ls 4 [(3, .int (nI i)), (0, .ref b), (1, .ref (adX 0)), (2, .ref (adM 0))]) (next : ∀ (h g : mm_H) (v : Nat) (H : Heap) (locs : List Loc), lw_S D cs adX adM s h g v H locs → W p l e room_1 s m #[Value.ref b] below meth c H locs 600000 7302250 (lw_Z below #[Value.ref b] s) (F0 m 844 ls [])) : W p l e room_1 s m #[Value.ref b] below meth c H locs 600000 7302250 (lw_Z below #[Value.ref b] s) (F0 m 429 ls []) := by
  obtain ⟨hrel, hokX, hokM, hPX, hDX, hPM, hDM, hS⟩ := S
  have hx := F.1
  have hb := F.2.1
  obtain ⟨r, h2, g2, v2, e1, e2, hrel2⟩ := op_plan hrel (xs (i + 1)).toInt
  refine lv_aload_n hx hb dL_law_429 rfl (lv_at hl 2 rfl) ?_
  refine la_a (j := 1) F hi (by decide) (by decide) hl hS dL_law_430 dL_law_431 dL_law_432 dL_law_433 dL_law_434 ?_
  refine la_X (n := 1) F (y := 80) (I := in_X10_plan) rfl (as := [mm_i (xs (i + 1)).toInt]) (h := h) (g := g) e1 (mm_okS_c (v := mm_i (xs (i + 1)).toInt) (mm_toI _) (fun _ z => absurd z List.not_mem_nil)) hokX rfl (Nat.le_of_ble_eq_true rfl) vw_329 vw_188 vw_330 vw_331 vw_332 (by decide +kernel) ⟨Nat.le_of_ble_eq_true rfl, Nat.le_of_ble_eq_true rfl⟩ hPX hDX hPM hS hl.1 rfl (rest := []) rfl (Nat.le_of_ble_eq_true rfl) dL_law_435 (fun H locs hPX hDX hokX hPM hS => ?_)
  refine lv_aload_n hx hb dL_law_438 rfl (lv_at hl 3 rfl) ?_
  refine la_a (j := 1) F hi (by decide) (by decide) hl hS dL_law_439 dL_law_440 dL_law_441 dL_law_442 dL_law_443 ?_
  refine la_M (n := 1) F (y := 38) (I := in_X11_plan) rfl (as := [mm_i (xs (i + 1)).toInt]) (h := h2) (g := g) e2 (mm_okS_c (v := mm_i (xs (i + 1)).toInt) (mm_toI _) (fun _ z => absurd z List.not_mem_nil)) hokM rfl (Nat.le_of_ble_eq_true rfl) vw_333 vw_205 vw_334 vw_335 vw_336 (by decide +kernel) ⟨Nat.le_of_ble_eq_true rfl, Nat.le_of_ble_eq_true rfl⟩ hPX hPM hDM hS hl.1 rfl (rest := [.int (Int32.ofInt r)]) rfl (Nat.le_of_ble_eq_true rfl) dL_law_444 (fun H locs hPM hDM hokM hPX hS => ?_)
  refine lv_icmp_eq (tgt := 844) hx hb dL_law_447 (by decide) (fun _ => ?_) (fun z => absurd rfl z)
  exact next h2 g2 v2 H locs ⟨hrel2, hokX, hokM, hPX, hDX, hPM, hDM, hS⟩
