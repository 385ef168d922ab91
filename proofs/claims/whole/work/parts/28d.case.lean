/-! ===== cases of the law (by wip/gen/walkl.py) ===== -/
set_option maxRecDepth 100000 in
theorem lk_14 {p : Program} {l : Launch} {e : Env} {s : State} {m : MethodId} {below : List Frame} {meth : Method} {c : Code} {b L i : Nat} {xs : Nat → Int32} {D : va_G} {cs : ClassId × ClassId × ClassId × ClassId} {adX adM : Nat → Nat} {h g : mm_H} {v : Nat} {H : Heap} {locs : List Loc} {ls : Array Slot} (F : lw_F p s m c b L xs D cs adX adM) (hi : i + 6 ≤ L) (S : lw_S D cs adX adM s h g v H locs) (hl : lv_has ls 4 [(3, .int (nI i)), (0, .ref b), (1, .ref (adX 0)), (2, .ref (adM 0))]) (next : ∀ (h g : mm_H) (v : Nat) (H : Heap) (locs : List Loc), lw_S D cs adX adM s h g v H locs → W p l e room_1 s m #[Value.ref b] below meth c H locs 600000 7302250 (lw_Z below #[Value.ref b] s) (F0 m 844 ls [])) : W p l e room_1 s m #[Value.ref b] below meth c H locs 600000 7302250 (lw_Z below #[Value.ref b] s) (F0 m 452 ls []) := by
  obtain ⟨hrel, hokX, hokM, hPX, hDX, hPM, hDM, hS⟩ := S
  have hx := F.1
  have hb := F.2.1
  obtain ⟨r, h2, g2, v2, e1, e2, hrel2⟩ := op_best hrel (xs (i + 1)).toInt (xs (i + 2)).toInt
  refine lv_aload_n hx hb dL_law_452 rfl (lv_at hl 2 rfl) ?_
  refine la_a (j := 1) F hi (by decide) (by decide) hl hS dL_law_453 dL_law_454 dL_law_455 dL_law_456 dL_law_457 ?_
  refine la_a (j := 2) F hi (by decide) (by decide) hl hS dL_law_458 dL_law_459 dL_law_460 dL_law_461 dL_law_462 ?_
  refine la_X (n := 2) F (y := 81) (I := in_X10_best) rfl (as := [mm_i (xs (i + 1)).toInt, mm_i (xs (i + 2)).toInt]) (h := h) (g := g) e1 (mm_okS_c (v := mm_i (xs (i + 1)).toInt) (mm_toI _) (mm_okS_c (v := mm_i (xs (i + 2)).toInt) (mm_toI _) (fun _ z => absurd z List.not_mem_nil))) hokX rfl (Nat.le_of_ble_eq_true rfl) vw_337 vw_188 vw_338 vw_339 vw_340 (by decide +kernel) ⟨Nat.le_of_ble_eq_true rfl, Nat.le_of_ble_eq_true rfl⟩ hPX hDX hPM hS hl.1 rfl (rest := []) rfl (Nat.le_of_ble_eq_true rfl) dL_law_463 (fun H locs hPX hDX hokX hPM hS => ?_)
  refine lv_aload_n hx hb dL_law_466 rfl (lv_at hl 3 rfl) ?_
  refine la_a (j := 1) F hi (by decide) (by decide) hl hS dL_law_467 dL_law_468 dL_law_469 dL_law_470 dL_law_471 ?_
  refine la_a (j := 2) F hi (by decide) (by decide) hl hS dL_law_472 dL_law_473 dL_law_474 dL_law_475 dL_law_476 ?_
  refine la_M (n := 2) F (y := 39) (I := in_X11_best) rfl (as := [mm_i (xs (i + 1)).toInt, mm_i (xs (i + 2)).toInt]) (h := h2) (g := g) e2 (mm_okS_c (v := mm_i (xs (i + 1)).toInt) (mm_toI _) (mm_okS_c (v := mm_i (xs (i + 2)).toInt) (mm_toI _) (fun _ z => absurd z List.not_mem_nil))) hokM rfl (Nat.le_of_ble_eq_true rfl) vw_341 vw_205 vw_342 vw_343 vw_344 (by decide +kernel) ⟨Nat.le_of_ble_eq_true rfl, Nat.le_of_ble_eq_true rfl⟩ hPX hPM hDM hS hl.1 rfl (rest := [.int (Int32.ofInt r)]) rfl (Nat.le_of_ble_eq_true rfl) dL_law_477 (fun H locs hPM hDM hokM hPX hS => ?_)
  refine lv_icmp_eq (tgt := 844) hx hb dL_law_480 (by decide) (fun _ => ?_) (fun z => absurd rfl z)
  exact next h2 g2 v2 H locs ⟨hrel2, hokX, hokM, hPX, hDX, hPM, hDM, hS⟩
set_option maxRecDepth 100000 in
theorem lk_15 {p : Program} {l : Launch} {e : Env} {s : State} {m : MethodId} {below : List Frame} {meth : Method} {c : Code} {b L i : Nat} {xs : Nat → Int32} {D : va_G} {cs : ClassId × ClassId × ClassId × ClassId} {adX adM : Nat → Nat} {h g : mm_H} {v : Nat} {H : Heap} {locs : List Loc} {ls : Array Slot} (F : lw_F p s m c b L xs D cs adX adM) (hi : i + 6 ≤ L) (S : lw_S D cs adX adM s h g v H locs) (hl : lv_has ls 4 [(3, .int (nI i)), (0, .ref b), (1, .ref (adX 0)), (2, .ref (adM 0))]) (next : ∀ (h g : mm_H) (v : Nat) (H : Heap) (locs : List Loc), lw_S D cs adX adM s h g v H locs → W p l e room_1 s m #[Value.ref b] below meth c H locs 600000 7302250 (lw_Z below #[Value.ref b] s) (F0 m 844 ls [])) : W p l e room_1 s m #[Value.ref b] below meth c H locs 600000 7302250 (lw_Z below #[Value.ref b] s) (F0 m 485 ls []) := by
  obtain ⟨hrel, hokX, hokM, hPX, hDX, hPM, hDM, hS⟩ := S
  have hx := F.1
  have hb := F.2.1
  obtain ⟨r, h2, g2, v2, e1, e2, hrel2⟩ := op_posts hrel (xs (i + 1)).toInt
  refine lv_aload_n hx hb dL_law_485 rfl (lv_at hl 2 rfl) ?_
  refine la_a (j := 1) F hi (by decide) (by decide) hl hS dL_law_486 dL_law_487 dL_law_488 dL_law_489 dL_law_490 ?_
  refine la_X (n := 1) F (y := 82) (I := in_X10_posts) rfl (as := [mm_i (xs (i + 1)).toInt]) (h := h) (g := g) e1 (mm_okS_c (v := mm_i (xs (i + 1)).toInt) (mm_toI _) (fun _ z => absurd z List.not_mem_nil)) hokX rfl (Nat.le_of_ble_eq_true rfl) vw_345 vw_188 vw_346 vw_347 vw_348 (by decide +kernel) ⟨Nat.le_of_ble_eq_true rfl, Nat.le_of_ble_eq_true rfl⟩ hPX hDX hPM hS hl.1 rfl (rest := []) rfl (Nat.le_of_ble_eq_true rfl) dL_law_491 (fun H locs hPX hDX hokX hPM hS => ?_)
  refine lv_aload_n hx hb dL_law_494 rfl (lv_at hl 3 rfl) ?_
  refine la_a (j := 1) F hi (by decide) (by decide) hl hS dL_law_495 dL_law_496 dL_law_497 dL_law_498 dL_law_499 ?_
  refine la_M (n := 1) F (y := 40) (I := in_X11_posts) rfl (as := [mm_i (xs (i + 1)).toInt]) (h := h2) (g := g) e2 (mm_okS_c (v := mm_i (xs (i + 1)).toInt) (mm_toI _) (fun _ z => absurd z List.not_mem_nil)) hokM rfl (Nat.le_of_ble_eq_true rfl) vw_349 vw_205 vw_350 vw_351 vw_352 (by decide +kernel) ⟨Nat.le_of_ble_eq_true rfl, Nat.le_of_ble_eq_true rfl⟩ hPX hPM hDM hS hl.1 rfl (rest := [.int (Int32.ofInt r)]) rfl (Nat.le_of_ble_eq_true rfl) dL_law_500 (fun H locs hPM hDM hokM hPX hS => ?_)
  refine lv_icmp_eq (tgt := 844) hx hb dL_law_503 (by decide) (fun _ => ?_) (fun z => absurd rfl z)
  exact next h2 g2 v2 H locs ⟨hrel2, hokX, hokM, hPX, hDX, hPM, hDM, hS⟩
set_option maxRecDepth 100000 in
theorem lk_16 {p : Program} {l : Launch} {e : Env} {s : State} {m : MethodId} {below : List Frame} {meth : Method} {c : Code} {b L i : Nat} {xs : Nat → Int32} {D : va_G} {cs : ClassId × ClassId × ClassId × ClassId} {adX adM : Nat → Nat} {h g : mm_H} {v : Nat} {H : Heap} {locs : List Loc} {ls : Array Slot} (F : lw_F p s m c b L xs D cs adX adM) (hi : i + 6 ≤ L) (S : lw_S D cs adX adM s h g v H locs) (hl : lv_has ls 4 [(3, .int (nI i)), (0, .ref b), (1, .ref (adX 0)), (2, .ref (adM 0))]) (next : ∀ (h g : mm_H) (v : Nat) (H : Heap) (locs : List Loc), lw_S D cs adX adM s h g v H locs → W p l e room_1 s m #[Value.ref b] below meth c H locs 600000 7302250 (lw_Z below #[Value.ref b] s) (F0 m 844 ls [])) : W p l e room_1 s m #[Value.ref b] below meth c H locs 600000 7302250 (lw_Z below #[Value.ref b] s) (F0 m 508 ls []) := by
  obtain ⟨hrel, hokX, hokM, hPX, hDX, hPM, hDM, hS⟩ := S
  have hx := F.1
  have hb := F.2.1
  obtain ⟨r, h2, g2, v2, e1, e2, hrel2⟩ := op_brown hrel (xs (i + 1)).toInt
  refine lv_aload_n hx hb dL_law_508 rfl (lv_at hl 2 rfl) ?_
  refine la_a (j := 1) F hi (by decide) (by decide) hl hS dL_law_509 dL_law_510 dL_law_511 dL_law_512 dL_law_513 ?_
  refine la_X (n := 1) F (y := 83) (I := in_X10_brown) rfl (as := [mm_i (xs (i + 1)).toInt]) (h := h) (g := g) e1 (mm_okS_c (v := mm_i (xs (i + 1)).toInt) (mm_toI _) (fun _ z => absurd z List.not_mem_nil)) hokX rfl (Nat.le_of_ble_eq_true rfl) vw_353 vw_188 vw_354 vw_355 vw_356 (by decide +kernel) ⟨Nat.le_of_ble_eq_true rfl, Nat.le_of_ble_eq_true rfl⟩ hPX hDX hPM hS hl.1 rfl (rest := []) rfl (Nat.le_of_ble_eq_true rfl) dL_law_514 (fun H locs hPX hDX hokX hPM hS => ?_)
  refine lv_aload_n hx hb dL_law_517 rfl (lv_at hl 3 rfl) ?_
  refine la_a (j := 1) F hi (by decide) (by decide) hl hS dL_law_518 dL_law_519 dL_law_520 dL_law_521 dL_law_522 ?_
  refine la_M (n := 1) F (y := 41) (I := in_X11_brown) rfl (as := [mm_i (xs (i + 1)).toInt]) (h := h2) (g := g) e2 (mm_okS_c (v := mm_i (xs (i + 1)).toInt) (mm_toI _) (fun _ z => absurd z List.not_mem_nil)) hokM rfl (Nat.le_of_ble_eq_true rfl) vw_357 vw_205 vw_358 vw_359 vw_360 (by decide +kernel) ⟨Nat.le_of_ble_eq_true rfl, Nat.le_of_ble_eq_true rfl⟩ hPX hPM hDM hS hl.1 rfl (rest := [.int (Int32.ofInt r)]) rfl (Nat.le_of_ble_eq_true rfl) dL_law_523 (fun H locs hPM hDM hokM hPX hS => ?_)
  refine lv_icmp_eq (tgt := 844) hx hb dL_law_526 (by decide) (fun _ => ?_) (fun z => absurd rfl z)
  exact next h2 g2 v2 H locs ⟨hrel2, hokX, hokM, hPX, hDX, hPM, hDM, hS⟩
set_option maxRecDepth 100000 in
theorem lk_17 {p : Program} {l : Launch} {e : Env} {s : State} {m : MethodId} {below : List Frame} {meth : Method} {c : Code} {b L i : Nat} {xs : Nat → Int32} {D : va_G} {cs : ClassId × ClassId × ClassId × ClassId} {adX adM : Nat → Nat} {h g : mm_H} {v : Nat} {H : Heap} {locs : List Loc} {ls : Array Slot} (F : lw_F p s m c b L xs D cs adX adM) (hi : i + 6 ≤ L) (S : lw_S D cs adX adM s h g v H locs) (hl : lv_has ls 4 [(3, .int (nI i)), (0, .ref b), (1, .ref (adX 0)), (2, .ref (adM 0))]) (next : ∀ (h g : mm_H) (v : Nat) (H : Heap) (locs : List Loc), lw_S D cs adX adM s h g v H locs → W p l e room_1 s m #[Value.ref b] below meth c H locs 600000 7302250 (lw_Z below #[Value.ref b] s) (F0 m 844 ls [])) : W p l e room_1 s m #[Value.ref b] below meth c H locs 600000 7302250 (lw_Z below #[Value.ref b] s) (F0 m 531 ls []) := by
  obtain ⟨hrel, hokX, hokM, hPX, hDX, hPM, hDM, hS⟩ := S
  have hx := F.1
  have hb := F.2.1
  obtain ⟨r, h2, g2, v2, e1, e2, hrel2⟩ := op_seen hrel (xs (i + 1)).toInt (xs (i + 2)).toInt
  refine lv_aload_n hx hb dL_law_531 rfl (lv_at hl 2 rfl) ?_
  refine la_a (j := 1) F hi (by decide) (by decide) hl hS dL_law_532 dL_law_533 dL_law_534 dL_law_535 dL_law_536 ?_
  refine la_a (j := 2) F hi (by decide) (by decide) hl hS dL_law_537 dL_law_538 dL_law_539 dL_law_540 dL_law_541 ?_
  refine la_X (n := 2) F (y := 84) (I := in_X10_seen) rfl (as := [mm_i (xs (i + 1)).toInt, mm_i (xs (i + 2)).toInt]) (h := h) (g := g) e1 (mm_okS_c (v := mm_i (xs (i + 1)).toInt) (mm_toI _) (mm_okS_c (v := mm_i (xs (i + 2)).toInt) (mm_toI _) (fun _ z => absurd z List.not_mem_nil))) hokX rfl (Nat.le_of_ble_eq_true rfl) vw_361 vw_188 vw_362 vw_363 vw_364 (by decide +kernel) ⟨Nat.le_of_ble_eq_true rfl, Nat.le_of_ble_eq_true rfl⟩ hPX hDX hPM hS hl.1 rfl (rest := []) rfl (Nat.le_of_ble_eq_true rfl) dL_law_542 (fun H locs hPX hDX hokX hPM hS => ?_)
  refine lv_aload_n hx hb dL_law_545 rfl (lv_at hl 3 rfl) ?_
  refine la_a (j := 1) F hi (by decide) (by decide) hl hS dL_law_546 dL_law_547 dL_law_548 dL_law_549 dL_law_550 ?_
  refine la_a (j := 2) F hi (by decide) (by decide) hl hS dL_law_551 dL_law_552 dL_law_553 dL_law_554 dL_law_555 ?_
  refine la_M (n := 2) F (y := 42) (I := in_X11_seen) rfl (as := [mm_i (xs (i + 1)).toInt, mm_i (xs (i + 2)).toInt]) (h := h2) (g := g) e2 (mm_okS_c (v := mm_i (xs (i + 1)).toInt) (mm_toI _) (mm_okS_c (v := mm_i (xs (i + 2)).toInt) (mm_toI _) (fun _ z => absurd z List.not_mem_nil))) hokM rfl (Nat.le_of_ble_eq_true rfl) vw_365 vw_205 vw_366 vw_367 vw_368 (by decide +kernel) ⟨Nat.le_of_ble_eq_true rfl, Nat.le_of_ble_eq_true rfl⟩ hPX hPM hDM hS hl.1 rfl (rest := [.int (Int32.ofInt r)]) rfl (Nat.le_of_ble_eq_true rfl) dL_law_556 (fun H locs hPM hDM hokM hPX hS => ?_)
  refine lv_icmp_eq (tgt := 844) hx hb dL_law_559 (by decide) (fun _ => ?_) (fun z => absurd rfl z)
  exact next h2 g2 v2 H locs ⟨hrel2, hokX, hokM, hPX, hDX, hPM, hDM, hS⟩
set_option maxRecDepth 100000 in
theorem lk_18 {p : Program} {l : Launch} {e : Env} {s : State} {m : MethodId} {below : List Frame} {meth : Method} {c : Code} {b L i : Nat} {xs : Nat → Int32} {D : va_G} {cs : ClassId × ClassId × ClassId × ClassId} {adX adM : Nat → Nat} {h g : mm_H} {v : Nat} {H : Heap} {locs : List Loc} {ls : Array Slot} (F : lw_F p s m c b L xs D cs adX adM) (hi : i + 6 ≤ L) (S : lw_S D cs adX adM s h g v H locs) (hl : lv_has ls 4 [(3, .int (nI i)), (0, .ref b), (1, .ref (adX 0)), (2, .ref (adM 0))]) (next : ∀ (h g : mm_H) (v : Nat) (H : Heap) (locs : List Loc), lw_S D cs adX adM s h g v H locs → W p l e room_1 s m #[Value.ref b] below meth c H locs 600000 7302250 (lw_Z below #[Value.ref b] s) (F0 m 844 ls [])) : W p l e room_1 s m #[Value.ref b] below meth c H locs 600000 7302250 (lw_Z below #[Value.ref b] s) (F0 m 564 ls []) := by
  obtain ⟨hrel, hokX, hokM, hPX, hDX, hPM, hDM, hS⟩ := S
  have hx := F.1
  have hb := F.2.1
  obtain ⟨r, h2, g2, v2, e1, e2, hrel2⟩ := op_forget hrel 
  refine lv_aload_n hx hb dL_law_564 rfl (lv_at hl 2 rfl) ?_
  refine la_X (n := 0) F (y := 85) (I := in_X10_forget) rfl (as := []) (h := h) (g := g) e1 (fun _ z => absurd z List.not_mem_nil) hokX rfl (Nat.le_of_ble_eq_true rfl) vw_369 vw_188 vw_370 vw_371 vw_372 (by decide +kernel) ⟨Nat.le_of_ble_eq_true rfl, Nat.le_of_ble_eq_true rfl⟩ hPX hDX hPM hS hl.1 rfl (rest := []) rfl (Nat.le_of_ble_eq_true rfl) dL_law_565 (fun H locs hPX hDX hokX hPM hS => ?_)
  refine lv_aload_n hx hb dL_law_568 rfl (lv_at hl 3 rfl) ?_
  refine la_M (n := 0) F (y := 43) (I := in_X11_forget) rfl (as := []) (h := h2) (g := g) e2 (fun _ z => absurd z List.not_mem_nil) hokM rfl (Nat.le_of_ble_eq_true rfl) vw_373 vw_205 vw_374 vw_375 vw_376 (by decide +kernel) ⟨Nat.le_of_ble_eq_true rfl, Nat.le_of_ble_eq_true rfl⟩ hPX hPM hDM hS hl.1 rfl (rest := [.int (Int32.ofInt r)]) rfl (Nat.le_of_ble_eq_true rfl) dL_law_569 (fun H locs hPM hDM hokM hPX hS => ?_)
  refine lv_icmp_eq (tgt := 844) hx hb dL_law_572 (by decide) (fun _ => ?_) (fun z => absurd rfl z)
  exact next h2 g2 v2 H locs ⟨hrel2, hokX, hokM, hPX, hDX, hPM, hDM, hS⟩
set_option maxRecDepth 100000 in
theorem lk_19 {p : Program} {l : Launch} {e : Env} {s : State} {m : MethodId} {below : List Frame} {meth : Method} {c : Code} {b L i : Nat} {xs : Nat → Int32} {D : va_G} {cs : ClassId × ClassId × ClassId × ClassId} {adX adM : Nat → Nat} {h g : mm_H} {v : Nat} {H : Heap} {locs : List Loc} {ls : Array Slot} (F : lw_F p s m c b L xs D cs adX adM) (hi : i + 6 ≤ L) (S : lw_S D cs adX adM s h g v H locs) (hl : lv_has ls 4 [(3, .int (nI i)), (0, .ref b), (1, .ref (adX 0)), (2, .ref (adM 0))]) (next : ∀ (h g : mm_H) (v : Nat) (H : Heap) (locs : List Loc), lw_S D cs adX adM s h g v H locs → W p l e room_1 s m #[Value.ref b] below meth c H locs 600000 7302250 (lw_Z below #[Value.ref b] s) (F0 m 844 ls [])) : W p l e room_1 s m #[Value.ref b] below meth c H locs 600000 7302250 (lw_Z below #[Value.ref b] s) (F0 m 577 ls []) := by
  obtain ⟨hrel, hokX, hokM, hPX, hDX, hPM, hDM, hS⟩ := S
  have hx := F.1
  have hb := F.2.1
  obtain ⟨r, h2, g2, v2, e1, e2, hrel2⟩ := op_slipped hrel (xs (i + 1)).toInt
  refine lv_aload_n hx hb dL_law_577 rfl (lv_at hl 2 rfl) ?_
  refine la_a (j := 1) F hi (by decide) (by decide) hl hS dL_law_578 dL_law_579 dL_law_580 dL_law_581 dL_law_582 ?_
  refine la_X (n := 1) F (y := 86) (I := in_X10_slipped) rfl (as := [mm_i (xs (i + 1)).toInt]) (h := h) (g := g) e1 (mm_okS_c (v := mm_i (xs (i + 1)).toInt) (mm_toI _) (fun _ z => absurd z List.not_mem_nil)) hokX rfl (Nat.le_of_ble_eq_true rfl) vw_377 vw_188 vw_378 vw_379 vw_380 (by decide +kernel) ⟨Nat.le_of_ble_eq_true rfl, Nat.le_of_ble_eq_true rfl⟩ hPX hDX hPM hS hl.1 rfl (rest := []) rfl (Nat.le_of_ble_eq_true rfl) dL_law_583 (fun H locs hPX hDX hokX hPM hS => ?_)
  refine lv_aload_n hx hb dL_law_586 rfl (lv_at hl 3 rfl) ?_
  refine la_a (j := 1) F hi (by decide) (by decide) hl hS dL_law_587 dL_law_588 dL_law_589 dL_law_590 dL_law_591 ?_
  refine la_M (n := 1) F (y := 46) (I := in_X11_slipped) rfl (as := [mm_i (xs (i + 1)).toInt]) (h := h2) (g := g) e2 (mm_okS_c (v := mm_i (xs (i + 1)).toInt) (mm_toI _) (fun _ z => absurd z List.not_mem_nil)) hokM rfl (Nat.le_of_ble_eq_true rfl) vw_381 vw_205 vw_382 vw_383 vw_384 (by decide +kernel) ⟨Nat.le_of_ble_eq_true rfl, Nat.le_of_ble_eq_true rfl⟩ hPX hPM hDM hS hl.1 rfl (rest := [.int (Int32.ofInt r)]) rfl (Nat.le_of_ble_eq_true rfl) dL_law_592 (fun H locs hPM hDM hokM hPX hS => ?_)
  refine lv_icmp_eq (tgt := 844) hx hb dL_law_595 (by decide) (fun _ => ?_) (fun z => absurd rfl z)
  exact next h2 g2 v2 H locs ⟨hrel2, hokX, hokM, hPX, hDX, hPM, hDM, hS⟩
set_option maxRecDepth 100000 in
theorem lk_20 {p : Program} {l : Launch} {e : Env} {s : State} {m : MethodId} {below : List Frame} {meth : Method} {c : Code} {b L i : Nat} {xs : Nat → Int32} {D : va_G} {cs : ClassId × ClassId × ClassId × ClassId} {adX adM : Nat → Nat} {h g : mm_H} {v : Nat} {H : Heap} {locs : List Loc} {ls : Array Slot} (F : lw_F p s m c b L xs D cs adX adM) (hi : i + 6 ≤ L) (S : lw_S D cs adX adM s h g v H locs) (hl : lv_has ls 4 [(3, .int (nI i)), (0, .ref b), (1, .ref (adX 0)), (2, .ref (adM 0))]) (next : ∀ (h g : mm_H) (v : Nat) (H : Heap) (locs : List Loc), lw_S D cs adX adM s h g v H locs → W p l e room_1 s m #[Value.ref b] below meth c H locs 600000 7302250 (lw_Z below #[Value.ref b] s) (F0 m 844 ls [])) : W p l e room_1 s m #[Value.ref b] below meth c H locs 600000 7302250 (lw_Z below #[Value.ref b] s) (F0 m 600 ls []) := by
  obtain ⟨hrel, hokX, hokM, hPX, hDX, hPM, hDM, hS⟩ := S
  have hx := F.1
  have hb := F.2.1
  obtain ⟨r, h2, g2, v2, e1, e2, hrel2⟩ := op_look hrel (xs (i + 1)).toInt
  refine lv_aload_n hx hb dL_law_600 rfl (lv_at hl 2 rfl) ?_
  refine la_a (j := 1) F hi (by decide) (by decide) hl hS dL_law_601 dL_law_602 dL_law_603 dL_law_604 dL_law_605 ?_
  refine la_X (n := 1) F (y := 87) (I := in_X10_look) rfl (as := [mm_i (xs (i + 1)).toInt]) (h := h) (g := g) e1 (mm_okS_c (v := mm_i (xs (i + 1)).toInt) (mm_toI _) (fun _ z => absurd z List.not_mem_nil)) hokX rfl (Nat.le_of_ble_eq_true rfl) vw_385 vw_188 vw_386 vw_387 vw_388 (by decide +kernel) ⟨Nat.le_of_ble_eq_true rfl, Nat.le_of_ble_eq_true rfl⟩ hPX hDX hPM hS hl.1 rfl (rest := []) rfl (Nat.le_of_ble_eq_true rfl) dL_law_606 (fun H locs hPX hDX hokX hPM hS => ?_)
  refine lv_aload_n hx hb dL_law_609 rfl (lv_at hl 3 rfl) ?_
  refine la_a (j := 1) F hi (by decide) (by decide) hl hS dL_law_610 dL_law_611 dL_law_612 dL_law_613 dL_law_614 ?_
  refine la_M (n := 1) F (y := 47) (I := in_X11_look) rfl (as := [mm_i (xs (i + 1)).toInt]) (h := h2) (g := g) e2 (mm_okS_c (v := mm_i (xs (i + 1)).toInt) (mm_toI _) (fun _ z => absurd z List.not_mem_nil)) hokM rfl (Nat.le_of_ble_eq_true rfl) vw_389 vw_205 vw_390 vw_391 vw_392 (by decide +kernel) ⟨Nat.le_of_ble_eq_true rfl, Nat.le_of_ble_eq_true rfl⟩ hPX hPM hDM hS hl.1 rfl (rest := [.int (Int32.ofInt r)]) rfl (Nat.le_of_ble_eq_true rfl) dL_law_615 (fun H locs hPM hDM hokM hPX hS => ?_)
  refine lv_icmp_eq (tgt := 844) hx hb dL_law_618 (by decide) (fun _ => ?_) (fun z => absurd rfl z)
  exact next h2 g2 v2 H locs ⟨hrel2, hokX, hokM, hPX, hDX, hPM, hDM, hS⟩
