/-! ===== cases of the law (by wip/gen/walkl.py) ===== -/
set_option maxRecDepth 100000 in
theorem lk_21 {p : Program} {l : Launch} {e : Env} {s : State} {m : MethodId} {below : List Frame} {meth : Method} {c : Code} {b L i : Nat} {xs : Nat → Int32} {D : va_G} {cs : ClassId × ClassId × ClassId × ClassId} {adX adM : Nat → Nat} {h g : mm_H} {v : Nat} {H : Heap} {locs : List Loc} {ls : Array Slot} (F : lw_F p s m c b L xs D cs adX adM) (hi : i + 6 ≤ L) (S : lw_S D cs adX adM s h g v H locs) (hl : lv_has ls 4 [(3, .int (nI i)), (0, .ref b), (1, .ref (adX 0)), (2, .ref (adM 0))]) (next : ∀ (h g : mm_H) (v : Nat) (H : Heap) (locs : List Loc), lw_S D cs adX adM s h g v H locs → W p l e room_1 s m #[Value.ref b] below meth c H locs 600000 7302250 (lw_Z below #[Value.ref b] s) (F0 m 844 ls [])) : W p l e room_1 s m #[Value.ref b] below meth c H locs 600000 7302250 (lw_Z below #[Value.ref b] s) (F0 m 623 ls []) := by
  obtain ⟨hrel, hokX, hokM, hPX, hDX, hPM, hDM, hS⟩ := S
  have hx := F.1
  have hb := F.2.1
  obtain ⟨r, h2, g2, v2, e1, e2, hrel2⟩ := op_paces hrel (xs (i + 1)).toInt (xs (i + 2)).toInt (xs (i + 3)).toInt
  refine lv_aload_n hx hb dL_law_623 rfl (lv_at hl 2 rfl) ?_
  refine la_a (j := 1) F hi (by decide) (by decide) hl hS dL_law_624 dL_law_625 dL_law_626 dL_law_627 dL_law_628 ?_
  refine la_a (j := 2) F hi (by decide) (by decide) hl hS dL_law_629 dL_law_630 dL_law_631 dL_law_632 dL_law_633 ?_
  refine la_a (j := 3) F hi (by decide) (by decide) hl hS dL_law_634 dL_law_635 dL_law_636 dL_law_637 dL_law_638 ?_
  refine la_X (n := 3) F (y := 88) (I := in_X10_paces) rfl (as := [mm_i (xs (i + 1)).toInt, mm_i (xs (i + 2)).toInt, mm_i (xs (i + 3)).toInt]) (h := h) (g := g) e1 (mm_okS_c (v := mm_i (xs (i + 1)).toInt) (mm_toI _) (mm_okS_c (v := mm_i (xs (i + 2)).toInt) (mm_toI _) (mm_okS_c (v := mm_i (xs (i + 3)).toInt) (mm_toI _) (fun _ z => absurd z List.not_mem_nil)))) hokX rfl (Nat.le_of_ble_eq_true rfl) vw_393 vw_188 vw_394 vw_395 vw_396 (by decide +kernel) ⟨Nat.le_of_ble_eq_true rfl, Nat.le_of_ble_eq_true rfl⟩ hPX hDX hPM hS hl.1 rfl (rest := []) rfl (Nat.le_of_ble_eq_true rfl) dL_law_639 (fun H locs hPX hDX hokX hPM hS => ?_)
  refine lv_aload_n hx hb dL_law_642 rfl (lv_at hl 3 rfl) ?_
  refine la_a (j := 1) F hi (by decide) (by decide) hl hS dL_law_643 dL_law_644 dL_law_645 dL_law_646 dL_law_647 ?_
  refine la_a (j := 2) F hi (by decide) (by decide) hl hS dL_law_648 dL_law_649 dL_law_650 dL_law_651 dL_law_652 ?_
  refine la_a (j := 3) F hi (by decide) (by decide) hl hS dL_law_653 dL_law_654 dL_law_655 dL_law_656 dL_law_657 ?_
  refine la_M (n := 3) F (y := 48) (I := in_X11_paces) rfl (as := [mm_i (xs (i + 1)).toInt, mm_i (xs (i + 2)).toInt, mm_i (xs (i + 3)).toInt]) (h := h2) (g := g) e2 (mm_okS_c (v := mm_i (xs (i + 1)).toInt) (mm_toI _) (mm_okS_c (v := mm_i (xs (i + 2)).toInt) (mm_toI _) (mm_okS_c (v := mm_i (xs (i + 3)).toInt) (mm_toI _) (fun _ z => absurd z List.not_mem_nil)))) hokM rfl (Nat.le_of_ble_eq_true rfl) vw_397 vw_205 vw_398 vw_399 vw_400 (by decide +kernel) ⟨Nat.le_of_ble_eq_true rfl, Nat.le_of_ble_eq_true rfl⟩ hPX hPM hDM hS hl.1 rfl (rest := [.int (Int32.ofInt r)]) rfl (Nat.le_of_ble_eq_true rfl) dL_law_658 (fun H locs hPM hDM hokM hPX hS => ?_)
  refine lv_icmp_eq (tgt := 844) hx hb dL_law_661 (by decide) (fun _ => ?_) (fun z => absurd rfl z)
  exact next h2 g2 v2 H locs ⟨hrel2, hokX, hokM, hPX, hDX, hPM, hDM, hS⟩
set_option maxRecDepth 100000 in
theorem lk_22 {p : Program} {l : Launch} {e : Env} {s : State} {m : MethodId} {below : List Frame} {meth : Method} {c : Code} {b L i : Nat} {xs : Nat → Int32} {D : va_G} {cs : ClassId × ClassId × ClassId × ClassId} {adX adM : Nat → Nat} {h g : mm_H} {v : Nat} {H : Heap} {locs : List Loc} {ls : Array Slot} (F : lw_F p s m c b L xs D cs adX adM) (hi : i + 6 ≤ L) (S : lw_S D cs adX adM s h g v H locs) (hl : lv_has ls 4 [(3, .int (nI i)), (0, .ref b), (1, .ref (adX 0)), (2, .ref (adM 0))]) (next : ∀ (h g : mm_H) (v : Nat) (H : Heap) (locs : List Loc), lw_S D cs adX adM s h g v H locs → W p l e room_1 s m #[Value.ref b] below meth c H locs 600000 7302250 (lw_Z below #[Value.ref b] s) (F0 m 844 ls [])) : W p l e room_1 s m #[Value.ref b] below meth c H locs 600000 7302250 (lw_Z below #[Value.ref b] s) (F0 m 666 ls []) := by
  obtain ⟨hrel, hokX, hokM, hPX, hDX, hPM, hDM, hS⟩ := S
  have hx := F.1
  have hb := F.2.1
  obtain ⟨r, h2, g2, v2, e1, e2, hrel2⟩ := op_slips hrel (xs (i + 1)).toInt (xs (i + 2)).toInt (xs (i + 3)).toInt (xs (i + 4)).toInt (xs (i + 5)).toInt
  refine lv_aload_n hx hb dL_law_666 rfl (lv_at hl 2 rfl) ?_
  refine la_a (j := 1) F hi (by decide) (by decide) hl hS dL_law_667 dL_law_668 dL_law_669 dL_law_670 dL_law_671 ?_
  refine la_a (j := 2) F hi (by decide) (by decide) hl hS dL_law_672 dL_law_673 dL_law_674 dL_law_675 dL_law_676 ?_
  refine la_a (j := 3) F hi (by decide) (by decide) hl hS dL_law_677 dL_law_678 dL_law_679 dL_law_680 dL_law_681 ?_
  refine la_a (j := 4) F hi (by decide) (by decide) hl hS dL_law_682 dL_law_683 dL_law_684 dL_law_685 dL_law_686 ?_
  refine la_a (j := 5) F hi (by decide) (by decide) hl hS dL_law_687 dL_law_688 dL_law_689 dL_law_690 dL_law_691 ?_
  refine la_X (n := 5) F (y := 89) (I := in_X10_slips) rfl (as := [mm_i (xs (i + 1)).toInt, mm_i (xs (i + 2)).toInt, mm_i (xs (i + 3)).toInt, mm_i (xs (i + 4)).toInt, mm_i (xs (i + 5)).toInt]) (h := h) (g := g) e1 (mm_okS_c (v := mm_i (xs (i + 1)).toInt) (mm_toI _) (mm_okS_c (v := mm_i (xs (i + 2)).toInt) (mm_toI _) (mm_okS_c (v := mm_i (xs (i + 3)).toInt) (mm_toI _) (mm_okS_c (v := mm_i (xs (i + 4)).toInt) (mm_toI _) (mm_okS_c (v := mm_i (xs (i + 5)).toInt) (mm_toI _) (fun _ z => absurd z List.not_mem_nil)))))) hokX rfl (Nat.le_of_ble_eq_true rfl) vw_401 vw_188 vw_402 vw_403 vw_404 (by decide +kernel) ⟨Nat.le_of_ble_eq_true rfl, Nat.le_of_ble_eq_true rfl⟩ hPX hDX hPM hS hl.1 rfl (rest := []) rfl (Nat.le_of_ble_eq_true rfl) dL_law_692 (fun H locs hPX hDX hokX hPM hS => ?_)
  refine lv_aload_n hx hb dL_law_695 rfl (lv_at hl 3 rfl) ?_
  refine la_a (j := 1) F hi (by decide) (by decide) hl hS dL_law_696 dL_law_697 dL_law_698 dL_law_699 dL_law_700 ?_
  refine la_a (j := 2) F hi (by decide) (by decide) hl hS dL_law_701 dL_law_702 dL_law_703 dL_law_704 dL_law_705 ?_
  refine la_a (j := 3) F hi (by decide) (by decide) hl hS dL_law_706 dL_law_707 dL_law_708 dL_law_709 dL_law_710 ?_
  refine la_a (j := 4) F hi (by decide) (by decide) hl hS dL_law_711 dL_law_712 dL_law_713 dL_law_714 dL_law_715 ?_
  refine la_a (j := 5) F hi (by decide) (by decide) hl hS dL_law_716 dL_law_717 dL_law_718 dL_law_719 dL_law_720 ?_
  refine la_M (n := 5) F (y := 49) (I := in_X11_slips) rfl (as := [mm_i (xs (i + 1)).toInt, mm_i (xs (i + 2)).toInt, mm_i (xs (i + 3)).toInt, mm_i (xs (i + 4)).toInt, mm_i (xs (i + 5)).toInt]) (h := h2) (g := g) e2 (mm_okS_c (v := mm_i (xs (i + 1)).toInt) (mm_toI _) (mm_okS_c (v := mm_i (xs (i + 2)).toInt) (mm_toI _) (mm_okS_c (v := mm_i (xs (i + 3)).toInt) (mm_toI _) (mm_okS_c (v := mm_i (xs (i + 4)).toInt) (mm_toI _) (mm_okS_c (v := mm_i (xs (i + 5)).toInt) (mm_toI _) (fun _ z => absurd z List.not_mem_nil)))))) hokM rfl (Nat.le_of_ble_eq_true rfl) vw_405 vw_205 vw_406 vw_407 vw_408 (by decide +kernel) ⟨Nat.le_of_ble_eq_true rfl, Nat.le_of_ble_eq_true rfl⟩ hPX hPM hDM hS hl.1 rfl (rest := [.int (Int32.ofInt r)]) rfl (Nat.le_of_ble_eq_true rfl) dL_law_721 (fun H locs hPM hDM hokM hPX hS => ?_)
  refine lv_icmp_eq (tgt := 844) hx hb dL_law_724 (by decide) (fun _ => ?_) (fun z => absurd rfl z)
  exact next h2 g2 v2 H locs ⟨hrel2, hokX, hokM, hPX, hDX, hPM, hDM, hS⟩
set_option maxRecDepth 100000 in
theorem lk_23 {p : Program} {l : Launch} {e : Env} {s : State} {m : MethodId} {below : List Frame} {meth : Method} {c : Code} {b L i : Nat} {xs : Nat → Int32} {D : va_G} {cs : ClassId × ClassId × ClassId × ClassId} {adX adM : Nat → Nat} {h g : mm_H} {v : Nat} {H : Heap} {locs : List Loc} {ls : Array Slot} (F : lw_F p s m c b L xs D cs adX adM) (hi : i + 6 ≤ L) (S : lw_S D cs adX adM s h g v H locs) (hl : lv_has ls 4 [(3, .int (nI i)), (0, .ref b), (1, .ref (adX 0)), (2, .ref (adM 0))]) (next : ∀ (h g : mm_H) (v : Nat) (H : Heap) (locs : List Loc), lw_S D cs adX adM s h g v H locs → W p l e room_1 s m #[Value.ref b] below meth c H locs 600000 7302250 (lw_Z below #[Value.ref b] s) (F0 m 844 ls [])) : W p l e room_1 s m #[Value.ref b] below meth c H locs 600000 7302250 (lw_Z below #[Value.ref b] s) (F0 m 729 ls []) := by
  obtain ⟨hrel, hokX, hokM, hPX, hDX, hPM, hDM, hS⟩ := S
  have hx := F.1
  have hb := F.2.1
  obtain ⟨r, h2, g2, v2, e1, e2, hrel2⟩ := op_spent hrel (xs (i + 1)).toInt
  refine lv_aload_n hx hb dL_law_729 rfl (lv_at hl 2 rfl) ?_
  refine la_a (j := 1) F hi (by decide) (by decide) hl hS dL_law_730 dL_law_731 dL_law_732 dL_law_733 dL_law_734 ?_
  refine la_X (n := 1) F (y := 90) (I := in_X10_spent) rfl (as := [mm_i (xs (i + 1)).toInt]) (h := h) (g := g) e1 (mm_okS_c (v := mm_i (xs (i + 1)).toInt) (mm_toI _) (fun _ z => absurd z List.not_mem_nil)) hokX rfl (Nat.le_of_ble_eq_true rfl) vw_409 vw_188 vw_410 vw_411 vw_412 (by decide +kernel) ⟨Nat.le_of_ble_eq_true rfl, Nat.le_of_ble_eq_true rfl⟩ hPX hDX hPM hS hl.1 rfl (rest := []) rfl (Nat.le_of_ble_eq_true rfl) dL_law_735 (fun H locs hPX hDX hokX hPM hS => ?_)
  refine lv_aload_n hx hb dL_law_738 rfl (lv_at hl 3 rfl) ?_
  refine la_a (j := 1) F hi (by decide) (by decide) hl hS dL_law_739 dL_law_740 dL_law_741 dL_law_742 dL_law_743 ?_
  refine la_M (n := 1) F (y := 50) (I := in_X11_spent) rfl (as := [mm_i (xs (i + 1)).toInt]) (h := h2) (g := g) e2 (mm_okS_c (v := mm_i (xs (i + 1)).toInt) (mm_toI _) (fun _ z => absurd z List.not_mem_nil)) hokM rfl (Nat.le_of_ble_eq_true rfl) vw_413 vw_205 vw_414 vw_415 vw_416 (by decide +kernel) ⟨Nat.le_of_ble_eq_true rfl, Nat.le_of_ble_eq_true rfl⟩ hPX hPM hDM hS hl.1 rfl (rest := [.int (Int32.ofInt r)]) rfl (Nat.le_of_ble_eq_true rfl) dL_law_744 (fun H locs hPM hDM hokM hPX hS => ?_)
  refine lv_icmp_eq (tgt := 844) hx hb dL_law_747 (by decide) (fun _ => ?_) (fun z => absurd rfl z)
  exact next h2 g2 v2 H locs ⟨hrel2, hokX, hokM, hPX, hDX, hPM, hDM, hS⟩
set_option maxRecDepth 100000 in
theorem lk_24 {p : Program} {l : Launch} {e : Env} {s : State} {m : MethodId} {below : List Frame} {meth : Method} {c : Code} {b L i : Nat} {xs : Nat → Int32} {D : va_G} {cs : ClassId × ClassId × ClassId × ClassId} {adX adM : Nat → Nat} {h g : mm_H} {v : Nat} {H : Heap} {locs : List Loc} {ls : Array Slot} (F : lw_F p s m c b L xs D cs adX adM) (hi : i + 6 ≤ L) (S : lw_S D cs adX adM s h g v H locs) (hl : lv_has ls 4 [(3, .int (nI i)), (0, .ref b), (1, .ref (adX 0)), (2, .ref (adM 0))]) (next : ∀ (h g : mm_H) (v : Nat) (H : Heap) (locs : List Loc), lw_S D cs adX adM s h g v H locs → W p l e room_1 s m #[Value.ref b] below meth c H locs 600000 7302250 (lw_Z below #[Value.ref b] s) (F0 m 844 ls [])) : W p l e room_1 s m #[Value.ref b] below meth c H locs 600000 7302250 (lw_Z below #[Value.ref b] s) (F0 m 752 ls []) := by
  obtain ⟨hrel, hokX, hokM, hPX, hDX, hPM, hDM, hS⟩ := S
  have hx := F.1
  have hb := F.2.1
  obtain ⟨r, h2, g2, v2, e1, e2, hrel2⟩ := op_evening hrel (xs (i + 1)).toInt (xs (i + 2)).toInt (xs (i + 3)).toInt
  refine lv_aload_n hx hb dL_law_752 rfl (lv_at hl 2 rfl) ?_
  refine la_a (j := 1) F hi (by decide) (by decide) hl hS dL_law_753 dL_law_754 dL_law_755 dL_law_756 dL_law_757 ?_
  refine la_a (j := 2) F hi (by decide) (by decide) hl hS dL_law_758 dL_law_759 dL_law_760 dL_law_761 dL_law_762 ?_
  refine la_a (j := 3) F hi (by decide) (by decide) hl hS dL_law_763 dL_law_764 dL_law_765 dL_law_766 dL_law_767 ?_
  refine la_X (n := 3) F (y := 91) (I := in_X10_evening) rfl (as := [mm_i (xs (i + 1)).toInt, mm_i (xs (i + 2)).toInt, mm_i (xs (i + 3)).toInt]) (h := h) (g := g) e1 (mm_okS_c (v := mm_i (xs (i + 1)).toInt) (mm_toI _) (mm_okS_c (v := mm_i (xs (i + 2)).toInt) (mm_toI _) (mm_okS_c (v := mm_i (xs (i + 3)).toInt) (mm_toI _) (fun _ z => absurd z List.not_mem_nil)))) hokX rfl (Nat.le_of_ble_eq_true rfl) vw_417 vw_188 vw_418 vw_419 vw_420 (by decide +kernel) ⟨Nat.le_of_ble_eq_true rfl, Nat.le_of_ble_eq_true rfl⟩ hPX hDX hPM hS hl.1 rfl (rest := []) rfl (Nat.le_of_ble_eq_true rfl) dL_law_768 (fun H locs hPX hDX hokX hPM hS => ?_)
  refine lv_aload_n hx hb dL_law_771 rfl (lv_at hl 3 rfl) ?_
  refine la_a (j := 1) F hi (by decide) (by decide) hl hS dL_law_772 dL_law_773 dL_law_774 dL_law_775 dL_law_776 ?_
  refine la_a (j := 2) F hi (by decide) (by decide) hl hS dL_law_777 dL_law_778 dL_law_779 dL_law_780 dL_law_781 ?_
  refine la_a (j := 3) F hi (by decide) (by decide) hl hS dL_law_782 dL_law_783 dL_law_784 dL_law_785 dL_law_786 ?_
  refine la_M (n := 3) F (y := 51) (I := in_X11_evening) rfl (as := [mm_i (xs (i + 1)).toInt, mm_i (xs (i + 2)).toInt, mm_i (xs (i + 3)).toInt]) (h := h2) (g := g) e2 (mm_okS_c (v := mm_i (xs (i + 1)).toInt) (mm_toI _) (mm_okS_c (v := mm_i (xs (i + 2)).toInt) (mm_toI _) (mm_okS_c (v := mm_i (xs (i + 3)).toInt) (mm_toI _) (fun _ z => absurd z List.not_mem_nil)))) hokM rfl (Nat.le_of_ble_eq_true rfl) vw_421 vw_205 vw_422 vw_423 vw_424 (by decide +kernel) ⟨Nat.le_of_ble_eq_true rfl, Nat.le_of_ble_eq_true rfl⟩ hPX hPM hDM hS hl.1 rfl (rest := [.int (Int32.ofInt r)]) rfl (Nat.le_of_ble_eq_true rfl) dL_law_787 (fun H locs hPM hDM hokM hPX hS => ?_)
  refine lv_icmp_eq (tgt := 844) hx hb dL_law_790 (by decide) (fun _ => ?_) (fun z => absurd rfl z)
  exact next h2 g2 v2 H locs ⟨hrel2, hokX, hokM, hPX, hDX, hPM, hDM, hS⟩
set_option maxRecDepth 100000 in
theorem lk_25 {p : Program} {l : Launch} {e : Env} {s : State} {m : MethodId} {below : List Frame} {meth : Method} {c : Code} {b L i : Nat} {xs : Nat → Int32} {D : va_G} {cs : ClassId × ClassId × ClassId × ClassId} {adX adM : Nat → Nat} {h g : mm_H} {v : Nat} {H : Heap} {locs : List Loc} {ls : Array Slot} (F : lw_F p s m c b L xs D cs adX adM) (hi : i + 6 ≤ L) (S : lw_S D cs adX adM s h g v H locs) (hl : lv_has ls 4 [(3, .int (nI i)), (0, .ref b), (1, .ref (adX 0)), (2, .ref (adM 0))]) (next : ∀ (h g : mm_H) (v : Nat) (H : Heap) (locs : List Loc), lw_S D cs adX adM s h g v H locs → W p l e room_1 s m #[Value.ref b] below meth c H locs 600000 7302250 (lw_Z below #[Value.ref b] s) (F0 m 844 ls [])) : W p l e room_1 s m #[Value.ref b] below meth c H locs 600000 7302250 (lw_Z below #[Value.ref b] s) (F0 m 795 ls []) := by
  obtain ⟨hrel, hokX, hokM, hPX, hDX, hPM, hDM, hS⟩ := S
  have hx := F.1
  have hb := F.2.1
  obtain ⟨r, h2, g2, v2, e1, e2, hrel2⟩ := op_keep hrel 
  refine lv_aload_n hx hb dL_law_795 rfl (lv_at hl 2 rfl) ?_
  refine la_X (n := 0) F (y := 92) (I := in_X10_keep) rfl (as := []) (h := h) (g := g) e1 (fun _ z => absurd z List.not_mem_nil) hokX rfl (Nat.le_of_ble_eq_true rfl) vw_425 vw_188 vw_426 vw_427 vw_428 (by decide +kernel) ⟨Nat.le_of_ble_eq_true rfl, Nat.le_of_ble_eq_true rfl⟩ hPX hDX hPM hS hl.1 rfl (rest := []) rfl (Nat.le_of_ble_eq_true rfl) dL_law_796 (fun H locs hPX hDX hokX hPM hS => ?_)
  refine lv_aload_n hx hb dL_law_799 rfl (lv_at hl 3 rfl) ?_
  refine la_M (n := 0) F (y := 52) (I := in_X11_keep) rfl (as := []) (h := h2) (g := g) e2 (fun _ z => absurd z List.not_mem_nil) hokM rfl (Nat.le_of_ble_eq_true rfl) vw_429 vw_205 vw_430 vw_431 vw_432 (by decide +kernel) ⟨Nat.le_of_ble_eq_true rfl, Nat.le_of_ble_eq_true rfl⟩ hPX hPM hDM hS hl.1 rfl (rest := [.int (Int32.ofInt r)]) rfl (Nat.le_of_ble_eq_true rfl) dL_law_800 (fun H locs hPM hDM hokM hPX hS => ?_)
  refine lv_icmp_eq (tgt := 844) hx hb dL_law_803 (by decide) (fun _ => ?_) (fun z => absurd rfl z)
  exact next h2 g2 v2 H locs ⟨hrel2, hokX, hokM, hPX, hDX, hPM, hDM, hS⟩
set_option maxRecDepth 100000 in
theorem lk_26 {p : Program} {l : Launch} {e : Env} {s : State} {m : MethodId} {below : List Frame} {meth : Method} {c : Code} {b L i : Nat} {xs : Nat → Int32} {D : va_G} {cs : ClassId × ClassId × ClassId × ClassId} {adX adM : Nat → Nat} {h g : mm_H} {v : Nat} {H : Heap} {locs : List Loc} {ls : Array Slot} (F : lw_F p s m c b L xs D cs adX adM) (hi : i + 6 ≤ L) (S : lw_S D cs adX adM s h g v H locs) (hl : lv_has ls 4 [(3, .int (nI i)), (0, .ref b), (1, .ref (adX 0)), (2, .ref (adM 0))]) (next : ∀ (h g : mm_H) (v : Nat) (H : Heap) (locs : List Loc), lw_S D cs adX adM s h g v H locs → W p l e room_1 s m #[Value.ref b] below meth c H locs 600000 7302250 (lw_Z below #[Value.ref b] s) (F0 m 844 ls [])) : W p l e room_1 s m #[Value.ref b] below meth c H locs 600000 7302250 (lw_Z below #[Value.ref b] s) (F0 m 808 ls []) := by
  obtain ⟨hrel, hokX, hokM, hPX, hDX, hPM, hDM, hS⟩ := S
  have hx := F.1
  have hb := F.2.1
  obtain ⟨r, h2, g2, v2, e1, e2, hrel2⟩ := op_back hrel 
  refine lv_aload_n hx hb dL_law_808 rfl (lv_at hl 2 rfl) ?_
  refine la_X (n := 0) F (y := 93) (I := in_X10_back) rfl (as := []) (h := h) (g := g) e1 (fun _ z => absurd z List.not_mem_nil) hokX rfl (Nat.le_of_ble_eq_true rfl) vw_433 vw_188 vw_434 vw_435 vw_436 (by decide +kernel) ⟨Nat.le_of_ble_eq_true rfl, Nat.le_of_ble_eq_true rfl⟩ hPX hDX hPM hS hl.1 rfl (rest := []) rfl (Nat.le_of_ble_eq_true rfl) dL_law_809 (fun H locs hPX hDX hokX hPM hS => ?_)
  refine lv_aload_n hx hb dL_law_812 rfl (lv_at hl 3 rfl) ?_
  refine la_M (n := 0) F (y := 53) (I := in_X11_back) rfl (as := []) (h := h2) (g := g) e2 (fun _ z => absurd z List.not_mem_nil) hokM rfl (Nat.le_of_ble_eq_true rfl) vw_437 vw_205 vw_438 vw_439 vw_440 (by decide +kernel) ⟨Nat.le_of_ble_eq_true rfl, Nat.le_of_ble_eq_true rfl⟩ hPX hPM hDM hS hl.1 rfl (rest := [.int (Int32.ofInt r)]) rfl (Nat.le_of_ble_eq_true rfl) dL_law_813 (fun H locs hPM hDM hokM hPX hS => ?_)
  refine lv_icmp_eq (tgt := 844) hx hb dL_law_816 (by decide) (fun _ => ?_) (fun z => absurd rfl z)
  exact next h2 g2 v2 H locs ⟨hrel2, hokX, hokM, hPX, hDX, hPM, hDM, hS⟩
set_option maxRecDepth 100000 in
theorem lk_27 {p : Program} {l : Launch} {e : Env} {s : State} {m : MethodId} {below : List Frame} {meth : Method} {c : Code} {b L i : Nat} {xs : Nat → Int32} {D : va_G} {cs : ClassId × ClassId × ClassId × ClassId} {adX adM : Nat → Nat} {h g : mm_H} {v : Nat} {H : Heap} {locs : List Loc} {ls : Array Slot} (F : lw_F p s m c b L xs D cs adX adM) (hi : i + 6 ≤ L) (S : lw_S D cs adX adM s h g v H locs) (hl : lv_has ls 4 [(3, .int (nI i)), (0, .ref b), (1, .ref (adX 0)), (2, .ref (adM 0))]) (next : ∀ (h g : mm_H) (v : Nat) (H : Heap) (locs : List Loc), lw_S D cs adX adM s h g v H locs → W p l e room_1 s m #[Value.ref b] below meth c H locs 600000 7302250 (lw_Z below #[Value.ref b] s) (F0 m 844 ls [])) : W p l e room_1 s m #[Value.ref b] below meth c H locs 600000 7302250 (lw_Z below #[Value.ref b] s) (F0 m 821 ls []) := by
  obtain ⟨hrel, hokX, hokM, hPX, hDX, hPM, hDM, hS⟩ := S
  have hx := F.1
  have hb := F.2.1
  obtain ⟨r, h2, g2, v2, e1, e2, hrel2⟩ := op_count hrel (xs (i + 1)).toInt
  refine lv_aload_n hx hb dL_law_821 rfl (lv_at hl 2 rfl) ?_
  refine la_a (j := 1) F hi (by decide) (by decide) hl hS dL_law_822 dL_law_823 dL_law_824 dL_law_825 dL_law_826 ?_
  refine la_X (n := 1) F (y := 94) (I := in_X10_count) rfl (as := [mm_i (xs (i + 1)).toInt]) (h := h) (g := g) e1 (mm_okS_c (v := mm_i (xs (i + 1)).toInt) (mm_toI _) (fun _ z => absurd z List.not_mem_nil)) hokX rfl (Nat.le_of_ble_eq_true rfl) vw_441 vw_188 vw_442 vw_443 vw_444 (by decide +kernel) ⟨Nat.le_of_ble_eq_true rfl, Nat.le_of_ble_eq_true rfl⟩ hPX hDX hPM hS hl.1 rfl (rest := []) rfl (Nat.le_of_ble_eq_true rfl) dL_law_827 (fun H locs hPX hDX hokX hPM hS => ?_)
  refine lv_aload_n hx hb dL_law_830 rfl (lv_at hl 3 rfl) ?_
  refine la_a (j := 1) F hi (by decide) (by decide) hl hS dL_law_831 dL_law_832 dL_law_833 dL_law_834 dL_law_835 ?_
  refine la_M (n := 1) F (y := 54) (I := in_X11_count) rfl (as := [mm_i (xs (i + 1)).toInt]) (h := h2) (g := g) e2 (mm_okS_c (v := mm_i (xs (i + 1)).toInt) (mm_toI _) (fun _ z => absurd z List.not_mem_nil)) hokM rfl (Nat.le_of_ble_eq_true rfl) vw_445 vw_205 vw_446 vw_447 vw_448 (by decide +kernel) ⟨Nat.le_of_ble_eq_true rfl, Nat.le_of_ble_eq_true rfl⟩ hPX hPM hDM hS hl.1 rfl (rest := [.int (Int32.ofInt r)]) rfl (Nat.le_of_ble_eq_true rfl) dL_law_836 (fun H locs hPM hDM hokM hPX hS => ?_)
  refine lv_icmp_eq (tgt := 844) hx hb dL_law_839 (by decide) (fun _ => ?_) (fun z => absurd rfl z)
  exact next h2 g2 v2 H locs ⟨hrel2, hokX, hokM, hPX, hDX, hPM, hDM, hS⟩
