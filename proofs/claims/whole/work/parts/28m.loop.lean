/-! ===== the law's loop (by wip/gen/walkl.py) ===== -/
theorem nI_oi (n : Nat) (h : n < 2 ^ 31) : nI n = Int32.ofInt n := by
  rw [← Int32.toInt_inj, nI_toInt h, mm_to (by unfold mm_in; omega)]
theorem li_gt {L i : Nat} (hL : L ≤ 3072) (hi : i ≤ L + 6) : (Int32.ofNat L - 6 < nI i) ↔ (L : Int) - 6 < i := by
  have e1 : Int32.ofNat L = Int32.ofInt L := nI_oi L (by omega)
  have e6 : (6 : Int32) = Int32.ofInt 6 := by decide
  rw [e1, e6, nI_oi i (by omega), mm_e_sub, mm_lt (by unfold mm_sub; exact mm_wr_in _) (by unfold mm_in; omega)]
  unfold mm_sub
  rw [mm_wr_id (by unfold mm_in; omega)]
set_option maxHeartbeats 4000000 in
set_option maxRecDepth 100000 in
theorem law_loop {p : Program} {l : Launch} {e : Env} {s : State} {m : MethodId} {below : List Frame} {meth : Method} {c : Code} {b L : Nat} {xs : Nat → Int32} {D : va_G} {cs : ClassId × ClassId × ClassId × ClassId} {adX adM : Nat → Nat} (F : lw_F p s m c b L xs D cs adX adM) (hr : meth.sig.returnType = ret) (hlocks : meth.locks = false) : ∀ (t i : Nat) (h g : mm_H) (v : Nat) (H : Heap) (locs : List Loc) (ls : Array Slot), L + 1 ≤ i + t → i ≤ L + 6 → lw_S D cs adX adM s h g v H locs → lv_has ls 4 [(3, .int (nI i)), (0, .ref b), (1, .ref (adX 0)), (2, .ref (adM 0))] → W p l e room_1 s m #[Value.ref b] below meth c H locs 600000 7302250 (lw_Z below #[Value.ref b] s) (F0 m 18 ls []) := by
  intro t
  induction t with
  | zero =>
    intro i h g v H locs ls ht hi S hl
    obtain ⟨hx, hb, hml, hown, hts, hK, hNw, hXM, hX, hbl, hL⟩ := id F
    have hS := S.2.2.2.2.2.2.2
    refine lv_iload_n hx hb dL_law_18 rfl (lv_at hl 0 rfl) ?_
    refine lv_aload_n hx hb dL_law_19 rfl (lv_at hl 1 rfl) ?_
    refine va_slen hx hb hX hbl (Nat.not_le.mpr hbl) hS dL_law_20 ?_
    refine lv_bipush (v := 6) hx hb dL_law_21 (by decide) ?_
    refine lv_isub hx hb dL_law_23 ?_
    refine lv_icmp_gt (tgt := 850) hx hb dL_law_24 (by decide) (fun _ => ?_) (fun z => absurd ((li_gt hL (by omega)).mpr (by omega)) z)
    refine lv_iconst (v := 1) hx hb dL_law_850 (by decide) ?_
    refine va_forget (fun q hq => hS.2.2 q hq) ?_
    exact lw_ret hx hb hr hlocks dL_law_851
  | succ t ih =>
    intro i h g v H locs ls ht hi S hl
    obtain ⟨hx, hb, hml, hown, hts, hK, hNw, hXM, hX, hbl, hL⟩ := id F
    have hS := S.2.2.2.2.2.2.2
    refine lv_iload_n hx hb dL_law_18 rfl (lv_at hl 0 rfl) ?_
    refine lv_aload_n hx hb dL_law_19 rfl (lv_at hl 1 rfl) ?_
    refine va_slen hx hb hX hbl (Nat.not_le.mpr hbl) hS dL_law_20 ?_
    refine lv_bipush (v := 6) hx hb dL_law_21 (by decide) ?_
    refine lv_isub hx hb dL_law_23 ?_
    refine lv_icmp_gt (tgt := 850) hx hb dL_law_24 (by decide) (fun _ => ?_) (fun z => ?_)
    · refine lv_iconst (v := 1) hx hb dL_law_850 (by decide) ?_
      refine va_forget (fun q hq => hS.2.2 q hq) ?_
      exact lw_ret hx hb hr hlocks dL_law_851
    · have hi6 : i + 6 ≤ L := by
        apply Classical.byContradiction
        intro q
        exact z ((li_gt hL hi).mpr (by omega))
      refine lv_aload_n hx hb dL_law_27 rfl (lv_at hl 1 rfl) ?_
      refine lv_iload_n hx hb dL_law_28 rfl (lv_at hl 0 rfl) ?_
      refine va_sld hx hb hX hbl (Nat.not_le.mpr hbl) hS (vp_in_nI (by omega) (by omega)) dL_law_29 ?_
      refine lv_bipush (v := 31) hx hb dL_law_30 (by decide) ?_
      refine lv_iand hx hb dL_law_32 ?_
      obtain ⟨n, hn, en⟩ := pk_andE (xs (nI i).toNatClampNeg) (m := 31) 5 (by decide)
      rw [en]
      have hn32 : n < 32 := hn
      have next : ∀ (h g : mm_H) (v : Nat) (H : Heap) (locs : List Loc), lw_S D cs adX adM s h g v H locs → W p l e room_1 s m #[Value.ref b] below meth c H locs 600000 7302250 (lw_Z below #[Value.ref b] s) (F0 m 844 ls []) := by
        intro h g v H locs S
        refine lv_iinc (v := nI (i + 6)) (lv' := [(3, .int (nI (i + 6))), (0, .ref b), (1, .ref (adX 0)), (2, .ref (adM 0))]) hx hb dL_law_844 hl (k := 0) rfl (nI_add i 6) (by decide) rfl (fun ls hl => ?_)
        refine lv_goto (tgt := 18) hx hb dL_law_847 (by decide) ?_
        exact ih (i + 6) h g v H locs ls (by omega) (by omega) S hl
      by_cases c28 : n < 28
      · match n, c28 with
        | 0, _ => exact lv_tableIn (off := 127) (tgt := 160) hx hb dL_law_33 (by decide) (by decide) rfl (by decide) (lk_0 F hi6 S hl next)
        | 1, _ => exact lv_tableIn (off := 150) (tgt := 183) hx hb dL_law_33 (by decide) (by decide) rfl (by decide) (lk_1 F hi6 S hl next)
        | 2, _ => exact lv_tableIn (off := 163) (tgt := 196) hx hb dL_law_33 (by decide) (by decide) rfl (by decide) (lk_2 F hi6 S hl next)
        | 3, _ => exact lv_tableIn (off := 176) (tgt := 209) hx hb dL_law_33 (by decide) (by decide) rfl (by decide) (lk_3 F hi6 S hl next)
        | 4, _ => exact lv_tableIn (off := 189) (tgt := 222) hx hb dL_law_33 (by decide) (by decide) rfl (by decide) (lk_4 F hi6 S hl next)
        | 5, _ => exact lv_tableIn (off := 222) (tgt := 255) hx hb dL_law_33 (by decide) (by decide) rfl (by decide) (lk_5 F hi6 S hl next)
        | 6, _ => exact lv_tableIn (off := 245) (tgt := 278) hx hb dL_law_33 (by decide) (by decide) rfl (by decide) (lk_6 F hi6 S hl next)
        | 7, _ => exact lv_tableIn (off := 268) (tgt := 301) hx hb dL_law_33 (by decide) (by decide) rfl (by decide) (lk_7 F hi6 S hl next)
        | 8, _ => exact lv_tableIn (off := 301) (tgt := 334) hx hb dL_law_33 (by decide) (by decide) rfl (by decide) (lk_8 F hi6 S hl next)
        | 9, _ => exact lv_tableIn (off := 324) (tgt := 357) hx hb dL_law_33 (by decide) (by decide) rfl (by decide) (lk_9 F hi6 S hl next)
        | 10, _ => exact lv_tableIn (off := 337) (tgt := 370) hx hb dL_law_33 (by decide) (by decide) rfl (by decide) (lk_10 F hi6 S hl next)
        | 11, _ => exact lv_tableIn (off := 350) (tgt := 383) hx hb dL_law_33 (by decide) (by decide) rfl (by decide) (lk_11 F hi6 S hl next)
        | 12, _ => exact lv_tableIn (off := 363) (tgt := 396) hx hb dL_law_33 (by decide) (by decide) rfl (by decide) (lk_12 F hi6 S hl next)
        | 13, _ => exact lv_tableIn (off := 396) (tgt := 429) hx hb dL_law_33 (by decide) (by decide) rfl (by decide) (lk_13 F hi6 S hl next)
        | 14, _ => exact lv_tableIn (off := 419) (tgt := 452) hx hb dL_law_33 (by decide) (by decide) rfl (by decide) (lk_14 F hi6 S hl next)
        | 15, _ => exact lv_tableIn (off := 452) (tgt := 485) hx hb dL_law_33 (by decide) (by decide) rfl (by decide) (lk_15 F hi6 S hl next)
        | 16, _ => exact lv_tableIn (off := 475) (tgt := 508) hx hb dL_law_33 (by decide) (by decide) rfl (by decide) (lk_16 F hi6 S hl next)
        | 17, _ => exact lv_tableIn (off := 498) (tgt := 531) hx hb dL_law_33 (by decide) (by decide) rfl (by decide) (lk_17 F hi6 S hl next)
        | 18, _ => exact lv_tableIn (off := 531) (tgt := 564) hx hb dL_law_33 (by decide) (by decide) rfl (by decide) (lk_18 F hi6 S hl next)
        | 19, _ => exact lv_tableIn (off := 544) (tgt := 577) hx hb dL_law_33 (by decide) (by decide) rfl (by decide) (lk_19 F hi6 S hl next)
        | 20, _ => exact lv_tableIn (off := 567) (tgt := 600) hx hb dL_law_33 (by decide) (by decide) rfl (by decide) (lk_20 F hi6 S hl next)
        | 21, _ => exact lv_tableIn (off := 590) (tgt := 623) hx hb dL_law_33 (by decide) (by decide) rfl (by decide) (lk_21 F hi6 S hl next)
        | 22, _ => exact lv_tableIn (off := 633) (tgt := 666) hx hb dL_law_33 (by decide) (by decide) rfl (by decide) (lk_22 F hi6 S hl next)
        | 23, _ => exact lv_tableIn (off := 696) (tgt := 729) hx hb dL_law_33 (by decide) (by decide) rfl (by decide) (lk_23 F hi6 S hl next)
        | 24, _ => exact lv_tableIn (off := 719) (tgt := 752) hx hb dL_law_33 (by decide) (by decide) rfl (by decide) (lk_24 F hi6 S hl next)
        | 25, _ => exact lv_tableIn (off := 762) (tgt := 795) hx hb dL_law_33 (by decide) (by decide) rfl (by decide) (lk_25 F hi6 S hl next)
        | 26, _ => exact lv_tableIn (off := 775) (tgt := 808) hx hb dL_law_33 (by decide) (by decide) rfl (by decide) (lk_26 F hi6 S hl next)
        | 27, _ => exact lv_tableIn (off := 788) (tgt := 821) hx hb dL_law_33 (by decide) (by decide) rfl (by decide) (lk_27 F hi6 S hl next)
        | k + 28, z => omega
      · refine lv_tableOut (tgt := 844) hx hb dL_law_33 (Or.inr (by rw [nI_toInt (by omega)]; omega)) (by decide) ?_
        exact next h g v H locs S
