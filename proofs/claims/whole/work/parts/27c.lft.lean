/-! ===== layFirstText (by wip/gen/walkf.py) ===== -/
theorem vw_95 : Cond.fieldLink RX10 10 "DuskOnRopes" "text" "LDuskOnRopes$Text;" ∈ lw_good := lw_in 431 (by decide +kernel) rfl
theorem vw_96 : Cond.fieldLink RX10 19 "DuskOnRopes" "reader" "LDuskOnRopes$Reader;" ∈ lw_good := lw_in 432 (by decide +kernel) rfl
theorem vw_97 : Cond.fieldLink RX10 26 "DuskOnRopes" "valley" "LDuskOnRopes$Valley;" ∈ lw_good := lw_in 433 (by decide +kernel) rfl
theorem vw_98 : Cond.fieldLink RX10 36 "DuskOnRopes" "now" "LDuskOnRopes$Dusk;" ∈ lw_good := lw_in 435 (by decide +kernel) rfl
theorem vw_99 : Cond.code yJ0_length_8abf5 cJ0_length_8abf5 1 (some FieldType.int) ∈ lw_good := lw_in 310 (by decide +kernel) rfl
theorem vw_100 : Cond.methodLink RX10 264 yJ0_length_8abf5 ∈ lw_good := lw_in 307 (by decide +kernel) rfl
theorem vw_101 : Cond.instanceMethod yJ0_length_8abf5 ∈ lw_good := lw_in 308 (by decide +kernel) rfl
theorem vw_102 : Cond.selects RJ0 yJ0_length_8abf5 yJ0_length_8abf5 ∈ lw_good := lw_in 309 (by decide +kernel) rfl
theorem vw_103 : Cond.code yJ0_charAt_5068e cJ0_charAt_5068e 2 (some FieldType.char) ∈ lw_good := lw_in 320 (by decide +kernel) rfl
theorem vw_104 : Cond.methodLink RX10 267 yJ0_charAt_5068e ∈ lw_good := lw_in 317 (by decide +kernel) rfl
theorem vw_105 : Cond.instanceMethod yJ0_charAt_5068e ∈ lw_good := lw_in 318 (by decide +kernel) rfl
theorem vw_106 : Cond.selects RJ0 yJ0_charAt_5068e yJ0_charAt_5068e ∈ lw_good := lw_in 319 (by decide +kernel) rfl
theorem vw_107 : Cond.code yX8_add cX8_add 2 none ∈ lw_good := lw_in 358 (by decide +kernel) rfl
theorem vw_108 : Cond.initialized RX8 ∈ lw_good := lw_in 34 (by decide +kernel) rfl
theorem vw_109 : Cond.methodLink RX10 94 yX8_add ∈ lw_good := lw_in 355 (by decide +kernel) rfl
theorem vw_110 : Cond.instanceMethod yX8_add ∈ lw_good := lw_in 356 (by decide +kernel) rfl
theorem vw_111 : Cond.selects RX8 yX8_add yX8_add ∈ lw_good := lw_in 357 (by decide +kernel) rfl
theorem vw_112 : Cond.code yX6_read cX6_read 6 (some FieldType.int) ∈ lw_good := lw_in 362 (by decide +kernel) rfl
theorem vw_113 : Cond.initialized RX6 ∈ lw_good := lw_in 35 (by decide +kernel) rfl
theorem vw_114 : Cond.methodLink RX10 105 yX6_read ∈ lw_good := lw_in 359 (by decide +kernel) rfl
theorem vw_115 : Cond.instanceMethod yX6_read ∈ lw_good := lw_in 360 (by decide +kernel) rfl
theorem vw_116 : Cond.selects RX6 yX6_read yX6_read ∈ lw_good := lw_in 361 (by decide +kernel) rfl
theorem vw_117 : Cond.code yX3_begin cX3_begin 3 none ∈ lw_good := lw_in 426 (by decide +kernel) rfl
theorem vw_118 : Cond.methodLink RX10 113 yX3_begin ∈ lw_good := lw_in 423 (by decide +kernel) rfl
theorem vw_119 : Cond.instanceMethod yX3_begin ∈ lw_good := lw_in 424 (by decide +kernel) rfl
theorem vw_120 : Cond.selects RX3 yX3_begin yX3_begin ∈ lw_good := lw_in 425 (by decide +kernel) rfl
theorem vw_121 : Cond.code yX8_clear cX8_clear 1 none ∈ lw_good := lw_in 430 (by decide +kernel) rfl
theorem vw_122 : Cond.methodLink RX10 102 yX8_clear ∈ lw_good := lw_in 427 (by decide +kernel) rfl
theorem vw_123 : Cond.instanceMethod yX8_clear ∈ lw_good := lw_in 428 (by decide +kernel) rfl
theorem vw_124 : Cond.selects RX8 yX8_clear yX8_clear ∈ lw_good := lw_in 429 (by decide +kernel) rfl
abbrev ii_lft : mm_M := (yX10_layFirstText, cX10_layFirstText, 2, none, 0)
abbrev wdX (cs : ClassId × ClassId × ClassId × ClassId) (ad : Nat → Nat) (h : mm_H) : va_W := mm_wd 87 wX mm_fs cs ad h
abbrev wdM (cs : ClassId × ClassId × ClassId × ClassId) (ad : Nat → Nat) (h : mm_H) : va_W := mm_wd 12 wM mm_fs cs ad h
def lf_P (D : va_G) (cs : ClassId × ClassId × ClassId × ClassId) (ad : Nat → Nat) (tx : String) (tK tV sz : Nat) : State → Prop := fun U => U.heap.size = sz ∧ va_P D classes (wdX cs ad hX0) U.heap ∧ va_K D classes (mm_ty cs) U ∧ va_D (fun _ => True) (wdX cs ad hX0) ∧ mm_Nw nests U ∧ SF tK tV (mm_A 87 ad sz) U U.heap ∧ vk_R RX10 262 tx tK U
theorem lf_blind {D : va_G} {cs : ClassId × ClassId × ClassId × ClassId} {ad : Nat → Nat} {tx : String} {tK tV sz : Nat} {av : List Value} : FrameBlind (va_Pc av (lf_P D cs ad tx tK tV sz)) := fun a U g mk q => by
  obtain ⟨q0, q1, qP, qK, qD, qN, qS, qR⟩ := q
  exact ⟨q0, q1, qP, va_K.moved (u := U) (U := U.calling g mk a) (Vm.Alike.refl U.vm) qK, qD, fun x hx => va_Nw.same rfl rfl (qN x hx), SF.moved (u := U) (U := U.calling g mk a) (Vm.Alike.refl U.vm) qS, vk_R.same rfl qR⟩
set_option maxHeartbeats 4000000 in
set_option maxRecDepth 100000 in
theorem lf_met (l : Launch) (D : va_G) (cs : ClassId × ClassId × ClassId × ClassId) (ad : Nat → Nat) (tx : String) (tK tV sz : Nat) : Met l yX10_layFirstText (mm_ws lw_good ii_lft) (kc_R 8 0 0) (va_Pc [.ref (ad 0)] (lf_P D cs ad tx tK tV sz)) (va_Qv (fun h : mm_H => IX h ∧ mm_okH h) (fun h t => va_P D classes (wdX cs ad h) t.heap) (mm_A 87 ad sz)) 0 0 (mm_A 87 ad sz) := by
  refine Met.ofW (cc := cX10_layFirstText) (maxL := 2) (ret := none) (by decide) rfl ?_
  intro p e s m args below meth c s1 Bd hml hv
  obtain ⟨rfl, hsz, hP, hK, hD0, hNw, hSF, hR⟩ := hv
  subst hsz
  have hx := Bd.exec
  have hb := Bd.bytes
  have hr := Bd.returns
  have hts := atoms_spec (ws := mm_ws lw_good ii_lft) Bd.pre
  have hown : s.vm.findClass RX10 = some m.cls := findClass_of_methodNamed Bd.named
  have hlocks := Bd.notSynchronized
  have hl := lv_entry ([.ref (ad 0)]) (n := 2) (Nat.le_of_ble_eq_true rfl)
  rw [lg_entry_eq]
  generalize (lg_sl ([.ref (ad 0)]) ++ List.replicate (2 - (lg_sl ([.ref (ad 0)])).length) Slot.unset).toArray = ls at hl ⊢
  have hl : lv_has ls 2 [(0, .ref (ad 0))] := hl
  have hS : va_S (mm_A 87 ad s.heap.size) s.heap s.heap [] := va_S.rf
  have hA : ∀ q, s.heap.size ≤ q → mm_A 87 ad s.heap.size q := fun q h => Or.inr h
  have hDA : ∀ h : mm_H, va_D (mm_A 87 ad s.heap.size) (wdX cs ad h) := fun h => mm_wd_D hD0 (fun i hi => mm_A_in hi)
  have hat : ∀ h : mm_H, (wdX cs ad h)[0]? = some (ad 0, .inr (10, (mm_fs 10).mapIdx (mm_fv ad (h 0) 0))) := fun h => by
    have := mm_wd_at (N := 87) (w := wX) (fsp := mm_fs) (cs := cs) (ad := ad) (h := h) (i := 0) (by decide)
    rw [mm_cell4 (ci := 10) (by decide)] at this
    exact this
  have fin : ∀ (h : mm_H) (H : Heap) (locs : List Loc) (ls : Array Slot), TK 78 h → va_P D classes (wdX cs ad h) H → va_S (mm_A 87 ad s.heap.size) s.heap H locs → lv_has ls 2 [(0, .ref (ad 0))] → W p l e (kc_R 8 0 0) s m [.ref (ad 0)].toArray below meth c H locs 0 0 (MQ below (va_Qv (fun h : mm_H => IX h ∧ mm_okH h) (fun h t => va_P D classes (wdX cs ad h) t.heap) (mm_A 87 ad s.heap.size)) [.ref (ad 0)].toArray s 0 0 (mm_A 87 ad s.heap.size)) (F0 m 32 ls []) := by
    intro h H locs ls hT hP hS hl
    have hok := hT.2.2.2
    obtain ⟨h2, r1, r2, r3, r4⟩ := X_first (v := 5) (Or.inl rfl) (TK_TX hT)
    obtain ⟨h3, g1, g2, g3, g4⟩ := X_begin (v := 5) (Or.inl rfl) h2
    have e5 : ∀ q : mm_H, q 0 = h 0 → (q 0 2).toNat = 5 := fun q hq => by rw [hq, hT.1 0 (by decide) (by decide)]; rfl
    have e2 : h2 0 = h 0 := r4 0 (by decide) (by decide) (by decide)
    have hv5 : ∀ q : mm_H, q 0 = h 0 → ((mm_fs 10).mapIdx (mm_fv ad (q 0) 0))[2]? = some (.ref (ad 5)) := fun q hq => by
      show some (Value.ref (ad (q 0 2).toNat)) = _
      rw [e5 q hq]
    refine lv_aload_n hx hb dX10_layFirstText_32 rfl (lv_at hl 0 rfl) ?_
    refine va_get (D := D) (ci := 10) (v := .ref (ad 3)) (C := RX10) (T := TX10) (N := 12) hx hb hts (fun w hw => List.mem_cons_of_mem _ (ig_X10 w hw)) hown hK hP 0 (hat _) rfl 1 (by decide) (hts _ (List.mem_cons_of_mem _ vw_96)) (fun _ h9 => h9) rfl dX10_layFirstText_33 ?_
    refine lv_aload_n hx hb dX10_layFirstText_36 rfl (lv_at hl 0 rfl) ?_
    refine va_get (D := D) (ci := 10) (v := .ref (ad 1)) (C := RX10) (T := TX10) (N := 12) hx hb hts (fun w hw => List.mem_cons_of_mem _ (ig_X10 w hw)) hown hK hP 0 (hat _) rfl 0 (by decide) (hts _ (List.mem_cons_of_mem _ vw_95)) (fun _ h9 => h9) rfl dX10_layFirstText_37 ?_
    refine lv_aload_n hx hb dX10_layFirstText_40 rfl (lv_at hl 0 rfl) ?_
    refine va_get (D := D) (ci := 10) (v := .ref (ad 5)) (C := RX10) (T := TX10) (N := 12) hx hb hts (fun w hw => List.mem_cons_of_mem _ (ig_X10 w hw)) hown hK hP 0 (hat _) rfl 2 (by decide) (hts _ (List.mem_cons_of_mem _ vw_97)) (fun _ h9 => h9) (hv5 h rfl) dX10_layFirstText_41 ?_
    refine lc_call (n := 2) (fun y pc => hOkX (l := l) (D := D) (tys := mm_ty cs) (cs := cs) (ad := ad) rfl rfl rfl rfl y pc) hPlX (y := 33) (a := 3) (I := in_X6_read) rfl (as := [mm_r 1, mm_r 5]) (h := h) r1 (mm_okS_c (v := mm_r 1) trivial (mm_okS_c (v := mm_r 5) trivial (fun _ z => absurd z List.not_mem_nil))) hok rfl (by decide) hx hb hml hown hts (mm_good lw_goodw (fun z hz => (List.mem_cons.mp hz).elim (fun e => e ▸ vw_112) id)) (List.mem_cons_of_mem _ vw_113) (List.mem_cons_of_mem _ vw_114) (List.mem_cons_of_mem _ vw_115) (ci := 6) rfl (by decide) (by decide) (List.mem_cons_of_mem _ vw_116) (by decide +kernel) ⟨Nat.le_of_ble_eq_true rfl, Nat.le_of_ble_eq_true rfl⟩ hK hNw hP (hDA h) hS hA hl.1 rfl (rest := []) rfl (Nat.le_of_ble_eq_true rfl) dX10_layFirstText_44 ⟨Nat.le_refl _, Nat.le_refl _⟩ (fun H locs hP hD hok _ hz hk hS => ?_)
    refine lv_pop hx hb dX10_layFirstText_47 rfl ?_
    refine lv_aload_n hx hb dX10_layFirstText_48 rfl (lv_at hl 0 rfl) ?_
    refine va_get (D := D) (ci := 10) (v := .ref (ad 25)) (C := RX10) (T := TX10) (N := 12) hx hb hts (fun w hw => List.mem_cons_of_mem _ (ig_X10 w hw)) hown hK hP 0 (hat _) rfl 4 (by decide) (hts _ (List.mem_cons_of_mem _ vw_98)) (fun _ h9 => h9) rfl dX10_layFirstText_49 ?_
    refine lv_aload_n hx hb dX10_layFirstText_52 rfl (lv_at hl 0 rfl) ?_
    refine va_get (D := D) (ci := 10) (v := .ref (ad 5)) (C := RX10) (T := TX10) (N := 12) hx hb hts (fun w hw => List.mem_cons_of_mem _ (ig_X10 w hw)) hown hK hP 0 (hat _) rfl 2 (by decide) (hts _ (List.mem_cons_of_mem _ vw_97)) (fun _ h9 => h9) (hv5 h2 e2) dX10_layFirstText_53 ?_
    refine lc_call (n := 1) (fun y pc => hOkX (l := l) (D := D) (tys := mm_ty cs) (cs := cs) (ad := ad) rfl rfl rfl rfl y pc) hPlX (y := 14) (a := 25) (I := in_X3_begin) rfl (as := [mm_r 5]) (h := h2) g1 (mm_okS_c (v := mm_r 5) trivial (fun _ z => absurd z List.not_mem_nil)) hok rfl (by decide) hx hb hml hown hts (mm_good lw_goodw (fun z hz => (List.mem_cons.mp hz).elim (fun e => e ▸ vw_117) id)) (List.mem_cons_of_mem _ vw_59) (List.mem_cons_of_mem _ vw_118) (List.mem_cons_of_mem _ vw_119) (ci := 3) rfl (by decide) (by decide) (List.mem_cons_of_mem _ vw_120) (by decide +kernel) ⟨Nat.le_of_ble_eq_true rfl, Nat.le_of_ble_eq_true rfl⟩ hK hNw hP (hDA h2) hS hA hl.1 rfl (rest := []) rfl (Nat.le_of_ble_eq_true rfl) dX10_layFirstText_56 ⟨Nat.le_refl _, Nat.le_refl _⟩ (fun H locs hP hD hok _ hz hk hS => ?_)
    refine lv_aload_n hx hb dX10_layFirstText_59 rfl (lv_at hl 0 rfl) ?_
    refine va_get (D := D) (ci := 10) (v := .ref (ad 1)) (C := RX10) (T := TX10) (N := 12) hx hb hts (fun w hw => List.mem_cons_of_mem _ (ig_X10 w hw)) hown hK hP 0 (hat _) rfl 0 (by decide) (hts _ (List.mem_cons_of_mem _ vw_95)) (fun _ h9 => h9) rfl dX10_layFirstText_60 ?_
    refine lc_call (n := 0) (fun y pc => hOkX (l := l) (D := D) (tys := mm_ty cs) (cs := cs) (ad := ad) rfl rfl rfl rfl y pc) hPlX (y := 46) (a := 1) (I := in_X8_clear) rfl (as := []) (h := h3) (sg_X8_clear_0 h3) (fun _ z => absurd z List.not_mem_nil) hok rfl (by decide) hx hb hml hown hts (mm_good lw_goodw (fun z hz => (List.mem_cons.mp hz).elim (fun e => e ▸ vw_121) id)) (List.mem_cons_of_mem _ vw_108) (List.mem_cons_of_mem _ vw_122) (List.mem_cons_of_mem _ vw_123) (ci := 8) rfl (by decide) (by decide) (List.mem_cons_of_mem _ vw_124) (by decide +kernel) ⟨Nat.le_of_ble_eq_true rfl, Nat.le_of_ble_eq_true rfl⟩ hK hNw hP (hDA h3) hS hA hl.1 rfl (rest := []) rfl (Nat.le_of_ble_eq_true rfl) dX10_layFirstText_63 ⟨Nat.le_refl _, Nat.le_refl _⟩ (fun H locs hP hD hok _ hz hk hS => ?_)
    exact W.vret hx hb hr (fun t ht hW => ⟨⟨mm_st h3 1 1 0, rfl, ⟨IX_of hT r2 r3 r4 g2 g3 g4, hok⟩, by show va_P D classes (wdX cs ad (mm_st h3 1 1 0)) t.heap; rw [ht]; exact hP⟩, hS.F ht⟩) hS.2.2 dX10_layFirstText_66
  have loop : ∀ (t k : Nat) (h : mm_H) (H : Heap) (locs : List Loc) (ls : Array Slot), k + t = 78 → TK k h → va_P D classes (wdX cs ad h) H → va_S (mm_A 87 ad s.heap.size) s.heap H locs → lv_has ls 2 [(1, .int (nI k)), (0, .ref (ad 0))] → W p l e (kc_R 8 0 0) s m [.ref (ad 0)].toArray below meth c H locs 0 0 (MQ below (va_Qv (fun h : mm_H => IX h ∧ mm_okH h) (fun h t => va_P D classes (wdX cs ad h) t.heap) (mm_A 87 ad s.heap.size)) [.ref (ad 0)].toArray s 0 0 (mm_A 87 ad s.heap.size)) (F0 m 2 ls []) := by
    intro t
    induction t with
    | zero =>
      intro k h H locs ls hk hT hP hS hl
      have e1 : k = 78 := by omega
      subst e1
      refine lv_iload_n hx hb dX10_layFirstText_2 rfl (lv_at hl 0 rfl) ?_
      refine lv_ldcwS hx hb hown hR dX10_layFirstText_3 ?_
      refine pj_callV (n := 0) (pj_len l tK tV) hx hb hml hown hts (mm_good lw_goodw (fun z hz => (List.mem_cons.mp hz).elim (fun e => e ▸ vw_99) id)) (List.mem_cons_of_mem _ vw_76) (List.mem_cons_of_mem _ vw_100) (List.mem_cons_of_mem _ vw_101) rfl (List.mem_cons_of_mem _ vw_102) (by decide +kernel) ⟨Nat.le_of_ble_eq_true rfl, Nat.le_of_ble_eq_true rfl⟩ hSF rfl hS hA hl.1 rfl rfl (Nat.le_of_ble_eq_true rfl) dX10_layFirstText_6 ⟨Nat.le_refl _, Nat.le_refl _⟩ (fun r H1 locs1 hr1 hk1 hS => ?_)
      subst hr1
      have hP := hP.kept (fun k x hx => hk1 x.1 ((hP k x hx).lt))
      refine lv_icmp_ge (tgt := 32) hx hb dX10_layFirstText_9 (by decide) (fun _ => ?_) (fun cc => absurd (Int32.le_refl _) cc)
      exact fin h _ _ ls hT hP hS (lv_sub hl [1] rfl)
    | succ t ih =>
      intro k h H locs ls hk hT hP hS hl
      have hk78 : k < 78 := by omega
      refine lv_iload_n hx hb dX10_layFirstText_2 rfl (lv_at hl 0 rfl) ?_
      refine lv_ldcwS hx hb hown hR dX10_layFirstText_3 ?_
      refine pj_callV (n := 0) (pj_len l tK tV) hx hb hml hown hts (mm_good lw_goodw (fun z hz => (List.mem_cons.mp hz).elim (fun e => e ▸ vw_99) id)) (List.mem_cons_of_mem _ vw_76) (List.mem_cons_of_mem _ vw_100) (List.mem_cons_of_mem _ vw_101) rfl (List.mem_cons_of_mem _ vw_102) (by decide +kernel) ⟨Nat.le_of_ble_eq_true rfl, Nat.le_of_ble_eq_true rfl⟩ hSF rfl hS hA hl.1 rfl rfl (Nat.le_of_ble_eq_true rfl) dX10_layFirstText_6 ⟨Nat.le_refl _, Nat.le_refl _⟩ (fun r H1 locs1 hr1 hk1 hS => ?_)
      subst hr1
      have hP := hP.kept (fun k x hx => hk1 x.1 ((hP k x hx).lt))
      refine lv_icmp_ge (tgt := 32) hx hb dX10_layFirstText_9 (by decide) (fun cc => absurd cc (nI_ge (a := k) (b := 78) hk78 (by omega))) (fun _ => ?_)
      refine lv_aload_n hx hb dX10_layFirstText_12 rfl (lv_at hl 1 rfl) ?_
      refine va_get (D := D) (ci := 10) (v := .ref (ad 1)) (C := RX10) (T := TX10) (N := 12) hx hb hts (fun w hw => List.mem_cons_of_mem _ (ig_X10 w hw)) hown hK hP 0 (hat _) rfl 0 (by decide) (hts _ (List.mem_cons_of_mem _ vw_95)) (fun _ h9 => h9) rfl dX10_layFirstText_13 ?_
      refine lv_ldcwS hx hb hown hR dX10_layFirstText_16 ?_
      refine lv_iload_n hx hb dX10_layFirstText_19 rfl (lv_at hl 0 rfl) ?_
      refine pj_callV (n := 1) (pj_ca l tK tV k hk78) hx hb hml hown hts (mm_good lw_goodw (fun z hz => (List.mem_cons.mp hz).elim (fun e => e ▸ vw_103) id)) (List.mem_cons_of_mem _ vw_76) (List.mem_cons_of_mem _ vw_104) (List.mem_cons_of_mem _ vw_105) rfl (List.mem_cons_of_mem _ vw_106) (by decide +kernel) ⟨Nat.le_of_ble_eq_true rfl, Nat.le_of_ble_eq_true rfl⟩ hSF rfl hS hA hl.1 rfl rfl (Nat.le_of_ble_eq_true rfl) dX10_layFirstText_20 ⟨Nat.le_refl _, Nat.le_refl _⟩ (fun r H1 locs1 hr1 hk1 hS => ?_)
      subst hr1
      have hP := hP.kept (fun k x hx => hk1 x.1 ((hP k x hx).lt))
      obtain ⟨h2, a1, a2⟩ := TK_s hk78 hT
      have hb1 := tx_b k hk78
      refine lc_call (n := 1) (fun y pc => hOkX (l := l) (D := D) (tys := mm_ty cs) (cs := cs) (ad := ad) rfl rfl rfl rfl y pc) hPlX (y := 45) (a := 1) (I := in_X8_add) rfl (as := [mm_i (tx_f k)]) (h := h) a1 (mm_okS_c (v := mm_i (tx_f k)) (show mm_in _ by unfold mm_in; omega) (fun _ z => absurd z List.not_mem_nil)) hT.2.2.2 rfl (Nat.le_of_ble_eq_true rfl) hx hb hml hown hts (mm_good lw_goodw (fun z hz => (List.mem_cons.mp hz).elim (fun e => e ▸ vw_107) id)) (List.mem_cons_of_mem _ vw_108) (List.mem_cons_of_mem _ vw_109) (List.mem_cons_of_mem _ vw_110) (ci := 8) rfl (by decide) (by decide) (List.mem_cons_of_mem _ vw_111) (by decide +kernel) ⟨Nat.le_of_ble_eq_true rfl, Nat.le_of_ble_eq_true rfl⟩ hK hNw hP (hDA h) hS hA hl.1 rfl (rest := []) rfl (Nat.le_of_ble_eq_true rfl) dX10_layFirstText_23 ⟨Nat.le_refl _, Nat.le_refl _⟩ (fun H locs hP hD hok _ hz hk3 hS => ?_)
      refine lv_iinc (v := nI (k + 1)) (lv' := [(1, .int (nI (k + 1))), (0, .ref (ad 0))]) hx hb dX10_layFirstText_26 hl (k := 0) rfl (nI_1 k) (by decide) rfl (fun ls hl => ?_)
      refine lv_goto (tgt := 2) hx hb dX10_layFirstText_29 (by decide) ?_
      exact ih (k + 1) h2 _ _ ls (by omega) (a2 hok) hP hS hl
  refine lv_iconst (v := 0) hx hb dX10_layFirstText_0 (by decide) ?_
  refine lv_istore_n (lv' := [(1, .int 0), (0, .ref (ad 0))]) hx hb dX10_layFirstText_1 rfl hl (by decide) rfl (fun ls hl => ?_)
  exact loop 78 0 hX0 s.heap [] ls (by omega) TK_0 hP hS hl
