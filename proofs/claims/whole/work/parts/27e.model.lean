/-! ===== the model, made (by wip/gen/walkx.py) ===== -/
theorem vw_192 : Cond.methodLink RX11 1 objectInit ∈ lw_good := lw_in 800 (by decide +kernel) rfl
theorem vw_193 : Cond.fieldLink RX11 7 "DuskOnRopesModel" "text" "[I" ∈ lw_good := lw_in 821 (by decide +kernel) rfl
theorem vw_194 : Cond.fieldLink RX11 13 "DuskOnRopesModel" "told" "[I" ∈ lw_good := lw_in 823 (by decide +kernel) rfl
theorem vw_195 : Cond.fieldLink RX11 16 "DuskOnRopesModel" "draft" "[I" ∈ lw_good := lw_in 824 (by decide +kernel) rfl
theorem vw_196 : Cond.fieldLink RX11 19 "DuskOnRopesModel" "s" "[I" ∈ lw_good := lw_in 825 (by decide +kernel) rfl
theorem vw_197 : Cond.fieldLink RX11 22 "DuskOnRopesModel" "past" "[I" ∈ lw_good := lw_in 826 (by decide +kernel) rfl
theorem vw_198 : Cond.fieldLink RX11 25 "DuskOnRopesModel" "images" "[I" ∈ lw_good := lw_in 828 (by decide +kernel) rfl
theorem vw_199 : Cond.fieldLink RX11 28 "DuskOnRopesModel" "seen" "[I" ∈ lw_good := lw_in 830 (by decide +kernel) rfl
theorem vw_200 : Cond.fieldLink RX11 31 "DuskOnRopesModel" "numbers" "[I" ∈ lw_good := lw_in 833 (by decide +kernel) rfl
theorem vw_201 : Cond.fieldLink RX11 34 "DuskOnRopesModel" "held" "[I" ∈ lw_good := lw_in 834 (by decide +kernel) rfl
theorem vw_202 : Cond.fieldLink RX11 37 "DuskOnRopesModel" "fits" "[I" ∈ lw_good := lw_in 835 (by decide +kernel) rfl
theorem vw_203 : Cond.fieldLink RX11 40 "DuskOnRopesModel" "alike" "[I" ∈ lw_good := lw_in 836 (by decide +kernel) rfl
theorem vw_204 : Cond.code yX11_begins cX11_begins 2 none ∈ lw_good := lw_in 804 (by decide +kernel) rfl
theorem vw_205 : Cond.initialized RX11 ∈ lw_good := lw_in 49 (by decide +kernel) rfl
theorem vw_206 : Cond.methodLink RX11 43 yX11_begins ∈ lw_good := lw_in 801 (by decide +kernel) rfl
theorem vw_207 : Cond.instanceMethod yX11_begins ∈ lw_good := lw_in 803 (by decide +kernel) rfl
theorem vw_208 : Cond.selects RX11 yX11_begins yX11_begins ∈ lw_good := lw_in 11 (by decide +kernel) rfl
theorem vw_209 : Cond.code yX11_ropeOf cX11_ropeOf 6 none ∈ lw_good := lw_in 808 (by decide +kernel) rfl
theorem vw_210 : Cond.methodLink RX11 46 yX11_ropeOf ∈ lw_good := lw_in 805 (by decide +kernel) rfl
theorem vw_211 : Cond.instanceMethod yX11_ropeOf ∈ lw_good := lw_in 807 (by decide +kernel) rfl
theorem vw_212 : Cond.selects RX11 yX11_ropeOf yX11_ropeOf ∈ lw_good := lw_in 12 (by decide +kernel) rfl
theorem vw_213 : Cond.code yX11_wantOf cX11_wantOf 3 none ∈ lw_good := lw_in 812 (by decide +kernel) rfl
theorem vw_214 : Cond.methodLink RX11 50 yX11_wantOf ∈ lw_good := lw_in 809 (by decide +kernel) rfl
theorem vw_215 : Cond.instanceMethod yX11_wantOf ∈ lw_good := lw_in 811 (by decide +kernel) rfl
theorem vw_216 : Cond.selects RX11 yX11_wantOf yX11_wantOf ∈ lw_good := lw_in 13 (by decide +kernel) rfl
theorem vw_217 : Cond.code yX11_manOf cX11_manOf 2 none ∈ lw_good := lw_in 816 (by decide +kernel) rfl
theorem vw_218 : Cond.methodLink RX11 54 yX11_manOf ∈ lw_good := lw_in 813 (by decide +kernel) rfl
theorem vw_219 : Cond.instanceMethod yX11_manOf ∈ lw_good := lw_in 815 (by decide +kernel) rfl
theorem vw_220 : Cond.selects RX11 yX11_manOf yX11_manOf ∈ lw_good := lw_in 14 (by decide +kernel) rfl
theorem vw_221 : Cond.code yX11_lays cX11_lays 2 none ∈ lw_good := lw_in 820 (by decide +kernel) rfl
theorem vw_222 : Cond.methodLink RX11 58 yX11_lays ∈ lw_good := lw_in 817 (by decide +kernel) rfl
theorem vw_223 : Cond.instanceMethod yX11_lays ∈ lw_good := lw_in 819 (by decide +kernel) rfl
theorem vw_224 : Cond.selects RX11 yX11_lays yX11_lays ∈ lw_good := lw_in 15 (by decide +kernel) rfl
def xl_M (cs : ClassId × ClassId × ClassId × ClassId) (ad : Nat → Nat) : va_W := [(ad 0, .inr (11, [.ref (ad 1), .int 0, .ref (ad 2), .ref (ad 3), .ref (ad 4), .ref (ad 5), .int 0, .ref (ad 6), .int 0, .ref (ad 7), .int 0, .int 0, .ref (ad 8), .ref (ad 9), .ref (ad 10), .ref (ad 11)])), (ad 1, zi cs 200), (ad 2, zi cs 47), (ad 3, zi cs 47), (ad 4, zi cs 12), (ad 5, zi cs 96), (ad 6, zi cs 24), (ad 7, zi cs 8), (ad 8, zi cs 4), (ad 9, zi cs 12), (ad 10, zi cs 50), (ad 11, zi cs 41)]
theorem xl_Mf (cs : ClassId × ClassId × ClassId × ClassId) (ad : Nat → Nat) : (xl_M cs ad).map Prod.fst = (List.range 12).map ad := rfl
def gM0 : mm_H := fun _ _ => 0
theorem gM0_ok : mm_okH gM0 := fun _ _ => by unfold mm_in gM0; omega
set_option maxRecDepth 100000 in
theorem cv_M {D : va_G} {cs : ClassId × ClassId × ClassId × ClassId} {ad : Nat → Nat} {H : Heap} (hP : va_P D classes (xl_M cs ad) H) : va_P D classes (wdM cs ad gM0) H := by
  intro k x hx
  obtain ⟨hk, rfl⟩ := mm_wd_of hx
  match k, hk with
  | 0, _ => exact hP 0 _ rfl
  | 1, _ => exact hP 1 _ rfl
  | 2, _ => exact hP 2 _ rfl
  | 3, _ => exact hP 3 _ rfl
  | 4, _ => exact hP 4 _ rfl
  | 5, _ => exact hP 5 _ rfl
  | 6, _ => exact hP 6 _ rfl
  | 7, _ => exact hP 7 _ rfl
  | 8, _ => exact hP 8 _ rfl
  | 9, _ => exact hP 9 _ rfl
  | 10, _ => exact hP 10 _ rfl
  | 11, _ => exact hP 11 _ rfl
  | n + 12, hk => omega
abbrev ii_X11 : mm_M := (yX11_init, cX11_init, 1, none, 0)
abbrev w0M (h0 : Nat) : va_W := [(h0, .inr (11, [.null, .int 0, .null, .null, .null, .null, .int 0, .null, .int 0, .null, .int 0, .int 0, .null, .null, .null, .null]))]
def cm_P (D : va_G) (cs : ClassId × ClassId × ClassId × ClassId) (h0 : Nat) (sz : Nat) : State → Prop := fun U => kc_P D cs (w0M h0) sz U ∧ mm_Nw nests U
theorem cm_blind {D : va_G} {cs : ClassId × ClassId × ClassId × ClassId} {h0 : Nat} {sz : Nat} {av : List Value} : FrameBlind (va_Pc av (cm_P D cs h0 sz)) := fun a U g mk q => by
  obtain ⟨q0, ⟨q1, qP, qK, qD, qE⟩, qN⟩ := q
  exact ⟨q0, ⟨q1, qP, va_K.moved (u := U) (U := U.calling g mk a) (Vm.Alike.refl U.vm) qK, qD, EX.moved (u := U) (U := U.calling g mk a) (Vm.Alike.refl U.vm) qE⟩, fun x hx => va_Nw.same rfl rfl (qN x hx)⟩
set_option maxHeartbeats 8000000 in
set_option maxRecDepth 100000 in
theorem cm_met (l : Launch) (D : va_G) (cs : ClassId × ClassId × ClassId × ClassId) (h0 : Nat) (sz : Nat) : Met l yX11_init (mm_ws lw_good ii_X11) (kc_R 4 11 541) (va_Pc [.ref h0] (cm_P D cs h0 sz)) (va_Qv (fun u : (Nat → Nat) × mm_H => u.1 0 = h0 ∧ IM u.2 ∧ mm_okH u.2) (fun u t => va_P D classes (wdM cs u.1 u.2) t.heap ∧ va_D (va_A (w0M h0) sz) (wdM cs u.1 u.2)) (va_A (w0M h0) sz)) 11 541 (va_A (w0M h0) sz) := by
  refine Met.ofW (cc := cX11_init) (maxL := 1) (ret := none) (by decide) rfl ?_
  intro p e s m args below meth c s1 Bd hml hv
  obtain ⟨rfl, ⟨hsz, hP, hK, hD0, hE⟩, hNw⟩ := hv
  subst hsz
  have hx := Bd.exec
  have hb := Bd.bytes
  have hr := Bd.returns
  have hts := atoms_spec (ws := mm_ws lw_good ii_X11) Bd.pre
  have hown : s.vm.findClass RX11 = some m.cls := findClass_of_methodNamed Bd.named
  have hlocks := Bd.notSynchronized
  have hin : meth.name = "<init>" := (name_of_methodNamed Bd.named Bd.method).1
  have hD := hD0.self (sz := s.heap.size)
  generalize hAe : va_A (w0M h0) s.heap.size = A at hD ⊢
  have hA : ∀ q : Nat, s.heap.size ≤ q → A q := fun q h => by rw [← hAe]; exact Or.inr h
  have hS : va_S A s.heap s.heap [] := va_S.rf
  have hl := lv_entry ([.ref h0]) (n := 1) (Nat.le_of_ble_eq_true rfl)
  rw [lg_entry_eq]
  generalize (lg_sl ([.ref h0]) ++ List.replicate (1 - (lg_sl ([.ref h0])).length) Slot.unset).toArray = ls at hl ⊢
  have hl : lv_has ls 1 [(0, .ref h0)] := hl
  refine lv_aload_n hx hb dX11_init_0 rfl (lv_at hl 0 rfl) ?_
  refine W.objInit hx hb hown (hts _ (List.mem_cons_of_mem _ vw_192)) (hts _ (List.mem_cons_of_mem _ vw_1)) (hts _ (List.mem_cons_of_mem _ vw_2)) rfl (by rw [hml]; exact hl.1) rfl dX11_init_1 (Nat.le_of_ble_eq_true rfl) (Nat.le_of_ble_eq_true rfl) ?_
  refine W.eq (g2 := F0 m 4 ls []) rfl ?_
  refine lv_aload_n hx hb dX11_init_4 rfl (lv_at hl 0 rfl) ?_
  refine lv_sipush (v := 200) hx hb dX11_init_5 (by decide) ?_
  refine nw_i hx hb (hts _ (List.mem_cons_of_mem _ vw_7)) hK hP hD hS hA (n := 200) (N' := 200) (by decide) rfl (Nat.le_of_ble_eq_true rfl) (Nat.le_of_ble_eq_true rfl) (Nat.le_of_ble_eq_true rfl) dX11_init_8 (fun q1 H hP hD hS => ?_)
  have hP : va_P D classes ([(h0, .inr (11, [.null, .int 0, .null, .null, .null, .null, .int 0, .null, .int 0, .null, .int 0, .int 0, .null, .null, .null, .null])), (q1, zi cs 200)]) H := hP
  have hD : va_D A ([(h0, .inr (11, [.null, .int 0, .null, .null, .null, .null, .int 0, .null, .int 0, .null, .int 0, .int 0, .null, .null, .null, .null])), (q1, zi cs 200)]) := hD
  refine va_putF (D := D) (ci := 11) (v := .ref q1) (ty := .array .int) (C := RX11) (T := TX11) (N := 16) hx hb hts (fun w hw => List.mem_cons_of_mem _ (ig_X11 w hw)) tyX11 tyX11_ok nmX11 hown hK hP hD hS 0 rfl rfl 0 (by decide) (hts _ (List.mem_cons_of_mem _ vw_193)) (fun _ h9 => h9) rfl hin rfl (by decide +kernel) rfl rfl (Nat.le_of_ble_eq_true rfl) dX11_init_10 (fun H locs hP hD hS => ?_)
  have hP : va_P D classes ([(h0, .inr (11, [.ref q1, .int 0, .null, .null, .null, .null, .int 0, .null, .int 0, .null, .int 0, .int 0, .null, .null, .null, .null])), (q1, zi cs 200)]) H := hP
  have hD : va_D A ([(h0, .inr (11, [.ref q1, .int 0, .null, .null, .null, .null, .int 0, .null, .int 0, .null, .int 0, .int 0, .null, .null, .null, .null])), (q1, zi cs 200)]) := hD
  refine lv_aload_n hx hb dX11_init_13 rfl (lv_at hl 0 rfl) ?_
  refine lv_bipush (v := 47) hx hb dX11_init_14 (by decide) ?_
  refine nw_i hx hb (hts _ (List.mem_cons_of_mem _ vw_7)) hK hP hD hS hA (n := 47) (N' := 47) (by decide) rfl (Nat.le_of_ble_eq_true rfl) (Nat.le_of_ble_eq_true rfl) (Nat.le_of_ble_eq_true rfl) dX11_init_16 (fun q2 H hP hD hS => ?_)
  have hP : va_P D classes ([(h0, .inr (11, [.ref q1, .int 0, .null, .null, .null, .null, .int 0, .null, .int 0, .null, .int 0, .int 0, .null, .null, .null, .null])), (q1, zi cs 200), (q2, zi cs 47)]) H := hP
  have hD : va_D A ([(h0, .inr (11, [.ref q1, .int 0, .null, .null, .null, .null, .int 0, .null, .int 0, .null, .int 0, .int 0, .null, .null, .null, .null])), (q1, zi cs 200), (q2, zi cs 47)]) := hD
  refine va_putF (D := D) (ci := 11) (v := .ref q2) (ty := .array .int) (C := RX11) (T := TX11) (N := 16) hx hb hts (fun w hw => List.mem_cons_of_mem _ (ig_X11 w hw)) tyX11 tyX11_ok nmX11 hown hK hP hD hS 0 rfl rfl 2 (by decide) (hts _ (List.mem_cons_of_mem _ vw_194)) (fun _ h9 => h9) rfl hin rfl (by decide +kernel) rfl rfl (Nat.le_of_ble_eq_true rfl) dX11_init_18 (fun H locs hP hD hS => ?_)
  have hP : va_P D classes ([(h0, .inr (11, [.ref q1, .int 0, .ref q2, .null, .null, .null, .int 0, .null, .int 0, .null, .int 0, .int 0, .null, .null, .null, .null])), (q1, zi cs 200), (q2, zi cs 47)]) H := hP
  have hD : va_D A ([(h0, .inr (11, [.ref q1, .int 0, .ref q2, .null, .null, .null, .int 0, .null, .int 0, .null, .int 0, .int 0, .null, .null, .null, .null])), (q1, zi cs 200), (q2, zi cs 47)]) := hD
  refine lv_aload_n hx hb dX11_init_21 rfl (lv_at hl 0 rfl) ?_
  refine lv_bipush (v := 47) hx hb dX11_init_22 (by decide) ?_
  refine nw_i hx hb (hts _ (List.mem_cons_of_mem _ vw_7)) hK hP hD hS hA (n := 47) (N' := 47) (by decide) rfl (Nat.le_of_ble_eq_true rfl) (Nat.le_of_ble_eq_true rfl) (Nat.le_of_ble_eq_true rfl) dX11_init_24 (fun q3 H hP hD hS => ?_)
  have hP : va_P D classes ([(h0, .inr (11, [.ref q1, .int 0, .ref q2, .null, .null, .null, .int 0, .null, .int 0, .null, .int 0, .int 0, .null, .null, .null, .null])), (q1, zi cs 200), (q2, zi cs 47), (q3, zi cs 47)]) H := hP
  have hD : va_D A ([(h0, .inr (11, [.ref q1, .int 0, .ref q2, .null, .null, .null, .int 0, .null, .int 0, .null, .int 0, .int 0, .null, .null, .null, .null])), (q1, zi cs 200), (q2, zi cs 47), (q3, zi cs 47)]) := hD
  refine va_putF (D := D) (ci := 11) (v := .ref q3) (ty := .array .int) (C := RX11) (T := TX11) (N := 16) hx hb hts (fun w hw => List.mem_cons_of_mem _ (ig_X11 w hw)) tyX11 tyX11_ok nmX11 hown hK hP hD hS 0 rfl rfl 3 (by decide) (hts _ (List.mem_cons_of_mem _ vw_195)) (fun _ h9 => h9) rfl hin rfl (by decide +kernel) rfl rfl (Nat.le_of_ble_eq_true rfl) dX11_init_26 (fun H locs hP hD hS => ?_)
  have hP : va_P D classes ([(h0, .inr (11, [.ref q1, .int 0, .ref q2, .ref q3, .null, .null, .int 0, .null, .int 0, .null, .int 0, .int 0, .null, .null, .null, .null])), (q1, zi cs 200), (q2, zi cs 47), (q3, zi cs 47)]) H := hP
  have hD : va_D A ([(h0, .inr (11, [.ref q1, .int 0, .ref q2, .ref q3, .null, .null, .int 0, .null, .int 0, .null, .int 0, .int 0, .null, .null, .null, .null])), (q1, zi cs 200), (q2, zi cs 47), (q3, zi cs 47)]) := hD
  refine lv_aload_n hx hb dX11_init_29 rfl (lv_at hl 0 rfl) ?_
  refine lv_bipush (v := 12) hx hb dX11_init_30 (by decide) ?_
  refine nw_i hx hb (hts _ (List.mem_cons_of_mem _ vw_7)) hK hP hD hS hA (n := 12) (N' := 12) (by decide) rfl (Nat.le_of_ble_eq_true rfl) (Nat.le_of_ble_eq_true rfl) (Nat.le_of_ble_eq_true rfl) dX11_init_32 (fun q4 H hP hD hS => ?_)
  have hP : va_P D classes ([(h0, .inr (11, [.ref q1, .int 0, .ref q2, .ref q3, .null, .null, .int 0, .null, .int 0, .null, .int 0, .int 0, .null, .null, .null, .null])), (q1, zi cs 200), (q2, zi cs 47), (q3, zi cs 47), (q4, zi cs 12)]) H := hP
  have hD : va_D A ([(h0, .inr (11, [.ref q1, .int 0, .ref q2, .ref q3, .null, .null, .int 0, .null, .int 0, .null, .int 0, .int 0, .null, .null, .null, .null])), (q1, zi cs 200), (q2, zi cs 47), (q3, zi cs 47), (q4, zi cs 12)]) := hD
  refine va_putF (D := D) (ci := 11) (v := .ref q4) (ty := .array .int) (C := RX11) (T := TX11) (N := 16) hx hb hts (fun w hw => List.mem_cons_of_mem _ (ig_X11 w hw)) tyX11 tyX11_ok nmX11 hown hK hP hD hS 0 rfl rfl 4 (by decide) (hts _ (List.mem_cons_of_mem _ vw_196)) (fun _ h9 => h9) rfl hin rfl (by decide +kernel) rfl rfl (Nat.le_of_ble_eq_true rfl) dX11_init_34 (fun H locs hP hD hS => ?_)
  have hP : va_P D classes ([(h0, .inr (11, [.ref q1, .int 0, .ref q2, .ref q3, .ref q4, .null, .int 0, .null, .int 0, .null, .int 0, .int 0, .null, .null, .null, .null])), (q1, zi cs 200), (q2, zi cs 47), (q3, zi cs 47), (q4, zi cs 12)]) H := hP
  have hD : va_D A ([(h0, .inr (11, [.ref q1, .int 0, .ref q2, .ref q3, .ref q4, .null, .int 0, .null, .int 0, .null, .int 0, .int 0, .null, .null, .null, .null])), (q1, zi cs 200), (q2, zi cs 47), (q3, zi cs 47), (q4, zi cs 12)]) := hD
  refine lv_aload_n hx hb dX11_init_37 rfl (lv_at hl 0 rfl) ?_
  refine lv_bipush (v := 96) hx hb dX11_init_38 (by decide) ?_
  refine nw_i hx hb (hts _ (List.mem_cons_of_mem _ vw_7)) hK hP hD hS hA (n := 96) (N' := 96) (by decide) rfl (Nat.le_of_ble_eq_true rfl) (Nat.le_of_ble_eq_true rfl) (Nat.le_of_ble_eq_true rfl) dX11_init_40 (fun q5 H hP hD hS => ?_)
  have hP : va_P D classes ([(h0, .inr (11, [.ref q1, .int 0, .ref q2, .ref q3, .ref q4, .null, .int 0, .null, .int 0, .null, .int 0, .int 0, .null, .null, .null, .null])), (q1, zi cs 200), (q2, zi cs 47), (q3, zi cs 47), (q4, zi cs 12), (q5, zi cs 96)]) H := hP
  have hD : va_D A ([(h0, .inr (11, [.ref q1, .int 0, .ref q2, .ref q3, .ref q4, .null, .int 0, .null, .int 0, .null, .int 0, .int 0, .null, .null, .null, .null])), (q1, zi cs 200), (q2, zi cs 47), (q3, zi cs 47), (q4, zi cs 12), (q5, zi cs 96)]) := hD
  refine va_putF (D := D) (ci := 11) (v := .ref q5) (ty := .array .int) (C := RX11) (T := TX11) (N := 16) hx hb hts (fun w hw => List.mem_cons_of_mem _ (ig_X11 w hw)) tyX11 tyX11_ok nmX11 hown hK hP hD hS 0 rfl rfl 5 (by decide) (hts _ (List.mem_cons_of_mem _ vw_197)) (fun _ h9 => h9) rfl hin rfl (by decide +kernel) rfl rfl (Nat.le_of_ble_eq_true rfl) dX11_init_42 (fun H locs hP hD hS => ?_)
  have hP : va_P D classes ([(h0, .inr (11, [.ref q1, .int 0, .ref q2, .ref q3, .ref q4, .ref q5, .int 0, .null, .int 0, .null, .int 0, .int 0, .null, .null, .null, .null])), (q1, zi cs 200), (q2, zi cs 47), (q3, zi cs 47), (q4, zi cs 12), (q5, zi cs 96)]) H := hP
  have hD : va_D A ([(h0, .inr (11, [.ref q1, .int 0, .ref q2, .ref q3, .ref q4, .ref q5, .int 0, .null, .int 0, .null, .int 0, .int 0, .null, .null, .null, .null])), (q1, zi cs 200), (q2, zi cs 47), (q3, zi cs 47), (q4, zi cs 12), (q5, zi cs 96)]) := hD
  refine lv_aload_n hx hb dX11_init_45 rfl (lv_at hl 0 rfl) ?_
  refine lv_bipush (v := 24) hx hb dX11_init_46 (by decide) ?_
  refine nw_i hx hb (hts _ (List.mem_cons_of_mem _ vw_7)) hK hP hD hS hA (n := 24) (N' := 24) (by decide) rfl (Nat.le_of_ble_eq_true rfl) (Nat.le_of_ble_eq_true rfl) (Nat.le_of_ble_eq_true rfl) dX11_init_48 (fun q6 H hP hD hS => ?_)
  have hP : va_P D classes ([(h0, .inr (11, [.ref q1, .int 0, .ref q2, .ref q3, .ref q4, .ref q5, .int 0, .null, .int 0, .null, .int 0, .int 0, .null, .null, .null, .null])), (q1, zi cs 200), (q2, zi cs 47), (q3, zi cs 47), (q4, zi cs 12), (q5, zi cs 96), (q6, zi cs 24)]) H := hP
  have hD : va_D A ([(h0, .inr (11, [.ref q1, .int 0, .ref q2, .ref q3, .ref q4, .ref q5, .int 0, .null, .int 0, .null, .int 0, .int 0, .null, .null, .null, .null])), (q1, zi cs 200), (q2, zi cs 47), (q3, zi cs 47), (q4, zi cs 12), (q5, zi cs 96), (q6, zi cs 24)]) := hD
  refine va_putF (D := D) (ci := 11) (v := .ref q6) (ty := .array .int) (C := RX11) (T := TX11) (N := 16) hx hb hts (fun w hw => List.mem_cons_of_mem _ (ig_X11 w hw)) tyX11 tyX11_ok nmX11 hown hK hP hD hS 0 rfl rfl 7 (by decide) (hts _ (List.mem_cons_of_mem _ vw_198)) (fun _ h9 => h9) rfl hin rfl (by decide +kernel) rfl rfl (Nat.le_of_ble_eq_true rfl) dX11_init_50 (fun H locs hP hD hS => ?_)
  have hP : va_P D classes ([(h0, .inr (11, [.ref q1, .int 0, .ref q2, .ref q3, .ref q4, .ref q5, .int 0, .ref q6, .int 0, .null, .int 0, .int 0, .null, .null, .null, .null])), (q1, zi cs 200), (q2, zi cs 47), (q3, zi cs 47), (q4, zi cs 12), (q5, zi cs 96), (q6, zi cs 24)]) H := hP
  have hD : va_D A ([(h0, .inr (11, [.ref q1, .int 0, .ref q2, .ref q3, .ref q4, .ref q5, .int 0, .ref q6, .int 0, .null, .int 0, .int 0, .null, .null, .null, .null])), (q1, zi cs 200), (q2, zi cs 47), (q3, zi cs 47), (q4, zi cs 12), (q5, zi cs 96), (q6, zi cs 24)]) := hD
  refine lv_aload_n hx hb dX11_init_53 rfl (lv_at hl 0 rfl) ?_
  refine lv_bipush (v := 8) hx hb dX11_init_54 (by decide) ?_
  refine nw_i hx hb (hts _ (List.mem_cons_of_mem _ vw_7)) hK hP hD hS hA (n := 8) (N' := 8) (by decide) rfl (Nat.le_of_ble_eq_true rfl) (Nat.le_of_ble_eq_true rfl) (Nat.le_of_ble_eq_true rfl) dX11_init_56 (fun q7 H hP hD hS => ?_)
  have hP : va_P D classes ([(h0, .inr (11, [.ref q1, .int 0, .ref q2, .ref q3, .ref q4, .ref q5, .int 0, .ref q6, .int 0, .null, .int 0, .int 0, .null, .null, .null, .null])), (q1, zi cs 200), (q2, zi cs 47), (q3, zi cs 47), (q4, zi cs 12), (q5, zi cs 96), (q6, zi cs 24), (q7, zi cs 8)]) H := hP
  have hD : va_D A ([(h0, .inr (11, [.ref q1, .int 0, .ref q2, .ref q3, .ref q4, .ref q5, .int 0, .ref q6, .int 0, .null, .int 0, .int 0, .null, .null, .null, .null])), (q1, zi cs 200), (q2, zi cs 47), (q3, zi cs 47), (q4, zi cs 12), (q5, zi cs 96), (q6, zi cs 24), (q7, zi cs 8)]) := hD
  refine va_putF (D := D) (ci := 11) (v := .ref q7) (ty := .array .int) (C := RX11) (T := TX11) (N := 16) hx hb hts (fun w hw => List.mem_cons_of_mem _ (ig_X11 w hw)) tyX11 tyX11_ok nmX11 hown hK hP hD hS 0 rfl rfl 9 (by decide) (hts _ (List.mem_cons_of_mem _ vw_199)) (fun _ h9 => h9) rfl hin rfl (by decide +kernel) rfl rfl (Nat.le_of_ble_eq_true rfl) dX11_init_58 (fun H locs hP hD hS => ?_)
  have hP : va_P D classes ([(h0, .inr (11, [.ref q1, .int 0, .ref q2, .ref q3, .ref q4, .ref q5, .int 0, .ref q6, .int 0, .ref q7, .int 0, .int 0, .null, .null, .null, .null])), (q1, zi cs 200), (q2, zi cs 47), (q3, zi cs 47), (q4, zi cs 12), (q5, zi cs 96), (q6, zi cs 24), (q7, zi cs 8)]) H := hP
  have hD : va_D A ([(h0, .inr (11, [.ref q1, .int 0, .ref q2, .ref q3, .ref q4, .ref q5, .int 0, .ref q6, .int 0, .ref q7, .int 0, .int 0, .null, .null, .null, .null])), (q1, zi cs 200), (q2, zi cs 47), (q3, zi cs 47), (q4, zi cs 12), (q5, zi cs 96), (q6, zi cs 24), (q7, zi cs 8)]) := hD
  refine lv_aload_n hx hb dX11_init_61 rfl (lv_at hl 0 rfl) ?_
  refine lv_iconst (v := 4) hx hb dX11_init_62 (by decide) ?_
  refine nw_i hx hb (hts _ (List.mem_cons_of_mem _ vw_7)) hK hP hD hS hA (n := 4) (N' := 4) (by decide) rfl (Nat.le_of_ble_eq_true rfl) (Nat.le_of_ble_eq_true rfl) (Nat.le_of_ble_eq_true rfl) dX11_init_63 (fun q8 H hP hD hS => ?_)
  have hP : va_P D classes ([(h0, .inr (11, [.ref q1, .int 0, .ref q2, .ref q3, .ref q4, .ref q5, .int 0, .ref q6, .int 0, .ref q7, .int 0, .int 0, .null, .null, .null, .null])), (q1, zi cs 200), (q2, zi cs 47), (q3, zi cs 47), (q4, zi cs 12), (q5, zi cs 96), (q6, zi cs 24), (q7, zi cs 8), (q8, zi cs 4)]) H := hP
  have hD : va_D A ([(h0, .inr (11, [.ref q1, .int 0, .ref q2, .ref q3, .ref q4, .ref q5, .int 0, .ref q6, .int 0, .ref q7, .int 0, .int 0, .null, .null, .null, .null])), (q1, zi cs 200), (q2, zi cs 47), (q3, zi cs 47), (q4, zi cs 12), (q5, zi cs 96), (q6, zi cs 24), (q7, zi cs 8), (q8, zi cs 4)]) := hD
  refine va_putF (D := D) (ci := 11) (v := .ref q8) (ty := .array .int) (C := RX11) (T := TX11) (N := 16) hx hb hts (fun w hw => List.mem_cons_of_mem _ (ig_X11 w hw)) tyX11 tyX11_ok nmX11 hown hK hP hD hS 0 rfl rfl 12 (by decide) (hts _ (List.mem_cons_of_mem _ vw_200)) (fun _ h9 => h9) rfl hin rfl (by decide +kernel) rfl rfl (Nat.le_of_ble_eq_true rfl) dX11_init_65 (fun H locs hP hD hS => ?_)
  have hP : va_P D classes ([(h0, .inr (11, [.ref q1, .int 0, .ref q2, .ref q3, .ref q4, .ref q5, .int 0, .ref q6, .int 0, .ref q7, .int 0, .int 0, .ref q8, .null, .null, .null])), (q1, zi cs 200), (q2, zi cs 47), (q3, zi cs 47), (q4, zi cs 12), (q5, zi cs 96), (q6, zi cs 24), (q7, zi cs 8), (q8, zi cs 4)]) H := hP
  have hD : va_D A ([(h0, .inr (11, [.ref q1, .int 0, .ref q2, .ref q3, .ref q4, .ref q5, .int 0, .ref q6, .int 0, .ref q7, .int 0, .int 0, .ref q8, .null, .null, .null])), (q1, zi cs 200), (q2, zi cs 47), (q3, zi cs 47), (q4, zi cs 12), (q5, zi cs 96), (q6, zi cs 24), (q7, zi cs 8), (q8, zi cs 4)]) := hD
  refine lv_aload_n hx hb dX11_init_68 rfl (lv_at hl 0 rfl) ?_
  refine lv_bipush (v := 12) hx hb dX11_init_69 (by decide) ?_
  refine nw_i hx hb (hts _ (List.mem_cons_of_mem _ vw_7)) hK hP hD hS hA (n := 12) (N' := 12) (by decide) rfl (Nat.le_of_ble_eq_true rfl) (Nat.le_of_ble_eq_true rfl) (Nat.le_of_ble_eq_true rfl) dX11_init_71 (fun q9 H hP hD hS => ?_)
  have hP : va_P D classes ([(h0, .inr (11, [.ref q1, .int 0, .ref q2, .ref q3, .ref q4, .ref q5, .int 0, .ref q6, .int 0, .ref q7, .int 0, .int 0, .ref q8, .null, .null, .null])), (q1, zi cs 200), (q2, zi cs 47), (q3, zi cs 47), (q4, zi cs 12), (q5, zi cs 96), (q6, zi cs 24), (q7, zi cs 8), (q8, zi cs 4), (q9, zi cs 12)]) H := hP
  have hD : va_D A ([(h0, .inr (11, [.ref q1, .int 0, .ref q2, .ref q3, .ref q4, .ref q5, .int 0, .ref q6, .int 0, .ref q7, .int 0, .int 0, .ref q8, .null, .null, .null])), (q1, zi cs 200), (q2, zi cs 47), (q3, zi cs 47), (q4, zi cs 12), (q5, zi cs 96), (q6, zi cs 24), (q7, zi cs 8), (q8, zi cs 4), (q9, zi cs 12)]) := hD
  refine va_putF (D := D) (ci := 11) (v := .ref q9) (ty := .array .int) (C := RX11) (T := TX11) (N := 16) hx hb hts (fun w hw => List.mem_cons_of_mem _ (ig_X11 w hw)) tyX11 tyX11_ok nmX11 hown hK hP hD hS 0 rfl rfl 13 (by decide) (hts _ (List.mem_cons_of_mem _ vw_201)) (fun _ h9 => h9) rfl hin rfl (by decide +kernel) rfl rfl (Nat.le_of_ble_eq_true rfl) dX11_init_73 (fun H locs hP hD hS => ?_)
  have hP : va_P D classes ([(h0, .inr (11, [.ref q1, .int 0, .ref q2, .ref q3, .ref q4, .ref q5, .int 0, .ref q6, .int 0, .ref q7, .int 0, .int 0, .ref q8, .ref q9, .null, .null])), (q1, zi cs 200), (q2, zi cs 47), (q3, zi cs 47), (q4, zi cs 12), (q5, zi cs 96), (q6, zi cs 24), (q7, zi cs 8), (q8, zi cs 4), (q9, zi cs 12)]) H := hP
  have hD : va_D A ([(h0, .inr (11, [.ref q1, .int 0, .ref q2, .ref q3, .ref q4, .ref q5, .int 0, .ref q6, .int 0, .ref q7, .int 0, .int 0, .ref q8, .ref q9, .null, .null])), (q1, zi cs 200), (q2, zi cs 47), (q3, zi cs 47), (q4, zi cs 12), (q5, zi cs 96), (q6, zi cs 24), (q7, zi cs 8), (q8, zi cs 4), (q9, zi cs 12)]) := hD
  refine lv_aload_n hx hb dX11_init_76 rfl (lv_at hl 0 rfl) ?_
  refine lv_bipush (v := 50) hx hb dX11_init_77 (by decide) ?_
  refine nw_i hx hb (hts _ (List.mem_cons_of_mem _ vw_7)) hK hP hD hS hA (n := 50) (N' := 50) (by decide) rfl (Nat.le_of_ble_eq_true rfl) (Nat.le_of_ble_eq_true rfl) (Nat.le_of_ble_eq_true rfl) dX11_init_79 (fun q10 H hP hD hS => ?_)
  have hP : va_P D classes ([(h0, .inr (11, [.ref q1, .int 0, .ref q2, .ref q3, .ref q4, .ref q5, .int 0, .ref q6, .int 0, .ref q7, .int 0, .int 0, .ref q8, .ref q9, .null, .null])), (q1, zi cs 200), (q2, zi cs 47), (q3, zi cs 47), (q4, zi cs 12), (q5, zi cs 96), (q6, zi cs 24), (q7, zi cs 8), (q8, zi cs 4), (q9, zi cs 12), (q10, zi cs 50)]) H := hP
  have hD : va_D A ([(h0, .inr (11, [.ref q1, .int 0, .ref q2, .ref q3, .ref q4, .ref q5, .int 0, .ref q6, .int 0, .ref q7, .int 0, .int 0, .ref q8, .ref q9, .null, .null])), (q1, zi cs 200), (q2, zi cs 47), (q3, zi cs 47), (q4, zi cs 12), (q5, zi cs 96), (q6, zi cs 24), (q7, zi cs 8), (q8, zi cs 4), (q9, zi cs 12), (q10, zi cs 50)]) := hD
  refine va_putF (D := D) (ci := 11) (v := .ref q10) (ty := .array .int) (C := RX11) (T := TX11) (N := 16) hx hb hts (fun w hw => List.mem_cons_of_mem _ (ig_X11 w hw)) tyX11 tyX11_ok nmX11 hown hK hP hD hS 0 rfl rfl 14 (by decide) (hts _ (List.mem_cons_of_mem _ vw_202)) (fun _ h9 => h9) rfl hin rfl (by decide +kernel) rfl rfl (Nat.le_of_ble_eq_true rfl) dX11_init_81 (fun H locs hP hD hS => ?_)
  have hP : va_P D classes ([(h0, .inr (11, [.ref q1, .int 0, .ref q2, .ref q3, .ref q4, .ref q5, .int 0, .ref q6, .int 0, .ref q7, .int 0, .int 0, .ref q8, .ref q9, .ref q10, .null])), (q1, zi cs 200), (q2, zi cs 47), (q3, zi cs 47), (q4, zi cs 12), (q5, zi cs 96), (q6, zi cs 24), (q7, zi cs 8), (q8, zi cs 4), (q9, zi cs 12), (q10, zi cs 50)]) H := hP
  have hD : va_D A ([(h0, .inr (11, [.ref q1, .int 0, .ref q2, .ref q3, .ref q4, .ref q5, .int 0, .ref q6, .int 0, .ref q7, .int 0, .int 0, .ref q8, .ref q9, .ref q10, .null])), (q1, zi cs 200), (q2, zi cs 47), (q3, zi cs 47), (q4, zi cs 12), (q5, zi cs 96), (q6, zi cs 24), (q7, zi cs 8), (q8, zi cs 4), (q9, zi cs 12), (q10, zi cs 50)]) := hD
  refine lv_aload_n hx hb dX11_init_84 rfl (lv_at hl 0 rfl) ?_
  refine lv_bipush (v := 41) hx hb dX11_init_85 (by decide) ?_
  refine nw_i hx hb (hts _ (List.mem_cons_of_mem _ vw_7)) hK hP hD hS hA (n := 41) (N' := 41) (by decide) rfl (Nat.le_of_ble_eq_true rfl) (Nat.le_of_ble_eq_true rfl) (Nat.le_of_ble_eq_true rfl) dX11_init_87 (fun q11 H hP hD hS => ?_)
  have hP : va_P D classes ([(h0, .inr (11, [.ref q1, .int 0, .ref q2, .ref q3, .ref q4, .ref q5, .int 0, .ref q6, .int 0, .ref q7, .int 0, .int 0, .ref q8, .ref q9, .ref q10, .null])), (q1, zi cs 200), (q2, zi cs 47), (q3, zi cs 47), (q4, zi cs 12), (q5, zi cs 96), (q6, zi cs 24), (q7, zi cs 8), (q8, zi cs 4), (q9, zi cs 12), (q10, zi cs 50), (q11, zi cs 41)]) H := hP
  have hD : va_D A ([(h0, .inr (11, [.ref q1, .int 0, .ref q2, .ref q3, .ref q4, .ref q5, .int 0, .ref q6, .int 0, .ref q7, .int 0, .int 0, .ref q8, .ref q9, .ref q10, .null])), (q1, zi cs 200), (q2, zi cs 47), (q3, zi cs 47), (q4, zi cs 12), (q5, zi cs 96), (q6, zi cs 24), (q7, zi cs 8), (q8, zi cs 4), (q9, zi cs 12), (q10, zi cs 50), (q11, zi cs 41)]) := hD
  refine va_putF (D := D) (ci := 11) (v := .ref q11) (ty := .array .int) (C := RX11) (T := TX11) (N := 16) hx hb hts (fun w hw => List.mem_cons_of_mem _ (ig_X11 w hw)) tyX11 tyX11_ok nmX11 hown hK hP hD hS 0 rfl rfl 15 (by decide) (hts _ (List.mem_cons_of_mem _ vw_203)) (fun _ h9 => h9) rfl hin rfl (by decide +kernel) rfl rfl (Nat.le_of_ble_eq_true rfl) dX11_init_89 (fun H locs hP hD hS => ?_)
  have hP : va_P D classes ([(h0, .inr (11, [.ref q1, .int 0, .ref q2, .ref q3, .ref q4, .ref q5, .int 0, .ref q6, .int 0, .ref q7, .int 0, .int 0, .ref q8, .ref q9, .ref q10, .ref q11])), (q1, zi cs 200), (q2, zi cs 47), (q3, zi cs 47), (q4, zi cs 12), (q5, zi cs 96), (q6, zi cs 24), (q7, zi cs 8), (q8, zi cs 4), (q9, zi cs 12), (q10, zi cs 50), (q11, zi cs 41)]) H := hP
  have hD : va_D A ([(h0, .inr (11, [.ref q1, .int 0, .ref q2, .ref q3, .ref q4, .ref q5, .int 0, .ref q6, .int 0, .ref q7, .int 0, .int 0, .ref q8, .ref q9, .ref q10, .ref q11])), (q1, zi cs 200), (q2, zi cs 47), (q3, zi cs 47), (q4, zi cs 12), (q5, zi cs 96), (q6, zi cs 24), (q7, zi cs 8), (q8, zi cs 4), (q9, zi cs 12), (q10, zi cs 50), (q11, zi cs 41)]) := hD
  obtain ⟨ad, hade⟩ : ∃ ad : Nat → Nat, ad = fun i => [h0, q1, q2, q3, q4, q5, q6, q7, q8, q9, q10, q11].getD i 0 := ⟨_, rfl⟩
  have hP : va_P D classes (xl_M cs ad) H := by rw [hade]; exact hP
  have hD : va_D A (xl_M cs ad) := by rw [hade]; exact hD
  have ha0 : ad 0 = h0 := by rw [hade]; rfl
  have hP := cv_M hP
  have hD : va_D A (wdM cs ad gM0) := cv_D (xl_Mf cs ad) hD
  clear hade
  refine lv_aload_n hx hb dX11_init_92 rfl (lv_at hl 0 rfl) ?_
  obtain ⟨g1, a0, b0⟩ := md_b (q := gM0) (fun j _ => rfl)
  refine lc_call (n := 0) (fun y pc => hOkM (l := l) (D := D) (tys := mm_ty cs) (cs := cs) (ad := ad) rfl rfl rfl rfl y pc) hPlM (y := 11) (a := 0) (I := in_X11_begins) rfl (as := []) (h := gM0) a0 (fun _ z => absurd z List.not_mem_nil) gM0_ok rfl (Nat.le_of_ble_eq_true rfl) hx hb hml hown hts (mm_good lw_goodw (fun z hz => (List.mem_cons.mp hz).elim (fun e => e ▸ vw_204) id)) (List.mem_cons_of_mem _ vw_205) (List.mem_cons_of_mem _ vw_206) (List.mem_cons_of_mem _ vw_207) (ci := 11) rfl (by decide) (by decide) (List.mem_cons_of_mem _ vw_208) (by decide +kernel) ⟨Nat.le_of_ble_eq_true rfl, Nat.le_of_ble_eq_true rfl⟩ hK hNw hP hD hS hA hl.1 rfl (rest := []) (by rw [ha0]; rfl) (Nat.le_of_ble_eq_true rfl) dX11_init_93 ⟨Nat.le_of_ble_eq_true rfl, Nat.le_of_ble_eq_true rfl⟩ (fun H locs hP hD hok1 _ hz hk hS => ?_)
  have hq1 : MQ_d g1 fr_0 := b0 hok1
  refine lv_aload_n hx hb dX11_init_96 rfl (lv_at hl 0 rfl) ?_
  refine lv_iconst (v := 2) hx hb dX11_init_97 (by decide) ?_
  refine lv_iconst (v := 3) hx hb dX11_init_98 (by decide) ?_
  refine lv_iconst (v := 0) hx hb dX11_init_99 (by decide) ?_
  refine lv_iconst (v := 0) hx hb dX11_init_100 (by decide) ?_
  obtain ⟨g2, a1, b1⟩ := md_r hq1 (by decide +kernel) 2 3 0 0
  refine lc_call (n := 4) (fun y pc => hOkM (l := l) (D := D) (tys := mm_ty cs) (cs := cs) (ad := ad) rfl rfl rfl rfl y pc) hPlM (y := 12) (a := 0) (I := in_X11_ropeOf) rfl (as := [mm_i 2, mm_i 3, mm_i 0, mm_i 0]) (h := g1) a1 (mm_okS_c (v := mm_i 2) (show mm_in _ by unfold mm_in; omega) (mm_okS_c (v := mm_i 3) (show mm_in _ by unfold mm_in; omega) (mm_okS_c (v := mm_i 0) (show mm_in _ by unfold mm_in; omega) (mm_okS_c (v := mm_i 0) (show mm_in _ by unfold mm_in; omega) (fun _ z => absurd z List.not_mem_nil))))) hok1 rfl (Nat.le_of_ble_eq_true rfl) hx hb hml hown hts (mm_good lw_goodw (fun z hz => (List.mem_cons.mp hz).elim (fun e => e ▸ vw_209) id)) (List.mem_cons_of_mem _ vw_205) (List.mem_cons_of_mem _ vw_210) (List.mem_cons_of_mem _ vw_211) (ci := 11) rfl (by decide) (by decide) (List.mem_cons_of_mem _ vw_212) (by decide +kernel) ⟨Nat.le_of_ble_eq_true rfl, Nat.le_of_ble_eq_true rfl⟩ hK hNw hP hD hS hA hl.1 rfl (rest := []) (by rw [ha0]; rfl) (Nat.le_of_ble_eq_true rfl) dX11_init_101 ⟨Nat.le_of_ble_eq_true rfl, Nat.le_of_ble_eq_true rfl⟩ (fun H locs hP hD hok2 _ hz hk hS => ?_)
  have hq2 : MQ_d g2 fr_1 := b1 hok2
  refine lv_aload_n hx hb dX11_init_104 rfl (lv_at hl 0 rfl) ?_
  refine lv_bipush (v := 9) hx hb dX11_init_105 (by decide) ?_
  refine lv_iconst (v := 2) hx hb dX11_init_107 (by decide) ?_
  refine lv_iconst (v := 2) hx hb dX11_init_108 (by decide) ?_
  refine lv_iconst (v := 4) hx hb dX11_init_109 (by decide) ?_
  obtain ⟨g3, a2, b2⟩ := md_r hq2 (by decide +kernel) 9 2 2 4
  refine lc_call (n := 4) (fun y pc => hOkM (l := l) (D := D) (tys := mm_ty cs) (cs := cs) (ad := ad) rfl rfl rfl rfl y pc) hPlM (y := 12) (a := 0) (I := in_X11_ropeOf) rfl (as := [mm_i 9, mm_i 2, mm_i 2, mm_i 4]) (h := g2) a2 (mm_okS_c (v := mm_i 9) (show mm_in _ by unfold mm_in; omega) (mm_okS_c (v := mm_i 2) (show mm_in _ by unfold mm_in; omega) (mm_okS_c (v := mm_i 2) (show mm_in _ by unfold mm_in; omega) (mm_okS_c (v := mm_i 4) (show mm_in _ by unfold mm_in; omega) (fun _ z => absurd z List.not_mem_nil))))) hok2 rfl (Nat.le_of_ble_eq_true rfl) hx hb hml hown hts (mm_good lw_goodw (fun z hz => (List.mem_cons.mp hz).elim (fun e => e ▸ vw_209) id)) (List.mem_cons_of_mem _ vw_205) (List.mem_cons_of_mem _ vw_210) (List.mem_cons_of_mem _ vw_211) (ci := 11) rfl (by decide) (by decide) (List.mem_cons_of_mem _ vw_212) (by decide +kernel) ⟨Nat.le_of_ble_eq_true rfl, Nat.le_of_ble_eq_true rfl⟩ hK hNw hP hD hS hA hl.1 rfl (rest := []) (by rw [ha0]; rfl) (Nat.le_of_ble_eq_true rfl) dX11_init_110 ⟨Nat.le_of_ble_eq_true rfl, Nat.le_of_ble_eq_true rfl⟩ (fun H locs hP hD hok3 _ hz hk hS => ?_)
  have hq3 : MQ_d g3 fr_2 := b2 hok3
  refine lv_aload_n hx hb dX11_init_113 rfl (lv_at hl 0 rfl) ?_
  refine lv_bipush (v := 15) hx hb dX11_init_114 (by decide) ?_
  refine lv_iconst (v := 4) hx hb dX11_init_116 (by decide) ?_
  refine lv_iconst (v := 1) hx hb dX11_init_117 (by decide) ?_
  refine lv_iconst (v := 0) hx hb dX11_init_118 (by decide) ?_
  obtain ⟨g4, a3, b3⟩ := md_r hq3 (by decide +kernel) 15 4 1 0
  refine lc_call (n := 4) (fun y pc => hOkM (l := l) (D := D) (tys := mm_ty cs) (cs := cs) (ad := ad) rfl rfl rfl rfl y pc) hPlM (y := 12) (a := 0) (I := in_X11_ropeOf) rfl (as := [mm_i 15, mm_i 4, mm_i 1, mm_i 0]) (h := g3) a3 (mm_okS_c (v := mm_i 15) (show mm_in _ by unfold mm_in; omega) (mm_okS_c (v := mm_i 4) (show mm_in _ by unfold mm_in; omega) (mm_okS_c (v := mm_i 1) (show mm_in _ by unfold mm_in; omega) (mm_okS_c (v := mm_i 0) (show mm_in _ by unfold mm_in; omega) (fun _ z => absurd z List.not_mem_nil))))) hok3 rfl (Nat.le_of_ble_eq_true rfl) hx hb hml hown hts (mm_good lw_goodw (fun z hz => (List.mem_cons.mp hz).elim (fun e => e ▸ vw_209) id)) (List.mem_cons_of_mem _ vw_205) (List.mem_cons_of_mem _ vw_210) (List.mem_cons_of_mem _ vw_211) (ci := 11) rfl (by decide) (by decide) (List.mem_cons_of_mem _ vw_212) (by decide +kernel) ⟨Nat.le_of_ble_eq_true rfl, Nat.le_of_ble_eq_true rfl⟩ hK hNw hP hD hS hA hl.1 rfl (rest := []) (by rw [ha0]; rfl) (Nat.le_of_ble_eq_true rfl) dX11_init_119 ⟨Nat.le_of_ble_eq_true rfl, Nat.le_of_ble_eq_true rfl⟩ (fun H locs hP hD hok4 _ hz hk hS => ?_)
  have hq4 : MQ_d g4 fr_3 := b3 hok4
  refine lv_aload_n hx hb dX11_init_122 rfl (lv_at hl 0 rfl) ?_
  refine lv_bipush (v := 21) hx hb dX11_init_123 (by decide) ?_
  refine lv_iconst (v := 5) hx hb dX11_init_125 (by decide) ?_
  refine lv_iconst (v := 3) hx hb dX11_init_126 (by decide) ?_
  refine lv_bipush (v := 6) hx hb dX11_init_127 (by decide) ?_
  obtain ⟨g5, a4, b4⟩ := md_r hq4 (by decide +kernel) 21 5 3 6
  refine lc_call (n := 4) (fun y pc => hOkM (l := l) (D := D) (tys := mm_ty cs) (cs := cs) (ad := ad) rfl rfl rfl rfl y pc) hPlM (y := 12) (a := 0) (I := in_X11_ropeOf) rfl (as := [mm_i 21, mm_i 5, mm_i 3, mm_i 6]) (h := g4) a4 (mm_okS_c (v := mm_i 21) (show mm_in _ by unfold mm_in; omega) (mm_okS_c (v := mm_i 5) (show mm_in _ by unfold mm_in; omega) (mm_okS_c (v := mm_i 3) (show mm_in _ by unfold mm_in; omega) (mm_okS_c (v := mm_i 6) (show mm_in _ by unfold mm_in; omega) (fun _ z => absurd z List.not_mem_nil))))) hok4 rfl (Nat.le_of_ble_eq_true rfl) hx hb hml hown hts (mm_good lw_goodw (fun z hz => (List.mem_cons.mp hz).elim (fun e => e ▸ vw_209) id)) (List.mem_cons_of_mem _ vw_205) (List.mem_cons_of_mem _ vw_210) (List.mem_cons_of_mem _ vw_211) (ci := 11) rfl (by decide) (by decide) (List.mem_cons_of_mem _ vw_212) (by decide +kernel) ⟨Nat.le_of_ble_eq_true rfl, Nat.le_of_ble_eq_true rfl⟩ hK hNw hP hD hS hA hl.1 rfl (rest := []) (by rw [ha0]; rfl) (Nat.le_of_ble_eq_true rfl) dX11_init_129 ⟨Nat.le_of_ble_eq_true rfl, Nat.le_of_ble_eq_true rfl⟩ (fun H locs hP hD hok5 _ hz hk hS => ?_)
  have hq5 : MQ_d g5 fr_4 := b4 hok5
  refine lv_aload_n hx hb dX11_init_132 rfl (lv_at hl 0 rfl) ?_
  refine lv_iconst (v := 4) hx hb dX11_init_133 (by decide) ?_
  refine lv_iconst (v := 1) hx hb dX11_init_134 (by decide) ?_
  obtain ⟨g6, a5, b5⟩ := md_w hq5 (by decide +kernel) 4 1
  refine lc_call (n := 2) (fun y pc => hOkM (l := l) (D := D) (tys := mm_ty cs) (cs := cs) (ad := ad) rfl rfl rfl rfl y pc) hPlM (y := 13) (a := 0) (I := in_X11_wantOf) rfl (as := [mm_i 4, mm_i 1]) (h := g5) a5 (mm_okS_c (v := mm_i 4) (show mm_in _ by unfold mm_in; omega) (mm_okS_c (v := mm_i 1) (show mm_in _ by unfold mm_in; omega) (fun _ z => absurd z List.not_mem_nil))) hok5 rfl (Nat.le_of_ble_eq_true rfl) hx hb hml hown hts (mm_good lw_goodw (fun z hz => (List.mem_cons.mp hz).elim (fun e => e ▸ vw_213) id)) (List.mem_cons_of_mem _ vw_205) (List.mem_cons_of_mem _ vw_214) (List.mem_cons_of_mem _ vw_215) (ci := 11) rfl (by decide) (by decide) (List.mem_cons_of_mem _ vw_216) (by decide +kernel) ⟨Nat.le_of_ble_eq_true rfl, Nat.le_of_ble_eq_true rfl⟩ hK hNw hP hD hS hA hl.1 rfl (rest := []) (by rw [ha0]; rfl) (Nat.le_of_ble_eq_true rfl) dX11_init_135 ⟨Nat.le_of_ble_eq_true rfl, Nat.le_of_ble_eq_true rfl⟩ (fun H locs hP hD hok6 _ hz hk hS => ?_)
  have hq6 : MQ_d g6 fr_5 := b5 hok6
  refine lv_aload_n hx hb dX11_init_138 rfl (lv_at hl 0 rfl) ?_
  refine lv_bipush (v := 10) hx hb dX11_init_139 (by decide) ?_
  refine lv_iconst (v := 2) hx hb dX11_init_141 (by decide) ?_
  obtain ⟨g7, a6, b6⟩ := md_w hq6 (by decide +kernel) 10 2
  refine lc_call (n := 2) (fun y pc => hOkM (l := l) (D := D) (tys := mm_ty cs) (cs := cs) (ad := ad) rfl rfl rfl rfl y pc) hPlM (y := 13) (a := 0) (I := in_X11_wantOf) rfl (as := [mm_i 10, mm_i 2]) (h := g6) a6 (mm_okS_c (v := mm_i 10) (show mm_in _ by unfold mm_in; omega) (mm_okS_c (v := mm_i 2) (show mm_in _ by unfold mm_in; omega) (fun _ z => absurd z List.not_mem_nil))) hok6 rfl (Nat.le_of_ble_eq_true rfl) hx hb hml hown hts (mm_good lw_goodw (fun z hz => (List.mem_cons.mp hz).elim (fun e => e ▸ vw_213) id)) (List.mem_cons_of_mem _ vw_205) (List.mem_cons_of_mem _ vw_214) (List.mem_cons_of_mem _ vw_215) (ci := 11) rfl (by decide) (by decide) (List.mem_cons_of_mem _ vw_216) (by decide +kernel) ⟨Nat.le_of_ble_eq_true rfl, Nat.le_of_ble_eq_true rfl⟩ hK hNw hP hD hS hA hl.1 rfl (rest := []) (by rw [ha0]; rfl) (Nat.le_of_ble_eq_true rfl) dX11_init_142 ⟨Nat.le_of_ble_eq_true rfl, Nat.le_of_ble_eq_true rfl⟩ (fun H locs hP hD hok7 _ hz hk hS => ?_)
  have hq7 : MQ_d g7 fr_6 := b6 hok7
  refine lv_aload_n hx hb dX11_init_145 rfl (lv_at hl 0 rfl) ?_
  refine lv_bipush (v := 20) hx hb dX11_init_146 (by decide) ?_
  refine lv_iconst (v := 0) hx hb dX11_init_148 (by decide) ?_
  obtain ⟨g8, a7, b7⟩ := md_w hq7 (by decide +kernel) 20 0
  refine lc_call (n := 2) (fun y pc => hOkM (l := l) (D := D) (tys := mm_ty cs) (cs := cs) (ad := ad) rfl rfl rfl rfl y pc) hPlM (y := 13) (a := 0) (I := in_X11_wantOf) rfl (as := [mm_i 20, mm_i 0]) (h := g7) a7 (mm_okS_c (v := mm_i 20) (show mm_in _ by unfold mm_in; omega) (mm_okS_c (v := mm_i 0) (show mm_in _ by unfold mm_in; omega) (fun _ z => absurd z List.not_mem_nil))) hok7 rfl (Nat.le_of_ble_eq_true rfl) hx hb hml hown hts (mm_good lw_goodw (fun z hz => (List.mem_cons.mp hz).elim (fun e => e ▸ vw_213) id)) (List.mem_cons_of_mem _ vw_205) (List.mem_cons_of_mem _ vw_214) (List.mem_cons_of_mem _ vw_215) (ci := 11) rfl (by decide) (by decide) (List.mem_cons_of_mem _ vw_216) (by decide +kernel) ⟨Nat.le_of_ble_eq_true rfl, Nat.le_of_ble_eq_true rfl⟩ hK hNw hP hD hS hA hl.1 rfl (rest := []) (by rw [ha0]; rfl) (Nat.le_of_ble_eq_true rfl) dX11_init_149 ⟨Nat.le_of_ble_eq_true rfl, Nat.le_of_ble_eq_true rfl⟩ (fun H locs hP hD hok8 _ hz hk hS => ?_)
  have hq8 : MQ_d g8 fr_7 := b7 hok8
  refine lv_aload_n hx hb dX11_init_152 rfl (lv_at hl 0 rfl) ?_
  refine lv_iconst (v := 0) hx hb dX11_init_153 (by decide) ?_
  obtain ⟨g9, a8, b8⟩ := md_m hq8 (by decide +kernel) 0
  refine lc_call (n := 1) (fun y pc => hOkM (l := l) (D := D) (tys := mm_ty cs) (cs := cs) (ad := ad) rfl rfl rfl rfl y pc) hPlM (y := 14) (a := 0) (I := in_X11_manOf) rfl (as := [mm_i 0]) (h := g8) a8 (mm_okS_c (v := mm_i 0) (show mm_in _ by unfold mm_in; omega) (fun _ z => absurd z List.not_mem_nil)) hok8 rfl (Nat.le_of_ble_eq_true rfl) hx hb hml hown hts (mm_good lw_goodw (fun z hz => (List.mem_cons.mp hz).elim (fun e => e ▸ vw_217) id)) (List.mem_cons_of_mem _ vw_205) (List.mem_cons_of_mem _ vw_218) (List.mem_cons_of_mem _ vw_219) (ci := 11) rfl (by decide) (by decide) (List.mem_cons_of_mem _ vw_220) (by decide +kernel) ⟨Nat.le_of_ble_eq_true rfl, Nat.le_of_ble_eq_true rfl⟩ hK hNw hP hD hS hA hl.1 rfl (rest := []) (by rw [ha0]; rfl) (Nat.le_of_ble_eq_true rfl) dX11_init_154 ⟨Nat.le_of_ble_eq_true rfl, Nat.le_of_ble_eq_true rfl⟩ (fun H locs hP hD hok9 _ hz hk hS => ?_)
  have hq9 : MQ_d g9 fr_8 := b8 hok9
  refine lv_aload_n hx hb dX11_init_157 rfl (lv_at hl 0 rfl) ?_
  refine lv_bipush (v := 8) hx hb dX11_init_158 (by decide) ?_
  obtain ⟨g10, a9, b9⟩ := md_m hq9 (by decide +kernel) 8
  refine lc_call (n := 1) (fun y pc => hOkM (l := l) (D := D) (tys := mm_ty cs) (cs := cs) (ad := ad) rfl rfl rfl rfl y pc) hPlM (y := 14) (a := 0) (I := in_X11_manOf) rfl (as := [mm_i 8]) (h := g9) a9 (mm_okS_c (v := mm_i 8) (show mm_in _ by unfold mm_in; omega) (fun _ z => absurd z List.not_mem_nil)) hok9 rfl (Nat.le_of_ble_eq_true rfl) hx hb hml hown hts (mm_good lw_goodw (fun z hz => (List.mem_cons.mp hz).elim (fun e => e ▸ vw_217) id)) (List.mem_cons_of_mem _ vw_205) (List.mem_cons_of_mem _ vw_218) (List.mem_cons_of_mem _ vw_219) (ci := 11) rfl (by decide) (by decide) (List.mem_cons_of_mem _ vw_220) (by decide +kernel) ⟨Nat.le_of_ble_eq_true rfl, Nat.le_of_ble_eq_true rfl⟩ hK hNw hP hD hS hA hl.1 rfl (rest := []) (by rw [ha0]; rfl) (Nat.le_of_ble_eq_true rfl) dX11_init_160 ⟨Nat.le_of_ble_eq_true rfl, Nat.le_of_ble_eq_true rfl⟩ (fun H locs hP hD hok10 _ hz hk hS => ?_)
  have hq10 : MQ_d g10 fr_9 := b9 hok10
  refine lv_aload_n hx hb dX11_init_163 rfl (lv_at hl 0 rfl) ?_
  refine lv_bipush (v := 12) hx hb dX11_init_164 (by decide) ?_
  obtain ⟨g11, a10, b10⟩ := md_m hq10 (by decide +kernel) 12
  refine lc_call (n := 1) (fun y pc => hOkM (l := l) (D := D) (tys := mm_ty cs) (cs := cs) (ad := ad) rfl rfl rfl rfl y pc) hPlM (y := 14) (a := 0) (I := in_X11_manOf) rfl (as := [mm_i 12]) (h := g10) a10 (mm_okS_c (v := mm_i 12) (show mm_in _ by unfold mm_in; omega) (fun _ z => absurd z List.not_mem_nil)) hok10 rfl (Nat.le_of_ble_eq_true rfl) hx hb hml hown hts (mm_good lw_goodw (fun z hz => (List.mem_cons.mp hz).elim (fun e => e ▸ vw_217) id)) (List.mem_cons_of_mem _ vw_205) (List.mem_cons_of_mem _ vw_218) (List.mem_cons_of_mem _ vw_219) (ci := 11) rfl (by decide) (by decide) (List.mem_cons_of_mem _ vw_220) (by decide +kernel) ⟨Nat.le_of_ble_eq_true rfl, Nat.le_of_ble_eq_true rfl⟩ hK hNw hP hD hS hA hl.1 rfl (rest := []) (by rw [ha0]; rfl) (Nat.le_of_ble_eq_true rfl) dX11_init_166 ⟨Nat.le_of_ble_eq_true rfl, Nat.le_of_ble_eq_true rfl⟩ (fun H locs hP hD hok11 _ hz hk hS => ?_)
  have hq11 : MQ_d g11 fr_10 := b10 hok11
  refine lv_aload_n hx hb dX11_init_169 rfl (lv_at hl 0 rfl) ?_
  refine lv_bipush (v := 23) hx hb dX11_init_170 (by decide) ?_
  obtain ⟨g12, a11, b11⟩ := md_m hq11 (by decide +kernel) 23
  refine lc_call (n := 1) (fun y pc => hOkM (l := l) (D := D) (tys := mm_ty cs) (cs := cs) (ad := ad) rfl rfl rfl rfl y pc) hPlM (y := 14) (a := 0) (I := in_X11_manOf) rfl (as := [mm_i 23]) (h := g11) a11 (mm_okS_c (v := mm_i 23) (show mm_in _ by unfold mm_in; omega) (fun _ z => absurd z List.not_mem_nil)) hok11 rfl (Nat.le_of_ble_eq_true rfl) hx hb hml hown hts (mm_good lw_goodw (fun z hz => (List.mem_cons.mp hz).elim (fun e => e ▸ vw_217) id)) (List.mem_cons_of_mem _ vw_205) (List.mem_cons_of_mem _ vw_218) (List.mem_cons_of_mem _ vw_219) (ci := 11) rfl (by decide) (by decide) (List.mem_cons_of_mem _ vw_220) (by decide +kernel) ⟨Nat.le_of_ble_eq_true rfl, Nat.le_of_ble_eq_true rfl⟩ hK hNw hP hD hS hA hl.1 rfl (rest := []) (by rw [ha0]; rfl) (Nat.le_of_ble_eq_true rfl) dX11_init_172 ⟨Nat.le_of_ble_eq_true rfl, Nat.le_of_ble_eq_true rfl⟩ (fun H locs hP hD hok12 _ hz hk hS => ?_)
  have hq12 : MQ_d g12 fr_11 := b11 hok12
  refine lv_aload_n hx hb dX11_init_175 rfl (lv_at hl 0 rfl) ?_
  refine lv_bipush (v := 16) hx hb dX11_init_176 (by decide) ?_
  obtain ⟨g13, a12, b12⟩ := md_m hq12 (by decide +kernel) 16
  refine lc_call (n := 1) (fun y pc => hOkM (l := l) (D := D) (tys := mm_ty cs) (cs := cs) (ad := ad) rfl rfl rfl rfl y pc) hPlM (y := 14) (a := 0) (I := in_X11_manOf) rfl (as := [mm_i 16]) (h := g12) a12 (mm_okS_c (v := mm_i 16) (show mm_in _ by unfold mm_in; omega) (fun _ z => absurd z List.not_mem_nil)) hok12 rfl (Nat.le_of_ble_eq_true rfl) hx hb hml hown hts (mm_good lw_goodw (fun z hz => (List.mem_cons.mp hz).elim (fun e => e ▸ vw_217) id)) (List.mem_cons_of_mem _ vw_205) (List.mem_cons_of_mem _ vw_218) (List.mem_cons_of_mem _ vw_219) (ci := 11) rfl (by decide) (by decide) (List.mem_cons_of_mem _ vw_220) (by decide +kernel) ⟨Nat.le_of_ble_eq_true rfl, Nat.le_of_ble_eq_true rfl⟩ hK hNw hP hD hS hA hl.1 rfl (rest := []) (by rw [ha0]; rfl) (Nat.le_of_ble_eq_true rfl) dX11_init_178 ⟨Nat.le_of_ble_eq_true rfl, Nat.le_of_ble_eq_true rfl⟩ (fun H locs hP hD hok13 _ hz hk hS => ?_)
  have hq13 : MQ_d g13 fr_12 := b12 hok13
  refine lv_aload_n hx hb dX11_init_181 rfl (lv_at hl 0 rfl) ?_
  obtain ⟨g14, a13, b13⟩ := md_l hq13
  refine lc_call (n := 0) (fun y pc => hOkM (l := l) (D := D) (tys := mm_ty cs) (cs := cs) (ad := ad) rfl rfl rfl rfl y pc) hPlM (y := 18) (a := 0) (I := in_X11_lays) rfl (as := []) (h := g13) a13 (fun _ z => absurd z List.not_mem_nil) hok13 rfl (Nat.le_of_ble_eq_true rfl) hx hb hml hown hts (mm_good lw_goodw (fun z hz => (List.mem_cons.mp hz).elim (fun e => e ▸ vw_221) id)) (List.mem_cons_of_mem _ vw_205) (List.mem_cons_of_mem _ vw_222) (List.mem_cons_of_mem _ vw_223) (ci := 11) rfl (by decide) (by decide) (List.mem_cons_of_mem _ vw_224) (by decide +kernel) ⟨Nat.le_of_ble_eq_true rfl, Nat.le_of_ble_eq_true rfl⟩ hK hNw hP hD hS hA hl.1 rfl (rest := []) (by rw [ha0]; rfl) (Nat.le_of_ble_eq_true rfl) dX11_init_182 ⟨Nat.le_of_ble_eq_true rfl, Nat.le_of_ble_eq_true rfl⟩ (fun H locs hP hD hok14 _ hz hk hS => ?_)
  exact W.vret hx hb hr (fun t ht hW => ⟨⟨(ad, g14), rfl, ⟨ha0, b13, hok14⟩, by show va_P D classes (wdM cs ad g14) t.heap; rw [ht]; exact hP, hD⟩, hS.F ht⟩) hS.2.2 dX11_init_185
