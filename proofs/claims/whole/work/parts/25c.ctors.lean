/-! ===== constructors (by wip/gen/walk.py) ===== -/
theorem vw_0 : Cond.methodLink RX8 3 objectInit ∈ lw_good := lw_in 66 (by decide +kernel) rfl
theorem vw_1 : Cond.instanceMethod objectInit ∈ lw_good := lw_in 59 (by decide +kernel) rfl
theorem vw_2 : Cond.code objectInit ⟨#[0xb1]⟩ 1 none ∈ lw_good := lw_in 60 (by decide +kernel) rfl
theorem vw_3 : Cond.arrayClass .char ∈ lw_good := lw_in 74 (by decide +kernel) rfl
theorem vw_4 : Cond.fieldLink RX8 9 "DuskOnRopes$Text" "letters" "[C" ∈ lw_good := lw_in 67 (by decide +kernel) rfl
theorem vw_5 : Cond.fieldLink RX8 15 "DuskOnRopes$Text" "length" "I" ∈ lw_good := lw_in 68 (by decide +kernel) rfl
theorem vw_6 : Cond.methodLink RX6 3 objectInit ∈ lw_good := lw_in 80 (by decide +kernel) rfl
theorem vw_7 : Cond.arrayClass .int ∈ lw_good := lw_in 88 (by decide +kernel) rfl
theorem vw_8 : Cond.fieldLink RX6 9 "DuskOnRopes$Reader" "numbers" "[I" ∈ lw_good := lw_in 81 (by decide +kernel) rfl
theorem vw_9 : Cond.fieldLink RX6 15 "DuskOnRopes$Reader" "place" "I" ∈ lw_good := lw_in 82 (by decide +kernel) rfl
theorem vw_10 : Cond.methodLink RX3 3 objectInit ∈ lw_good := lw_in 163 (by decide +kernel) rfl
theorem vw_11 : Cond.fieldLink RX3 9 "DuskOnRopes$Dusk" "turns" "[I" ∈ lw_good := lw_in 164 (by decide +kernel) rfl
theorem vw_12 : Cond.fieldLink RX3 15 "DuskOnRopes$Dusk" "kinds" "[I" ∈ lw_good := lw_in 168 (by decide +kernel) rfl
theorem vw_13 : Cond.fieldLink RX3 18 "DuskOnRopes$Dusk" "hours" "I" ∈ lw_good := lw_in 172 (by decide +kernel) rfl
theorem vw_14 : Cond.fieldLink RX3 22 "DuskOnRopes$Dusk" "cost" "I" ∈ lw_good := lw_in 176 (by decide +kernel) rfl
theorem vw_15 : Cond.methodLink RX5 3 objectInit ∈ lw_good := lw_in 249 (by decide +kernel) rfl
theorem vw_16 : Cond.fieldLink RX5 9 "DuskOnRopes$Poster" "fewest" "I" ∈ lw_good := lw_in 250 (by decide +kernel) rfl
theorem vw_17 : Cond.fieldLink RX5 15 "DuskOnRopes$Poster" "bestMen" "[I" ∈ lw_good := lw_in 252 (by decide +kernel) rfl
theorem vw_18 : Cond.fieldLink RX5 19 "DuskOnRopes$Poster" "posted" "[I" ∈ lw_good := lw_in 254 (by decide +kernel) rfl
theorem vw_19 : Cond.methodLink RX2 3 objectInit ∈ lw_good := lw_in 267 (by decide +kernel) rfl
theorem vw_20 : Cond.fieldLink RX2 9 "DuskOnRopes$Clues" "yards" "[I" ∈ lw_good := lw_in 268 (by decide +kernel) rfl
theorem vw_21 : Cond.fieldLink RX2 15 "DuskOnRopes$Clues" "values" "[I" ∈ lw_good := lw_in 269 (by decide +kernel) rfl
theorem vw_22 : Cond.fieldLink RX2 18 "DuskOnRopes$Clues" "used" "I" ∈ lw_good := lw_in 270 (by decide +kernel) rfl
theorem vw_23 : Cond.fieldLink RX2 22 "DuskOnRopes$Clues" "codes" "[I" ∈ lw_good := lw_in 271 (by decide +kernel) rfl
theorem vw_24 : Cond.fieldLink RX2 25 "DuskOnRopes$Clues" "fitting" "I" ∈ lw_good := lw_in 273 (by decide +kernel) rfl
theorem vw_25 : Cond.fieldLink RX2 28 "DuskOnRopes$Clues" "trial" "[I" ∈ lw_good := lw_in 275 (by decide +kernel) rfl
theorem vw_26 : Cond.fieldLink RX2 31 "DuskOnRopes$Clues" "tally" "[I" ∈ lw_good := lw_in 276 (by decide +kernel) rfl
theorem vw_27 : Cond.methodLink RX1 3 objectInit ∈ lw_good := lw_in 297 (by decide +kernel) rfl
theorem vw_28 : Cond.fieldLink RX1 9 "DuskOnRopes$Chances" "ways" "[I" ∈ lw_good := lw_in 298 (by decide +kernel) rfl
theorem vw_29 : Cond.methodLink RX4 3 objectInit ∈ lw_good := lw_in 223 (by decide +kernel) rfl
theorem vw_30 : Cond.fieldLink RX4 9 "DuskOnRopes$Planner" "fewest" "I" ∈ lw_good := lw_in 226 (by decide +kernel) rfl
theorem vw_31 : Cond.fieldLink RX4 15 "DuskOnRopes$Planner" "bestHours" "[I" ∈ lw_good := lw_in 228 (by decide +kernel) rfl
theorem vw_32 : Cond.fieldLink RX4 19 "DuskOnRopes$Planner" "hours" "[I" ∈ lw_good := lw_in 230 (by decide +kernel) rfl
theorem vw_33 : Cond.fieldLink RX4 22 "DuskOnRopes$Planner" "turns" "[I" ∈ lw_good := lw_in 231 (by decide +kernel) rfl
theorem vw_34 : Cond.classLink RX4 25 "[[I" ∈ lw_good := lw_in 224 (by decide +kernel) rfl
theorem vw_35 : Cond.fieldLink RX4 27 "DuskOnRopes$Planner" "outcomes" "[[I" ∈ lw_good := lw_in 232 (by decide +kernel) rfl
theorem vw_36 : Cond.fieldLink RX9 42 "DuskOnRopes$Valley" "ropes" "I" ∈ lw_good := lw_in 99 (by decide +kernel) rfl
theorem vw_37 : Cond.fieldLink RX9 46 "DuskOnRopes$Valley" "wants" "I" ∈ lw_good := lw_in 105 (by decide +kernel) rfl
theorem vw_38 : Cond.fieldLink RX9 49 "DuskOnRopes$Valley" "men" "I" ∈ lw_good := lw_in 108 (by decide +kernel) rfl
theorem vw_39 : Cond.fieldLink RX9 52 "DuskOnRopes$Valley" "downPrice" "I" ∈ lw_good := lw_in 125 (by decide +kernel) rfl
theorem vw_40 : Cond.fieldLink RX9 55 "DuskOnRopes$Valley" "upPrice" "I" ∈ lw_good := lw_in 126 (by decide +kernel) rfl
theorem vw_41 : Cond.methodLink RX9 3 objectInit ∈ lw_good := lw_in 94 (by decide +kernel) rfl
theorem vw_42 : Cond.fieldLink RX9 9 "DuskOnRopes$Valley" "ropeYards" "[I" ∈ lw_good := lw_in 110 (by decide +kernel) rfl
theorem vw_43 : Cond.fieldLink RX9 15 "DuskOnRopes$Valley" "paces" "[I" ∈ lw_good := lw_in 113 (by decide +kernel) rfl
theorem vw_44 : Cond.fieldLink RX9 18 "DuskOnRopes$Valley" "firstKinds" "[I" ∈ lw_good := lw_in 117 (by decide +kernel) rfl
theorem vw_45 : Cond.fieldLink RX9 21 "DuskOnRopes$Valley" "firstTurns" "[I" ∈ lw_good := lw_in 119 (by decide +kernel) rfl
theorem vw_46 : Cond.fieldLink RX9 24 "DuskOnRopes$Valley" "wantYards" "[I" ∈ lw_good := lw_in 121 (by decide +kernel) rfl
theorem vw_47 : Cond.fieldLink RX9 27 "DuskOnRopes$Valley" "wantLights" "[I" ∈ lw_good := lw_in 122 (by decide +kernel) rfl
theorem vw_48 : Cond.fieldLink RX9 30 "DuskOnRopes$Valley" "manYards" "[I" ∈ lw_good := lw_in 123 (by decide +kernel) rfl
theorem vw_49 : Cond.fieldLink RX9 33 "DuskOnRopes$Valley" "before" "[I" ∈ lw_good := lw_in 127 (by decide +kernel) rfl
theorem vw_50 : Cond.fieldLink RX9 36 "DuskOnRopes$Valley" "behind" "[I" ∈ lw_good := lw_in 128 (by decide +kernel) rfl
theorem vw_51 : Cond.code yX9_clear cX9_clear 1 none ∈ lw_good := lw_in 98 (by decide +kernel) rfl
theorem vw_52 : Cond.initialized RX9 ∈ lw_good := lw_in 36 (by decide +kernel) rfl
theorem vw_53 : Cond.methodLink RX9 39 yX9_clear ∈ lw_good := lw_in 95 (by decide +kernel) rfl
theorem vw_54 : Cond.instanceMethod yX9_clear ∈ lw_good := lw_in 96 (by decide +kernel) rfl
theorem vw_55 : Cond.selects RX9 yX9_clear yX9_clear ∈ lw_good := lw_in 97 (by decide +kernel) rfl
theorem vw_56 : Cond.methodLink RX0 3 objectInit ∈ lw_good := lw_in 211 (by decide +kernel) rfl
theorem vw_57 : Cond.classLink RX0 9 RX3 ∈ lw_good := lw_in 212 (by decide +kernel) rfl
theorem vw_58 : Cond.instantiable RX3 4 ∈ lw_good := lw_in 159 (by decide +kernel) rfl
theorem vw_59 : Cond.initialized RX3 ∈ lw_good := lw_in 37 (by decide +kernel) rfl
theorem vw_60 : Cond.code yX3_init cX3_init 1 none ∈ lw_good := lw_in 162 (by decide +kernel) rfl
theorem vw_61 : Cond.methodLink RX0 11 yX3_init ∈ lw_good := lw_in 213 (by decide +kernel) rfl
theorem vw_62 : Cond.instanceMethod yX3_init ∈ lw_good := lw_in 161 (by decide +kernel) rfl
theorem vw_63 : Cond.fieldLink RX0 12 "DuskOnRopes$Ahead" "then" "LDuskOnRopes$Dusk;" ∈ lw_good := lw_in 214 (by decide +kernel) rfl
abbrev ii_X8 : mm_M := (yX8_init, cX8_init, 1, none, 0)
def BX8 (cs : ClassId × ClassId × ClassId × ClassId) (h0 : Nat) (blk : va_W) : Prop := ∃ q1 : Nat, blk = [(h0, .inr (8, [.ref q1, .int 0])), (q1, zc cs 200)]
set_option maxHeartbeats 4000000 in
set_option maxRecDepth 100000 in
theorem ko_X8 (l : Launch) (D : va_G) (cs : ClassId × ClassId × ClassId × ClassId) : kc_M l D cs ii_X8 8 [.null, .int 0] [] 1 1 200 (BX8 cs) := by
  refine kc_of (by decide) rfl (fun _ => Nat.le_of_ble_eq_true rfl) ?_
  intro p e s m args below meth c h0 A ls Q hx hb hml hown hts hin hA hP hK hD hE hl fin
  have hb : c.code = cX8_init := hb
  have hml : c.maxLocals = 1 := hml
  have hown : s.vm.findClass RX8 = some m.cls := hown
  have hin : meth.name = "<init>" := hin
  have hl : lv_has ls 1 [(0, .ref h0)] := hl
  have hS : va_S A s.heap s.heap [] := va_S.rf
  refine lv_aload_n hx hb dX8_init_0 rfl (lv_at hl 0 rfl) ?_
  refine W.objInit hx hb hown (hts _ (List.mem_cons_of_mem _ vw_0)) (hts _ (List.mem_cons_of_mem _ vw_1)) (hts _ (List.mem_cons_of_mem _ vw_2)) rfl (by rw [hml]; exact hl.1) rfl dX8_init_1 (Nat.le_of_ble_eq_true rfl) (Nat.le_of_ble_eq_true rfl) ?_
  refine W.eq (g2 := F0 m 4 ls []) rfl ?_
  refine lv_aload_n hx hb dX8_init_4 rfl (lv_at hl 0 rfl) ?_
  refine lv_sipush (v := 200) hx hb dX8_init_5 (by decide) ?_
  refine nw_c hx hb (hts _ (List.mem_cons_of_mem _ vw_3)) hK hP hD hS hA (n := 200) (N' := 200) (by decide) rfl (Nat.le_of_ble_eq_true rfl) (Nat.le_of_ble_eq_true rfl) (Nat.le_of_ble_eq_true rfl) dX8_init_8 (fun q1 H hP hD hS => ?_)
  have hP : va_P D classes ([(h0, .inr (8, [.null, .int 0])), (q1, zc cs 200)]) H := hP
  have hD : va_D A ([(h0, .inr (8, [.null, .int 0])), (q1, zc cs 200)]) := hD
  refine va_putF (D := D) (ci := 8) (v := .ref q1) (ty := .array .char) (C := RX8) (T := TX8) (N := 2) hx hb hts (fun w hw => List.mem_cons_of_mem _ (ig_X8 w hw)) tyX8 tyX8_ok nmX8 hown hK hP hD hS 0 rfl rfl 0 (by decide) (hts _ (List.mem_cons_of_mem _ vw_4)) (fun _ h9 => h9) rfl hin rfl (by decide +kernel) rfl rfl (Nat.le_of_ble_eq_true rfl) dX8_init_10 (fun H locs hP hD hS => ?_)
  have hP : va_P D classes ([(h0, .inr (8, [.ref q1, .int 0])), (q1, zc cs 200)]) H := hP
  have hD : va_D A ([(h0, .inr (8, [.ref q1, .int 0])), (q1, zc cs 200)]) := hD
  refine lv_aload_n hx hb dX8_init_13 rfl (lv_at hl 0 rfl) ?_
  refine lv_iconst (v := 0) hx hb dX8_init_14 (by decide) ?_
  refine va_put (D := D) (ci := 8) (v := .int 0) (ty := .int) (C := RX8) (T := TX8) (N := 2) hx hb hts (fun w hw => List.mem_cons_of_mem _ (ig_X8 w hw)) tyX8 tyX8_ok nmX8 hown hK hP hD hS 0 rfl rfl 1 (by decide) (hts _ (List.mem_cons_of_mem _ vw_5)) (fun _ h9 => h9) rfl (by decide +kernel) rfl rfl (Nat.le_of_ble_eq_true rfl) dX8_init_15 (fun H locs hP hD hS => ?_)
  have hP : va_P D classes ([(h0, .inr (8, [.ref q1, .int 0])), (q1, zc cs 200)]) H := hP
  have hD : va_D A ([(h0, .inr (8, [.ref q1, .int 0])), (q1, zc cs 200)]) := hD
  exact fin _ _ _ _ ls ⟨q1, rfl⟩ hP hD hS dX8_init_18
abbrev ii_X6 : mm_M := (yX6_init, cX6_init, 1, none, 0)
def BX6 (cs : ClassId × ClassId × ClassId × ClassId) (h0 : Nat) (blk : va_W) : Prop := ∃ q1 : Nat, blk = [(h0, .inr (6, [.ref q1, .int 0])), (q1, zi cs 4)]
set_option maxHeartbeats 4000000 in
set_option maxRecDepth 100000 in
theorem ko_X6 (l : Launch) (D : va_G) (cs : ClassId × ClassId × ClassId × ClassId) : kc_M l D cs ii_X6 6 [.null, .int 0] [] 1 1 4 (BX6 cs) := by
  refine kc_of (by decide) rfl (fun _ => Nat.le_of_ble_eq_true rfl) ?_
  intro p e s m args below meth c h0 A ls Q hx hb hml hown hts hin hA hP hK hD hE hl fin
  have hb : c.code = cX6_init := hb
  have hml : c.maxLocals = 1 := hml
  have hown : s.vm.findClass RX6 = some m.cls := hown
  have hin : meth.name = "<init>" := hin
  have hl : lv_has ls 1 [(0, .ref h0)] := hl
  have hS : va_S A s.heap s.heap [] := va_S.rf
  refine lv_aload_n hx hb dX6_init_0 rfl (lv_at hl 0 rfl) ?_
  refine W.objInit hx hb hown (hts _ (List.mem_cons_of_mem _ vw_6)) (hts _ (List.mem_cons_of_mem _ vw_1)) (hts _ (List.mem_cons_of_mem _ vw_2)) rfl (by rw [hml]; exact hl.1) rfl dX6_init_1 (Nat.le_of_ble_eq_true rfl) (Nat.le_of_ble_eq_true rfl) ?_
  refine W.eq (g2 := F0 m 4 ls []) rfl ?_
  refine lv_aload_n hx hb dX6_init_4 rfl (lv_at hl 0 rfl) ?_
  refine lv_iconst (v := 4) hx hb dX6_init_5 (by decide) ?_
  refine nw_i hx hb (hts _ (List.mem_cons_of_mem _ vw_7)) hK hP hD hS hA (n := 4) (N' := 4) (by decide) rfl (Nat.le_of_ble_eq_true rfl) (Nat.le_of_ble_eq_true rfl) (Nat.le_of_ble_eq_true rfl) dX6_init_6 (fun q1 H hP hD hS => ?_)
  have hP : va_P D classes ([(h0, .inr (6, [.null, .int 0])), (q1, zi cs 4)]) H := hP
  have hD : va_D A ([(h0, .inr (6, [.null, .int 0])), (q1, zi cs 4)]) := hD
  refine va_putF (D := D) (ci := 6) (v := .ref q1) (ty := .array .int) (C := RX6) (T := TX6) (N := 2) hx hb hts (fun w hw => List.mem_cons_of_mem _ (ig_X6 w hw)) tyX6 tyX6_ok nmX6 hown hK hP hD hS 0 rfl rfl 0 (by decide) (hts _ (List.mem_cons_of_mem _ vw_8)) (fun _ h9 => h9) rfl hin rfl (by decide +kernel) rfl rfl (Nat.le_of_ble_eq_true rfl) dX6_init_8 (fun H locs hP hD hS => ?_)
  have hP : va_P D classes ([(h0, .inr (6, [.ref q1, .int 0])), (q1, zi cs 4)]) H := hP
  have hD : va_D A ([(h0, .inr (6, [.ref q1, .int 0])), (q1, zi cs 4)]) := hD
  refine lv_aload_n hx hb dX6_init_11 rfl (lv_at hl 0 rfl) ?_
  refine lv_iconst (v := 0) hx hb dX6_init_12 (by decide) ?_
  refine va_put (D := D) (ci := 6) (v := .int 0) (ty := .int) (C := RX6) (T := TX6) (N := 2) hx hb hts (fun w hw => List.mem_cons_of_mem _ (ig_X6 w hw)) tyX6 tyX6_ok nmX6 hown hK hP hD hS 0 rfl rfl 1 (by decide) (hts _ (List.mem_cons_of_mem _ vw_9)) (fun _ h9 => h9) rfl (by decide +kernel) rfl rfl (Nat.le_of_ble_eq_true rfl) dX6_init_13 (fun H locs hP hD hS => ?_)
  have hP : va_P D classes ([(h0, .inr (6, [.ref q1, .int 0])), (q1, zi cs 4)]) H := hP
  have hD : va_D A ([(h0, .inr (6, [.ref q1, .int 0])), (q1, zi cs 4)]) := hD
  exact fin _ _ _ _ ls ⟨q1, rfl⟩ hP hD hS dX6_init_16
abbrev ii_X3 : mm_M := (yX3_init, cX3_init, 1, none, 0)
def BX3 (cs : ClassId × ClassId × ClassId × ClassId) (h0 : Nat) (blk : va_W) : Prop := ∃ q1 q2 : Nat, blk = [(h0, .inr (3, [.ref q1, .ref q2, .int 0, .int 0])), (q1, zi cs 5), (q2, zi cs 5)]
set_option maxHeartbeats 4000000 in
set_option maxRecDepth 100000 in
theorem ko_X3 (l : Launch) (D : va_G) (cs : ClassId × ClassId × ClassId × ClassId) : kc_M l D cs ii_X3 3 [.null, .null, .int 0, .int 0] [] 1 2 10 (BX3 cs) := by
  refine kc_of (by decide) rfl (fun _ => Nat.le_of_ble_eq_true rfl) ?_
  intro p e s m args below meth c h0 A ls Q hx hb hml hown hts hin hA hP hK hD hE hl fin
  have hb : c.code = cX3_init := hb
  have hml : c.maxLocals = 1 := hml
  have hown : s.vm.findClass RX3 = some m.cls := hown
  have hin : meth.name = "<init>" := hin
  have hl : lv_has ls 1 [(0, .ref h0)] := hl
  have hS : va_S A s.heap s.heap [] := va_S.rf
  refine lv_aload_n hx hb dX3_init_0 rfl (lv_at hl 0 rfl) ?_
  refine W.objInit hx hb hown (hts _ (List.mem_cons_of_mem _ vw_10)) (hts _ (List.mem_cons_of_mem _ vw_1)) (hts _ (List.mem_cons_of_mem _ vw_2)) rfl (by rw [hml]; exact hl.1) rfl dX3_init_1 (Nat.le_of_ble_eq_true rfl) (Nat.le_of_ble_eq_true rfl) ?_
  refine W.eq (g2 := F0 m 4 ls []) rfl ?_
  refine lv_aload_n hx hb dX3_init_4 rfl (lv_at hl 0 rfl) ?_
  refine lv_iconst (v := 5) hx hb dX3_init_5 (by decide) ?_
  refine nw_i hx hb (hts _ (List.mem_cons_of_mem _ vw_7)) hK hP hD hS hA (n := 5) (N' := 5) (by decide) rfl (Nat.le_of_ble_eq_true rfl) (Nat.le_of_ble_eq_true rfl) (Nat.le_of_ble_eq_true rfl) dX3_init_6 (fun q1 H hP hD hS => ?_)
  have hP : va_P D classes ([(h0, .inr (3, [.null, .null, .int 0, .int 0])), (q1, zi cs 5)]) H := hP
  have hD : va_D A ([(h0, .inr (3, [.null, .null, .int 0, .int 0])), (q1, zi cs 5)]) := hD
  refine va_putF (D := D) (ci := 3) (v := .ref q1) (ty := .array .int) (C := RX3) (T := TX3) (N := 4) hx hb hts (fun w hw => List.mem_cons_of_mem _ (ig_X3 w hw)) tyX3 tyX3_ok nmX3 hown hK hP hD hS 0 rfl rfl 0 (by decide) (hts _ (List.mem_cons_of_mem _ vw_11)) (fun _ h9 => h9) rfl hin rfl (by decide +kernel) rfl rfl (Nat.le_of_ble_eq_true rfl) dX3_init_8 (fun H locs hP hD hS => ?_)
  have hP : va_P D classes ([(h0, .inr (3, [.ref q1, .null, .int 0, .int 0])), (q1, zi cs 5)]) H := hP
  have hD : va_D A ([(h0, .inr (3, [.ref q1, .null, .int 0, .int 0])), (q1, zi cs 5)]) := hD
  refine lv_aload_n hx hb dX3_init_11 rfl (lv_at hl 0 rfl) ?_
  refine lv_iconst (v := 5) hx hb dX3_init_12 (by decide) ?_
  refine nw_i hx hb (hts _ (List.mem_cons_of_mem _ vw_7)) hK hP hD hS hA (n := 5) (N' := 5) (by decide) rfl (Nat.le_of_ble_eq_true rfl) (Nat.le_of_ble_eq_true rfl) (Nat.le_of_ble_eq_true rfl) dX3_init_13 (fun q2 H hP hD hS => ?_)
  have hP : va_P D classes ([(h0, .inr (3, [.ref q1, .null, .int 0, .int 0])), (q1, zi cs 5), (q2, zi cs 5)]) H := hP
  have hD : va_D A ([(h0, .inr (3, [.ref q1, .null, .int 0, .int 0])), (q1, zi cs 5), (q2, zi cs 5)]) := hD
  refine va_putF (D := D) (ci := 3) (v := .ref q2) (ty := .array .int) (C := RX3) (T := TX3) (N := 4) hx hb hts (fun w hw => List.mem_cons_of_mem _ (ig_X3 w hw)) tyX3 tyX3_ok nmX3 hown hK hP hD hS 0 rfl rfl 1 (by decide) (hts _ (List.mem_cons_of_mem _ vw_12)) (fun _ h9 => h9) rfl hin rfl (by decide +kernel) rfl rfl (Nat.le_of_ble_eq_true rfl) dX3_init_15 (fun H locs hP hD hS => ?_)
  have hP : va_P D classes ([(h0, .inr (3, [.ref q1, .ref q2, .int 0, .int 0])), (q1, zi cs 5), (q2, zi cs 5)]) H := hP
  have hD : va_D A ([(h0, .inr (3, [.ref q1, .ref q2, .int 0, .int 0])), (q1, zi cs 5), (q2, zi cs 5)]) := hD
  refine lv_aload_n hx hb dX3_init_18 rfl (lv_at hl 0 rfl) ?_
  refine lv_iconst (v := 0) hx hb dX3_init_19 (by decide) ?_
  refine va_put (D := D) (ci := 3) (v := .int 0) (ty := .int) (C := RX3) (T := TX3) (N := 4) hx hb hts (fun w hw => List.mem_cons_of_mem _ (ig_X3 w hw)) tyX3 tyX3_ok nmX3 hown hK hP hD hS 0 rfl rfl 2 (by decide) (hts _ (List.mem_cons_of_mem _ vw_13)) (fun _ h9 => h9) rfl (by decide +kernel) rfl rfl (Nat.le_of_ble_eq_true rfl) dX3_init_20 (fun H locs hP hD hS => ?_)
  have hP : va_P D classes ([(h0, .inr (3, [.ref q1, .ref q2, .int 0, .int 0])), (q1, zi cs 5), (q2, zi cs 5)]) H := hP
  have hD : va_D A ([(h0, .inr (3, [.ref q1, .ref q2, .int 0, .int 0])), (q1, zi cs 5), (q2, zi cs 5)]) := hD
  refine lv_aload_n hx hb dX3_init_23 rfl (lv_at hl 0 rfl) ?_
  refine lv_iconst (v := 0) hx hb dX3_init_24 (by decide) ?_
  refine va_put (D := D) (ci := 3) (v := .int 0) (ty := .int) (C := RX3) (T := TX3) (N := 4) hx hb hts (fun w hw => List.mem_cons_of_mem _ (ig_X3 w hw)) tyX3 tyX3_ok nmX3 hown hK hP hD hS 0 rfl rfl 3 (by decide) (hts _ (List.mem_cons_of_mem _ vw_14)) (fun _ h9 => h9) rfl (by decide +kernel) rfl rfl (Nat.le_of_ble_eq_true rfl) dX3_init_25 (fun H locs hP hD hS => ?_)
  have hP : va_P D classes ([(h0, .inr (3, [.ref q1, .ref q2, .int 0, .int 0])), (q1, zi cs 5), (q2, zi cs 5)]) H := hP
  have hD : va_D A ([(h0, .inr (3, [.ref q1, .ref q2, .int 0, .int 0])), (q1, zi cs 5), (q2, zi cs 5)]) := hD
  exact fin _ _ _ _ ls ⟨q1, q2, rfl⟩ hP hD hS dX3_init_28
abbrev ii_X5 : mm_M := (yX5_init, cX5_init, 1, none, 0)
def BX5 (cs : ClassId × ClassId × ClassId × ClassId) (h0 : Nat) (blk : va_W) : Prop := ∃ q1 q2 : Nat, blk = [(h0, .inr (5, [.int (-4), .ref q1, .ref q2])), (q1, zi cs 5), (q2, zi cs 5)]
set_option maxHeartbeats 4000000 in
set_option maxRecDepth 100000 in
theorem ko_X5 (l : Launch) (D : va_G) (cs : ClassId × ClassId × ClassId × ClassId) : kc_M l D cs ii_X5 5 [.int 0, .null, .null] [] 1 2 10 (BX5 cs) := by
  refine kc_of (by decide) rfl (fun _ => Nat.le_of_ble_eq_true rfl) ?_
  intro p e s m args below meth c h0 A ls Q hx hb hml hown hts hin hA hP hK hD hE hl fin
  have hb : c.code = cX5_init := hb
  have hml : c.maxLocals = 1 := hml
  have hown : s.vm.findClass RX5 = some m.cls := hown
  have hin : meth.name = "<init>" := hin
  have hl : lv_has ls 1 [(0, .ref h0)] := hl
  have hS : va_S A s.heap s.heap [] := va_S.rf
  refine lv_aload_n hx hb dX5_init_0 rfl (lv_at hl 0 rfl) ?_
  refine W.objInit hx hb hown (hts _ (List.mem_cons_of_mem _ vw_15)) (hts _ (List.mem_cons_of_mem _ vw_1)) (hts _ (List.mem_cons_of_mem _ vw_2)) rfl (by rw [hml]; exact hl.1) rfl dX5_init_1 (Nat.le_of_ble_eq_true rfl) (Nat.le_of_ble_eq_true rfl) ?_
  refine W.eq (g2 := F0 m 4 ls []) rfl ?_
  refine lv_aload_n hx hb dX5_init_4 rfl (lv_at hl 0 rfl) ?_
  refine lv_bipush (v := -4) hx hb dX5_init_5 (by decide) ?_
  refine va_put (D := D) (ci := 5) (v := .int (-4)) (ty := .int) (C := RX5) (T := TX5) (N := 3) hx hb hts (fun w hw => List.mem_cons_of_mem _ (ig_X5 w hw)) tyX5 tyX5_ok nmX5 hown hK hP hD hS 0 rfl rfl 0 (by decide) (hts _ (List.mem_cons_of_mem _ vw_16)) (fun _ h9 => h9) rfl (by decide +kernel) rfl rfl (Nat.le_of_ble_eq_true rfl) dX5_init_7 (fun H locs hP hD hS => ?_)
  have hP : va_P D classes ([(h0, .inr (5, [.int (-4), .null, .null]))]) H := hP
  have hD : va_D A ([(h0, .inr (5, [.int (-4), .null, .null]))]) := hD
  refine lv_aload_n hx hb dX5_init_10 rfl (lv_at hl 0 rfl) ?_
  refine lv_iconst (v := 5) hx hb dX5_init_11 (by decide) ?_
  refine nw_i hx hb (hts _ (List.mem_cons_of_mem _ vw_7)) hK hP hD hS hA (n := 5) (N' := 5) (by decide) rfl (Nat.le_of_ble_eq_true rfl) (Nat.le_of_ble_eq_true rfl) (Nat.le_of_ble_eq_true rfl) dX5_init_12 (fun q1 H hP hD hS => ?_)
  have hP : va_P D classes ([(h0, .inr (5, [.int (-4), .null, .null])), (q1, zi cs 5)]) H := hP
  have hD : va_D A ([(h0, .inr (5, [.int (-4), .null, .null])), (q1, zi cs 5)]) := hD
  refine va_putF (D := D) (ci := 5) (v := .ref q1) (ty := .array .int) (C := RX5) (T := TX5) (N := 3) hx hb hts (fun w hw => List.mem_cons_of_mem _ (ig_X5 w hw)) tyX5 tyX5_ok nmX5 hown hK hP hD hS 0 rfl rfl 1 (by decide) (hts _ (List.mem_cons_of_mem _ vw_17)) (fun _ h9 => h9) rfl hin rfl (by decide +kernel) rfl rfl (Nat.le_of_ble_eq_true rfl) dX5_init_14 (fun H locs hP hD hS => ?_)
  have hP : va_P D classes ([(h0, .inr (5, [.int (-4), .ref q1, .null])), (q1, zi cs 5)]) H := hP
  have hD : va_D A ([(h0, .inr (5, [.int (-4), .ref q1, .null])), (q1, zi cs 5)]) := hD
  refine lv_aload_n hx hb dX5_init_17 rfl (lv_at hl 0 rfl) ?_
  refine lv_iconst (v := 5) hx hb dX5_init_18 (by decide) ?_
  refine nw_i hx hb (hts _ (List.mem_cons_of_mem _ vw_7)) hK hP hD hS hA (n := 5) (N' := 5) (by decide) rfl (Nat.le_of_ble_eq_true rfl) (Nat.le_of_ble_eq_true rfl) (Nat.le_of_ble_eq_true rfl) dX5_init_19 (fun q2 H hP hD hS => ?_)
  have hP : va_P D classes ([(h0, .inr (5, [.int (-4), .ref q1, .null])), (q1, zi cs 5), (q2, zi cs 5)]) H := hP
  have hD : va_D A ([(h0, .inr (5, [.int (-4), .ref q1, .null])), (q1, zi cs 5), (q2, zi cs 5)]) := hD
  refine va_putF (D := D) (ci := 5) (v := .ref q2) (ty := .array .int) (C := RX5) (T := TX5) (N := 3) hx hb hts (fun w hw => List.mem_cons_of_mem _ (ig_X5 w hw)) tyX5 tyX5_ok nmX5 hown hK hP hD hS 0 rfl rfl 2 (by decide) (hts _ (List.mem_cons_of_mem _ vw_18)) (fun _ h9 => h9) rfl hin rfl (by decide +kernel) rfl rfl (Nat.le_of_ble_eq_true rfl) dX5_init_21 (fun H locs hP hD hS => ?_)
  have hP : va_P D classes ([(h0, .inr (5, [.int (-4), .ref q1, .ref q2])), (q1, zi cs 5), (q2, zi cs 5)]) H := hP
  have hD : va_D A ([(h0, .inr (5, [.int (-4), .ref q1, .ref q2])), (q1, zi cs 5), (q2, zi cs 5)]) := hD
  exact fin _ _ _ _ ls ⟨q1, q2, rfl⟩ hP hD hS dX5_init_24
abbrev ii_X2 : mm_M := (yX2_init, cX2_init, 1, none, 0)
def BX2 (cs : ClassId × ClassId × ClassId × ClassId) (h0 : Nat) (blk : va_W) : Prop := ∃ q1 q2 q3 q4 q5 : Nat, blk = [(h0, .inr (2, [.ref q1, .ref q2, .int 0, .ref q3, .int 0, .ref q4, .ref q5])), (q1, zi cs 8), (q2, zi cs 8), (q3, zi cs 50), (q4, zi cs 5), (q5, zi cs 41)]
set_option maxHeartbeats 4000000 in
set_option maxRecDepth 100000 in
theorem ko_X2 (l : Launch) (D : va_G) (cs : ClassId × ClassId × ClassId × ClassId) : kc_M l D cs ii_X2 2 [.null, .null, .int 0, .null, .int 0, .null, .null] [] 1 5 112 (BX2 cs) := by
  refine kc_of (by decide) rfl (fun _ => Nat.le_of_ble_eq_true rfl) ?_
  intro p e s m args below meth c h0 A ls Q hx hb hml hown hts hin hA hP hK hD hE hl fin
  have hb : c.code = cX2_init := hb
  have hml : c.maxLocals = 1 := hml
  have hown : s.vm.findClass RX2 = some m.cls := hown
  have hin : meth.name = "<init>" := hin
  have hl : lv_has ls 1 [(0, .ref h0)] := hl
  have hS : va_S A s.heap s.heap [] := va_S.rf
  refine lv_aload_n hx hb dX2_init_0 rfl (lv_at hl 0 rfl) ?_
  refine W.objInit hx hb hown (hts _ (List.mem_cons_of_mem _ vw_19)) (hts _ (List.mem_cons_of_mem _ vw_1)) (hts _ (List.mem_cons_of_mem _ vw_2)) rfl (by rw [hml]; exact hl.1) rfl dX2_init_1 (Nat.le_of_ble_eq_true rfl) (Nat.le_of_ble_eq_true rfl) ?_
  refine W.eq (g2 := F0 m 4 ls []) rfl ?_
  refine lv_aload_n hx hb dX2_init_4 rfl (lv_at hl 0 rfl) ?_
  refine lv_bipush (v := 8) hx hb dX2_init_5 (by decide) ?_
  refine nw_i hx hb (hts _ (List.mem_cons_of_mem _ vw_7)) hK hP hD hS hA (n := 8) (N' := 8) (by decide) rfl (Nat.le_of_ble_eq_true rfl) (Nat.le_of_ble_eq_true rfl) (Nat.le_of_ble_eq_true rfl) dX2_init_7 (fun q1 H hP hD hS => ?_)
  have hP : va_P D classes ([(h0, .inr (2, [.null, .null, .int 0, .null, .int 0, .null, .null])), (q1, zi cs 8)]) H := hP
  have hD : va_D A ([(h0, .inr (2, [.null, .null, .int 0, .null, .int 0, .null, .null])), (q1, zi cs 8)]) := hD
  refine va_putF (D := D) (ci := 2) (v := .ref q1) (ty := .array .int) (C := RX2) (T := TX2) (N := 7) hx hb hts (fun w hw => List.mem_cons_of_mem _ (ig_X2 w hw)) tyX2 tyX2_ok nmX2 hown hK hP hD hS 0 rfl rfl 0 (by decide) (hts _ (List.mem_cons_of_mem _ vw_20)) (fun _ h9 => h9) rfl hin rfl (by decide +kernel) rfl rfl (Nat.le_of_ble_eq_true rfl) dX2_init_9 (fun H locs hP hD hS => ?_)
  have hP : va_P D classes ([(h0, .inr (2, [.ref q1, .null, .int 0, .null, .int 0, .null, .null])), (q1, zi cs 8)]) H := hP
  have hD : va_D A ([(h0, .inr (2, [.ref q1, .null, .int 0, .null, .int 0, .null, .null])), (q1, zi cs 8)]) := hD
  refine lv_aload_n hx hb dX2_init_12 rfl (lv_at hl 0 rfl) ?_
  refine lv_bipush (v := 8) hx hb dX2_init_13 (by decide) ?_
  refine nw_i hx hb (hts _ (List.mem_cons_of_mem _ vw_7)) hK hP hD hS hA (n := 8) (N' := 8) (by decide) rfl (Nat.le_of_ble_eq_true rfl) (Nat.le_of_ble_eq_true rfl) (Nat.le_of_ble_eq_true rfl) dX2_init_15 (fun q2 H hP hD hS => ?_)
  have hP : va_P D classes ([(h0, .inr (2, [.ref q1, .null, .int 0, .null, .int 0, .null, .null])), (q1, zi cs 8), (q2, zi cs 8)]) H := hP
  have hD : va_D A ([(h0, .inr (2, [.ref q1, .null, .int 0, .null, .int 0, .null, .null])), (q1, zi cs 8), (q2, zi cs 8)]) := hD
  refine va_putF (D := D) (ci := 2) (v := .ref q2) (ty := .array .int) (C := RX2) (T := TX2) (N := 7) hx hb hts (fun w hw => List.mem_cons_of_mem _ (ig_X2 w hw)) tyX2 tyX2_ok nmX2 hown hK hP hD hS 0 rfl rfl 1 (by decide) (hts _ (List.mem_cons_of_mem _ vw_21)) (fun _ h9 => h9) rfl hin rfl (by decide +kernel) rfl rfl (Nat.le_of_ble_eq_true rfl) dX2_init_17 (fun H locs hP hD hS => ?_)
  have hP : va_P D classes ([(h0, .inr (2, [.ref q1, .ref q2, .int 0, .null, .int 0, .null, .null])), (q1, zi cs 8), (q2, zi cs 8)]) H := hP
  have hD : va_D A ([(h0, .inr (2, [.ref q1, .ref q2, .int 0, .null, .int 0, .null, .null])), (q1, zi cs 8), (q2, zi cs 8)]) := hD
  refine lv_aload_n hx hb dX2_init_20 rfl (lv_at hl 0 rfl) ?_
  refine lv_iconst (v := 0) hx hb dX2_init_21 (by decide) ?_
  refine va_put (D := D) (ci := 2) (v := .int 0) (ty := .int) (C := RX2) (T := TX2) (N := 7) hx hb hts (fun w hw => List.mem_cons_of_mem _ (ig_X2 w hw)) tyX2 tyX2_ok nmX2 hown hK hP hD hS 0 rfl rfl 2 (by decide) (hts _ (List.mem_cons_of_mem _ vw_22)) (fun _ h9 => h9) rfl (by decide +kernel) rfl rfl (Nat.le_of_ble_eq_true rfl) dX2_init_22 (fun H locs hP hD hS => ?_)
  have hP : va_P D classes ([(h0, .inr (2, [.ref q1, .ref q2, .int 0, .null, .int 0, .null, .null])), (q1, zi cs 8), (q2, zi cs 8)]) H := hP
  have hD : va_D A ([(h0, .inr (2, [.ref q1, .ref q2, .int 0, .null, .int 0, .null, .null])), (q1, zi cs 8), (q2, zi cs 8)]) := hD
  refine lv_aload_n hx hb dX2_init_25 rfl (lv_at hl 0 rfl) ?_
  refine lv_bipush (v := 50) hx hb dX2_init_26 (by decide) ?_
  refine nw_i hx hb (hts _ (List.mem_cons_of_mem _ vw_7)) hK hP hD hS hA (n := 50) (N' := 50) (by decide) rfl (Nat.le_of_ble_eq_true rfl) (Nat.le_of_ble_eq_true rfl) (Nat.le_of_ble_eq_true rfl) dX2_init_28 (fun q3 H hP hD hS => ?_)
  have hP : va_P D classes ([(h0, .inr (2, [.ref q1, .ref q2, .int 0, .null, .int 0, .null, .null])), (q1, zi cs 8), (q2, zi cs 8), (q3, zi cs 50)]) H := hP
  have hD : va_D A ([(h0, .inr (2, [.ref q1, .ref q2, .int 0, .null, .int 0, .null, .null])), (q1, zi cs 8), (q2, zi cs 8), (q3, zi cs 50)]) := hD
  refine va_putF (D := D) (ci := 2) (v := .ref q3) (ty := .array .int) (C := RX2) (T := TX2) (N := 7) hx hb hts (fun w hw => List.mem_cons_of_mem _ (ig_X2 w hw)) tyX2 tyX2_ok nmX2 hown hK hP hD hS 0 rfl rfl 3 (by decide) (hts _ (List.mem_cons_of_mem _ vw_23)) (fun _ h9 => h9) rfl hin rfl (by decide +kernel) rfl rfl (Nat.le_of_ble_eq_true rfl) dX2_init_30 (fun H locs hP hD hS => ?_)
  have hP : va_P D classes ([(h0, .inr (2, [.ref q1, .ref q2, .int 0, .ref q3, .int 0, .null, .null])), (q1, zi cs 8), (q2, zi cs 8), (q3, zi cs 50)]) H := hP
  have hD : va_D A ([(h0, .inr (2, [.ref q1, .ref q2, .int 0, .ref q3, .int 0, .null, .null])), (q1, zi cs 8), (q2, zi cs 8), (q3, zi cs 50)]) := hD
  refine lv_aload_n hx hb dX2_init_33 rfl (lv_at hl 0 rfl) ?_
  refine lv_iconst (v := 0) hx hb dX2_init_34 (by decide) ?_
  refine va_put (D := D) (ci := 2) (v := .int 0) (ty := .int) (C := RX2) (T := TX2) (N := 7) hx hb hts (fun w hw => List.mem_cons_of_mem _ (ig_X2 w hw)) tyX2 tyX2_ok nmX2 hown hK hP hD hS 0 rfl rfl 4 (by decide) (hts _ (List.mem_cons_of_mem _ vw_24)) (fun _ h9 => h9) rfl (by decide +kernel) rfl rfl (Nat.le_of_ble_eq_true rfl) dX2_init_35 (fun H locs hP hD hS => ?_)
  have hP : va_P D classes ([(h0, .inr (2, [.ref q1, .ref q2, .int 0, .ref q3, .int 0, .null, .null])), (q1, zi cs 8), (q2, zi cs 8), (q3, zi cs 50)]) H := hP
  have hD : va_D A ([(h0, .inr (2, [.ref q1, .ref q2, .int 0, .ref q3, .int 0, .null, .null])), (q1, zi cs 8), (q2, zi cs 8), (q3, zi cs 50)]) := hD
  refine lv_aload_n hx hb dX2_init_38 rfl (lv_at hl 0 rfl) ?_
  refine lv_iconst (v := 5) hx hb dX2_init_39 (by decide) ?_
  refine nw_i hx hb (hts _ (List.mem_cons_of_mem _ vw_7)) hK hP hD hS hA (n := 5) (N' := 5) (by decide) rfl (Nat.le_of_ble_eq_true rfl) (Nat.le_of_ble_eq_true rfl) (Nat.le_of_ble_eq_true rfl) dX2_init_40 (fun q4 H hP hD hS => ?_)
  have hP : va_P D classes ([(h0, .inr (2, [.ref q1, .ref q2, .int 0, .ref q3, .int 0, .null, .null])), (q1, zi cs 8), (q2, zi cs 8), (q3, zi cs 50), (q4, zi cs 5)]) H := hP
  have hD : va_D A ([(h0, .inr (2, [.ref q1, .ref q2, .int 0, .ref q3, .int 0, .null, .null])), (q1, zi cs 8), (q2, zi cs 8), (q3, zi cs 50), (q4, zi cs 5)]) := hD
  refine va_putF (D := D) (ci := 2) (v := .ref q4) (ty := .array .int) (C := RX2) (T := TX2) (N := 7) hx hb hts (fun w hw => List.mem_cons_of_mem _ (ig_X2 w hw)) tyX2 tyX2_ok nmX2 hown hK hP hD hS 0 rfl rfl 5 (by decide) (hts _ (List.mem_cons_of_mem _ vw_25)) (fun _ h9 => h9) rfl hin rfl (by decide +kernel) rfl rfl (Nat.le_of_ble_eq_true rfl) dX2_init_42 (fun H locs hP hD hS => ?_)
  have hP : va_P D classes ([(h0, .inr (2, [.ref q1, .ref q2, .int 0, .ref q3, .int 0, .ref q4, .null])), (q1, zi cs 8), (q2, zi cs 8), (q3, zi cs 50), (q4, zi cs 5)]) H := hP
  have hD : va_D A ([(h0, .inr (2, [.ref q1, .ref q2, .int 0, .ref q3, .int 0, .ref q4, .null])), (q1, zi cs 8), (q2, zi cs 8), (q3, zi cs 50), (q4, zi cs 5)]) := hD
  refine lv_aload_n hx hb dX2_init_45 rfl (lv_at hl 0 rfl) ?_
  refine lv_bipush (v := 41) hx hb dX2_init_46 (by decide) ?_
  refine nw_i hx hb (hts _ (List.mem_cons_of_mem _ vw_7)) hK hP hD hS hA (n := 41) (N' := 41) (by decide) rfl (Nat.le_of_ble_eq_true rfl) (Nat.le_of_ble_eq_true rfl) (Nat.le_of_ble_eq_true rfl) dX2_init_48 (fun q5 H hP hD hS => ?_)
  have hP : va_P D classes ([(h0, .inr (2, [.ref q1, .ref q2, .int 0, .ref q3, .int 0, .ref q4, .null])), (q1, zi cs 8), (q2, zi cs 8), (q3, zi cs 50), (q4, zi cs 5), (q5, zi cs 41)]) H := hP
  have hD : va_D A ([(h0, .inr (2, [.ref q1, .ref q2, .int 0, .ref q3, .int 0, .ref q4, .null])), (q1, zi cs 8), (q2, zi cs 8), (q3, zi cs 50), (q4, zi cs 5), (q5, zi cs 41)]) := hD
  refine va_putF (D := D) (ci := 2) (v := .ref q5) (ty := .array .int) (C := RX2) (T := TX2) (N := 7) hx hb hts (fun w hw => List.mem_cons_of_mem _ (ig_X2 w hw)) tyX2 tyX2_ok nmX2 hown hK hP hD hS 0 rfl rfl 6 (by decide) (hts _ (List.mem_cons_of_mem _ vw_26)) (fun _ h9 => h9) rfl hin rfl (by decide +kernel) rfl rfl (Nat.le_of_ble_eq_true rfl) dX2_init_50 (fun H locs hP hD hS => ?_)
  have hP : va_P D classes ([(h0, .inr (2, [.ref q1, .ref q2, .int 0, .ref q3, .int 0, .ref q4, .ref q5])), (q1, zi cs 8), (q2, zi cs 8), (q3, zi cs 50), (q4, zi cs 5), (q5, zi cs 41)]) H := hP
  have hD : va_D A ([(h0, .inr (2, [.ref q1, .ref q2, .int 0, .ref q3, .int 0, .ref q4, .ref q5])), (q1, zi cs 8), (q2, zi cs 8), (q3, zi cs 50), (q4, zi cs 5), (q5, zi cs 41)]) := hD
  exact fin _ _ _ _ ls ⟨q1, q2, q3, q4, q5, rfl⟩ hP hD hS dX2_init_53
abbrev ii_X1 : mm_M := (yX1_init, cX1_init, 1, none, 0)
def BX1 (cs : ClassId × ClassId × ClassId × ClassId) (h0 : Nat) (blk : va_W) : Prop := ∃ q1 : Nat, blk = [(h0, .inr (1, [.ref q1])), (q1, zi cs 7)]
set_option maxHeartbeats 4000000 in
set_option maxRecDepth 100000 in
theorem ko_X1 (l : Launch) (D : va_G) (cs : ClassId × ClassId × ClassId × ClassId) : kc_M l D cs ii_X1 1 [.null] [] 1 1 7 (BX1 cs) := by
  refine kc_of (by decide) rfl (fun _ => Nat.le_of_ble_eq_true rfl) ?_
  intro p e s m args below meth c h0 A ls Q hx hb hml hown hts hin hA hP hK hD hE hl fin
  have hb : c.code = cX1_init := hb
  have hml : c.maxLocals = 1 := hml
  have hown : s.vm.findClass RX1 = some m.cls := hown
  have hin : meth.name = "<init>" := hin
  have hl : lv_has ls 1 [(0, .ref h0)] := hl
  have hS : va_S A s.heap s.heap [] := va_S.rf
  refine lv_aload_n hx hb dX1_init_0 rfl (lv_at hl 0 rfl) ?_
  refine W.objInit hx hb hown (hts _ (List.mem_cons_of_mem _ vw_27)) (hts _ (List.mem_cons_of_mem _ vw_1)) (hts _ (List.mem_cons_of_mem _ vw_2)) rfl (by rw [hml]; exact hl.1) rfl dX1_init_1 (Nat.le_of_ble_eq_true rfl) (Nat.le_of_ble_eq_true rfl) ?_
  refine W.eq (g2 := F0 m 4 ls []) rfl ?_
  refine lv_aload_n hx hb dX1_init_4 rfl (lv_at hl 0 rfl) ?_
  refine lv_bipush (v := 7) hx hb dX1_init_5 (by decide) ?_
  refine nw_i hx hb (hts _ (List.mem_cons_of_mem _ vw_7)) hK hP hD hS hA (n := 7) (N' := 7) (by decide) rfl (Nat.le_of_ble_eq_true rfl) (Nat.le_of_ble_eq_true rfl) (Nat.le_of_ble_eq_true rfl) dX1_init_7 (fun q1 H hP hD hS => ?_)
  have hP : va_P D classes ([(h0, .inr (1, [.null])), (q1, zi cs 7)]) H := hP
  have hD : va_D A ([(h0, .inr (1, [.null])), (q1, zi cs 7)]) := hD
  refine va_putF (D := D) (ci := 1) (v := .ref q1) (ty := .array .int) (C := RX1) (T := TX1) (N := 1) hx hb hts (fun w hw => List.mem_cons_of_mem _ (ig_X1 w hw)) tyX1 tyX1_ok nmX1 hown hK hP hD hS 0 rfl rfl 0 (by decide) (hts _ (List.mem_cons_of_mem _ vw_28)) (fun _ h9 => h9) rfl hin rfl (by decide +kernel) rfl rfl (Nat.le_of_ble_eq_true rfl) dX1_init_9 (fun H locs hP hD hS => ?_)
  have hP : va_P D classes ([(h0, .inr (1, [.ref q1])), (q1, zi cs 7)]) H := hP
  have hD : va_D A ([(h0, .inr (1, [.ref q1])), (q1, zi cs 7)]) := hD
  exact fin _ _ _ _ ls ⟨q1, rfl⟩ hP hD hS dX1_init_12
abbrev ii_X4 : mm_M := (yX4_init, cX4_init, 1, none, 0)
def BX4 (cs : ClassId × ClassId × ClassId × ClassId) (h0 : Nat) (blk : va_W) : Prop := ∃ q1 q2 q3 q4 : Nat, blk = [(h0, .inr (4, [.int (-4), .ref q1, .ref q2, .ref q3, .ref q4])), (q1, zi cs 5), (q2, zi cs 5), (q3, zi cs 5), (q4, zg cs 5 (fun j => some (q4 + 1 + j))), (q4 + 1, zi cs 5), (q4 + 2, zi cs 5), (q4 + 3, zi cs 5), (q4 + 4, zi cs 5), (q4 + 5, zi cs 5)]
set_option maxHeartbeats 4000000 in
set_option maxRecDepth 100000 in
theorem ko_X4 (l : Launch) (D : va_G) (cs : ClassId × ClassId × ClassId × ClassId) : kc_M l D cs ii_X4 4 [.int 0, .null, .null, .null, .null] [] 1 9 45 (BX4 cs) := by
  refine kc_of (by decide) rfl (fun _ => Nat.le_of_ble_eq_true rfl) ?_
  intro p e s m args below meth c h0 A ls Q hx hb hml hown hts hin hA hP hK hD hE hl fin
  have hb : c.code = cX4_init := hb
  have hml : c.maxLocals = 1 := hml
  have hown : s.vm.findClass RX4 = some m.cls := hown
  have hin : meth.name = "<init>" := hin
  have hl : lv_has ls 1 [(0, .ref h0)] := hl
  have hS : va_S A s.heap s.heap [] := va_S.rf
  refine lv_aload_n hx hb dX4_init_0 rfl (lv_at hl 0 rfl) ?_
  refine W.objInit hx hb hown (hts _ (List.mem_cons_of_mem _ vw_29)) (hts _ (List.mem_cons_of_mem _ vw_1)) (hts _ (List.mem_cons_of_mem _ vw_2)) rfl (by rw [hml]; exact hl.1) rfl dX4_init_1 (Nat.le_of_ble_eq_true rfl) (Nat.le_of_ble_eq_true rfl) ?_
  refine W.eq (g2 := F0 m 4 ls []) rfl ?_
  refine lv_aload_n hx hb dX4_init_4 rfl (lv_at hl 0 rfl) ?_
  refine lv_bipush (v := -4) hx hb dX4_init_5 (by decide) ?_
  refine va_put (D := D) (ci := 4) (v := .int (-4)) (ty := .int) (C := RX4) (T := TX4) (N := 5) hx hb hts (fun w hw => List.mem_cons_of_mem _ (ig_X4 w hw)) tyX4 tyX4_ok nmX4 hown hK hP hD hS 0 rfl rfl 0 (by decide) (hts _ (List.mem_cons_of_mem _ vw_30)) (fun _ h9 => h9) rfl (by decide +kernel) rfl rfl (Nat.le_of_ble_eq_true rfl) dX4_init_7 (fun H locs hP hD hS => ?_)
  have hP : va_P D classes ([(h0, .inr (4, [.int (-4), .null, .null, .null, .null]))]) H := hP
  have hD : va_D A ([(h0, .inr (4, [.int (-4), .null, .null, .null, .null]))]) := hD
  refine lv_aload_n hx hb dX4_init_10 rfl (lv_at hl 0 rfl) ?_
  refine lv_iconst (v := 5) hx hb dX4_init_11 (by decide) ?_
  refine nw_i hx hb (hts _ (List.mem_cons_of_mem _ vw_7)) hK hP hD hS hA (n := 5) (N' := 5) (by decide) rfl (Nat.le_of_ble_eq_true rfl) (Nat.le_of_ble_eq_true rfl) (Nat.le_of_ble_eq_true rfl) dX4_init_12 (fun q1 H hP hD hS => ?_)
  have hP : va_P D classes ([(h0, .inr (4, [.int (-4), .null, .null, .null, .null])), (q1, zi cs 5)]) H := hP
  have hD : va_D A ([(h0, .inr (4, [.int (-4), .null, .null, .null, .null])), (q1, zi cs 5)]) := hD
  refine va_putF (D := D) (ci := 4) (v := .ref q1) (ty := .array .int) (C := RX4) (T := TX4) (N := 5) hx hb hts (fun w hw => List.mem_cons_of_mem _ (ig_X4 w hw)) tyX4 tyX4_ok nmX4 hown hK hP hD hS 0 rfl rfl 1 (by decide) (hts _ (List.mem_cons_of_mem _ vw_31)) (fun _ h9 => h9) rfl hin rfl (by decide +kernel) rfl rfl (Nat.le_of_ble_eq_true rfl) dX4_init_14 (fun H locs hP hD hS => ?_)
  have hP : va_P D classes ([(h0, .inr (4, [.int (-4), .ref q1, .null, .null, .null])), (q1, zi cs 5)]) H := hP
  have hD : va_D A ([(h0, .inr (4, [.int (-4), .ref q1, .null, .null, .null])), (q1, zi cs 5)]) := hD
  refine lv_aload_n hx hb dX4_init_17 rfl (lv_at hl 0 rfl) ?_
  refine lv_iconst (v := 5) hx hb dX4_init_18 (by decide) ?_
  refine nw_i hx hb (hts _ (List.mem_cons_of_mem _ vw_7)) hK hP hD hS hA (n := 5) (N' := 5) (by decide) rfl (Nat.le_of_ble_eq_true rfl) (Nat.le_of_ble_eq_true rfl) (Nat.le_of_ble_eq_true rfl) dX4_init_19 (fun q2 H hP hD hS => ?_)
  have hP : va_P D classes ([(h0, .inr (4, [.int (-4), .ref q1, .null, .null, .null])), (q1, zi cs 5), (q2, zi cs 5)]) H := hP
  have hD : va_D A ([(h0, .inr (4, [.int (-4), .ref q1, .null, .null, .null])), (q1, zi cs 5), (q2, zi cs 5)]) := hD
  refine va_putF (D := D) (ci := 4) (v := .ref q2) (ty := .array .int) (C := RX4) (T := TX4) (N := 5) hx hb hts (fun w hw => List.mem_cons_of_mem _ (ig_X4 w hw)) tyX4 tyX4_ok nmX4 hown hK hP hD hS 0 rfl rfl 2 (by decide) (hts _ (List.mem_cons_of_mem _ vw_32)) (fun _ h9 => h9) rfl hin rfl (by decide +kernel) rfl rfl (Nat.le_of_ble_eq_true rfl) dX4_init_21 (fun H locs hP hD hS => ?_)
  have hP : va_P D classes ([(h0, .inr (4, [.int (-4), .ref q1, .ref q2, .null, .null])), (q1, zi cs 5), (q2, zi cs 5)]) H := hP
  have hD : va_D A ([(h0, .inr (4, [.int (-4), .ref q1, .ref q2, .null, .null])), (q1, zi cs 5), (q2, zi cs 5)]) := hD
  refine lv_aload_n hx hb dX4_init_24 rfl (lv_at hl 0 rfl) ?_
  refine lv_iconst (v := 5) hx hb dX4_init_25 (by decide) ?_
  refine nw_i hx hb (hts _ (List.mem_cons_of_mem _ vw_7)) hK hP hD hS hA (n := 5) (N' := 5) (by decide) rfl (Nat.le_of_ble_eq_true rfl) (Nat.le_of_ble_eq_true rfl) (Nat.le_of_ble_eq_true rfl) dX4_init_26 (fun q3 H hP hD hS => ?_)
  have hP : va_P D classes ([(h0, .inr (4, [.int (-4), .ref q1, .ref q2, .null, .null])), (q1, zi cs 5), (q2, zi cs 5), (q3, zi cs 5)]) H := hP
  have hD : va_D A ([(h0, .inr (4, [.int (-4), .ref q1, .ref q2, .null, .null])), (q1, zi cs 5), (q2, zi cs 5), (q3, zi cs 5)]) := hD
  refine va_putF (D := D) (ci := 4) (v := .ref q3) (ty := .array .int) (C := RX4) (T := TX4) (N := 5) hx hb hts (fun w hw => List.mem_cons_of_mem _ (ig_X4 w hw)) tyX4 tyX4_ok nmX4 hown hK hP hD hS 0 rfl rfl 3 (by decide) (hts _ (List.mem_cons_of_mem _ vw_33)) (fun _ h9 => h9) rfl hin rfl (by decide +kernel) rfl rfl (Nat.le_of_ble_eq_true rfl) dX4_init_28 (fun H locs hP hD hS => ?_)
  have hP : va_P D classes ([(h0, .inr (4, [.int (-4), .ref q1, .ref q2, .ref q3, .null])), (q1, zi cs 5), (q2, zi cs 5), (q3, zi cs 5)]) H := hP
  have hD : va_D A ([(h0, .inr (4, [.int (-4), .ref q1, .ref q2, .ref q3, .null])), (q1, zi cs 5), (q2, zi cs 5), (q3, zi cs 5)]) := hD
  refine lv_aload_n hx hb dX4_init_31 rfl (lv_at hl 0 rfl) ?_
  refine lv_iconst (v := 5) hx hb dX4_init_32 (by decide) ?_
  refine lv_iconst (v := 5) hx hb dX4_init_33 (by decide) ?_
  refine nw_m hx hb hown (hts _ (List.mem_cons_of_mem _ vw_34)) hE hK hP hD hS hA (Nat.le_of_ble_eq_true rfl) (Nat.le_of_ble_eq_true rfl) dX4_init_34 (fun q4 H locs hP hD hS => ?_)
  have hP : va_P D classes ([(h0, .inr (4, [.int (-4), .ref q1, .ref q2, .ref q3, .null])), (q1, zi cs 5), (q2, zi cs 5), (q3, zi cs 5), (q4, zg cs 5 (fun j => some (q4 + 1 + j))), (q4 + 1, zi cs 5), (q4 + 2, zi cs 5), (q4 + 3, zi cs 5), (q4 + 4, zi cs 5), (q4 + 5, zi cs 5)]) H := hP
  have hD : va_D A ([(h0, .inr (4, [.int (-4), .ref q1, .ref q2, .ref q3, .null])), (q1, zi cs 5), (q2, zi cs 5), (q3, zi cs 5), (q4, zg cs 5 (fun j => some (q4 + 1 + j))), (q4 + 1, zi cs 5), (q4 + 2, zi cs 5), (q4 + 3, zi cs 5), (q4 + 4, zi cs 5), (q4 + 5, zi cs 5)]) := hD
  refine va_putF (D := D) (ci := 4) (v := .ref q4) (ty := .array (.array .int)) (C := RX4) (T := TX4) (N := 5) hx hb hts (fun w hw => List.mem_cons_of_mem _ (ig_X4 w hw)) tyX4 tyX4_ok nmX4 hown hK hP hD hS 0 rfl rfl 4 (by decide) (hts _ (List.mem_cons_of_mem _ vw_35)) (fun _ h9 => h9) rfl hin rfl (by decide +kernel) rfl rfl (Nat.le_of_ble_eq_true rfl) dX4_init_38 (fun H locs hP hD hS => ?_)
  have hP : va_P D classes ([(h0, .inr (4, [.int (-4), .ref q1, .ref q2, .ref q3, .ref q4])), (q1, zi cs 5), (q2, zi cs 5), (q3, zi cs 5), (q4, zg cs 5 (fun j => some (q4 + 1 + j))), (q4 + 1, zi cs 5), (q4 + 2, zi cs 5), (q4 + 3, zi cs 5), (q4 + 4, zi cs 5), (q4 + 5, zi cs 5)]) H := hP
  have hD : va_D A ([(h0, .inr (4, [.int (-4), .ref q1, .ref q2, .ref q3, .ref q4])), (q1, zi cs 5), (q2, zi cs 5), (q3, zi cs 5), (q4, zg cs 5 (fun j => some (q4 + 1 + j))), (q4 + 1, zi cs 5), (q4 + 2, zi cs 5), (q4 + 3, zi cs 5), (q4 + 4, zi cs 5), (q4 + 5, zi cs 5)]) := hD
  exact fin _ _ _ _ ls ⟨q1, q2, q3, q4, rfl⟩ hP hD hS dX4_init_41
abbrev ii_clear : mm_M := (yX9_clear, cX9_clear, 1, none, 0)
set_option maxHeartbeats 4000000 in
set_option maxRecDepth 100000 in
theorem ko_clear (l : Launch) (D : va_G) (cs : ClassId × ClassId × ClassId × ClassId) (q1 q2 q3 q4 q5 q6 q7 q8 q9 : Nat) : kc_M l D cs ii_clear 9 [.int 0, .int 0, .int 0, .ref q1, .ref q2, .ref q3, .ref q4, .ref q5, .ref q6, .ref q7, .int 0, .int 0, .ref q8, .ref q9] [] 0 0 0 (fun h0 blk => blk = [(h0, .inr (9, [.int 0, .int 0, .int 0, .ref q1, .ref q2, .ref q3, .ref q4, .ref q5, .ref q6, .ref q7, .int 1, .int 2, .ref q8, .ref q9]))]) := by
  refine kc_of (by decide) rfl (fun _ => Nat.le_of_ble_eq_true rfl) ?_
  intro p e s m args below meth c h0 A ls Q hx hb hml hown hts hin hA hP hK hD hE hl fin
  have hb : c.code = cX9_clear := hb
  have hml : c.maxLocals = 1 := hml
  have hown : s.vm.findClass RX9 = some m.cls := hown
  have hl : lv_has ls 1 [(0, .ref h0)] := hl
  have hS : va_S A s.heap s.heap [] := va_S.rf
  refine lv_aload_n hx hb dX9_clear_0 rfl (lv_at hl 0 rfl) ?_
  refine lv_iconst (v := 0) hx hb dX9_clear_1 (by decide) ?_
  refine va_put (D := D) (ci := 9) (v := .int 0) (ty := .int) (C := RX9) (T := TX9) (N := 14) hx hb hts (fun w hw => List.mem_cons_of_mem _ (ig_X9 w hw)) tyX9 tyX9_ok nmX9 hown hK hP hD hS 0 rfl rfl 0 (by decide) (hts _ (List.mem_cons_of_mem _ vw_36)) (fun _ h9 => h9) rfl (by decide +kernel) rfl rfl (Nat.le_of_ble_eq_true rfl) dX9_clear_2 (fun H locs hP hD hS => ?_)
  have hP : va_P D classes ([(h0, .inr (9, [.int 0, .int 0, .int 0, .ref q1, .ref q2, .ref q3, .ref q4, .ref q5, .ref q6, .ref q7, .int 0, .int 0, .ref q8, .ref q9]))]) H := hP
  have hD : va_D A ([(h0, .inr (9, [.int 0, .int 0, .int 0, .ref q1, .ref q2, .ref q3, .ref q4, .ref q5, .ref q6, .ref q7, .int 0, .int 0, .ref q8, .ref q9]))]) := hD
  refine lv_aload_n hx hb dX9_clear_5 rfl (lv_at hl 0 rfl) ?_
  refine lv_iconst (v := 0) hx hb dX9_clear_6 (by decide) ?_
  refine va_put (D := D) (ci := 9) (v := .int 0) (ty := .int) (C := RX9) (T := TX9) (N := 14) hx hb hts (fun w hw => List.mem_cons_of_mem _ (ig_X9 w hw)) tyX9 tyX9_ok nmX9 hown hK hP hD hS 0 rfl rfl 1 (by decide) (hts _ (List.mem_cons_of_mem _ vw_37)) (fun _ h9 => h9) rfl (by decide +kernel) rfl rfl (Nat.le_of_ble_eq_true rfl) dX9_clear_7 (fun H locs hP hD hS => ?_)
  have hP : va_P D classes ([(h0, .inr (9, [.int 0, .int 0, .int 0, .ref q1, .ref q2, .ref q3, .ref q4, .ref q5, .ref q6, .ref q7, .int 0, .int 0, .ref q8, .ref q9]))]) H := hP
  have hD : va_D A ([(h0, .inr (9, [.int 0, .int 0, .int 0, .ref q1, .ref q2, .ref q3, .ref q4, .ref q5, .ref q6, .ref q7, .int 0, .int 0, .ref q8, .ref q9]))]) := hD
  refine lv_aload_n hx hb dX9_clear_10 rfl (lv_at hl 0 rfl) ?_
  refine lv_iconst (v := 0) hx hb dX9_clear_11 (by decide) ?_
  refine va_put (D := D) (ci := 9) (v := .int 0) (ty := .int) (C := RX9) (T := TX9) (N := 14) hx hb hts (fun w hw => List.mem_cons_of_mem _ (ig_X9 w hw)) tyX9 tyX9_ok nmX9 hown hK hP hD hS 0 rfl rfl 2 (by decide) (hts _ (List.mem_cons_of_mem _ vw_38)) (fun _ h9 => h9) rfl (by decide +kernel) rfl rfl (Nat.le_of_ble_eq_true rfl) dX9_clear_12 (fun H locs hP hD hS => ?_)
  have hP : va_P D classes ([(h0, .inr (9, [.int 0, .int 0, .int 0, .ref q1, .ref q2, .ref q3, .ref q4, .ref q5, .ref q6, .ref q7, .int 0, .int 0, .ref q8, .ref q9]))]) H := hP
  have hD : va_D A ([(h0, .inr (9, [.int 0, .int 0, .int 0, .ref q1, .ref q2, .ref q3, .ref q4, .ref q5, .ref q6, .ref q7, .int 0, .int 0, .ref q8, .ref q9]))]) := hD
  refine lv_aload_n hx hb dX9_clear_15 rfl (lv_at hl 0 rfl) ?_
  refine lv_iconst (v := 1) hx hb dX9_clear_16 (by decide) ?_
  refine va_put (D := D) (ci := 9) (v := .int 1) (ty := .int) (C := RX9) (T := TX9) (N := 14) hx hb hts (fun w hw => List.mem_cons_of_mem _ (ig_X9 w hw)) tyX9 tyX9_ok nmX9 hown hK hP hD hS 0 rfl rfl 10 (by decide) (hts _ (List.mem_cons_of_mem _ vw_39)) (fun _ h9 => h9) rfl (by decide +kernel) rfl rfl (Nat.le_of_ble_eq_true rfl) dX9_clear_17 (fun H locs hP hD hS => ?_)
  have hP : va_P D classes ([(h0, .inr (9, [.int 0, .int 0, .int 0, .ref q1, .ref q2, .ref q3, .ref q4, .ref q5, .ref q6, .ref q7, .int 1, .int 0, .ref q8, .ref q9]))]) H := hP
  have hD : va_D A ([(h0, .inr (9, [.int 0, .int 0, .int 0, .ref q1, .ref q2, .ref q3, .ref q4, .ref q5, .ref q6, .ref q7, .int 1, .int 0, .ref q8, .ref q9]))]) := hD
  refine lv_aload_n hx hb dX9_clear_20 rfl (lv_at hl 0 rfl) ?_
  refine lv_iconst (v := 2) hx hb dX9_clear_21 (by decide) ?_
  refine va_put (D := D) (ci := 9) (v := .int 2) (ty := .int) (C := RX9) (T := TX9) (N := 14) hx hb hts (fun w hw => List.mem_cons_of_mem _ (ig_X9 w hw)) tyX9 tyX9_ok nmX9 hown hK hP hD hS 0 rfl rfl 11 (by decide) (hts _ (List.mem_cons_of_mem _ vw_40)) (fun _ h9 => h9) rfl (by decide +kernel) rfl rfl (Nat.le_of_ble_eq_true rfl) dX9_clear_22 (fun H locs hP hD hS => ?_)
  have hP : va_P D classes ([(h0, .inr (9, [.int 0, .int 0, .int 0, .ref q1, .ref q2, .ref q3, .ref q4, .ref q5, .ref q6, .ref q7, .int 1, .int 2, .ref q8, .ref q9]))]) H := hP
  have hD : va_D A ([(h0, .inr (9, [.int 0, .int 0, .int 0, .ref q1, .ref q2, .ref q3, .ref q4, .ref q5, .ref q6, .ref q7, .int 1, .int 2, .ref q8, .ref q9]))]) := hD
  exact fin _ _ _ _ ls rfl hP hD hS dX9_clear_25
abbrev ii_X9 : mm_M := (yX9_init, cX9_init, 1, none, 0)
def BX9 (cs : ClassId × ClassId × ClassId × ClassId) (h0 : Nat) (blk : va_W) : Prop := ∃ q1 q2 q3 q4 q5 q6 q7 q8 q9 : Nat, blk = [(h0, .inr (9, [.int 0, .int 0, .int 0, .ref q1, .ref q2, .ref q3, .ref q4, .ref q5, .ref q6, .ref q7, .int 1, .int 2, .ref q8, .ref q9])), (q1, zi cs 5), (q2, zi cs 5), (q3, zi cs 5), (q4, zi cs 5), (q5, zi cs 8), (q6, zi cs 8), (q7, zi cs 6), (q8, zi cs 24), (q9, zi cs 24)]
set_option maxHeartbeats 4000000 in
set_option maxRecDepth 100000 in
theorem ko_X9 (l : Launch) (D : va_G) (cs : ClassId × ClassId × ClassId × ClassId) : kc_M l D cs ii_X9 9 [.int 0, .int 0, .int 0, .null, .null, .null, .null, .null, .null, .null, .int 0, .int 0, .null, .null] [] 2 9 90 (BX9 cs) := by
  refine kc_of (by decide) rfl (fun _ => Nat.le_of_ble_eq_true rfl) ?_
  intro p e s m args below meth c h0 A ls Q hx hb hml hown hts hin hA hP hK hD hE hl fin
  have hb : c.code = cX9_init := hb
  have hml : c.maxLocals = 1 := hml
  have hown : s.vm.findClass RX9 = some m.cls := hown
  have hin : meth.name = "<init>" := hin
  have hl : lv_has ls 1 [(0, .ref h0)] := hl
  have hS : va_S A s.heap s.heap [] := va_S.rf
  refine lv_aload_n hx hb dX9_init_0 rfl (lv_at hl 0 rfl) ?_
  refine W.objInit hx hb hown (hts _ (List.mem_cons_of_mem _ vw_41)) (hts _ (List.mem_cons_of_mem _ vw_1)) (hts _ (List.mem_cons_of_mem _ vw_2)) rfl (by rw [hml]; exact hl.1) rfl dX9_init_1 (Nat.le_of_ble_eq_true rfl) (Nat.le_of_ble_eq_true rfl) ?_
  refine W.eq (g2 := F0 m 4 ls []) rfl ?_
  refine lv_aload_n hx hb dX9_init_4 rfl (lv_at hl 0 rfl) ?_
  refine lv_iconst (v := 5) hx hb dX9_init_5 (by decide) ?_
  refine nw_i hx hb (hts _ (List.mem_cons_of_mem _ vw_7)) hK hP hD hS hA (n := 5) (N' := 5) (by decide) rfl (Nat.le_of_ble_eq_true rfl) (Nat.le_of_ble_eq_true rfl) (Nat.le_of_ble_eq_true rfl) dX9_init_6 (fun q1 H hP hD hS => ?_)
  have hP : va_P D classes ([(h0, .inr (9, [.int 0, .int 0, .int 0, .null, .null, .null, .null, .null, .null, .null, .int 0, .int 0, .null, .null])), (q1, zi cs 5)]) H := hP
  have hD : va_D A ([(h0, .inr (9, [.int 0, .int 0, .int 0, .null, .null, .null, .null, .null, .null, .null, .int 0, .int 0, .null, .null])), (q1, zi cs 5)]) := hD
  refine va_putF (D := D) (ci := 9) (v := .ref q1) (ty := .array .int) (C := RX9) (T := TX9) (N := 14) hx hb hts (fun w hw => List.mem_cons_of_mem _ (ig_X9 w hw)) tyX9 tyX9_ok nmX9 hown hK hP hD hS 0 rfl rfl 3 (by decide) (hts _ (List.mem_cons_of_mem _ vw_42)) (fun _ h9 => h9) rfl hin rfl (by decide +kernel) rfl rfl (Nat.le_of_ble_eq_true rfl) dX9_init_8 (fun H locs hP hD hS => ?_)
  have hP : va_P D classes ([(h0, .inr (9, [.int 0, .int 0, .int 0, .ref q1, .null, .null, .null, .null, .null, .null, .int 0, .int 0, .null, .null])), (q1, zi cs 5)]) H := hP
  have hD : va_D A ([(h0, .inr (9, [.int 0, .int 0, .int 0, .ref q1, .null, .null, .null, .null, .null, .null, .int 0, .int 0, .null, .null])), (q1, zi cs 5)]) := hD
  refine lv_aload_n hx hb dX9_init_11 rfl (lv_at hl 0 rfl) ?_
  refine lv_iconst (v := 5) hx hb dX9_init_12 (by decide) ?_
  refine nw_i hx hb (hts _ (List.mem_cons_of_mem _ vw_7)) hK hP hD hS hA (n := 5) (N' := 5) (by decide) rfl (Nat.le_of_ble_eq_true rfl) (Nat.le_of_ble_eq_true rfl) (Nat.le_of_ble_eq_true rfl) dX9_init_13 (fun q2 H hP hD hS => ?_)
  have hP : va_P D classes ([(h0, .inr (9, [.int 0, .int 0, .int 0, .ref q1, .null, .null, .null, .null, .null, .null, .int 0, .int 0, .null, .null])), (q1, zi cs 5), (q2, zi cs 5)]) H := hP
  have hD : va_D A ([(h0, .inr (9, [.int 0, .int 0, .int 0, .ref q1, .null, .null, .null, .null, .null, .null, .int 0, .int 0, .null, .null])), (q1, zi cs 5), (q2, zi cs 5)]) := hD
  refine va_putF (D := D) (ci := 9) (v := .ref q2) (ty := .array .int) (C := RX9) (T := TX9) (N := 14) hx hb hts (fun w hw => List.mem_cons_of_mem _ (ig_X9 w hw)) tyX9 tyX9_ok nmX9 hown hK hP hD hS 0 rfl rfl 4 (by decide) (hts _ (List.mem_cons_of_mem _ vw_43)) (fun _ h9 => h9) rfl hin rfl (by decide +kernel) rfl rfl (Nat.le_of_ble_eq_true rfl) dX9_init_15 (fun H locs hP hD hS => ?_)
  have hP : va_P D classes ([(h0, .inr (9, [.int 0, .int 0, .int 0, .ref q1, .ref q2, .null, .null, .null, .null, .null, .int 0, .int 0, .null, .null])), (q1, zi cs 5), (q2, zi cs 5)]) H := hP
  have hD : va_D A ([(h0, .inr (9, [.int 0, .int 0, .int 0, .ref q1, .ref q2, .null, .null, .null, .null, .null, .int 0, .int 0, .null, .null])), (q1, zi cs 5), (q2, zi cs 5)]) := hD
  refine lv_aload_n hx hb dX9_init_18 rfl (lv_at hl 0 rfl) ?_
  refine lv_iconst (v := 5) hx hb dX9_init_19 (by decide) ?_
  refine nw_i hx hb (hts _ (List.mem_cons_of_mem _ vw_7)) hK hP hD hS hA (n := 5) (N' := 5) (by decide) rfl (Nat.le_of_ble_eq_true rfl) (Nat.le_of_ble_eq_true rfl) (Nat.le_of_ble_eq_true rfl) dX9_init_20 (fun q3 H hP hD hS => ?_)
  have hP : va_P D classes ([(h0, .inr (9, [.int 0, .int 0, .int 0, .ref q1, .ref q2, .null, .null, .null, .null, .null, .int 0, .int 0, .null, .null])), (q1, zi cs 5), (q2, zi cs 5), (q3, zi cs 5)]) H := hP
  have hD : va_D A ([(h0, .inr (9, [.int 0, .int 0, .int 0, .ref q1, .ref q2, .null, .null, .null, .null, .null, .int 0, .int 0, .null, .null])), (q1, zi cs 5), (q2, zi cs 5), (q3, zi cs 5)]) := hD
  refine va_putF (D := D) (ci := 9) (v := .ref q3) (ty := .array .int) (C := RX9) (T := TX9) (N := 14) hx hb hts (fun w hw => List.mem_cons_of_mem _ (ig_X9 w hw)) tyX9 tyX9_ok nmX9 hown hK hP hD hS 0 rfl rfl 5 (by decide) (hts _ (List.mem_cons_of_mem _ vw_44)) (fun _ h9 => h9) rfl hin rfl (by decide +kernel) rfl rfl (Nat.le_of_ble_eq_true rfl) dX9_init_22 (fun H locs hP hD hS => ?_)
  have hP : va_P D classes ([(h0, .inr (9, [.int 0, .int 0, .int 0, .ref q1, .ref q2, .ref q3, .null, .null, .null, .null, .int 0, .int 0, .null, .null])), (q1, zi cs 5), (q2, zi cs 5), (q3, zi cs 5)]) H := hP
  have hD : va_D A ([(h0, .inr (9, [.int 0, .int 0, .int 0, .ref q1, .ref q2, .ref q3, .null, .null, .null, .null, .int 0, .int 0, .null, .null])), (q1, zi cs 5), (q2, zi cs 5), (q3, zi cs 5)]) := hD
  refine lv_aload_n hx hb dX9_init_25 rfl (lv_at hl 0 rfl) ?_
  refine lv_iconst (v := 5) hx hb dX9_init_26 (by decide) ?_
  refine nw_i hx hb (hts _ (List.mem_cons_of_mem _ vw_7)) hK hP hD hS hA (n := 5) (N' := 5) (by decide) rfl (Nat.le_of_ble_eq_true rfl) (Nat.le_of_ble_eq_true rfl) (Nat.le_of_ble_eq_true rfl) dX9_init_27 (fun q4 H hP hD hS => ?_)
  have hP : va_P D classes ([(h0, .inr (9, [.int 0, .int 0, .int 0, .ref q1, .ref q2, .ref q3, .null, .null, .null, .null, .int 0, .int 0, .null, .null])), (q1, zi cs 5), (q2, zi cs 5), (q3, zi cs 5), (q4, zi cs 5)]) H := hP
  have hD : va_D A ([(h0, .inr (9, [.int 0, .int 0, .int 0, .ref q1, .ref q2, .ref q3, .null, .null, .null, .null, .int 0, .int 0, .null, .null])), (q1, zi cs 5), (q2, zi cs 5), (q3, zi cs 5), (q4, zi cs 5)]) := hD
  refine va_putF (D := D) (ci := 9) (v := .ref q4) (ty := .array .int) (C := RX9) (T := TX9) (N := 14) hx hb hts (fun w hw => List.mem_cons_of_mem _ (ig_X9 w hw)) tyX9 tyX9_ok nmX9 hown hK hP hD hS 0 rfl rfl 6 (by decide) (hts _ (List.mem_cons_of_mem _ vw_45)) (fun _ h9 => h9) rfl hin rfl (by decide +kernel) rfl rfl (Nat.le_of_ble_eq_true rfl) dX9_init_29 (fun H locs hP hD hS => ?_)
  have hP : va_P D classes ([(h0, .inr (9, [.int 0, .int 0, .int 0, .ref q1, .ref q2, .ref q3, .ref q4, .null, .null, .null, .int 0, .int 0, .null, .null])), (q1, zi cs 5), (q2, zi cs 5), (q3, zi cs 5), (q4, zi cs 5)]) H := hP
  have hD : va_D A ([(h0, .inr (9, [.int 0, .int 0, .int 0, .ref q1, .ref q2, .ref q3, .ref q4, .null, .null, .null, .int 0, .int 0, .null, .null])), (q1, zi cs 5), (q2, zi cs 5), (q3, zi cs 5), (q4, zi cs 5)]) := hD
  refine lv_aload_n hx hb dX9_init_32 rfl (lv_at hl 0 rfl) ?_
  refine lv_bipush (v := 8) hx hb dX9_init_33 (by decide) ?_
  refine nw_i hx hb (hts _ (List.mem_cons_of_mem _ vw_7)) hK hP hD hS hA (n := 8) (N' := 8) (by decide) rfl (Nat.le_of_ble_eq_true rfl) (Nat.le_of_ble_eq_true rfl) (Nat.le_of_ble_eq_true rfl) dX9_init_35 (fun q5 H hP hD hS => ?_)
  have hP : va_P D classes ([(h0, .inr (9, [.int 0, .int 0, .int 0, .ref q1, .ref q2, .ref q3, .ref q4, .null, .null, .null, .int 0, .int 0, .null, .null])), (q1, zi cs 5), (q2, zi cs 5), (q3, zi cs 5), (q4, zi cs 5), (q5, zi cs 8)]) H := hP
  have hD : va_D A ([(h0, .inr (9, [.int 0, .int 0, .int 0, .ref q1, .ref q2, .ref q3, .ref q4, .null, .null, .null, .int 0, .int 0, .null, .null])), (q1, zi cs 5), (q2, zi cs 5), (q3, zi cs 5), (q4, zi cs 5), (q5, zi cs 8)]) := hD
  refine va_putF (D := D) (ci := 9) (v := .ref q5) (ty := .array .int) (C := RX9) (T := TX9) (N := 14) hx hb hts (fun w hw => List.mem_cons_of_mem _ (ig_X9 w hw)) tyX9 tyX9_ok nmX9 hown hK hP hD hS 0 rfl rfl 7 (by decide) (hts _ (List.mem_cons_of_mem _ vw_46)) (fun _ h9 => h9) rfl hin rfl (by decide +kernel) rfl rfl (Nat.le_of_ble_eq_true rfl) dX9_init_37 (fun H locs hP hD hS => ?_)
  have hP : va_P D classes ([(h0, .inr (9, [.int 0, .int 0, .int 0, .ref q1, .ref q2, .ref q3, .ref q4, .ref q5, .null, .null, .int 0, .int 0, .null, .null])), (q1, zi cs 5), (q2, zi cs 5), (q3, zi cs 5), (q4, zi cs 5), (q5, zi cs 8)]) H := hP
  have hD : va_D A ([(h0, .inr (9, [.int 0, .int 0, .int 0, .ref q1, .ref q2, .ref q3, .ref q4, .ref q5, .null, .null, .int 0, .int 0, .null, .null])), (q1, zi cs 5), (q2, zi cs 5), (q3, zi cs 5), (q4, zi cs 5), (q5, zi cs 8)]) := hD
  refine lv_aload_n hx hb dX9_init_40 rfl (lv_at hl 0 rfl) ?_
  refine lv_bipush (v := 8) hx hb dX9_init_41 (by decide) ?_
  refine nw_i hx hb (hts _ (List.mem_cons_of_mem _ vw_7)) hK hP hD hS hA (n := 8) (N' := 8) (by decide) rfl (Nat.le_of_ble_eq_true rfl) (Nat.le_of_ble_eq_true rfl) (Nat.le_of_ble_eq_true rfl) dX9_init_43 (fun q6 H hP hD hS => ?_)
  have hP : va_P D classes ([(h0, .inr (9, [.int 0, .int 0, .int 0, .ref q1, .ref q2, .ref q3, .ref q4, .ref q5, .null, .null, .int 0, .int 0, .null, .null])), (q1, zi cs 5), (q2, zi cs 5), (q3, zi cs 5), (q4, zi cs 5), (q5, zi cs 8), (q6, zi cs 8)]) H := hP
  have hD : va_D A ([(h0, .inr (9, [.int 0, .int 0, .int 0, .ref q1, .ref q2, .ref q3, .ref q4, .ref q5, .null, .null, .int 0, .int 0, .null, .null])), (q1, zi cs 5), (q2, zi cs 5), (q3, zi cs 5), (q4, zi cs 5), (q5, zi cs 8), (q6, zi cs 8)]) := hD
  refine va_putF (D := D) (ci := 9) (v := .ref q6) (ty := .array .int) (C := RX9) (T := TX9) (N := 14) hx hb hts (fun w hw => List.mem_cons_of_mem _ (ig_X9 w hw)) tyX9 tyX9_ok nmX9 hown hK hP hD hS 0 rfl rfl 8 (by decide) (hts _ (List.mem_cons_of_mem _ vw_47)) (fun _ h9 => h9) rfl hin rfl (by decide +kernel) rfl rfl (Nat.le_of_ble_eq_true rfl) dX9_init_45 (fun H locs hP hD hS => ?_)
  have hP : va_P D classes ([(h0, .inr (9, [.int 0, .int 0, .int 0, .ref q1, .ref q2, .ref q3, .ref q4, .ref q5, .ref q6, .null, .int 0, .int 0, .null, .null])), (q1, zi cs 5), (q2, zi cs 5), (q3, zi cs 5), (q4, zi cs 5), (q5, zi cs 8), (q6, zi cs 8)]) H := hP
  have hD : va_D A ([(h0, .inr (9, [.int 0, .int 0, .int 0, .ref q1, .ref q2, .ref q3, .ref q4, .ref q5, .ref q6, .null, .int 0, .int 0, .null, .null])), (q1, zi cs 5), (q2, zi cs 5), (q3, zi cs 5), (q4, zi cs 5), (q5, zi cs 8), (q6, zi cs 8)]) := hD
  refine lv_aload_n hx hb dX9_init_48 rfl (lv_at hl 0 rfl) ?_
  refine lv_bipush (v := 6) hx hb dX9_init_49 (by decide) ?_
  refine nw_i hx hb (hts _ (List.mem_cons_of_mem _ vw_7)) hK hP hD hS hA (n := 6) (N' := 6) (by decide) rfl (Nat.le_of_ble_eq_true rfl) (Nat.le_of_ble_eq_true rfl) (Nat.le_of_ble_eq_true rfl) dX9_init_51 (fun q7 H hP hD hS => ?_)
  have hP : va_P D classes ([(h0, .inr (9, [.int 0, .int 0, .int 0, .ref q1, .ref q2, .ref q3, .ref q4, .ref q5, .ref q6, .null, .int 0, .int 0, .null, .null])), (q1, zi cs 5), (q2, zi cs 5), (q3, zi cs 5), (q4, zi cs 5), (q5, zi cs 8), (q6, zi cs 8), (q7, zi cs 6)]) H := hP
  have hD : va_D A ([(h0, .inr (9, [.int 0, .int 0, .int 0, .ref q1, .ref q2, .ref q3, .ref q4, .ref q5, .ref q6, .null, .int 0, .int 0, .null, .null])), (q1, zi cs 5), (q2, zi cs 5), (q3, zi cs 5), (q4, zi cs 5), (q5, zi cs 8), (q6, zi cs 8), (q7, zi cs 6)]) := hD
  refine va_putF (D := D) (ci := 9) (v := .ref q7) (ty := .array .int) (C := RX9) (T := TX9) (N := 14) hx hb hts (fun w hw => List.mem_cons_of_mem _ (ig_X9 w hw)) tyX9 tyX9_ok nmX9 hown hK hP hD hS 0 rfl rfl 9 (by decide) (hts _ (List.mem_cons_of_mem _ vw_48)) (fun _ h9 => h9) rfl hin rfl (by decide +kernel) rfl rfl (Nat.le_of_ble_eq_true rfl) dX9_init_53 (fun H locs hP hD hS => ?_)
  have hP : va_P D classes ([(h0, .inr (9, [.int 0, .int 0, .int 0, .ref q1, .ref q2, .ref q3, .ref q4, .ref q5, .ref q6, .ref q7, .int 0, .int 0, .null, .null])), (q1, zi cs 5), (q2, zi cs 5), (q3, zi cs 5), (q4, zi cs 5), (q5, zi cs 8), (q6, zi cs 8), (q7, zi cs 6)]) H := hP
  have hD : va_D A ([(h0, .inr (9, [.int 0, .int 0, .int 0, .ref q1, .ref q2, .ref q3, .ref q4, .ref q5, .ref q6, .ref q7, .int 0, .int 0, .null, .null])), (q1, zi cs 5), (q2, zi cs 5), (q3, zi cs 5), (q4, zi cs 5), (q5, zi cs 8), (q6, zi cs 8), (q7, zi cs 6)]) := hD
  refine lv_aload_n hx hb dX9_init_56 rfl (lv_at hl 0 rfl) ?_
  refine lv_bipush (v := 24) hx hb dX9_init_57 (by decide) ?_
  refine nw_i hx hb (hts _ (List.mem_cons_of_mem _ vw_7)) hK hP hD hS hA (n := 24) (N' := 24) (by decide) rfl (Nat.le_of_ble_eq_true rfl) (Nat.le_of_ble_eq_true rfl) (Nat.le_of_ble_eq_true rfl) dX9_init_59 (fun q8 H hP hD hS => ?_)
  have hP : va_P D classes ([(h0, .inr (9, [.int 0, .int 0, .int 0, .ref q1, .ref q2, .ref q3, .ref q4, .ref q5, .ref q6, .ref q7, .int 0, .int 0, .null, .null])), (q1, zi cs 5), (q2, zi cs 5), (q3, zi cs 5), (q4, zi cs 5), (q5, zi cs 8), (q6, zi cs 8), (q7, zi cs 6), (q8, zi cs 24)]) H := hP
  have hD : va_D A ([(h0, .inr (9, [.int 0, .int 0, .int 0, .ref q1, .ref q2, .ref q3, .ref q4, .ref q5, .ref q6, .ref q7, .int 0, .int 0, .null, .null])), (q1, zi cs 5), (q2, zi cs 5), (q3, zi cs 5), (q4, zi cs 5), (q5, zi cs 8), (q6, zi cs 8), (q7, zi cs 6), (q8, zi cs 24)]) := hD
  refine va_putF (D := D) (ci := 9) (v := .ref q8) (ty := .array .int) (C := RX9) (T := TX9) (N := 14) hx hb hts (fun w hw => List.mem_cons_of_mem _ (ig_X9 w hw)) tyX9 tyX9_ok nmX9 hown hK hP hD hS 0 rfl rfl 12 (by decide) (hts _ (List.mem_cons_of_mem _ vw_49)) (fun _ h9 => h9) rfl hin rfl (by decide +kernel) rfl rfl (Nat.le_of_ble_eq_true rfl) dX9_init_61 (fun H locs hP hD hS => ?_)
  have hP : va_P D classes ([(h0, .inr (9, [.int 0, .int 0, .int 0, .ref q1, .ref q2, .ref q3, .ref q4, .ref q5, .ref q6, .ref q7, .int 0, .int 0, .ref q8, .null])), (q1, zi cs 5), (q2, zi cs 5), (q3, zi cs 5), (q4, zi cs 5), (q5, zi cs 8), (q6, zi cs 8), (q7, zi cs 6), (q8, zi cs 24)]) H := hP
  have hD : va_D A ([(h0, .inr (9, [.int 0, .int 0, .int 0, .ref q1, .ref q2, .ref q3, .ref q4, .ref q5, .ref q6, .ref q7, .int 0, .int 0, .ref q8, .null])), (q1, zi cs 5), (q2, zi cs 5), (q3, zi cs 5), (q4, zi cs 5), (q5, zi cs 8), (q6, zi cs 8), (q7, zi cs 6), (q8, zi cs 24)]) := hD
  refine lv_aload_n hx hb dX9_init_64 rfl (lv_at hl 0 rfl) ?_
  refine lv_bipush (v := 24) hx hb dX9_init_65 (by decide) ?_
  refine nw_i hx hb (hts _ (List.mem_cons_of_mem _ vw_7)) hK hP hD hS hA (n := 24) (N' := 24) (by decide) rfl (Nat.le_of_ble_eq_true rfl) (Nat.le_of_ble_eq_true rfl) (Nat.le_of_ble_eq_true rfl) dX9_init_67 (fun q9 H hP hD hS => ?_)
  have hP : va_P D classes ([(h0, .inr (9, [.int 0, .int 0, .int 0, .ref q1, .ref q2, .ref q3, .ref q4, .ref q5, .ref q6, .ref q7, .int 0, .int 0, .ref q8, .null])), (q1, zi cs 5), (q2, zi cs 5), (q3, zi cs 5), (q4, zi cs 5), (q5, zi cs 8), (q6, zi cs 8), (q7, zi cs 6), (q8, zi cs 24), (q9, zi cs 24)]) H := hP
  have hD : va_D A ([(h0, .inr (9, [.int 0, .int 0, .int 0, .ref q1, .ref q2, .ref q3, .ref q4, .ref q5, .ref q6, .ref q7, .int 0, .int 0, .ref q8, .null])), (q1, zi cs 5), (q2, zi cs 5), (q3, zi cs 5), (q4, zi cs 5), (q5, zi cs 8), (q6, zi cs 8), (q7, zi cs 6), (q8, zi cs 24), (q9, zi cs 24)]) := hD
  refine va_putF (D := D) (ci := 9) (v := .ref q9) (ty := .array .int) (C := RX9) (T := TX9) (N := 14) hx hb hts (fun w hw => List.mem_cons_of_mem _ (ig_X9 w hw)) tyX9 tyX9_ok nmX9 hown hK hP hD hS 0 rfl rfl 13 (by decide) (hts _ (List.mem_cons_of_mem _ vw_50)) (fun _ h9 => h9) rfl hin rfl (by decide +kernel) rfl rfl (Nat.le_of_ble_eq_true rfl) dX9_init_69 (fun H locs hP hD hS => ?_)
  have hP : va_P D classes ([(h0, .inr (9, [.int 0, .int 0, .int 0, .ref q1, .ref q2, .ref q3, .ref q4, .ref q5, .ref q6, .ref q7, .int 0, .int 0, .ref q8, .ref q9])), (q1, zi cs 5), (q2, zi cs 5), (q3, zi cs 5), (q4, zi cs 5), (q5, zi cs 8), (q6, zi cs 8), (q7, zi cs 6), (q8, zi cs 24), (q9, zi cs 24)]) H := hP
  have hD : va_D A ([(h0, .inr (9, [.int 0, .int 0, .int 0, .ref q1, .ref q2, .ref q3, .ref q4, .ref q5, .ref q6, .ref q7, .int 0, .int 0, .ref q8, .ref q9])), (q1, zi cs 5), (q2, zi cs 5), (q3, zi cs 5), (q4, zi cs 5), (q5, zi cs 8), (q6, zi cs 8), (q7, zi cs 6), (q8, zi cs 24), (q9, zi cs 24)]) := hD
  refine lv_aload_n hx hb dX9_init_72 rfl (lv_at hl 0 rfl) ?_
  have hP : va_P D classes ([(q1, zi cs 5), (q2, zi cs 5), (q3, zi cs 5), (q4, zi cs 5), (q5, zi cs 8), (q6, zi cs 8), (q7, zi cs 6), (q8, zi cs 24), (q9, zi cs 24), (h0, .inr (9, [.int 0, .int 0, .int 0, .ref q1, .ref q2, .ref q3, .ref q4, .ref q5, .ref q6, .ref q7, .int 0, .int 0, .ref q8, .ref q9]))]) H := hP.sub [1, 2, 3, 4, 5, 6, 7, 8, 9, 0] rfl
  have hD : va_D A ([(q1, zi cs 5), (q2, zi cs 5), (q3, zi cs 5), (q4, zi cs 5), (q5, zi cs 8), (q6, zi cs 8), (q7, zi cs 6), (q8, zi cs 24), (q9, zi cs 24), (h0, .inr (9, [.int 0, .int 0, .int 0, .ref q1, .ref q2, .ref q3, .ref q4, .ref q5, .ref q6, .ref q7, .int 0, .int 0, .ref q8, .ref q9]))]) := hD.sub [1, 2, 3, 4, 5, 6, 7, 8, 9, 0] (by decide) rfl
  refine kc_callV (ws := [(q1, zi cs 5), (q2, zi cs 5), (q3, zi cs 5), (q4, zi cs 5), (q5, zi cs 8), (q6, zi cs 8), (q7, zi cs 6), (q8, zi cs 24), (q9, zi cs 24)]) (ko_clear l D cs q1 q2 q3 q4 q5 q6 q7 q8 q9) hx hb hml hown hts (mm_good lw_goodw (fun z hz => (List.mem_cons.mp hz).elim (fun e => e ▸ vw_51) id)) (List.mem_cons_of_mem _ vw_52) (List.mem_cons_of_mem _ vw_53) (List.mem_cons_of_mem _ vw_54) rfl rfl (List.mem_cons_of_mem _ vw_55) (by decide +kernel) ⟨Nat.le_of_ble_eq_true rfl, Nat.le_of_ble_eq_true rfl⟩ hK hE hP hD hS hA hl.1 rfl rfl (Nat.le_of_ble_eq_true rfl) dX9_init_73 ⟨Nat.le_of_ble_eq_true rfl, Nat.le_of_ble_eq_true rfl⟩ (fun H locs b1 hb1 hP hD hS => ?_)
  subst hb1
  have hP : va_P D classes ([(q1, zi cs 5), (q2, zi cs 5), (q3, zi cs 5), (q4, zi cs 5), (q5, zi cs 8), (q6, zi cs 8), (q7, zi cs 6), (q8, zi cs 24), (q9, zi cs 24), (h0, .inr (9, [.int 0, .int 0, .int 0, .ref q1, .ref q2, .ref q3, .ref q4, .ref q5, .ref q6, .ref q7, .int 1, .int 2, .ref q8, .ref q9]))]) H := hP
  have hD : va_D A ([(q1, zi cs 5), (q2, zi cs 5), (q3, zi cs 5), (q4, zi cs 5), (q5, zi cs 8), (q6, zi cs 8), (q7, zi cs 6), (q8, zi cs 24), (q9, zi cs 24), (h0, .inr (9, [.int 0, .int 0, .int 0, .ref q1, .ref q2, .ref q3, .ref q4, .ref q5, .ref q6, .ref q7, .int 1, .int 2, .ref q8, .ref q9]))]) := hD
  have hP : va_P D classes ([(h0, .inr (9, [.int 0, .int 0, .int 0, .ref q1, .ref q2, .ref q3, .ref q4, .ref q5, .ref q6, .ref q7, .int 1, .int 2, .ref q8, .ref q9])), (q1, zi cs 5), (q2, zi cs 5), (q3, zi cs 5), (q4, zi cs 5), (q5, zi cs 8), (q6, zi cs 8), (q7, zi cs 6), (q8, zi cs 24), (q9, zi cs 24)]) H := hP.sub [9, 0, 1, 2, 3, 4, 5, 6, 7, 8] rfl
  have hD : va_D A ([(h0, .inr (9, [.int 0, .int 0, .int 0, .ref q1, .ref q2, .ref q3, .ref q4, .ref q5, .ref q6, .ref q7, .int 1, .int 2, .ref q8, .ref q9])), (q1, zi cs 5), (q2, zi cs 5), (q3, zi cs 5), (q4, zi cs 5), (q5, zi cs 8), (q6, zi cs 8), (q7, zi cs 6), (q8, zi cs 24), (q9, zi cs 24)]) := hD.sub [9, 0, 1, 2, 3, 4, 5, 6, 7, 8] (by decide) rfl
  exact fin _ _ _ _ ls ⟨q1, q2, q3, q4, q5, q6, q7, q8, q9, rfl⟩ hP hD hS dX9_init_76
abbrev ii_X0 : mm_M := (yX0_init, cX0_init, 1, none, 0)
def BX0 (cs : ClassId × ClassId × ClassId × ClassId) (h0 : Nat) (blk : va_W) : Prop := ∃ q1 q3 q4 : Nat, blk = [(h0, .inr (0, [.ref q1])), (q1, .inr (3, [.ref q3, .ref q4, .int 0, .int 0])), (q3, zi cs 5), (q4, zi cs 5)]
set_option maxHeartbeats 4000000 in
set_option maxRecDepth 100000 in
theorem ko_X0 (l : Launch) (D : va_G) (cs : ClassId × ClassId × ClassId × ClassId) : kc_M l D cs ii_X0 0 [.null] [] 2 3 14 (BX0 cs) := by
  refine kc_of (by decide) rfl (fun _ => Nat.le_of_ble_eq_true rfl) ?_
  intro p e s m args below meth c h0 A ls Q hx hb hml hown hts hin hA hP hK hD hE hl fin
  have hb : c.code = cX0_init := hb
  have hml : c.maxLocals = 1 := hml
  have hown : s.vm.findClass RX0 = some m.cls := hown
  have hin : meth.name = "<init>" := hin
  have hl : lv_has ls 1 [(0, .ref h0)] := hl
  have hS : va_S A s.heap s.heap [] := va_S.rf
  refine lv_aload_n hx hb dX0_init_0 rfl (lv_at hl 0 rfl) ?_
  refine W.objInit hx hb hown (hts _ (List.mem_cons_of_mem _ vw_56)) (hts _ (List.mem_cons_of_mem _ vw_1)) (hts _ (List.mem_cons_of_mem _ vw_2)) rfl (by rw [hml]; exact hl.1) rfl dX0_init_1 (Nat.le_of_ble_eq_true rfl) (Nat.le_of_ble_eq_true rfl) ?_
  refine W.eq (g2 := F0 m 4 ls []) rfl ?_
  refine lv_aload_n hx hb dX0_init_4 rfl (lv_at hl 0 rfl) ?_
  refine va_new (ci := 3) (fs := [.null, .null, .int 0, .int 0]) (C := RX3) (T := TX3) (N := 4) hx hb hts (fun w hw => List.mem_cons_of_mem _ (ig_X3 w hw)) tyX3 tyX3_ok hown (hts _ (List.mem_cons_of_mem _ vw_57)) (hts _ (List.mem_cons_of_mem _ vw_58)) (hts _ (List.mem_cons_of_mem _ vw_59)) hK hP hD hS hA rfl (fun j hj => by rcases (show j = 0 ∨ j = 1 ∨ j = 2 ∨ j = 3 by omega) with rfl | rfl | rfl | rfl <;> rfl) (Nat.le_of_ble_eq_true rfl) (Nat.le_of_ble_eq_true rfl) dX0_init_5 (fun q1 H hP hD hS => ?_)
  refine lv_dup hx hb dX0_init_8 rfl ?_
  refine kc_call (ws := [(h0, .inr (0, [.null]))]) (ko_X3 l D cs) hx hb hml hown hts (mm_good lw_goodw (fun z hz => (List.mem_cons.mp hz).elim (fun e => e ▸ vw_60) id)) rfl (List.mem_cons_of_mem _ vw_59) (List.mem_cons_of_mem _ vw_61) (List.mem_cons_of_mem _ vw_62) rfl (by decide +kernel) ⟨Nat.le_of_ble_eq_true rfl, Nat.le_of_ble_eq_true rfl⟩ hK hE hP hD hS hA hl.1 rfl rfl (Nat.le_of_ble_eq_true rfl) dX0_init_9 ⟨Nat.le_of_ble_eq_true rfl, Nat.le_of_ble_eq_true rfl⟩ (fun H locs b2 hb2 hP hD hS => ?_)
  obtain ⟨q3, q4, rfl⟩ := hb2
  have hP : va_P D classes ([(h0, .inr (0, [.null])), (q1, .inr (3, [.ref q3, .ref q4, .int 0, .int 0])), (q3, zi cs 5), (q4, zi cs 5)]) H := hP
  have hD : va_D A ([(h0, .inr (0, [.null])), (q1, .inr (3, [.ref q3, .ref q4, .int 0, .int 0])), (q3, zi cs 5), (q4, zi cs 5)]) := hD
  refine va_putF (D := D) (ci := 0) (v := .ref q1) (ty := .object "DuskOnRopes$Dusk") (C := RX0) (T := TX0) (N := 1) hx hb hts (fun w hw => List.mem_cons_of_mem _ (ig_X0 w hw)) tyX0 tyX0_ok nmX0 hown hK hP hD hS 0 rfl rfl 0 (by decide) (hts _ (List.mem_cons_of_mem _ vw_63)) (fun _ h9 => h9) rfl hin rfl (by decide +kernel) rfl rfl (Nat.le_of_ble_eq_true rfl) dX0_init_12 (fun H locs hP hD hS => ?_)
  have hP : va_P D classes ([(h0, .inr (0, [.ref q1])), (q1, .inr (3, [.ref q3, .ref q4, .int 0, .int 0])), (q3, zi cs 5), (q4, zi cs 5)]) H := hP
  have hD : va_D A ([(h0, .inr (0, [.ref q1])), (q1, .inr (3, [.ref q3, .ref q4, .int 0, .int 0])), (q3, zi cs 5), (q4, zi cs 5)]) := hD
  exact fin _ _ _ _ ls ⟨q1, q3, q4, rfl⟩ hP hD hS dX0_init_15
