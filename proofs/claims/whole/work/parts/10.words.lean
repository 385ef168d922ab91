theorem ig_X0 : ∀ q ∈ u_ws RX0 TX0 1, q ∈ lw_good := by
  intro q hq
  obtain ⟨k, hk, rfl⟩ := List.mem_map.mp hq
  have hk := List.mem_range.mp hk
  rcases (show k = 0 by omega) with rfl
  · exact lw_in 215 (by decide +kernel) rfl
theorem ig_X1 : ∀ q ∈ u_ws RX1 TX1 1, q ∈ lw_good := by
  intro q hq
  obtain ⟨k, hk, rfl⟩ := List.mem_map.mp hq
  have hk := List.mem_range.mp hk
  rcases (show k = 0 by omega) with rfl
  · exact lw_in 299 (by decide +kernel) rfl
theorem ig_X2 : ∀ q ∈ u_ws RX2 TX2 7, q ∈ lw_good := by
  intro q hq
  obtain ⟨k, hk, rfl⟩ := List.mem_map.mp hq
  have hk := List.mem_range.mp hk
  rcases (show k = 0 ∨ k = 1 ∨ k = 2 ∨ k = 3 ∨ k = 4 ∨ k = 5 ∨ k = 6 by omega) with rfl | rfl | rfl | rfl | rfl | rfl | rfl
  · exact lw_in 277 (by decide +kernel) rfl
  · exact lw_in 279 (by decide +kernel) rfl
  · exact lw_in 281 (by decide +kernel) rfl
  · exact lw_in 283 (by decide +kernel) rfl
  · exact lw_in 285 (by decide +kernel) rfl
  · exact lw_in 287 (by decide +kernel) rfl
  · exact lw_in 289 (by decide +kernel) rfl
theorem ig_X3 : ∀ q ∈ u_ws RX3 TX3 4, q ∈ lw_good := by
  intro q hq
  obtain ⟨k, hk, rfl⟩ := List.mem_map.mp hq
  have hk := List.mem_range.mp hk
  rcases (show k = 0 ∨ k = 1 ∨ k = 2 ∨ k = 3 by omega) with rfl | rfl | rfl | rfl
  · exact lw_in 178 (by decide +kernel) rfl
  · exact lw_in 180 (by decide +kernel) rfl
  · exact lw_in 182 (by decide +kernel) rfl
  · exact lw_in 184 (by decide +kernel) rfl
theorem ig_X4 : ∀ q ∈ u_ws RX4 TX4 5, q ∈ lw_good := by
  intro q hq
  obtain ⟨k, hk, rfl⟩ := List.mem_map.mp hq
  have hk := List.mem_range.mp hk
  rcases (show k = 0 ∨ k = 1 ∨ k = 2 ∨ k = 3 ∨ k = 4 by omega) with rfl | rfl | rfl | rfl | rfl
  · exact lw_in 233 (by decide +kernel) rfl
  · exact lw_in 235 (by decide +kernel) rfl
  · exact lw_in 237 (by decide +kernel) rfl
  · exact lw_in 239 (by decide +kernel) rfl
  · exact lw_in 241 (by decide +kernel) rfl
theorem ig_X5 : ∀ q ∈ u_ws RX5 TX5 3, q ∈ lw_good := by
  intro q hq
  obtain ⟨k, hk, rfl⟩ := List.mem_map.mp hq
  have hk := List.mem_range.mp hk
  rcases (show k = 0 ∨ k = 1 ∨ k = 2 by omega) with rfl | rfl | rfl
  · exact lw_in 255 (by decide +kernel) rfl
  · exact lw_in 257 (by decide +kernel) rfl
  · exact lw_in 259 (by decide +kernel) rfl
theorem ig_X6 : ∀ q ∈ u_ws RX6 TX6 2, q ∈ lw_good := by
  intro q hq
  obtain ⟨k, hk, rfl⟩ := List.mem_map.mp hq
  have hk := List.mem_range.mp hk
  rcases (show k = 0 ∨ k = 1 by omega) with rfl | rfl
  · exact lw_in 83 (by decide +kernel) rfl
  · exact lw_in 85 (by decide +kernel) rfl
theorem ig_X7 : ∀ q ∈ u_ws RX7 TX7 2, q ∈ lw_good := by
  intro q hq
  obtain ⟨k, hk, rfl⟩ := List.mem_map.mp hq
  have hk := List.mem_range.mp hk
  rcases (show k = 0 ∨ k = 1 by omega) with rfl | rfl
  · exact lw_in 201 (by decide +kernel) rfl
  · exact lw_in 203 (by decide +kernel) rfl
theorem ig_X8 : ∀ q ∈ u_ws RX8 TX8 2, q ∈ lw_good := by
  intro q hq
  obtain ⟨k, hk, rfl⟩ := List.mem_map.mp hq
  have hk := List.mem_range.mp hk
  rcases (show k = 0 ∨ k = 1 by omega) with rfl | rfl
  · exact lw_in 69 (by decide +kernel) rfl
  · exact lw_in 71 (by decide +kernel) rfl
theorem ig_X9 : ∀ q ∈ u_ws RX9 TX9 14, q ∈ lw_good := by
  intro q hq
  obtain ⟨k, hk, rfl⟩ := List.mem_map.mp hq
  have hk := List.mem_range.mp hk
  rcases (show k = 0 ∨ k = 1 ∨ k = 2 ∨ k = 3 ∨ k = 4 ∨ k = 5 ∨ k = 6 ∨ k = 7 ∨ k = 8 ∨ k = 9 ∨ k = 10 ∨ k = 11 ∨ k = 12 ∨ k = 13 by omega) with rfl | rfl | rfl | rfl | rfl | rfl | rfl | rfl | rfl | rfl | rfl | rfl | rfl | rfl
  · exact lw_in 129 (by decide +kernel) rfl
  · exact lw_in 131 (by decide +kernel) rfl
  · exact lw_in 133 (by decide +kernel) rfl
  · exact lw_in 135 (by decide +kernel) rfl
  · exact lw_in 137 (by decide +kernel) rfl
  · exact lw_in 139 (by decide +kernel) rfl
  · exact lw_in 141 (by decide +kernel) rfl
  · exact lw_in 143 (by decide +kernel) rfl
  · exact lw_in 145 (by decide +kernel) rfl
  · exact lw_in 147 (by decide +kernel) rfl
  · exact lw_in 149 (by decide +kernel) rfl
  · exact lw_in 151 (by decide +kernel) rfl
  · exact lw_in 153 (by decide +kernel) rfl
  · exact lw_in 155 (by decide +kernel) rfl
theorem ig_X10 : ∀ q ∈ u_ws RX10 TX10 12, q ∈ lw_good := by
  intro q hq
  obtain ⟨k, hk, rfl⟩ := List.mem_map.mp hq
  have hk := List.mem_range.mp hk
  rcases (show k = 0 ∨ k = 1 ∨ k = 2 ∨ k = 3 ∨ k = 4 ∨ k = 5 ∨ k = 6 ∨ k = 7 ∨ k = 8 ∨ k = 9 ∨ k = 10 ∨ k = 11 by omega) with rfl | rfl | rfl | rfl | rfl | rfl | rfl | rfl | rfl | rfl | rfl | rfl
  · exact lw_in 443 (by decide +kernel) rfl
  · exact lw_in 445 (by decide +kernel) rfl
  · exact lw_in 447 (by decide +kernel) rfl
  · exact lw_in 449 (by decide +kernel) rfl
  · exact lw_in 451 (by decide +kernel) rfl
  · exact lw_in 453 (by decide +kernel) rfl
  · exact lw_in 455 (by decide +kernel) rfl
  · exact lw_in 457 (by decide +kernel) rfl
  · exact lw_in 459 (by decide +kernel) rfl
  · exact lw_in 461 (by decide +kernel) rfl
  · exact lw_in 463 (by decide +kernel) rfl
  · exact lw_in 465 (by decide +kernel) rfl
theorem ig_X11 : ∀ q ∈ u_ws RX11 TX11 16, q ∈ lw_good := by
  intro q hq
  obtain ⟨k, hk, rfl⟩ := List.mem_map.mp hq
  have hk := List.mem_range.mp hk
  rcases (show k = 0 ∨ k = 1 ∨ k = 2 ∨ k = 3 ∨ k = 4 ∨ k = 5 ∨ k = 6 ∨ k = 7 ∨ k = 8 ∨ k = 9 ∨ k = 10 ∨ k = 11 ∨ k = 12 ∨ k = 13 ∨ k = 14 ∨ k = 15 by omega) with rfl | rfl | rfl | rfl | rfl | rfl | rfl | rfl | rfl | rfl | rfl | rfl | rfl | rfl | rfl | rfl
  · exact lw_in 837 (by decide +kernel) rfl
  · exact lw_in 839 (by decide +kernel) rfl
  · exact lw_in 841 (by decide +kernel) rfl
  · exact lw_in 843 (by decide +kernel) rfl
  · exact lw_in 845 (by decide +kernel) rfl
  · exact lw_in 847 (by decide +kernel) rfl
  · exact lw_in 849 (by decide +kernel) rfl
  · exact lw_in 851 (by decide +kernel) rfl
  · exact lw_in 853 (by decide +kernel) rfl
  · exact lw_in 855 (by decide +kernel) rfl
  · exact lw_in 857 (by decide +kernel) rfl
  · exact lw_in 859 (by decide +kernel) rfl
  · exact lw_in 861 (by decide +kernel) rfl
  · exact lw_in 863 (by decide +kernel) rfl
  · exact lw_in 865 (by decide +kernel) rfl
  · exact lw_in 867 (by decide +kernel) rfl
theorem wf_X0_12 : Cond.fieldLink RX0 12 "DuskOnRopes$Ahead" "then" "LDuskOnRopes$Dusk;" ∈ lw_good := lw_in 214 (by decide +kernel) rfl
theorem wc_X3_become : Cond.code yX3_become cX3_become 3 none ∈ lw_good := lw_in 555 (by decide +kernel) rfl
theorem wz_X3 : Cond.initialized RX3 ∈ lw_good := lw_in 37 (by decide +kernel) rfl
theorem wm_X0_18 : Cond.methodLink RX0 18 yX3_become ∈ lw_good := lw_in 622 (by decide +kernel) rfl
theorem wi_X3_become : Cond.instanceMethod yX3_become ∈ lw_good := lw_in 553 (by decide +kernel) rfl
theorem wl_X3_become : Cond.selects RX3 yX3_become yX3_become ∈ lw_good := lw_in 554 (by decide +kernel) rfl
theorem wf_X0_22 : Cond.fieldLink RX0 22 "DuskOnRopes$Dusk" "turns" "[I" ∈ lw_good := lw_in 165 (by decide +kernel) rfl
theorem wc_X9_lightOver : Cond.code yX9_lightOver cX9_lightOver 3 (some FieldType.int) ∈ lw_good := lw_in 523 (by decide +kernel) rfl
theorem wz_X9 : Cond.initialized RX9 ∈ lw_good := lw_in 36 (by decide +kernel) rfl
theorem wm_X0_26 : Cond.methodLink RX0 26 yX9_lightOver ∈ lw_good := lw_in 623 (by decide +kernel) rfl
theorem wi_X9_lightOver : Cond.instanceMethod yX9_lightOver ∈ lw_good := lw_in 521 (by decide +kernel) rfl
theorem wl_X9_lightOver : Cond.selects RX9 yX9_lightOver yX9_lightOver ∈ lw_good := lw_in 522 (by decide +kernel) rfl
theorem wc_X3_passAllDown : Cond.code yX3_passAllDown cX3_passAllDown 2 none ∈ lw_good := lw_in 627 (by decide +kernel) rfl
theorem wm_X0_32 : Cond.methodLink RX0 32 yX3_passAllDown ∈ lw_good := lw_in 624 (by decide +kernel) rfl
theorem wi_X3_passAllDown : Cond.instanceMethod yX3_passAllDown ∈ lw_good := lw_in 625 (by decide +kernel) rfl
theorem wl_X3_passAllDown : Cond.selects RX3 yX3_passAllDown yX3_passAllDown ∈ lw_good := lw_in 626 (by decide +kernel) rfl
theorem wf_X0_36 : Cond.fieldLink RX0 36 "DuskOnRopes$Dusk" "kinds" "[I" ∈ lw_good := lw_in 169 (by decide +kernel) rfl
theorem wc_X9_nights : Cond.code yX9_nights cX9_nights 4 (some FieldType.int) ∈ lw_good := lw_in 664 (by decide +kernel) rfl
theorem wm_X0_39 : Cond.methodLink RX0 39 yX9_nights ∈ lw_good := lw_in 661 (by decide +kernel) rfl
theorem wi_X9_nights : Cond.instanceMethod yX9_nights ∈ lw_good := lw_in 662 (by decide +kernel) rfl
theorem wl_X9_nights : Cond.selects RX9 yX9_nights yX9_nights ∈ lw_good := lw_in 663 (by decide +kernel) rfl
theorem wc_X9_sets : Cond.code yX9_sets cX9_sets 1 (some FieldType.int) ∈ lw_good := lw_in 539 (by decide +kernel) rfl
theorem wm_X0_43 : Cond.methodLink RX0 43 yX9_sets ∈ lw_good := lw_in 775 (by decide +kernel) rfl
theorem wi_X9_sets : Cond.instanceMethod yX9_sets ∈ lw_good := lw_in 537 (by decide +kernel) rfl
theorem wl_X9_sets : Cond.selects RX9 yX9_sets yX9_sets ∈ lw_good := lw_in 538 (by decide +kernel) rfl
theorem wk_X0_47 : Cond.constantLong RX0 47 (Int64.ofInt 7919) ∈ lw_good := lw_in 776 (by decide +kernel) rfl
theorem wk_X0_49 : Cond.constantLong RX0 49 (Int64.ofInt 6151) ∈ lw_good := lw_in 777 (by decide +kernel) rfl
theorem wf_X0_51 : Cond.fieldLink RX0 51 "DuskOnRopes$Dusk" "hours" "I" ∈ lw_good := lw_in 174 (by decide +kernel) rfl
theorem wk_X0_55 : Cond.constantLong RX0 55 (Int64.ofInt 65521) ∈ lw_good := lw_in 778 (by decide +kernel) rfl
theorem wc_X3_pass : Cond.code yX3_pass cX3_pass 6 none ∈ lw_good := lw_in 569 (by decide +kernel) rfl
theorem wm_X0_57 : Cond.methodLink RX0 57 yX3_pass ∈ lw_good := lw_in 779 (by decide +kernel) rfl
theorem wi_X3_pass : Cond.instanceMethod yX3_pass ∈ lw_good := lw_in 567 (by decide +kernel) rfl
theorem wl_X3_pass : Cond.selects RX3 yX3_pass yX3_pass ∈ lw_good := lw_in 568 (by decide +kernel) rfl
theorem wf_X1_9 : Cond.fieldLink RX1 9 "DuskOnRopes$Chances" "ways" "[I" ∈ lw_good := lw_in 298 (by decide +kernel) rfl
theorem wc_J7_fill_53178 : Cond.code yJ7_fill_53178 cJ7_fill_53178 4 none ∈ lw_good := lw_in 734 (by decide +kernel) rfl
theorem wz_J7 : Cond.initialized RJ7 ∈ lw_good := lw_in 52 (by decide +kernel) rfl
theorem wm_X1_15 : Cond.methodLink RX1 15 yJ7_fill_53178 ∈ lw_good := lw_in 749 (by decide +kernel) rfl
theorem ws_J7_fill_53178 : Cond.static yJ7_fill_53178 ∈ lw_good := lw_in 733 (by decide +kernel) rfl
theorem wc_X10_within : Cond.code yX10_within cX10_within 1 (some FieldType.int) ∈ lw_good := lw_in 575 (by decide +kernel) rfl
theorem wz_X10 : Cond.initialized RX10 ∈ lw_good := lw_in 33 (by decide +kernel) rfl
theorem ws_X10_within : Cond.static yX10_within ∈ lw_good := lw_in 574 (by decide +kernel) rfl
theorem wc_X10_lightAt : Cond.code yX10_lightAt cX10_lightAt 1 (some FieldType.int) ∈ lw_good := lw_in 527 (by decide +kernel) rfl
theorem ws_X10_lightAt : Cond.static yX10_lightAt ∈ lw_good := lw_in 526 (by decide +kernel) rfl
theorem wf_X2_18 : Cond.fieldLink RX2 18 "DuskOnRopes$Clues" "used" "I" ∈ lw_good := lw_in 270 (by decide +kernel) rfl
theorem wf_X2_9 : Cond.fieldLink RX2 9 "DuskOnRopes$Clues" "yards" "[I" ∈ lw_good := lw_in 268 (by decide +kernel) rfl
theorem wf_X2_15 : Cond.fieldLink RX2 15 "DuskOnRopes$Clues" "values" "[I" ∈ lw_good := lw_in 269 (by decide +kernel) rfl
theorem wf_X2_25 : Cond.fieldLink RX2 25 "DuskOnRopes$Clues" "fitting" "I" ∈ lw_good := lw_in 273 (by decide +kernel) rfl
theorem wf_X2_34 : Cond.fieldLink RX2 34 "DuskOnRopes$Valley" "ropes" "I" ∈ lw_good := lw_in 104 (by decide +kernel) rfl
theorem wc_X2_slip : Cond.code yX2_slip cX2_slip 4 none ∈ lw_good := lw_in 716 (by decide +kernel) rfl
theorem wz_X2 : Cond.initialized RX2 ∈ lw_good := lw_in 43 (by decide +kernel) rfl
theorem wm_X2_39 : Cond.methodLink RX2 39 yX2_slip ∈ lw_good := lw_in 713 (by decide +kernel) rfl
theorem wi_X2_slip : Cond.instanceMethod yX2_slip ∈ lw_good := lw_in 715 (by decide +kernel) rfl
theorem wl_X2_slip : Cond.selects RX2 yX2_slip yX2_slip ∈ lw_good := lw_in 9 (by decide +kernel) rfl
theorem wc_X2_fits : Cond.code yX2_fits cX2_fits 3 (some FieldType.boolean) ∈ lw_good := lw_in 722 (by decide +kernel) rfl
theorem wm_X2_43 : Cond.methodLink RX2 43 yX2_fits ∈ lw_good := lw_in 719 (by decide +kernel) rfl
theorem wi_X2_fits : Cond.instanceMethod yX2_fits ∈ lw_good := lw_in 721 (by decide +kernel) rfl
theorem wl_X2_fits : Cond.selects RX2 yX2_fits yX2_fits ∈ lw_good := lw_in 10 (by decide +kernel) rfl
theorem wf_X2_22 : Cond.fieldLink RX2 22 "DuskOnRopes$Clues" "codes" "[I" ∈ lw_good := lw_in 271 (by decide +kernel) rfl
theorem wf_X2_31 : Cond.fieldLink RX2 31 "DuskOnRopes$Clues" "tally" "[I" ∈ lw_good := lw_in 276 (by decide +kernel) rfl
theorem wm_X2_47 : Cond.methodLink RX2 47 yJ7_fill_53178 ∈ lw_good := lw_in 732 (by decide +kernel) rfl
theorem wf_X2_28 : Cond.fieldLink RX2 28 "DuskOnRopes$Clues" "trial" "[I" ∈ lw_good := lw_in 275 (by decide +kernel) rfl
theorem wc_X9_lowness : Cond.code yX9_lowness cX9_lowness 6 (some FieldType.int) ∈ lw_good := lw_in 514 (by decide +kernel) rfl
theorem wm_X2_52 : Cond.methodLink RX2 52 yX9_lowness ∈ lw_good := lw_in 723 (by decide +kernel) rfl
theorem wi_X9_lowness : Cond.instanceMethod yX9_lowness ∈ lw_good := lw_in 512 (by decide +kernel) rfl
theorem wl_X9_lowness : Cond.selects RX9 yX9_lowness yX9_lowness ∈ lw_good := lw_in 513 (by decide +kernel) rfl
theorem wm_X2_60 : Cond.methodLink RX2 60 Lib.Math.max.name ∈ lw_good := lw_in 735 (by decide +kernel) rfl
theorem ws_max : Cond.static Lib.Math.max.name ∈ lw_good := lw_in 194 (by decide +kernel) rfl
theorem wz_math : Cond.initialized "java/lang/Math" ∈ lw_good := lw_in 39 (by decide +kernel) rfl
theorem wc_max : Cond.code Lib.Math.max.name Lib.Math.max.code 2 (some FieldType.int) ∈ lw_good := lw_in 195 (by decide +kernel) rfl
theorem wm_X2_66 : Cond.methodLink RX2 66 arraycopyName ∈ lw_good := lw_in 717 (by decide +kernel) rfl
theorem wv_copy : Cond.native arraycopyName ∈ lw_good := lw_in 647 (by decide +kernel) rfl
theorem ws_copy : Cond.static arraycopyName ∈ lw_good := lw_in 646 (by decide +kernel) rfl
theorem wz_system : Cond.initialized "java/lang/System" ∈ lw_good := lw_in 51 (by decide +kernel) rfl
theorem wf_X3_9 : Cond.fieldLink RX3 9 "DuskOnRopes$Dusk" "turns" "[I" ∈ lw_good := lw_in 164 (by decide +kernel) rfl
theorem wf_X3_25 : Cond.fieldLink RX3 25 "DuskOnRopes$Valley" "firstTurns" "[I" ∈ lw_good := lw_in 120 (by decide +kernel) rfl
theorem wf_X3_15 : Cond.fieldLink RX3 15 "DuskOnRopes$Dusk" "kinds" "[I" ∈ lw_good := lw_in 168 (by decide +kernel) rfl
theorem wf_X3_30 : Cond.fieldLink RX3 30 "DuskOnRopes$Valley" "firstKinds" "[I" ∈ lw_good := lw_in 118 (by decide +kernel) rfl
theorem wf_X3_18 : Cond.fieldLink RX3 18 "DuskOnRopes$Dusk" "hours" "I" ∈ lw_good := lw_in 172 (by decide +kernel) rfl
theorem wf_X3_22 : Cond.fieldLink RX3 22 "DuskOnRopes$Dusk" "cost" "I" ∈ lw_good := lw_in 176 (by decide +kernel) rfl
theorem wf_X3_33 : Cond.fieldLink RX3 33 "DuskOnRopes$Valley" "ropes" "I" ∈ lw_good := lw_in 102 (by decide +kernel) rfl
theorem wf_X3_36 : Cond.fieldLink RX3 36 "DuskOnRopes$Valley" "paces" "[I" ∈ lw_good := lw_in 115 (by decide +kernel) rfl
theorem wc_X10_turnsThen : Cond.code yX10_turnsThen cX10_turnsThen 7 (some FieldType.int) ∈ lw_good := lw_in 572 (by decide +kernel) rfl
theorem ws_X10_turnsThen : Cond.static yX10_turnsThen ∈ lw_good := lw_in 571 (by decide +kernel) rfl
theorem wm_X3_43 : Cond.methodLink RX3 43 yX9_sets ∈ lw_good := lw_in 628 (by decide +kernel) rfl
theorem wm_X3_47 : Cond.methodLink RX3 47 yX3_pass ∈ lw_good := lw_in 629 (by decide +kernel) rfl
theorem wf_X4_9 : Cond.fieldLink RX4 9 "DuskOnRopes$Planner" "fewest" "I" ∈ lw_good := lw_in 226 (by decide +kernel) rfl
theorem wf_X4_30 : Cond.fieldLink RX4 30 "DuskOnRopes$Valley" "ropes" "I" ∈ lw_good := lw_in 100 (by decide +kernel) rfl
theorem wf_X4_27 : Cond.fieldLink RX4 27 "DuskOnRopes$Planner" "outcomes" "[[I" ∈ lw_good := lw_in 232 (by decide +kernel) rfl
theorem wf_X4_35 : Cond.fieldLink RX4 35 "DuskOnRopes$Valley" "paces" "[I" ∈ lw_good := lw_in 114 (by decide +kernel) rfl
theorem wc_X4_outcome : Cond.code yX4_outcome cX4_outcome 6 (some FieldType.int) ∈ lw_good := lw_in 640 (by decide +kernel) rfl
theorem wz_X4 : Cond.initialized RX4 ∈ lw_good := lw_in 41 (by decide +kernel) rfl
theorem wm_X4_38 : Cond.methodLink RX4 38 yX4_outcome ∈ lw_good := lw_in 638 (by decide +kernel) rfl
theorem ws_X4_outcome : Cond.static yX4_outcome ∈ lw_good := lw_in 639 (by decide +kernel) rfl
theorem wc_X4_choose : Cond.code yX4_choose cX4_choose 5 none ∈ lw_good := lw_in 644 (by decide +kernel) rfl
theorem wm_X4_42 : Cond.methodLink RX4 42 yX4_choose ∈ lw_good := lw_in 642 (by decide +kernel) rfl
theorem ws_X4_choose : Cond.static yX4_choose ∈ lw_good := lw_in 643 (by decide +kernel) rfl
theorem wf_X4_46 : Cond.fieldLink RX4 46 "DuskOnRopes$Dusk" "turns" "[I" ∈ lw_good := lw_in 166 (by decide +kernel) rfl
theorem wf_X4_49 : Cond.fieldLink RX4 49 "DuskOnRopes$Dusk" "kinds" "[I" ∈ lw_good := lw_in 170 (by decide +kernel) rfl
theorem wf_X4_52 : Cond.fieldLink RX4 52 "DuskOnRopes$Dusk" "hours" "I" ∈ lw_good := lw_in 173 (by decide +kernel) rfl
theorem wf_X4_19 : Cond.fieldLink RX4 19 "DuskOnRopes$Planner" "hours" "[I" ∈ lw_good := lw_in 230 (by decide +kernel) rfl
theorem wf_X4_15 : Cond.fieldLink RX4 15 "DuskOnRopes$Planner" "bestHours" "[I" ∈ lw_good := lw_in 228 (by decide +kernel) rfl
theorem wm_X4_58 : Cond.methodLink RX4 58 arraycopyName ∈ lw_good := lw_in 645 (by decide +kernel) rfl
theorem wf_X4_22 : Cond.fieldLink RX4 22 "DuskOnRopes$Planner" "turns" "[I" ∈ lw_good := lw_in 231 (by decide +kernel) rfl
theorem wc_X9_meetsWantsEndingAt : Cond.code yX9_meetsWantsEndingAt cX9_meetsWantsEndingAt 5 (some FieldType.boolean) ∈ lw_good := lw_in 651 (by decide +kernel) rfl
theorem wm_X4_64 : Cond.methodLink RX4 64 yX9_meetsWantsEndingAt ∈ lw_good := lw_in 648 (by decide +kernel) rfl
theorem wi_X9_meetsWantsEndingAt : Cond.instanceMethod yX9_meetsWantsEndingAt ∈ lw_good := lw_in 649 (by decide +kernel) rfl
theorem wl_X9_meetsWantsEndingAt : Cond.selects RX9 yX9_meetsWantsEndingAt yX9_meetsWantsEndingAt ∈ lw_good := lw_in 650 (by decide +kernel) rfl
theorem wf_X5_9 : Cond.fieldLink RX5 9 "DuskOnRopes$Poster" "fewest" "I" ∈ lw_good := lw_in 250 (by decide +kernel) rfl
theorem wf_X5_22 : Cond.fieldLink RX5 22 "DuskOnRopes$Valley" "men" "I" ∈ lw_good := lw_in 107 (by decide +kernel) rfl
theorem wf_X5_27 : Cond.fieldLink RX5 27 "DuskOnRopes$Valley" "ropes" "I" ∈ lw_good := lw_in 101 (by decide +kernel) rfl
theorem wc_X5_choose : Cond.code yX5_choose cX5_choose 7 none ∈ lw_good := lw_in 675 (by decide +kernel) rfl
theorem wz_X5 : Cond.initialized RX5 ∈ lw_good := lw_in 42 (by decide +kernel) rfl
theorem wm_X5_30 : Cond.methodLink RX5 30 yX5_choose ∈ lw_good := lw_in 673 (by decide +kernel) rfl
theorem ws_X5_choose : Cond.static yX5_choose ∈ lw_good := lw_in 674 (by decide +kernel) rfl
theorem wf_X5_19 : Cond.fieldLink RX5 19 "DuskOnRopes$Poster" "posted" "[I" ∈ lw_good := lw_in 254 (by decide +kernel) rfl
theorem wf_X5_15 : Cond.fieldLink RX5 15 "DuskOnRopes$Poster" "bestMen" "[I" ∈ lw_good := lw_in 252 (by decide +kernel) rfl
theorem wm_X5_34 : Cond.methodLink RX5 34 arraycopyName ∈ lw_good := lw_in 676 (by decide +kernel) rfl
theorem wf_X5_40 : Cond.fieldLink RX5 40 "DuskOnRopes$Valley" "manYards" "[I" ∈ lw_good := lw_in 124 (by decide +kernel) rfl
theorem wf_X5_43 : Cond.fieldLink RX5 43 "DuskOnRopes$Valley" "ropeYards" "[I" ∈ lw_good := lw_in 111 (by decide +kernel) rfl
theorem wm_X5_46 : Cond.methodLink RX5 46 Lib.Math.abs.name ∈ lw_good := lw_in 677 (by decide +kernel) rfl
theorem ws_abs : Cond.static Lib.Math.abs.name ∈ lw_good := lw_in 678 (by decide +kernel) rfl
theorem wc_abs : Cond.code Lib.Math.abs.name Lib.Math.abs.code 1 (some FieldType.int) ∈ lw_good := lw_in 679 (by decide +kernel) rfl
theorem wc_X9_clear : Cond.code yX9_clear cX9_clear 1 none ∈ lw_good := lw_in 98 (by decide +kernel) rfl
theorem wm_X6_19 : Cond.methodLink RX6 19 yX9_clear ∈ lw_good := lw_in 363 (by decide +kernel) rfl
theorem wi_X9_clear : Cond.instanceMethod yX9_clear ∈ lw_good := lw_in 96 (by decide +kernel) rfl
theorem wl_X9_clear : Cond.selects RX9 yX9_clear yX9_clear ∈ lw_good := lw_in 97 (by decide +kernel) rfl
theorem wf_X6_15 : Cond.fieldLink RX6 15 "DuskOnRopes$Reader" "place" "I" ∈ lw_good := lw_in 82 (by decide +kernel) rfl
theorem wc_X8_length : Cond.code yX8_length cX8_length 1 (some FieldType.int) ∈ lw_good := lw_in 367 (by decide +kernel) rfl
theorem wz_X8 : Cond.initialized RX8 ∈ lw_good := lw_in 34 (by decide +kernel) rfl
theorem wm_X6_24 : Cond.methodLink RX6 24 yX8_length ∈ lw_good := lw_in 364 (by decide +kernel) rfl
theorem wi_X8_length : Cond.instanceMethod yX8_length ∈ lw_good := lw_in 365 (by decide +kernel) rfl
theorem wl_X8_length : Cond.selects RX8 yX8_length yX8_length ∈ lw_good := lw_in 366 (by decide +kernel) rfl
theorem wc_X8_letterAt : Cond.code yX8_letterAt cX8_letterAt 2 (some FieldType.int) ∈ lw_good := lw_in 371 (by decide +kernel) rfl
theorem wm_X6_30 : Cond.methodLink RX6 30 yX8_letterAt ∈ lw_good := lw_in 368 (by decide +kernel) rfl
theorem wi_X8_letterAt : Cond.instanceMethod yX8_letterAt ∈ lw_good := lw_in 369 (by decide +kernel) rfl
theorem wl_X8_letterAt : Cond.selects RX8 yX8_letterAt yX8_letterAt ∈ lw_good := lw_in 370 (by decide +kernel) rfl
theorem wc_X6_numbersBehind : Cond.code yX6_numbersBehind cX6_numbersBehind 1 (some FieldType.int) ∈ lw_good := lw_in 374 (by decide +kernel) rfl
theorem wz_X6 : Cond.initialized RX6 ∈ lw_good := lw_in 35 (by decide +kernel) rfl
theorem wm_X6_34 : Cond.methodLink RX6 34 yX6_numbersBehind ∈ lw_good := lw_in 372 (by decide +kernel) rfl
theorem ws_X6_numbersBehind : Cond.static yX6_numbersBehind ∈ lw_good := lw_in 373 (by decide +kernel) rfl
theorem wc_X6_readNumbers : Cond.code yX6_readNumbers cX6_readNumbers 6 (some FieldType.boolean) ∈ lw_good := lw_in 378 (by decide +kernel) rfl
theorem wm_X6_37 : Cond.methodLink RX6 37 yX6_readNumbers ∈ lw_good := lw_in 375 (by decide +kernel) rfl
theorem wi_X6_readNumbers : Cond.instanceMethod yX6_readNumbers ∈ lw_good := lw_in 377 (by decide +kernel) rfl
theorem wl_X6_readNumbers : Cond.selects RX6 yX6_readNumbers yX6_readNumbers ∈ lw_good := lw_in 1 (by decide +kernel) rfl
theorem wf_X6_9 : Cond.fieldLink RX6 9 "DuskOnRopes$Reader" "numbers" "[I" ∈ lw_good := lw_in 81 (by decide +kernel) rfl
theorem wc_X9_take : Cond.code yX9_take cX9_take 3 (some FieldType.boolean) ∈ lw_good := lw_in 389 (by decide +kernel) rfl
theorem wm_X6_41 : Cond.methodLink RX6 41 yX9_take ∈ lw_good := lw_in 386 (by decide +kernel) rfl
theorem wi_X9_take : Cond.instanceMethod yX9_take ∈ lw_good := lw_in 387 (by decide +kernel) rfl
theorem wl_X9_take : Cond.selects RX9 yX9_take yX9_take ∈ lw_good := lw_in 388 (by decide +kernel) rfl
theorem wc_X9_findNeighbours : Cond.code yX9_findNeighbours cX9_findNeighbours 5 none ∈ lw_good := lw_in 422 (by decide +kernel) rfl
theorem wm_X6_45 : Cond.methodLink RX6 45 yX9_findNeighbours ∈ lw_good := lw_in 419 (by decide +kernel) rfl
theorem wi_X9_findNeighbours : Cond.instanceMethod yX9_findNeighbours ∈ lw_good := lw_in 420 (by decide +kernel) rfl
theorem wl_X9_findNeighbours : Cond.selects RX9 yX9_findNeighbours yX9_findNeighbours ∈ lw_good := lw_in 421 (by decide +kernel) rfl
theorem wc_X6_readNumber : Cond.code yX6_readNumber cX6_readNumber 4 (some FieldType.int) ∈ lw_good := lw_in 382 (by decide +kernel) rfl
theorem wm_X6_48 : Cond.methodLink RX6 48 yX6_readNumber ∈ lw_good := lw_in 379 (by decide +kernel) rfl
theorem wi_X6_readNumber : Cond.instanceMethod yX6_readNumber ∈ lw_good := lw_in 381 (by decide +kernel) rfl
theorem wl_X6_readNumber : Cond.selects RX6 yX6_readNumber yX6_readNumber ∈ lw_good := lw_in 2 (by decide +kernel) rfl
theorem wc_X6_figure : Cond.code yX6_figure cX6_figure 1 (some FieldType.int) ∈ lw_good := lw_in 385 (by decide +kernel) rfl
theorem wm_X6_52 : Cond.methodLink RX6 52 yX6_figure ∈ lw_good := lw_in 383 (by decide +kernel) rfl
theorem ws_X6_figure : Cond.static yX6_figure ∈ lw_good := lw_in 384 (by decide +kernel) rfl
theorem wf_X7_22 : Cond.fieldLink RX7 22 "DuskOnRopes$Skies" "used" "I" ∈ lw_good := lw_in 200 (by decide +kernel) rfl
theorem wf_X7_15 : Cond.fieldLink RX7 15 "DuskOnRopes$Skies" "rows" "[LDuskOnRopes$Dusk;" ∈ lw_good := lw_in 199 (by decide +kernel) rfl
theorem wc_X7_isFull : Cond.code yX7_isFull cX7_isFull 1 (some FieldType.boolean) ∈ lw_good := lw_in 547 (by decide +kernel) rfl
theorem wz_X7 : Cond.initialized RX7 ∈ lw_good := lw_in 38 (by decide +kernel) rfl
theorem wm_X7_26 : Cond.methodLink RX7 26 yX7_isFull ∈ lw_good := lw_in 544 (by decide +kernel) rfl
theorem wi_X7_isFull : Cond.instanceMethod yX7_isFull ∈ lw_good := lw_in 545 (by decide +kernel) rfl
theorem wl_X7_isFull : Cond.selects RX7 yX7_isFull yX7_isFull ∈ lw_good := lw_in 546 (by decide +kernel) rfl
theorem wc_X7_dropOldest : Cond.code yX7_dropOldest cX7_dropOldest 3 none ∈ lw_good := lw_in 551 (by decide +kernel) rfl
theorem wm_X7_30 : Cond.methodLink RX7 30 yX7_dropOldest ∈ lw_good := lw_in 548 (by decide +kernel) rfl
theorem wi_X7_dropOldest : Cond.instanceMethod yX7_dropOldest ∈ lw_good := lw_in 550 (by decide +kernel) rfl
theorem wl_X7_dropOldest : Cond.selects RX7 yX7_dropOldest yX7_dropOldest ∈ lw_good := lw_in 8 (by decide +kernel) rfl
theorem wm_X7_33 : Cond.methodLink RX7 33 yX3_become ∈ lw_good := lw_in 552 (by decide +kernel) rfl
theorem wf_X8_15 : Cond.fieldLink RX8 15 "DuskOnRopes$Text" "length" "I" ∈ lw_good := lw_in 68 (by decide +kernel) rfl
theorem wf_X8_9 : Cond.fieldLink RX8 9 "DuskOnRopes$Text" "letters" "[C" ∈ lw_good := lw_in 67 (by decide +kernel) rfl
theorem wf_X9_42 : Cond.fieldLink RX9 42 "DuskOnRopes$Valley" "ropes" "I" ∈ lw_good := lw_in 99 (by decide +kernel) rfl
theorem wf_X9_46 : Cond.fieldLink RX9 46 "DuskOnRopes$Valley" "wants" "I" ∈ lw_good := lw_in 105 (by decide +kernel) rfl
theorem wf_X9_49 : Cond.fieldLink RX9 49 "DuskOnRopes$Valley" "men" "I" ∈ lw_good := lw_in 108 (by decide +kernel) rfl
theorem wf_X9_52 : Cond.fieldLink RX9 52 "DuskOnRopes$Valley" "downPrice" "I" ∈ lw_good := lw_in 125 (by decide +kernel) rfl
theorem wf_X9_55 : Cond.fieldLink RX9 55 "DuskOnRopes$Valley" "upPrice" "I" ∈ lw_good := lw_in 126 (by decide +kernel) rfl
theorem wc_X9_takeRope : Cond.code yX9_takeRope cX9_takeRope 5 (some FieldType.boolean) ∈ lw_good := lw_in 393 (by decide +kernel) rfl
theorem wm_X9_58 : Cond.methodLink RX9 58 yX9_takeRope ∈ lw_good := lw_in 390 (by decide +kernel) rfl
theorem wi_X9_takeRope : Cond.instanceMethod yX9_takeRope ∈ lw_good := lw_in 392 (by decide +kernel) rfl
theorem wl_X9_takeRope : Cond.selects RX9 yX9_takeRope yX9_takeRope ∈ lw_good := lw_in 3 (by decide +kernel) rfl
theorem wc_X9_takeWant : Cond.code yX9_takeWant cX9_takeWant 3 (some FieldType.boolean) ∈ lw_good := lw_in 407 (by decide +kernel) rfl
theorem wm_X9_62 : Cond.methodLink RX9 62 yX9_takeWant ∈ lw_good := lw_in 404 (by decide +kernel) rfl
theorem wi_X9_takeWant : Cond.instanceMethod yX9_takeWant ∈ lw_good := lw_in 406 (by decide +kernel) rfl
theorem wl_X9_takeWant : Cond.selects RX9 yX9_takeWant yX9_takeWant ∈ lw_good := lw_in 5 (by decide +kernel) rfl
theorem wc_X9_takeMan : Cond.code yX9_takeMan cX9_takeMan 2 (some FieldType.boolean) ∈ lw_good := lw_in 414 (by decide +kernel) rfl
theorem wm_X9_66 : Cond.methodLink RX9 66 yX9_takeMan ∈ lw_good := lw_in 411 (by decide +kernel) rfl
theorem wi_X9_takeMan : Cond.instanceMethod yX9_takeMan ∈ lw_good := lw_in 413 (by decide +kernel) rfl
theorem wl_X9_takeMan : Cond.selects RX9 yX9_takeMan yX9_takeMan ∈ lw_good := lw_in 6 (by decide +kernel) rfl
theorem wc_X9_takePrices : Cond.code yX9_takePrices cX9_takePrices 3 (some FieldType.boolean) ∈ lw_good := lw_in 418 (by decide +kernel) rfl
theorem wm_X9_70 : Cond.methodLink RX9 70 yX9_takePrices ∈ lw_good := lw_in 415 (by decide +kernel) rfl
theorem wi_X9_takePrices : Cond.instanceMethod yX9_takePrices ∈ lw_good := lw_in 417 (by decide +kernel) rfl
theorem wl_X9_takePrices : Cond.selects RX9 yX9_takePrices yX9_takePrices ∈ lw_good := lw_in 7 (by decide +kernel) rfl
theorem wc_X10_isYard : Cond.code yX10_isYard cX10_isYard 1 (some FieldType.boolean) ∈ lw_good := lw_in 396 (by decide +kernel) rfl
theorem ws_X10_isYard : Cond.static yX10_isYard ∈ lw_good := lw_in 395 (by decide +kernel) rfl
theorem wc_X9_ropeOver : Cond.code yX9_ropeOver cX9_ropeOver 3 (some FieldType.int) ∈ lw_good := lw_in 400 (by decide +kernel) rfl
theorem wm_X9_76 : Cond.methodLink RX9 76 yX9_ropeOver ∈ lw_good := lw_in 397 (by decide +kernel) rfl
theorem wi_X9_ropeOver : Cond.instanceMethod yX9_ropeOver ∈ lw_good := lw_in 399 (by decide +kernel) rfl
theorem wl_X9_ropeOver : Cond.selects RX9 yX9_ropeOver yX9_ropeOver ∈ lw_good := lw_in 4 (by decide +kernel) rfl
theorem wc_X10_isLowness : Cond.code yX10_isLowness cX10_isLowness 1 (some FieldType.boolean) ∈ lw_good := lw_in 403 (by decide +kernel) rfl
theorem ws_X10_isLowness : Cond.static yX10_isLowness ∈ lw_good := lw_in 402 (by decide +kernel) rfl
theorem wf_X9_9 : Cond.fieldLink RX9 9 "DuskOnRopes$Valley" "ropeYards" "[I" ∈ lw_good := lw_in 110 (by decide +kernel) rfl
theorem wf_X9_15 : Cond.fieldLink RX9 15 "DuskOnRopes$Valley" "paces" "[I" ∈ lw_good := lw_in 113 (by decide +kernel) rfl
theorem wf_X9_18 : Cond.fieldLink RX9 18 "DuskOnRopes$Valley" "firstKinds" "[I" ∈ lw_good := lw_in 117 (by decide +kernel) rfl
theorem wf_X9_21 : Cond.fieldLink RX9 21 "DuskOnRopes$Valley" "firstTurns" "[I" ∈ lw_good := lw_in 119 (by decide +kernel) rfl
theorem wc_X10_isLight : Cond.code yX10_isLight cX10_isLight 1 (some FieldType.boolean) ∈ lw_good := lw_in 410 (by decide +kernel) rfl
theorem ws_X10_isLight : Cond.static yX10_isLight ∈ lw_good := lw_in 409 (by decide +kernel) rfl
theorem wf_X9_24 : Cond.fieldLink RX9 24 "DuskOnRopes$Valley" "wantYards" "[I" ∈ lw_good := lw_in 121 (by decide +kernel) rfl
theorem wf_X9_27 : Cond.fieldLink RX9 27 "DuskOnRopes$Valley" "wantLights" "[I" ∈ lw_good := lw_in 122 (by decide +kernel) rfl
theorem wf_X9_30 : Cond.fieldLink RX9 30 "DuskOnRopes$Valley" "manYards" "[I" ∈ lw_good := lw_in 123 (by decide +kernel) rfl
theorem wf_X9_33 : Cond.fieldLink RX9 33 "DuskOnRopes$Valley" "before" "[I" ∈ lw_good := lw_in 127 (by decide +kernel) rfl
theorem wf_X9_36 : Cond.fieldLink RX9 36 "DuskOnRopes$Valley" "behind" "[I" ∈ lw_good := lw_in 128 (by decide +kernel) rfl
theorem wm_X9_86 : Cond.methodLink RX9 86 yX9_sets ∈ lw_good := lw_in 536 (by decide +kernel) rfl
theorem wc_J6_bitCount_0f7a4 : Cond.code yJ6_bitCount_0f7a4 cJ6_bitCount_0f7a4 1 (some FieldType.int) ∈ lw_good := lw_in 562 (by decide +kernel) rfl
theorem wz_J6 : Cond.initialized RJ6 ∈ lw_good := lw_in 50 (by decide +kernel) rfl
theorem wm_X9_90 : Cond.methodLink RX9 90 yJ6_bitCount_0f7a4 ∈ lw_good := lw_in 560 (by decide +kernel) rfl
theorem ws_J6_bitCount_0f7a4 : Cond.static yJ6_bitCount_0f7a4 ∈ lw_good := lw_in 561 (by decide +kernel) rfl
theorem wc_X9_hasRope : Cond.code yX9_hasRope cX9_hasRope 2 (some FieldType.boolean) ∈ lw_good := lw_in 505 (by decide +kernel) rfl
theorem wm_X9_95 : Cond.methodLink RX9 95 yX9_hasRope ∈ lw_good := lw_in 515 (by decide +kernel) rfl
theorem wi_X9_hasRope : Cond.instanceMethod yX9_hasRope ∈ lw_good := lw_in 503 (by decide +kernel) rfl
theorem wl_X9_hasRope : Cond.selects RX9 yX9_hasRope yX9_hasRope ∈ lw_good := lw_in 504 (by decide +kernel) rfl
theorem wm_X9_98 : Cond.methodLink RX9 98 yX9_lowness ∈ lw_good := lw_in 524 (by decide +kernel) rfl
theorem wm_X9_105 : Cond.methodLink RX9 105 yX9_lightOver ∈ lw_good := lw_in 608 (by decide +kernel) rfl
theorem wc_X9_isMet : Cond.code yX9_isMet cX9_isMet 3 (some FieldType.boolean) ∈ lw_good := lw_in 607 (by decide +kernel) rfl
theorem wm_X9_108 : Cond.methodLink RX9 108 yX9_isMet ∈ lw_good := lw_in 604 (by decide +kernel) rfl
theorem wi_X9_isMet : Cond.instanceMethod yX9_isMet ∈ lw_good := lw_in 605 (by decide +kernel) rfl
theorem wl_X9_isMet : Cond.selects RX9 yX9_isMet yX9_isMet ∈ lw_good := lw_in 606 (by decide +kernel) rfl
theorem wm_X9_112 : Cond.methodLink RX9 112 Lib.Math.max.name ∈ lw_good := lw_in 652 (by decide +kernel) rfl
theorem wf_X10_10 : Cond.fieldLink RX10 10 "DuskOnRopes" "text" "LDuskOnRopes$Text;" ∈ lw_good := lw_in 431 (by decide +kernel) rfl
theorem wc_X8_isFull : Cond.code yX8_isFull cX8_isFull 1 (some FieldType.boolean) ∈ lw_good := lw_in 476 (by decide +kernel) rfl
theorem wm_X10_90 : Cond.methodLink RX10 90 yX8_isFull ∈ lw_good := lw_in 473 (by decide +kernel) rfl
theorem wi_X8_isFull : Cond.instanceMethod yX8_isFull ∈ lw_good := lw_in 474 (by decide +kernel) rfl
theorem wl_X8_isFull : Cond.selects RX8 yX8_isFull yX8_isFull ∈ lw_good := lw_in 475 (by decide +kernel) rfl
theorem wc_X8_add : Cond.code yX8_add cX8_add 2 none ∈ lw_good := lw_in 358 (by decide +kernel) rfl
theorem wm_X10_94 : Cond.methodLink RX10 94 yX8_add ∈ lw_good := lw_in 355 (by decide +kernel) rfl
theorem wi_X8_add : Cond.instanceMethod yX8_add ∈ lw_good := lw_in 356 (by decide +kernel) rfl
theorem wl_X8_add : Cond.selects RX8 yX8_add yX8_add ∈ lw_good := lw_in 357 (by decide +kernel) rfl
theorem wm_X10_98 : Cond.methodLink RX10 98 yX8_length ∈ lw_good := lw_in 477 (by decide +kernel) rfl
theorem wc_X8_clear : Cond.code yX8_clear cX8_clear 1 none ∈ lw_good := lw_in 430 (by decide +kernel) rfl
theorem wm_X10_102 : Cond.methodLink RX10 102 yX8_clear ∈ lw_good := lw_in 427 (by decide +kernel) rfl
theorem wi_X8_clear : Cond.instanceMethod yX8_clear ∈ lw_good := lw_in 428 (by decide +kernel) rfl
theorem wl_X8_clear : Cond.selects RX8 yX8_clear yX8_clear ∈ lw_good := lw_in 429 (by decide +kernel) rfl
theorem wf_X10_19 : Cond.fieldLink RX10 19 "DuskOnRopes" "reader" "LDuskOnRopes$Reader;" ∈ lw_good := lw_in 432 (by decide +kernel) rfl
theorem wf_X10_30 : Cond.fieldLink RX10 30 "DuskOnRopes" "draft" "LDuskOnRopes$Valley;" ∈ lw_good := lw_in 434 (by decide +kernel) rfl
theorem wc_X6_read : Cond.code yX6_read cX6_read 6 (some FieldType.int) ∈ lw_good := lw_in 362 (by decide +kernel) rfl
theorem wm_X10_105 : Cond.methodLink RX10 105 yX6_read ∈ lw_good := lw_in 359 (by decide +kernel) rfl
theorem wi_X6_read : Cond.instanceMethod yX6_read ∈ lw_good := lw_in 360 (by decide +kernel) rfl
theorem wl_X6_read : Cond.selects RX6 yX6_read yX6_read ∈ lw_good := lw_in 361 (by decide +kernel) rfl
theorem wf_X10_109 : Cond.fieldLink RX10 109 "DuskOnRopes$Valley" "ropes" "I" ∈ lw_good := lw_in 103 (by decide +kernel) rfl
theorem wf_X10_26 : Cond.fieldLink RX10 26 "DuskOnRopes" "valley" "LDuskOnRopes$Valley;" ∈ lw_good := lw_in 433 (by decide +kernel) rfl
theorem wf_X10_36 : Cond.fieldLink RX10 36 "DuskOnRopes" "now" "LDuskOnRopes$Dusk;" ∈ lw_good := lw_in 435 (by decide +kernel) rfl
theorem wc_X3_begin : Cond.code yX3_begin cX3_begin 3 none ∈ lw_good := lw_in 426 (by decide +kernel) rfl
theorem wm_X10_113 : Cond.methodLink RX10 113 yX3_begin ∈ lw_good := lw_in 423 (by decide +kernel) rfl
theorem wi_X3_begin : Cond.instanceMethod yX3_begin ∈ lw_good := lw_in 424 (by decide +kernel) rfl
theorem wl_X3_begin : Cond.selects RX3 yX3_begin yX3_begin ∈ lw_good := lw_in 425 (by decide +kernel) rfl
theorem wf_X10_45 : Cond.fieldLink RX10 45 "DuskOnRopes" "undoable" "LDuskOnRopes$Skies;" ∈ lw_good := lw_in 436 (by decide +kernel) rfl
theorem wc_X7_clear : Cond.code yX7_clear cX7_clear 1 none ∈ lw_good := lw_in 493 (by decide +kernel) rfl
theorem wm_X10_117 : Cond.methodLink RX10 117 yX7_clear ∈ lw_good := lw_in 490 (by decide +kernel) rfl
theorem wi_X7_clear : Cond.instanceMethod yX7_clear ∈ lw_good := lw_in 491 (by decide +kernel) rfl
theorem wl_X7_clear : Cond.selects RX7 yX7_clear yX7_clear ∈ lw_good := lw_in 492 (by decide +kernel) rfl
theorem wf_X10_49 : Cond.fieldLink RX10 49 "DuskOnRopes" "kept" "LDuskOnRopes$Skies;" ∈ lw_good := lw_in 437 (by decide +kernel) rfl
theorem wf_X10_76 : Cond.fieldLink RX10 76 "DuskOnRopes" "clues" "LDuskOnRopes$Clues;" ∈ lw_good := lw_in 441 (by decide +kernel) rfl
theorem wc_X2_clear : Cond.code yX2_clear cX2_clear 1 none ∈ lw_good := lw_in 497 (by decide +kernel) rfl
theorem wm_X10_118 : Cond.methodLink RX10 118 yX2_clear ∈ lw_good := lw_in 494 (by decide +kernel) rfl
theorem wi_X2_clear : Cond.instanceMethod yX2_clear ∈ lw_good := lw_in 495 (by decide +kernel) rfl
theorem wl_X2_clear : Cond.selects RX2 yX2_clear yX2_clear ∈ lw_good := lw_in 496 (by decide +kernel) rfl
theorem wm_X10_119 : Cond.methodLink RX10 119 yX9_hasRope ∈ lw_good := lw_in 502 (by decide +kernel) rfl
theorem wf_X10_123 : Cond.fieldLink RX10 123 "DuskOnRopes$Valley" "ropeYards" "[I" ∈ lw_good := lw_in 112 (by decide +kernel) rfl
theorem wf_X10_127 : Cond.fieldLink RX10 127 "DuskOnRopes$Valley" "paces" "[I" ∈ lw_good := lw_in 116 (by decide +kernel) rfl
theorem wf_X10_130 : Cond.fieldLink RX10 130 "DuskOnRopes$Dusk" "kinds" "[I" ∈ lw_good := lw_in 171 (by decide +kernel) rfl
theorem wf_X10_133 : Cond.fieldLink RX10 133 "DuskOnRopes$Dusk" "turns" "[I" ∈ lw_good := lw_in 167 (by decide +kernel) rfl
theorem wm_X10_136 : Cond.methodLink RX10 136 yX10_isYard ∈ lw_good := lw_in 510 (by decide +kernel) rfl
theorem wm_X10_139 : Cond.methodLink RX10 139 yX9_lowness ∈ lw_good := lw_in 511 (by decide +kernel) rfl
theorem wm_X10_143 : Cond.methodLink RX10 143 yX9_lightOver ∈ lw_good := lw_in 520 (by decide +kernel) rfl
theorem wc_X9_hasSet : Cond.code yX9_hasSet cX9_hasSet 2 (some FieldType.boolean) ∈ lw_good := lw_in 535 (by decide +kernel) rfl
theorem wm_X10_146 : Cond.methodLink RX10 146 yX9_hasSet ∈ lw_good := lw_in 532 (by decide +kernel) rfl
theorem wi_X9_hasSet : Cond.instanceMethod yX9_hasSet ∈ lw_good := lw_in 533 (by decide +kernel) rfl
theorem wl_X9_hasSet : Cond.selects RX9 yX9_hasSet yX9_hasSet ∈ lw_good := lw_in 534 (by decide +kernel) rfl
theorem wf_X10_149 : Cond.fieldLink RX10 149 "DuskOnRopes$Dusk" "hours" "I" ∈ lw_good := lw_in 175 (by decide +kernel) rfl
theorem wc_X7_push : Cond.code yX7_push cX7_push 2 none ∈ lw_good := lw_in 543 (by decide +kernel) rfl
theorem wm_X10_152 : Cond.methodLink RX10 152 yX7_push ∈ lw_good := lw_in 540 (by decide +kernel) rfl
theorem wi_X7_push : Cond.instanceMethod yX7_push ∈ lw_good := lw_in 541 (by decide +kernel) rfl
theorem wl_X7_push : Cond.selects RX7 yX7_push yX7_push ∈ lw_good := lw_in 542 (by decide +kernel) rfl
theorem wc_X9_price : Cond.code yX9_price cX9_price 3 (some FieldType.int) ∈ lw_good := lw_in 559 (by decide +kernel) rfl
theorem wm_X10_156 : Cond.methodLink RX10 156 yX9_price ∈ lw_good := lw_in 556 (by decide +kernel) rfl
theorem wi_X9_price : Cond.instanceMethod yX9_price ∈ lw_good := lw_in 557 (by decide +kernel) rfl
theorem wl_X9_price : Cond.selects RX9 yX9_price yX9_price ∈ lw_good := lw_in 558 (by decide +kernel) rfl
theorem wm_X10_160 : Cond.methodLink RX10 160 yX3_pass ∈ lw_good := lw_in 566 (by decide +kernel) rfl
theorem wf_X10_164 : Cond.fieldLink RX10 164 "DuskOnRopes$Dusk" "cost" "I" ∈ lw_good := lw_in 177 (by decide +kernel) rfl
theorem wc_X7_size : Cond.code yX7_size cX7_size 1 (some FieldType.int) ∈ lw_good := lw_in 591 (by decide +kernel) rfl
theorem wm_X10_167 : Cond.methodLink RX10 167 yX7_size ∈ lw_good := lw_in 588 (by decide +kernel) rfl
theorem wi_X7_size : Cond.instanceMethod yX7_size ∈ lw_good := lw_in 589 (by decide +kernel) rfl
theorem wl_X7_size : Cond.selects RX7 yX7_size yX7_size ∈ lw_good := lw_in 590 (by decide +kernel) rfl
theorem wc_X7_popInto : Cond.code yX7_popInto cX7_popInto 2 none ∈ lw_good := lw_in 595 (by decide +kernel) rfl
theorem wm_X10_170 : Cond.methodLink RX10 170 yX7_popInto ∈ lw_good := lw_in 592 (by decide +kernel) rfl
theorem wi_X7_popInto : Cond.instanceMethod yX7_popInto ∈ lw_good := lw_in 593 (by decide +kernel) rfl
theorem wl_X7_popInto : Cond.selects RX7 yX7_popInto yX7_popInto ∈ lw_good := lw_in 594 (by decide +kernel) rfl
theorem wc_X9_metBits : Cond.code yX9_metBits cX9_metBits 4 (some FieldType.int) ∈ lw_good := lw_in 603 (by decide +kernel) rfl
theorem wm_X10_173 : Cond.methodLink RX10 173 yX9_metBits ∈ lw_good := lw_in 600 (by decide +kernel) rfl
theorem wi_X9_metBits : Cond.instanceMethod yX9_metBits ∈ lw_good := lw_in 601 (by decide +kernel) rfl
theorem wl_X9_metBits : Cond.selects RX9 yX9_metBits yX9_metBits ∈ lw_good := lw_in 602 (by decide +kernel) rfl
theorem wm_X10_177 : Cond.methodLink RX10 177 yX10_isLight ∈ lw_good := lw_in 617 (by decide +kernel) rfl
theorem wf_X10_55 : Cond.fieldLink RX10 55 "DuskOnRopes" "ahead" "LDuskOnRopes$Ahead;" ∈ lw_good := lw_in 438 (by decide +kernel) rfl
theorem wc_X0_hoursUntil : Cond.code yX0_hoursUntil cX0_hoursUntil 6 (some FieldType.int) ∈ lw_good := lw_in 621 (by decide +kernel) rfl
theorem wz_X0 : Cond.initialized RX0 ∈ lw_good := lw_in 40 (by decide +kernel) rfl
theorem wm_X10_180 : Cond.methodLink RX10 180 yX0_hoursUntil ∈ lw_good := lw_in 618 (by decide +kernel) rfl
theorem wi_X0_hoursUntil : Cond.instanceMethod yX0_hoursUntil ∈ lw_good := lw_in 619 (by decide +kernel) rfl
theorem wl_X0_hoursUntil : Cond.selects RX0 yX0_hoursUntil yX0_hoursUntil ∈ lw_good := lw_in 620 (by decide +kernel) rfl
theorem wf_X10_62 : Cond.fieldLink RX10 62 "DuskOnRopes" "planner" "LDuskOnRopes$Planner;" ∈ lw_good := lw_in 439 (by decide +kernel) rfl
theorem wc_X4_search : Cond.code yX4_search cX4_search 5 none ∈ lw_good := lw_in 637 (by decide +kernel) rfl
theorem wm_X10_184 : Cond.methodLink RX10 184 yX4_search ∈ lw_good := lw_in 634 (by decide +kernel) rfl
theorem wi_X4_search : Cond.instanceMethod yX4_search ∈ lw_good := lw_in 635 (by decide +kernel) rfl
theorem wl_X4_search : Cond.selects RX4 yX4_search yX4_search ∈ lw_good := lw_in 636 (by decide +kernel) rfl
theorem wf_X10_188 : Cond.fieldLink RX10 188 "DuskOnRopes$Planner" "fewest" "I" ∈ lw_good := lw_in 227 (by decide +kernel) rfl
theorem wf_X10_191 : Cond.fieldLink RX10 191 "DuskOnRopes$Planner" "bestHours" "[I" ∈ lw_good := lw_in 229 (by decide +kernel) rfl
theorem wc_X0_nightsIfGreased : Cond.code yX0_nightsIfGreased cX0_nightsIfGreased 6 (some FieldType.int) ∈ lw_good := lw_in 660 (by decide +kernel) rfl
theorem wm_X10_194 : Cond.methodLink RX10 194 yX0_nightsIfGreased ∈ lw_good := lw_in 657 (by decide +kernel) rfl
theorem wi_X0_nightsIfGreased : Cond.instanceMethod yX0_nightsIfGreased ∈ lw_good := lw_in 658 (by decide +kernel) rfl
theorem wl_X0_nightsIfGreased : Cond.selects RX0 yX0_nightsIfGreased yX0_nightsIfGreased ∈ lw_good := lw_in 659 (by decide +kernel) rfl
theorem wf_X10_69 : Cond.fieldLink RX10 69 "DuskOnRopes" "poster" "LDuskOnRopes$Poster;" ∈ lw_good := lw_in 440 (by decide +kernel) rfl
theorem wc_X5_search : Cond.code yX5_search cX5_search 2 none ∈ lw_good := lw_in 672 (by decide +kernel) rfl
theorem wm_X10_197 : Cond.methodLink RX10 197 yX5_search ∈ lw_good := lw_in 669 (by decide +kernel) rfl
theorem wi_X5_search : Cond.instanceMethod yX5_search ∈ lw_good := lw_in 670 (by decide +kernel) rfl
theorem wl_X5_search : Cond.selects RX5 yX5_search yX5_search ∈ lw_good := lw_in 671 (by decide +kernel) rfl
theorem wf_X10_199 : Cond.fieldLink RX10 199 "DuskOnRopes$Poster" "fewest" "I" ∈ lw_good := lw_in 251 (by decide +kernel) rfl
theorem wf_X10_200 : Cond.fieldLink RX10 200 "DuskOnRopes$Poster" "bestMen" "[I" ∈ lw_good := lw_in 253 (by decide +kernel) rfl
theorem wm_X10_203 : Cond.methodLink RX10 203 yX10_isLowness ∈ lw_good := lw_in 688 (by decide +kernel) rfl
theorem wc_X2_isFull : Cond.code yX2_isFull cX2_isFull 1 (some FieldType.boolean) ∈ lw_good := lw_in 692 (by decide +kernel) rfl
theorem wm_X10_206 : Cond.methodLink RX10 206 yX2_isFull ∈ lw_good := lw_in 689 (by decide +kernel) rfl
theorem wi_X2_isFull : Cond.instanceMethod yX2_isFull ∈ lw_good := lw_in 690 (by decide +kernel) rfl
theorem wl_X2_isFull : Cond.selects RX2 yX2_isFull yX2_isFull ∈ lw_good := lw_in 691 (by decide +kernel) rfl
theorem wc_X2_add : Cond.code yX2_add cX2_add 3 none ∈ lw_good := lw_in 696 (by decide +kernel) rfl
theorem wm_X10_207 : Cond.methodLink RX10 207 yX2_add ∈ lw_good := lw_in 693 (by decide +kernel) rfl
theorem wi_X2_add : Cond.instanceMethod yX2_add ∈ lw_good := lw_in 694 (by decide +kernel) rfl
theorem wl_X2_add : Cond.selects RX2 yX2_add yX2_add ∈ lw_good := lw_in 695 (by decide +kernel) rfl
theorem wc_X2_size : Cond.code yX2_size cX2_size 1 (some FieldType.int) ∈ lw_good := lw_in 700 (by decide +kernel) rfl
theorem wm_X10_210 : Cond.methodLink RX10 210 yX2_size ∈ lw_good := lw_in 697 (by decide +kernel) rfl
theorem wi_X2_size : Cond.instanceMethod yX2_size ∈ lw_good := lw_in 698 (by decide +kernel) rfl
theorem wl_X2_size : Cond.selects RX2 yX2_size yX2_size ∈ lw_good := lw_in 699 (by decide +kernel) rfl
theorem wc_X2_findFitting : Cond.code yX2_findFitting cX2_findFitting 4 none ∈ lw_good := lw_in 712 (by decide +kernel) rfl
theorem wm_X10_211 : Cond.methodLink RX10 211 yX2_findFitting ∈ lw_good := lw_in 709 (by decide +kernel) rfl
theorem wi_X2_findFitting : Cond.instanceMethod yX2_findFitting ∈ lw_good := lw_in 710 (by decide +kernel) rfl
theorem wl_X2_findFitting : Cond.selects RX2 yX2_findFitting yX2_findFitting ∈ lw_good := lw_in 711 (by decide +kernel) rfl
theorem wf_X10_215 : Cond.fieldLink RX10 215 "DuskOnRopes$Clues" "fitting" "I" ∈ lw_good := lw_in 274 (by decide +kernel) rfl
theorem wf_X10_218 : Cond.fieldLink RX10 218 "DuskOnRopes$Clues" "codes" "[I" ∈ lw_good := lw_in 272 (by decide +kernel) rfl
theorem wc_X2_mostAlike : Cond.code yX2_mostAlike cX2_mostAlike 7 (some FieldType.int) ∈ lw_good := lw_in 731 (by decide +kernel) rfl
theorem wm_X10_221 : Cond.methodLink RX10 221 yX2_mostAlike ∈ lw_good := lw_in 728 (by decide +kernel) rfl
theorem wi_X2_mostAlike : Cond.instanceMethod yX2_mostAlike ∈ lw_good := lw_in 729 (by decide +kernel) rfl
theorem wl_X2_mostAlike : Cond.selects RX2 yX2_mostAlike yX2_mostAlike ∈ lw_good := lw_in 730 (by decide +kernel) rfl
theorem wm_X10_225 : Cond.methodLink RX10 225 yX10_turnsThen ∈ lw_good := lw_in 740 (by decide +kernel) rfl
theorem wf_X10_83 : Cond.fieldLink RX10 83 "DuskOnRopes" "chances" "LDuskOnRopes$Chances;" ∈ lw_good := lw_in 442 (by decide +kernel) rfl
theorem wc_X1_spread : Cond.code yX1_spread cX1_spread 5 none ∈ lw_good := lw_in 748 (by decide +kernel) rfl
theorem wz_X1 : Cond.initialized RX1 ∈ lw_good := lw_in 44 (by decide +kernel) rfl
theorem wm_X10_229 : Cond.methodLink RX10 229 yX1_spread ∈ lw_good := lw_in 745 (by decide +kernel) rfl
theorem wi_X1_spread : Cond.instanceMethod yX1_spread ∈ lw_good := lw_in 746 (by decide +kernel) rfl
theorem wl_X1_spread : Cond.selects RX1 yX1_spread yX1_spread ∈ lw_good := lw_in 747 (by decide +kernel) rfl
theorem wc_X1_waysToLight : Cond.code yX1_waysToLight cX1_waysToLight 6 (some FieldType.int) ∈ lw_good := lw_in 753 (by decide +kernel) rfl
theorem wm_X10_232 : Cond.methodLink RX10 232 yX1_waysToLight ∈ lw_good := lw_in 750 (by decide +kernel) rfl
theorem wi_X1_waysToLight : Cond.instanceMethod yX1_waysToLight ∈ lw_good := lw_in 751 (by decide +kernel) rfl
theorem wl_X1_waysToLight : Cond.selects RX1 yX1_waysToLight yX1_waysToLight ∈ lw_good := lw_in 752 (by decide +kernel) rfl
theorem wc_X1_allWays : Cond.code yX1_allWays cX1_allWays 4 (some FieldType.int) ∈ lw_good := lw_in 759 (by decide +kernel) rfl
theorem wm_X10_236 : Cond.methodLink RX10 236 yX1_allWays ∈ lw_good := lw_in 756 (by decide +kernel) rfl
theorem wi_X1_allWays : Cond.instanceMethod yX1_allWays ∈ lw_good := lw_in 757 (by decide +kernel) rfl
theorem wl_X1_allWays : Cond.selects RX1 yX1_allWays yX1_allWays ∈ lw_good := lw_in 758 (by decide +kernel) rfl
theorem wc_X10_commonDivisor : Cond.code yX10_commonDivisor cX10_commonDivisor 6 (some FieldType.int) ∈ lw_good := lw_in 762 (by decide +kernel) rfl
theorem wm_X10_240 : Cond.methodLink RX10 240 yX10_commonDivisor ∈ lw_good := lw_in 760 (by decide +kernel) rfl
theorem ws_X10_commonDivisor : Cond.static yX10_commonDivisor ∈ lw_good := lw_in 761 (by decide +kernel) rfl
theorem wc_X0_drawn : Cond.code yX0_drawn cX0_drawn 12 (some (FieldType.object "DuskOnRopes$Dusk")) ∈ lw_good := lw_in 774 (by decide +kernel) rfl
theorem wm_X10_243 : Cond.methodLink RX10 243 yX0_drawn ∈ lw_good := lw_in 771 (by decide +kernel) rfl
theorem wi_X0_drawn : Cond.instanceMethod yX0_drawn ∈ lw_good := lw_in 772 (by decide +kernel) rfl
theorem wl_X0_drawn : Cond.selects RX0 yX0_drawn yX0_drawn ∈ lw_good := lw_in 773 (by decide +kernel) rfl
theorem wm_X10_247 : Cond.methodLink RX10 247 yJ6_bitCount_0f7a4 ∈ lw_good := lw_in 780 (by decide +kernel) rfl
theorem wm_X10_252 : Cond.methodLink RX10 252 yX9_nights ∈ lw_good := lw_in 781 (by decide +kernel) rfl
theorem wm_X10_255 : Cond.methodLink RX10 255 yX7_isFull ∈ lw_good := lw_in 786 (by decide +kernel) rfl
theorem wf_X10_256 : Cond.fieldLink RX10 256 "DuskOnRopes$Valley" "wants" "I" ∈ lw_good := lw_in 106 (by decide +kernel) rfl
theorem wf_X10_259 : Cond.fieldLink RX10 259 "DuskOnRopes$Valley" "men" "I" ∈ lw_good := lw_in 109 (by decide +kernel) rfl
theorem wm_X10_271 : Cond.methodLink RX10 271 Lib.Math.min.name ∈ lw_good := lw_in 576 (by decide +kernel) rfl
theorem ws_min : Cond.static Lib.Math.min.name ∈ lw_good := lw_in 577 (by decide +kernel) rfl
theorem wc_min : Cond.code Lib.Math.min.name Lib.Math.min.code 2 (some FieldType.int) ∈ lw_good := lw_in 578 (by decide +kernel) rfl
theorem wm_X10_276 : Cond.methodLink RX10 276 Lib.Math.max.name ∈ lw_good := lw_in 579 (by decide +kernel) rfl
theorem wm_X10_279 : Cond.methodLink RX10 279 yX10_within ∈ lw_good := lw_in 573 (by decide +kernel) rfl
theorem wk_J6_265 : Cond.constant RJ6 265 (Int32.ofInt 1431655765) ∈ lw_good := lw_in 563 (by decide +kernel) rfl
theorem wk_J6_266 : Cond.constant RJ6 266 (Int32.ofInt 858993459) ∈ lw_good := lw_in 564 (by decide +kernel) rfl
theorem wk_J6_267 : Cond.constant RJ6 267 (Int32.ofInt 252645135) ∈ lw_good := lw_in 565 (by decide +kernel) rfl
theorem wf_X11_13 : Cond.fieldLink RX11 13 "DuskOnRopesModel" "told" "[I" ∈ lw_good := lw_in 823 (by decide +kernel) rfl
theorem wc_X11_in : Cond.code yX11_in cX11_in 3 (some FieldType.boolean) ∈ lw_good := lw_in 876 (by decide +kernel) rfl
theorem wz_X11 : Cond.initialized RX11 ∈ lw_good := lw_in 49 (by decide +kernel) rfl
theorem wm_X11_61 : Cond.methodLink RX11 61 yX11_in ∈ lw_good := lw_in 874 (by decide +kernel) rfl
theorem ws_X11_in : Cond.static yX11_in ∈ lw_good := lw_in 875 (by decide +kernel) rfl
theorem wf_X11_65 : Cond.fieldLink RX11 65 "DuskOnRopesModel" "typed" "I" ∈ lw_good := lw_in 822 (by decide +kernel) rfl
theorem wf_X11_7 : Cond.fieldLink RX11 7 "DuskOnRopesModel" "text" "[I" ∈ lw_good := lw_in 821 (by decide +kernel) rfl
theorem wf_X11_69 : Cond.fieldLink RX11 69 "DuskOnRopesModel" "at" "I" ∈ lw_good := lw_in 832 (by decide +kernel) rfl
theorem wc_X11_letterAt : Cond.code yX11_letterAt cX11_letterAt 2 (some FieldType.int) ∈ lw_good := lw_in 900 (by decide +kernel) rfl
theorem wm_X11_72 : Cond.methodLink RX11 72 yX11_letterAt ∈ lw_good := lw_in 897 (by decide +kernel) rfl
theorem wi_X11_letterAt : Cond.instanceMethod yX11_letterAt ∈ lw_good := lw_in 899 (by decide +kernel) rfl
theorem wl_X11_letterAt : Cond.selects RX11 yX11_letterAt yX11_letterAt ∈ lw_good := lw_in 19 (by decide +kernel) rfl
theorem wc_X11_isFigure : Cond.code yX11_isFigure cX11_isFigure 1 (some FieldType.boolean) ∈ lw_good := lw_in 907 (by decide +kernel) rfl
theorem wm_X11_76 : Cond.methodLink RX11 76 yX11_isFigure ∈ lw_good := lw_in 905 (by decide +kernel) rfl
theorem ws_X11_isFigure : Cond.static yX11_isFigure ∈ lw_good := lw_in 906 (by decide +kernel) rfl
theorem wf_X11_31 : Cond.fieldLink RX11 31 "DuskOnRopesModel" "numbers" "[I" ∈ lw_good := lw_in 833 (by decide +kernel) rfl
theorem wc_X11_number : Cond.code yX11_number cX11_number 2 (some FieldType.int) ∈ lw_good := lw_in 904 (by decide +kernel) rfl
theorem wm_X11_80 : Cond.methodLink RX11 80 yX11_number ∈ lw_good := lw_in 901 (by decide +kernel) rfl
theorem wi_X11_number : Cond.instanceMethod yX11_number ∈ lw_good := lw_in 903 (by decide +kernel) rfl
theorem wl_X11_number : Cond.selects RX11 yX11_number yX11_number ∈ lw_good := lw_in 20 (by decide +kernel) rfl
theorem wf_X11_16 : Cond.fieldLink RX11 16 "DuskOnRopesModel" "draft" "[I" ∈ lw_good := lw_in 824 (by decide +kernel) rfl
theorem wc_X11_reads : Cond.code yX11_reads cX11_reads 4 (some FieldType.boolean) ∈ lw_good := lw_in 896 (by decide +kernel) rfl
theorem wm_X11_84 : Cond.methodLink RX11 84 yX11_reads ∈ lw_good := lw_in 893 (by decide +kernel) rfl
theorem wi_X11_reads : Cond.instanceMethod yX11_reads ∈ lw_good := lw_in 895 (by decide +kernel) rfl
theorem wl_X11_reads : Cond.selects RX11 yX11_reads yX11_reads ∈ lw_good := lw_in 18 (by decide +kernel) rfl
theorem wc_X11_isYard : Cond.code yX11_isYard cX11_isYard 1 (some FieldType.boolean) ∈ lw_good := lw_in 910 (by decide +kernel) rfl
theorem wm_X11_87 : Cond.methodLink RX11 87 yX11_isYard ∈ lw_good := lw_in 908 (by decide +kernel) rfl
theorem ws_X11_isYard : Cond.static yX11_isYard ∈ lw_good := lw_in 909 (by decide +kernel) rfl
theorem wc_X11_ropeOf : Cond.code yX11_ropeOf cX11_ropeOf 6 none ∈ lw_good := lw_in 808 (by decide +kernel) rfl
theorem wm_X11_46 : Cond.methodLink RX11 46 yX11_ropeOf ∈ lw_good := lw_in 805 (by decide +kernel) rfl
theorem wi_X11_ropeOf : Cond.instanceMethod yX11_ropeOf ∈ lw_good := lw_in 807 (by decide +kernel) rfl
theorem wl_X11_ropeOf : Cond.selects RX11 yX11_ropeOf yX11_ropeOf ∈ lw_good := lw_in 12 (by decide +kernel) rfl
theorem wc_X11_wantOf : Cond.code yX11_wantOf cX11_wantOf 3 none ∈ lw_good := lw_in 812 (by decide +kernel) rfl
theorem wm_X11_50 : Cond.methodLink RX11 50 yX11_wantOf ∈ lw_good := lw_in 809 (by decide +kernel) rfl
theorem wi_X11_wantOf : Cond.instanceMethod yX11_wantOf ∈ lw_good := lw_in 811 (by decide +kernel) rfl
theorem wl_X11_wantOf : Cond.selects RX11 yX11_wantOf yX11_wantOf ∈ lw_good := lw_in 13 (by decide +kernel) rfl
theorem wc_X11_manOf : Cond.code yX11_manOf cX11_manOf 2 none ∈ lw_good := lw_in 816 (by decide +kernel) rfl
theorem wm_X11_54 : Cond.methodLink RX11 54 yX11_manOf ∈ lw_good := lw_in 813 (by decide +kernel) rfl
theorem wi_X11_manOf : Cond.instanceMethod yX11_manOf ∈ lw_good := lw_in 815 (by decide +kernel) rfl
theorem wl_X11_manOf : Cond.selects RX11 yX11_manOf yX11_manOf ∈ lw_good := lw_in 14 (by decide +kernel) rfl
theorem wc_X11_begins : Cond.code yX11_begins cX11_begins 2 none ∈ lw_good := lw_in 804 (by decide +kernel) rfl
theorem wm_X11_43 : Cond.methodLink RX11 43 yX11_begins ∈ lw_good := lw_in 801 (by decide +kernel) rfl
theorem wi_X11_begins : Cond.instanceMethod yX11_begins ∈ lw_good := lw_in 803 (by decide +kernel) rfl
theorem wl_X11_begins : Cond.selects RX11 yX11_begins yX11_begins ∈ lw_good := lw_in 11 (by decide +kernel) rfl
theorem wc_X11_readsItem : Cond.code yX11_readsItem cX11_readsItem 3 (some FieldType.boolean) ∈ lw_good := lw_in 892 (by decide +kernel) rfl
theorem wm_X11_90 : Cond.methodLink RX11 90 yX11_readsItem ∈ lw_good := lw_in 889 (by decide +kernel) rfl
theorem wi_X11_readsItem : Cond.instanceMethod yX11_readsItem ∈ lw_good := lw_in 891 (by decide +kernel) rfl
theorem wl_X11_readsItem : Cond.selects RX11 yX11_readsItem yX11_readsItem ∈ lw_good := lw_in 17 (by decide +kernel) rfl
theorem wc_X11_readsAll : Cond.code yX11_readsAll cX11_readsAll 2 (some FieldType.int) ∈ lw_good := lw_in 888 (by decide +kernel) rfl
theorem wm_X11_93 : Cond.methodLink RX11 93 yX11_readsAll ∈ lw_good := lw_in 885 (by decide +kernel) rfl
theorem wi_X11_readsAll : Cond.instanceMethod yX11_readsAll ∈ lw_good := lw_in 887 (by decide +kernel) rfl
theorem wl_X11_readsAll : Cond.selects RX11 yX11_readsAll yX11_readsAll ∈ lw_good := lw_in 16 (by decide +kernel) rfl
theorem wf_X11_19 : Cond.fieldLink RX11 19 "DuskOnRopesModel" "s" "[I" ∈ lw_good := lw_in 825 (by decide +kernel) rfl
theorem wf_X11_96 : Cond.fieldLink RX11 96 "DuskOnRopesModel" "known" "I" ∈ lw_good := lw_in 827 (by decide +kernel) rfl
theorem wf_X11_99 : Cond.fieldLink RX11 99 "DuskOnRopesModel" "kept" "I" ∈ lw_good := lw_in 829 (by decide +kernel) rfl
theorem wf_X11_102 : Cond.fieldLink RX11 102 "DuskOnRopesModel" "seens" "I" ∈ lw_good := lw_in 831 (by decide +kernel) rfl
theorem wc_X11_lays : Cond.code yX11_lays cX11_lays 2 none ∈ lw_good := lw_in 820 (by decide +kernel) rfl
theorem wm_X11_58 : Cond.methodLink RX11 58 yX11_lays ∈ lw_good := lw_in 817 (by decide +kernel) rfl
theorem wi_X11_lays : Cond.instanceMethod yX11_lays ∈ lw_good := lw_in 819 (by decide +kernel) rfl
theorem wl_X11_lays : Cond.selects RX11 yX11_lays yX11_lays ∈ lw_good := lw_in 15 (by decide +kernel) rfl
theorem wc_X11_isRope : Cond.code yX11_isRope cX11_isRope 2 (some FieldType.boolean) ∈ lw_good := lw_in 922 (by decide +kernel) rfl
theorem wm_X11_105 : Cond.methodLink RX11 105 yX11_isRope ∈ lw_good := lw_in 919 (by decide +kernel) rfl
theorem wi_X11_isRope : Cond.instanceMethod yX11_isRope ∈ lw_good := lw_in 921 (by decide +kernel) rfl
theorem wl_X11_isRope : Cond.selects RX11 yX11_isRope yX11_isRope ∈ lw_good := lw_in 21 (by decide +kernel) rfl
theorem wc_X11_nextTo : Cond.code yX11_nextTo cX11_nextTo 6 (some FieldType.int) ∈ lw_good := lw_in 934 (by decide +kernel) rfl
theorem wm_X11_108 : Cond.methodLink RX11 108 yX11_nextTo ∈ lw_good := lw_in 931 (by decide +kernel) rfl
theorem wi_X11_nextTo : Cond.instanceMethod yX11_nextTo ∈ lw_good := lw_in 933 (by decide +kernel) rfl
theorem wl_X11_nextTo : Cond.selects RX11 yX11_nextTo yX11_nextTo ∈ lw_good := lw_in 23 (by decide +kernel) rfl
theorem wc_X11_skyOver : Cond.code yX11_skyOver cX11_skyOver 6 (some FieldType.int) ∈ lw_good := lw_in 930 (by decide +kernel) rfl
theorem wm_X11_112 : Cond.methodLink RX11 112 yX11_skyOver ∈ lw_good := lw_in 927 (by decide +kernel) rfl
theorem wi_X11_skyOver : Cond.instanceMethod yX11_skyOver ∈ lw_good := lw_in 929 (by decide +kernel) rfl
theorem wl_X11_skyOver : Cond.selects RX11 yX11_skyOver yX11_skyOver ∈ lw_good := lw_in 22 (by decide +kernel) rfl
theorem wc_X11_lightOf : Cond.code yX11_lightOf cX11_lightOf 1 (some FieldType.int) ∈ lw_good := lw_in 941 (by decide +kernel) rfl
theorem wm_X11_115 : Cond.methodLink RX11 115 yX11_lightOf ∈ lw_good := lw_in 939 (by decide +kernel) rfl
theorem ws_X11_lightOf : Cond.static yX11_lightOf ∈ lw_good := lw_in 940 (by decide +kernel) rfl
theorem wf_X11_22 : Cond.fieldLink RX11 22 "DuskOnRopesModel" "past" "[I" ∈ lw_good := lw_in 826 (by decide +kernel) rfl
theorem wc_X11_behind : Cond.code yX11_behind cX11_behind 7 (some FieldType.int) ∈ lw_good := lw_in 960 (by decide +kernel) rfl
theorem wm_X11_118 : Cond.methodLink RX11 118 yX11_behind ∈ lw_good := lw_in 958 (by decide +kernel) rfl
theorem ws_X11_behind : Cond.static yX11_behind ∈ lw_good := lw_in 959 (by decide +kernel) rfl
theorem wc_X11_ones : Cond.code yX11_ones cX11_ones 3 (some FieldType.int) ∈ lw_good := lw_in 963 (by decide +kernel) rfl
theorem wm_X11_122 : Cond.methodLink RX11 122 yX11_ones ∈ lw_good := lw_in 961 (by decide +kernel) rfl
theorem ws_X11_ones : Cond.static yX11_ones ∈ lw_good := lw_in 962 (by decide +kernel) rfl
theorem wc_X11_sets : Cond.code yX11_sets cX11_sets 1 (some FieldType.int) ∈ lw_good := lw_in 949 (by decide +kernel) rfl
theorem wm_X11_125 : Cond.methodLink RX11 125 yX11_sets ∈ lw_good := lw_in 946 (by decide +kernel) rfl
theorem wi_X11_sets : Cond.instanceMethod yX11_sets ∈ lw_good := lw_in 948 (by decide +kernel) rfl
theorem wl_X11_sets : Cond.selects RX11 yX11_sets yX11_sets ∈ lw_good := lw_in 24 (by decide +kernel) rfl
theorem wc_X11_keeps : Cond.code yX11_keeps cX11_keeps 2 none ∈ lw_good := lw_in 953 (by decide +kernel) rfl
theorem wm_X11_128 : Cond.methodLink RX11 128 yX11_keeps ∈ lw_good := lw_in 950 (by decide +kernel) rfl
theorem wi_X11_keeps : Cond.instanceMethod yX11_keeps ∈ lw_good := lw_in 952 (by decide +kernel) rfl
theorem wl_X11_keeps : Cond.selects RX11 yX11_keeps yX11_keeps ∈ lw_good := lw_in 25 (by decide +kernel) rfl
theorem wc_X11_goes : Cond.code yX11_goes cX11_goes 5 (some FieldType.int) ∈ lw_good := lw_in 957 (by decide +kernel) rfl
theorem wm_X11_131 : Cond.methodLink RX11 131 yX11_goes ∈ lw_good := lw_in 954 (by decide +kernel) rfl
theorem wi_X11_goes : Cond.instanceMethod yX11_goes ∈ lw_good := lw_in 956 (by decide +kernel) rfl
theorem wl_X11_goes : Cond.selects RX11 yX11_goes yX11_goes ∈ lw_good := lw_in 26 (by decide +kernel) rfl
theorem wf_X11_34 : Cond.fieldLink RX11 34 "DuskOnRopesModel" "held" "[I" ∈ lw_good := lw_in 834 (by decide +kernel) rfl
theorem wc_X11_holds : Cond.code yX11_holds cX11_holds 2 none ∈ lw_good := lw_in 987 (by decide +kernel) rfl
theorem wm_X11_134 : Cond.methodLink RX11 134 yX11_holds ∈ lw_good := lw_in 984 (by decide +kernel) rfl
theorem wi_X11_holds : Cond.instanceMethod yX11_holds ∈ lw_good := lw_in 986 (by decide +kernel) rfl
theorem wl_X11_holds : Cond.selects RX11 yX11_holds yX11_holds ∈ lw_good := lw_in 27 (by decide +kernel) rfl
theorem wc_X11_lets : Cond.code yX11_lets cX11_lets 2 none ∈ lw_good := lw_in 991 (by decide +kernel) rfl
theorem wm_X11_137 : Cond.methodLink RX11 137 yX11_lets ∈ lw_good := lw_in 988 (by decide +kernel) rfl
theorem wi_X11_lets : Cond.instanceMethod yX11_lets ∈ lw_good := lw_in 990 (by decide +kernel) rfl
theorem wl_X11_lets : Cond.selects RX11 yX11_lets yX11_lets ∈ lw_good := lw_in 28 (by decide +kernel) rfl
theorem wc_X11_met : Cond.code yX11_met cX11_met 3 (some FieldType.int) ∈ lw_good := lw_in 975 (by decide +kernel) rfl
theorem wm_X11_140 : Cond.methodLink RX11 140 yX11_met ∈ lw_good := lw_in 996 (by decide +kernel) rfl
theorem wi_X11_met : Cond.instanceMethod yX11_met ∈ lw_good := lw_in 973 (by decide +kernel) rfl
theorem wl_X11_met : Cond.selects RX11 yX11_met yX11_met ∈ lw_good := lw_in 974 (by decide +kernel) rfl
theorem wc_X11_yardsOf : Cond.code yX11_yardsOf cX11_yardsOf 4 (some FieldType.int) ∈ lw_good := lw_in 1004 (by decide +kernel) rfl
theorem wm_X11_143 : Cond.methodLink RX11 143 yX11_yardsOf ∈ lw_good := lw_in 1001 (by decide +kernel) rfl
theorem wi_X11_yardsOf : Cond.instanceMethod yX11_yardsOf ∈ lw_good := lw_in 1003 (by decide +kernel) rfl
theorem wl_X11_yardsOf : Cond.selects RX11 yX11_yardsOf yX11_yardsOf ∈ lw_good := lw_in 29 (by decide +kernel) rfl
theorem wf_X11_28 : Cond.fieldLink RX11 28 "DuskOnRopesModel" "seen" "[I" ∈ lw_good := lw_in 830 (by decide +kernel) rfl
theorem wc_X11_letsOut : Cond.code yX11_letsOut cX11_letsOut 3 none ∈ lw_good := lw_in 1032 (by decide +kernel) rfl
theorem wm_X11_146 : Cond.methodLink RX11 146 yX11_letsOut ∈ lw_good := lw_in 1029 (by decide +kernel) rfl
theorem wi_X11_letsOut : Cond.instanceMethod yX11_letsOut ∈ lw_good := lw_in 1031 (by decide +kernel) rfl
theorem wl_X11_letsOut : Cond.selects RX11 yX11_letsOut yX11_letsOut ∈ lw_good := lw_in 31 (by decide +kernel) rfl
theorem wf_X11_37 : Cond.fieldLink RX11 37 "DuskOnRopesModel" "fits" "[I" ∈ lw_good := lw_in 835 (by decide +kernel) rfl
theorem wc_X11_laysFits : Cond.code yX11_laysFits cX11_laysFits 5 (some FieldType.int) ∈ lw_good := lw_in 1028 (by decide +kernel) rfl
theorem wm_X11_149 : Cond.methodLink RX11 149 yX11_laysFits ∈ lw_good := lw_in 1025 (by decide +kernel) rfl
theorem wi_X11_laysFits : Cond.instanceMethod yX11_laysFits ∈ lw_good := lw_in 1027 (by decide +kernel) rfl
theorem wl_X11_laysFits : Cond.selects RX11 yX11_laysFits yX11_laysFits ∈ lw_good := lw_in 30 (by decide +kernel) rfl
theorem wf_X11_40 : Cond.fieldLink RX11 40 "DuskOnRopesModel" "alike" "[I" ∈ lw_good := lw_in 836 (by decide +kernel) rfl
theorem wk_X11_152 : Cond.constantLong RX11 152 (Int64.ofInt 7919) ∈ lw_good := lw_in 1053 (by decide +kernel) rfl
theorem wk_X11_154 : Cond.constantLong RX11 154 (Int64.ofInt 6151) ∈ lw_good := lw_in 1054 (by decide +kernel) rfl
theorem wk_X11_156 : Cond.constantLong RX11 156 (Int64.ofInt 65521) ∈ lw_good := lw_in 1055 (by decide +kernel) rfl
theorem wf_X11_25 : Cond.fieldLink RX11 25 "DuskOnRopesModel" "images" "[I" ∈ lw_good := lw_in 828 (by decide +kernel) rfl
abbrev nests : List (String × Nat × MethodName × String) := [(RX1, 21, yX10_within, "DuskOnRopes"), (RX1, 25, yX10_lightAt, "DuskOnRopes"), (RX2, 56, yX10_within, "DuskOnRopes"), (RX3, 39, yX10_turnsThen, "DuskOnRopes"), (RX4, 54, yX10_turnsThen, "DuskOnRopes"), (RX9, 73, yX10_isYard, "DuskOnRopes"), (RX9, 80, yX10_isLowness, "DuskOnRopes"), (RX9, 83, yX10_isLight, "DuskOnRopes"), (RX9, 102, yX10_lightAt, "DuskOnRopes")]
theorem wn_X1_21 : ((RX1, 21, yX10_within, "DuskOnRopes") : String × Nat × MethodName × String) ∈ nests := List.mem_of_getElem? (i := 0) rfl
theorem wnt_0 : Cond.methodLinkNest RX1 21 yX10_within "DuskOnRopes" ∈ lw_tbl := List.mem_of_getElem? (i := 754) (by decide +kernel)
theorem wn_X1_25 : ((RX1, 25, yX10_lightAt, "DuskOnRopes") : String × Nat × MethodName × String) ∈ nests := List.mem_of_getElem? (i := 1) rfl
theorem wnt_1 : Cond.methodLinkNest RX1 25 yX10_lightAt "DuskOnRopes" ∈ lw_tbl := List.mem_of_getElem? (i := 755) (by decide +kernel)
theorem wn_X2_56 : ((RX2, 56, yX10_within, "DuskOnRopes") : String × Nat × MethodName × String) ∈ nests := List.mem_of_getElem? (i := 2) rfl
theorem wnt_2 : Cond.methodLinkNest RX2 56 yX10_within "DuskOnRopes" ∈ lw_tbl := List.mem_of_getElem? (i := 718) (by decide +kernel)
theorem wn_X3_39 : ((RX3, 39, yX10_turnsThen, "DuskOnRopes") : String × Nat × MethodName × String) ∈ nests := List.mem_of_getElem? (i := 3) rfl
theorem wnt_3 : Cond.methodLinkNest RX3 39 yX10_turnsThen "DuskOnRopes" ∈ lw_tbl := List.mem_of_getElem? (i := 570) (by decide +kernel)
theorem wn_X4_54 : ((RX4, 54, yX10_turnsThen, "DuskOnRopes") : String × Nat × MethodName × String) ∈ nests := List.mem_of_getElem? (i := 4) rfl
theorem wnt_4 : Cond.methodLinkNest RX4 54 yX10_turnsThen "DuskOnRopes" ∈ lw_tbl := List.mem_of_getElem? (i := 641) (by decide +kernel)
theorem wn_X9_73 : ((RX9, 73, yX10_isYard, "DuskOnRopes") : String × Nat × MethodName × String) ∈ nests := List.mem_of_getElem? (i := 5) rfl
theorem wnt_5 : Cond.methodLinkNest RX9 73 yX10_isYard "DuskOnRopes" ∈ lw_tbl := List.mem_of_getElem? (i := 394) (by decide +kernel)
theorem wn_X9_80 : ((RX9, 80, yX10_isLowness, "DuskOnRopes") : String × Nat × MethodName × String) ∈ nests := List.mem_of_getElem? (i := 6) rfl
theorem wnt_6 : Cond.methodLinkNest RX9 80 yX10_isLowness "DuskOnRopes" ∈ lw_tbl := List.mem_of_getElem? (i := 401) (by decide +kernel)
theorem wn_X9_83 : ((RX9, 83, yX10_isLight, "DuskOnRopes") : String × Nat × MethodName × String) ∈ nests := List.mem_of_getElem? (i := 7) rfl
theorem wnt_7 : Cond.methodLinkNest RX9 83 yX10_isLight "DuskOnRopes" ∈ lw_tbl := List.mem_of_getElem? (i := 408) (by decide +kernel)
theorem wn_X9_102 : ((RX9, 102, yX10_lightAt, "DuskOnRopes") : String × Nat × MethodName × String) ∈ nests := List.mem_of_getElem? (i := 8) rfl
theorem wnt_8 : Cond.methodLinkNest RX9 102 yX10_lightAt "DuskOnRopes" ∈ lw_tbl := List.mem_of_getElem? (i := 525) (by decide +kernel)
