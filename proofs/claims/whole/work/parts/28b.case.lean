/-! ===== cases of the law (by wip/gen/walkl.py) ===== -/
set_option maxRecDepth 100000 in
theorem lk_0 {p : Program} {l : Launch} {e : Env} {s : State} {m : MethodId} {below : List Frame} {meth : Method} {c : Code} {b L i : Nat} {xs : Nat → Int32} {D : va_G} {cs : ClassId × ClassId × ClassId × ClassId} {adX adM : Nat → Nat} {h g : mm_H} {v : Nat} {H : Heap} {locs : List Loc} {ls : Array Slot} (F : lw_F p s m c b L xs D cs adX adM) (hi : i + 6 ≤ L) (S : lw_S D cs adX adM s h g v H locs) (hl : lv_has ls 4 [(3, .int (nI i)), (0, .ref b), (1, .ref (adX 0)), (2, .ref (adM 0))]) (next : ∀ (h g : mm_H) (v : Nat) (H : Heap) (locs : List Loc), lw_S D cs adX adM s h g v H locs → W p l e room_1 s m #[Value.ref b] below meth c H locs 600000 7302250 (lw_Z below #[Value.ref b] s) (F0 m 844 ls [])) : W p l e room_1 s m #[Value.ref b] below meth c H locs 600000 7302250 (lw_Z below #[Value.ref b] s) (F0 m 160 ls []) := by
  obtain ⟨hrel, hokX, hokM, hPX, hDX, hPM, hDM, hS⟩ := S
  have hx := F.1
  have hb := F.2.1
  obtain ⟨r, h2, g2, v2, e1, e2, hrel2⟩ := op_write hrel (xs (i + 1)).toInt
  refine lv_aload_n hx hb dL_law_160 rfl (lv_at hl 2 rfl) ?_
  refine la_a (j := 1) F hi (by decide) (by decide) hl hS dL_law_161 dL_law_162 dL_law_163 dL_law_164 dL_law_165 ?_
  refine la_X (n := 1) F (y := 67) (I := in_X10_write) rfl (as := [mm_i (xs (i + 1)).toInt]) (h := h) (g := g) e1 (mm_okS_c (v := mm_i (xs (i + 1)).toInt) (mm_toI _) (fun _ z => absurd z List.not_mem_nil)) hokX rfl (Nat.le_of_ble_eq_true rfl) vw_225 vw_188 vw_226 vw_227 vw_228 (by decide +kernel) ⟨Nat.le_of_ble_eq_true rfl, Nat.le_of_ble_eq_true rfl⟩ hPX hDX hPM hS hl.1 rfl (rest := []) rfl (Nat.le_of_ble_eq_true rfl) dL_law_166 (fun H locs hPX hDX hokX hPM hS => ?_)
  refine lv_aload_n hx hb dL_law_169 rfl (lv_at hl 3 rfl) ?_
  refine la_a (j := 1) F hi (by decide) (by decide) hl hS dL_law_170 dL_law_171 dL_law_172 dL_law_173 dL_law_174 ?_
  refine la_M (n := 1) F (y := 5) (I := in_X11_write) rfl (as := [mm_i (xs (i + 1)).toInt]) (h := h2) (g := g) e2 (mm_okS_c (v := mm_i (xs (i + 1)).toInt) (mm_toI _) (fun _ z => absurd z List.not_mem_nil)) hokM rfl (Nat.le_of_ble_eq_true rfl) vw_229 vw_205 vw_230 vw_231 vw_232 (by decide +kernel) ⟨Nat.le_of_ble_eq_true rfl, Nat.le_of_ble_eq_true rfl⟩ hPX hPM hDM hS hl.1 rfl (rest := [.int (Int32.ofInt r)]) rfl (Nat.le_of_ble_eq_true rfl) dL_law_175 (fun H locs hPM hDM hokM hPX hS => ?_)
  refine lv_icmp_eq (tgt := 844) hx hb dL_law_178 (by decide) (fun _ => ?_) (fun z => absurd rfl z)
  exact next h2 g2 v2 H locs ⟨hrel2, hokX, hokM, hPX, hDX, hPM, hDM, hS⟩
set_option maxRecDepth 100000 in
theorem lk_1 {p : Program} {l : Launch} {e : Env} {s : State} {m : MethodId} {below : List Frame} {meth : Method} {c : Code} {b L i : Nat} {xs : Nat → Int32} {D : va_G} {cs : ClassId × ClassId × ClassId × ClassId} {adX adM : Nat → Nat} {h g : mm_H} {v : Nat} {H : Heap} {locs : List Loc} {ls : Array Slot} (F : lw_F p s m c b L xs D cs adX adM) (hi : i + 6 ≤ L) (S : lw_S D cs adX adM s h g v H locs) (hl : lv_has ls 4 [(3, .int (nI i)), (0, .ref b), (1, .ref (adX 0)), (2, .ref (adM 0))]) (next : ∀ (h g : mm_H) (v : Nat) (H : Heap) (locs : List Loc), lw_S D cs adX adM s h g v H locs → W p l e room_1 s m #[Value.ref b] below meth c H locs 600000 7302250 (lw_Z below #[Value.ref b] s) (F0 m 844 ls [])) : W p l e room_1 s m #[Value.ref b] below meth c H locs 600000 7302250 (lw_Z below #[Value.ref b] s) (F0 m 183 ls []) := by
  obtain ⟨hrel, hokX, hokM, hPX, hDX, hPM, hDM, hS⟩ := S
  have hx := F.1
  have hb := F.2.1
  obtain ⟨r, h2, g2, v2, e1, e2, hrel2⟩ := op_wipe hrel 
  refine lv_aload_n hx hb dL_law_183 rfl (lv_at hl 2 rfl) ?_
  refine la_X (n := 0) F (y := 68) (I := in_X10_wipe) rfl (as := []) (h := h) (g := g) e1 (fun _ z => absurd z List.not_mem_nil) hokX rfl (Nat.le_of_ble_eq_true rfl) vw_233 vw_188 vw_234 vw_235 vw_236 (by decide +kernel) ⟨Nat.le_of_ble_eq_true rfl, Nat.le_of_ble_eq_true rfl⟩ hPX hDX hPM hS hl.1 rfl (rest := []) rfl (Nat.le_of_ble_eq_true rfl) dL_law_184 (fun H locs hPX hDX hokX hPM hS => ?_)
  refine lv_aload_n hx hb dL_law_187 rfl (lv_at hl 3 rfl) ?_
  refine la_M (n := 0) F (y := 6) (I := in_X11_wipe) rfl (as := []) (h := h2) (g := g) e2 (fun _ z => absurd z List.not_mem_nil) hokM rfl (Nat.le_of_ble_eq_true rfl) vw_237 vw_205 vw_238 vw_239 vw_240 (by decide +kernel) ⟨Nat.le_of_ble_eq_true rfl, Nat.le_of_ble_eq_true rfl⟩ hPX hPM hDM hS hl.1 rfl (rest := [.int (Int32.ofInt r)]) rfl (Nat.le_of_ble_eq_true rfl) dL_law_188 (fun H locs hPM hDM hokM hPX hS => ?_)
  refine lv_icmp_eq (tgt := 844) hx hb dL_law_191 (by decide) (fun _ => ?_) (fun z => absurd rfl z)
  exact next h2 g2 v2 H locs ⟨hrel2, hokX, hokM, hPX, hDX, hPM, hDM, hS⟩
set_option maxRecDepth 100000 in
theorem lk_2 {p : Program} {l : Launch} {e : Env} {s : State} {m : MethodId} {below : List Frame} {meth : Method} {c : Code} {b L i : Nat} {xs : Nat → Int32} {D : va_G} {cs : ClassId × ClassId × ClassId × ClassId} {adX adM : Nat → Nat} {h g : mm_H} {v : Nat} {H : Heap} {locs : List Loc} {ls : Array Slot} (F : lw_F p s m c b L xs D cs adX adM) (hi : i + 6 ≤ L) (S : lw_S D cs adX adM s h g v H locs) (hl : lv_has ls 4 [(3, .int (nI i)), (0, .ref b), (1, .ref (adX 0)), (2, .ref (adM 0))]) (next : ∀ (h g : mm_H) (v : Nat) (H : Heap) (locs : List Loc), lw_S D cs adX adM s h g v H locs → W p l e room_1 s m #[Value.ref b] below meth c H locs 600000 7302250 (lw_Z below #[Value.ref b] s) (F0 m 844 ls [])) : W p l e room_1 s m #[Value.ref b] below meth c H locs 600000 7302250 (lw_Z below #[Value.ref b] s) (F0 m 196 ls []) := by
  obtain ⟨hrel, hokX, hokM, hPX, hDX, hPM, hDM, hS⟩ := S
  have hx := F.1
  have hb := F.2.1
  obtain ⟨r, h2, g2, v2, e1, e2, hrel2⟩ := op_fault hrel 
  refine lv_aload_n hx hb dL_law_196 rfl (lv_at hl 2 rfl) ?_
  refine la_X (n := 0) F (y := 69) (I := in_X10_fault) rfl (as := []) (h := h) (g := g) e1 (fun _ z => absurd z List.not_mem_nil) hokX rfl (Nat.le_of_ble_eq_true rfl) vw_241 vw_188 vw_242 vw_243 vw_244 (by decide +kernel) ⟨Nat.le_of_ble_eq_true rfl, Nat.le_of_ble_eq_true rfl⟩ hPX hDX hPM hS hl.1 rfl (rest := []) rfl (Nat.le_of_ble_eq_true rfl) dL_law_197 (fun H locs hPX hDX hokX hPM hS => ?_)
  refine lv_aload_n hx hb dL_law_200 rfl (lv_at hl 3 rfl) ?_
  refine la_M (n := 0) F (y := 17) (I := in_X11_fault) rfl (as := []) (h := h2) (g := g) e2 (fun _ z => absurd z List.not_mem_nil) hokM rfl (Nat.le_of_ble_eq_true rfl) vw_245 vw_205 vw_246 vw_247 vw_248 (by decide +kernel) ⟨Nat.le_of_ble_eq_true rfl, Nat.le_of_ble_eq_true rfl⟩ hPX hPM hDM hS hl.1 rfl (rest := [.int (Int32.ofInt r)]) rfl (Nat.le_of_ble_eq_true rfl) dL_law_201 (fun H locs hPM hDM hokM hPX hS => ?_)
  refine lv_icmp_eq (tgt := 844) hx hb dL_law_204 (by decide) (fun _ => ?_) (fun z => absurd rfl z)
  exact next h2 g2 v2 H locs ⟨hrel2, hokX, hokM, hPX, hDX, hPM, hDM, hS⟩
set_option maxRecDepth 100000 in
theorem lk_3 {p : Program} {l : Launch} {e : Env} {s : State} {m : MethodId} {below : List Frame} {meth : Method} {c : Code} {b L i : Nat} {xs : Nat → Int32} {D : va_G} {cs : ClassId × ClassId × ClassId × ClassId} {adX adM : Nat → Nat} {h g : mm_H} {v : Nat} {H : Heap} {locs : List Loc} {ls : Array Slot} (F : lw_F p s m c b L xs D cs adX adM) (hi : i + 6 ≤ L) (S : lw_S D cs adX adM s h g v H locs) (hl : lv_has ls 4 [(3, .int (nI i)), (0, .ref b), (1, .ref (adX 0)), (2, .ref (adM 0))]) (next : ∀ (h g : mm_H) (v : Nat) (H : Heap) (locs : List Loc), lw_S D cs adX adM s h g v H locs → W p l e room_1 s m #[Value.ref b] below meth c H locs 600000 7302250 (lw_Z below #[Value.ref b] s) (F0 m 844 ls [])) : W p l e room_1 s m #[Value.ref b] below meth c H locs 600000 7302250 (lw_Z below #[Value.ref b] s) (F0 m 209 ls []) := by
  obtain ⟨hrel, hokX, hokM, hPX, hDX, hPM, hDM, hS⟩ := S
  have hx := F.1
  have hb := F.2.1
  obtain ⟨r, h2, g2, v2, e1, e2, hrel2⟩ := op_lay hrel 
  refine lv_aload_n hx hb dL_law_209 rfl (lv_at hl 2 rfl) ?_
  refine la_X (n := 0) F (y := 70) (I := in_X10_lay) rfl (as := []) (h := h) (g := g) e1 (fun _ z => absurd z List.not_mem_nil) hokX rfl (Nat.le_of_ble_eq_true rfl) vw_249 vw_188 vw_250 vw_251 vw_252 (by decide +kernel) ⟨Nat.le_of_ble_eq_true rfl, Nat.le_of_ble_eq_true rfl⟩ hPX hDX hPM hS hl.1 rfl (rest := []) rfl (Nat.le_of_ble_eq_true rfl) dL_law_210 (fun H locs hPX hDX hokX hPM hS => ?_)
  refine lv_aload_n hx hb dL_law_213 rfl (lv_at hl 3 rfl) ?_
  refine la_M (n := 0) F (y := 19) (I := in_X11_lay) rfl (as := []) (h := h2) (g := g) e2 (fun _ z => absurd z List.not_mem_nil) hokM rfl (Nat.le_of_ble_eq_true rfl) vw_253 vw_205 vw_254 vw_255 vw_256 (by decide +kernel) ⟨Nat.le_of_ble_eq_true rfl, Nat.le_of_ble_eq_true rfl⟩ hPX hPM hDM hS hl.1 rfl (rest := [.int (Int32.ofInt r)]) rfl (Nat.le_of_ble_eq_true rfl) dL_law_214 (fun H locs hPM hDM hokM hPX hS => ?_)
  refine lv_icmp_eq (tgt := 844) hx hb dL_law_217 (by decide) (fun _ => ?_) (fun z => absurd rfl z)
  exact next h2 g2 v2 H locs ⟨hrel2, hokX, hokM, hPX, hDX, hPM, hDM, hS⟩
set_option maxRecDepth 100000 in
theorem lk_4 {p : Program} {l : Launch} {e : Env} {s : State} {m : MethodId} {below : List Frame} {meth : Method} {c : Code} {b L i : Nat} {xs : Nat → Int32} {D : va_G} {cs : ClassId × ClassId × ClassId × ClassId} {adX adM : Nat → Nat} {h g : mm_H} {v : Nat} {H : Heap} {locs : List Loc} {ls : Array Slot} (F : lw_F p s m c b L xs D cs adX adM) (hi : i + 6 ≤ L) (S : lw_S D cs adX adM s h g v H locs) (hl : lv_has ls 4 [(3, .int (nI i)), (0, .ref b), (1, .ref (adX 0)), (2, .ref (adM 0))]) (next : ∀ (h g : mm_H) (v : Nat) (H : Heap) (locs : List Loc), lw_S D cs adX adM s h g v H locs → W p l e room_1 s m #[Value.ref b] below meth c H locs 600000 7302250 (lw_Z below #[Value.ref b] s) (F0 m 844 ls [])) : W p l e room_1 s m #[Value.ref b] below meth c H locs 600000 7302250 (lw_Z below #[Value.ref b] s) (F0 m 222 ls []) := by
  obtain ⟨hrel, hokX, hokM, hPX, hDX, hPM, hDM, hS⟩ := S
  have hx := F.1
  have hb := F.2.1
  obtain ⟨r, h2, g2, v2, e1, e2, hrel2⟩ := op_rope hrel (xs (i + 1)).toInt (xs (i + 2)).toInt
  refine lv_aload_n hx hb dL_law_222 rfl (lv_at hl 2 rfl) ?_
  refine la_a (j := 1) F hi (by decide) (by decide) hl hS dL_law_223 dL_law_224 dL_law_225 dL_law_226 dL_law_227 ?_
  refine la_a (j := 2) F hi (by decide) (by decide) hl hS dL_law_228 dL_law_229 dL_law_230 dL_law_231 dL_law_232 ?_
  refine la_X (n := 2) F (y := 71) (I := in_X10_rope) rfl (as := [mm_i (xs (i + 1)).toInt, mm_i (xs (i + 2)).toInt]) (h := h) (g := g) e1 (mm_okS_c (v := mm_i (xs (i + 1)).toInt) (mm_toI _) (mm_okS_c (v := mm_i (xs (i + 2)).toInt) (mm_toI _) (fun _ z => absurd z List.not_mem_nil))) hokX rfl (Nat.le_of_ble_eq_true rfl) vw_257 vw_188 vw_258 vw_259 vw_260 (by decide +kernel) ⟨Nat.le_of_ble_eq_true rfl, Nat.le_of_ble_eq_true rfl⟩ hPX hDX hPM hS hl.1 rfl (rest := []) rfl (Nat.le_of_ble_eq_true rfl) dL_law_233 (fun H locs hPX hDX hokX hPM hS => ?_)
  refine lv_aload_n hx hb dL_law_236 rfl (lv_at hl 3 rfl) ?_
  refine la_a (j := 1) F hi (by decide) (by decide) hl hS dL_law_237 dL_law_238 dL_law_239 dL_law_240 dL_law_241 ?_
  refine la_a (j := 2) F hi (by decide) (by decide) hl hS dL_law_242 dL_law_243 dL_law_244 dL_law_245 dL_law_246 ?_
  refine la_M (n := 2) F (y := 20) (I := in_X11_rope) rfl (as := [mm_i (xs (i + 1)).toInt, mm_i (xs (i + 2)).toInt]) (h := h2) (g := g) e2 (mm_okS_c (v := mm_i (xs (i + 1)).toInt) (mm_toI _) (mm_okS_c (v := mm_i (xs (i + 2)).toInt) (mm_toI _) (fun _ z => absurd z List.not_mem_nil))) hokM rfl (Nat.le_of_ble_eq_true rfl) vw_261 vw_205 vw_262 vw_263 vw_264 (by decide +kernel) ⟨Nat.le_of_ble_eq_true rfl, Nat.le_of_ble_eq_true rfl⟩ hPX hPM hDM hS hl.1 rfl (rest := [.int (Int32.ofInt r)]) rfl (Nat.le_of_ble_eq_true rfl) dL_law_247 (fun H locs hPM hDM hokM hPX hS => ?_)
  refine lv_icmp_eq (tgt := 844) hx hb dL_law_250 (by decide) (fun _ => ?_) (fun z => absurd rfl z)
  exact next h2 g2 v2 H locs ⟨hrel2, hokX, hokM, hPX, hDX, hPM, hDM, hS⟩
set_option maxRecDepth 100000 in
theorem lk_5 {p : Program} {l : Launch} {e : Env} {s : State} {m : MethodId} {below : List Frame} {meth : Method} {c : Code} {b L i : Nat} {xs : Nat → Int32} {D : va_G} {cs : ClassId × ClassId × ClassId × ClassId} {adX adM : Nat → Nat} {h g : mm_H} {v : Nat} {H : Heap} {locs : List Loc} {ls : Array Slot} (F : lw_F p s m c b L xs D cs adX adM) (hi : i + 6 ≤ L) (S : lw_S D cs adX adM s h g v H locs) (hl : lv_has ls 4 [(3, .int (nI i)), (0, .ref b), (1, .ref (adX 0)), (2, .ref (adM 0))]) (next : ∀ (h g : mm_H) (v : Nat) (H : Heap) (locs : List Loc), lw_S D cs adX adM s h g v H locs → W p l e room_1 s m #[Value.ref b] below meth c H locs 600000 7302250 (lw_Z below #[Value.ref b] s) (F0 m 844 ls [])) : W p l e room_1 s m #[Value.ref b] below meth c H locs 600000 7302250 (lw_Z below #[Value.ref b] s) (F0 m 255 ls []) := by
  obtain ⟨hrel, hokX, hokM, hPX, hDX, hPM, hDM, hS⟩ := S
  have hx := F.1
  have hb := F.2.1
  obtain ⟨r, h2, g2, v2, e1, e2, hrel2⟩ := op_sky hrel (xs (i + 1)).toInt
  refine lv_aload_n hx hb dL_law_255 rfl (lv_at hl 2 rfl) ?_
  refine la_a (j := 1) F hi (by decide) (by decide) hl hS dL_law_256 dL_law_257 dL_law_258 dL_law_259 dL_law_260 ?_
  refine la_X (n := 1) F (y := 72) (I := in_X10_sky) rfl (as := [mm_i (xs (i + 1)).toInt]) (h := h) (g := g) e1 (mm_okS_c (v := mm_i (xs (i + 1)).toInt) (mm_toI _) (fun _ z => absurd z List.not_mem_nil)) hokX rfl (Nat.le_of_ble_eq_true rfl) vw_265 vw_188 vw_266 vw_267 vw_268 (by decide +kernel) ⟨Nat.le_of_ble_eq_true rfl, Nat.le_of_ble_eq_true rfl⟩ hPX hDX hPM hS hl.1 rfl (rest := []) rfl (Nat.le_of_ble_eq_true rfl) dL_law_261 (fun H locs hPX hDX hokX hPM hS => ?_)
  refine lv_aload_n hx hb dL_law_264 rfl (lv_at hl 3 rfl) ?_
  refine la_a (j := 1) F hi (by decide) (by decide) hl hS dL_law_265 dL_law_266 dL_law_267 dL_law_268 dL_law_269 ?_
  refine la_M (n := 1) F (y := 24) (I := in_X11_sky) rfl (as := [mm_i (xs (i + 1)).toInt]) (h := h2) (g := g) e2 (mm_okS_c (v := mm_i (xs (i + 1)).toInt) (mm_toI _) (fun _ z => absurd z List.not_mem_nil)) hokM rfl (Nat.le_of_ble_eq_true rfl) vw_269 vw_205 vw_270 vw_271 vw_272 (by decide +kernel) ⟨Nat.le_of_ble_eq_true rfl, Nat.le_of_ble_eq_true rfl⟩ hPX hPM hDM hS hl.1 rfl (rest := [.int (Int32.ofInt r)]) rfl (Nat.le_of_ble_eq_true rfl) dL_law_270 (fun H locs hPM hDM hokM hPX hS => ?_)
  refine lv_icmp_eq (tgt := 844) hx hb dL_law_273 (by decide) (fun _ => ?_) (fun z => absurd rfl z)
  exact next h2 g2 v2 H locs ⟨hrel2, hokX, hokM, hPX, hDX, hPM, hDM, hS⟩
set_option maxRecDepth 100000 in
theorem lk_6 {p : Program} {l : Launch} {e : Env} {s : State} {m : MethodId} {below : List Frame} {meth : Method} {c : Code} {b L i : Nat} {xs : Nat → Int32} {D : va_G} {cs : ClassId × ClassId × ClassId × ClassId} {adX adM : Nat → Nat} {h g : mm_H} {v : Nat} {H : Heap} {locs : List Loc} {ls : Array Slot} (F : lw_F p s m c b L xs D cs adX adM) (hi : i + 6 ≤ L) (S : lw_S D cs adX adM s h g v H locs) (hl : lv_has ls 4 [(3, .int (nI i)), (0, .ref b), (1, .ref (adX 0)), (2, .ref (adM 0))]) (next : ∀ (h g : mm_H) (v : Nat) (H : Heap) (locs : List Loc), lw_S D cs adX adM s h g v H locs → W p l e room_1 s m #[Value.ref b] below meth c H locs 600000 7302250 (lw_Z below #[Value.ref b] s) (F0 m 844 ls [])) : W p l e room_1 s m #[Value.ref b] below meth c H locs 600000 7302250 (lw_Z below #[Value.ref b] s) (F0 m 278 ls []) := by
  obtain ⟨hrel, hokX, hokM, hPX, hDX, hPM, hDM, hS⟩ := S
  have hx := F.1
  have hb := F.2.1
  obtain ⟨r, h2, g2, v2, e1, e2, hrel2⟩ := op_light hrel (xs (i + 1)).toInt
  refine lv_aload_n hx hb dL_law_278 rfl (lv_at hl 2 rfl) ?_
  refine la_a (j := 1) F hi (by decide) (by decide) hl hS dL_law_279 dL_law_280 dL_law_281 dL_law_282 dL_law_283 ?_
  refine la_X (n := 1) F (y := 73) (I := in_X10_light) rfl (as := [mm_i (xs (i + 1)).toInt]) (h := h) (g := g) e1 (mm_okS_c (v := mm_i (xs (i + 1)).toInt) (mm_toI _) (fun _ z => absurd z List.not_mem_nil)) hokX rfl (Nat.le_of_ble_eq_true rfl) vw_273 vw_188 vw_274 vw_275 vw_276 (by decide +kernel) ⟨Nat.le_of_ble_eq_true rfl, Nat.le_of_ble_eq_true rfl⟩ hPX hDX hPM hS hl.1 rfl (rest := []) rfl (Nat.le_of_ble_eq_true rfl) dL_law_284 (fun H locs hPX hDX hokX hPM hS => ?_)
  refine lv_aload_n hx hb dL_law_287 rfl (lv_at hl 3 rfl) ?_
  refine la_a (j := 1) F hi (by decide) (by decide) hl hS dL_law_288 dL_law_289 dL_law_290 dL_law_291 dL_law_292 ?_
  refine la_M (n := 1) F (y := 25) (I := in_X11_light) rfl (as := [mm_i (xs (i + 1)).toInt]) (h := h2) (g := g) e2 (mm_okS_c (v := mm_i (xs (i + 1)).toInt) (mm_toI _) (fun _ z => absurd z List.not_mem_nil)) hokM rfl (Nat.le_of_ble_eq_true rfl) vw_277 vw_205 vw_278 vw_279 vw_280 (by decide +kernel) ⟨Nat.le_of_ble_eq_true rfl, Nat.le_of_ble_eq_true rfl⟩ hPX hPM hDM hS hl.1 rfl (rest := [.int (Int32.ofInt r)]) rfl (Nat.le_of_ble_eq_true rfl) dL_law_293 (fun H locs hPM hDM hokM hPX hS => ?_)
  refine lv_icmp_eq (tgt := 844) hx hb dL_law_296 (by decide) (fun _ => ?_) (fun z => absurd rfl z)
  exact next h2 g2 v2 H locs ⟨hrel2, hokX, hokM, hPX, hDX, hPM, hDM, hS⟩
