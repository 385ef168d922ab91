/-! THE CLAIM OUT OF ONE WALK OF THE LAW'S BODY. Your part is whole_start (and what it stands on); all else here is the same for every law, but numbers. -/
def R_law : String := "DuskOnRopesLaw"
def lw_P (b : Addr) (xs : List Int32) (args : Array Value) (s : State) : Prop := args = #[.ref b] ∧ s.IntsAt b xs ∧ xs.length ≤ 3072 ∧ (Jvm.Cond.and given_1 narrow_1).before args s = true
def lw_Q (_ : Array Value) (s : State) (o : Outcome) (t : State) : Prop := o = .returned (some (.int 1)) ∧ Framed s o t [] 600000 7302250
def lw_Z (below : List Frame) (a : Array Value) (s : State) : State → Prop := fun t => ∃ o, t.status = .running ∧ Ended t below o ∧ lw_Q a s o t
/-- the law's own end, with 1 on the stack, nothing written that was there before, its room as the claim has it -/
theorem lw_ret {p : Program} {l : Launch} {e : Env} {s : State} {m : MethodId} {below : List Frame} {meth : Method} {c : Code} {b : Nat} (hx : p.tables.exec = Jvm.exec) (hb : c.code = code) (hr : meth.sig.returnType = ret) (hlocks : meth.locks = false) {pc : Nat} {H : Heap} {ls : Array Slot} (hdg : decode code pc = .ok (.ireturn, 1)) : W p l e room_1 s m #[Value.ref b] below meth c H [] 600000 7302250 (lw_Z below #[Value.ref b] s) (F0 m pc ls [.int 1]) := by
  intro T hT X
  obtain ⟨fs, hret, hrun, hended, hW, hframe⟩ := X.leave (v := some (.int 1)) (hlocks := hlocks) (fun h => by rw [hr] at h; cases h)
  have hmeth' : T.vm.method? m = some meth := X.method'
  refine ⟨T.setFrames fs, ?_, .returned (some (.int 1)), hrun, hended, rfl, ⟨_, rfl⟩, hW, hframe⟩
  jvm_step X.here [X.here.top, hx, hb, hdg, hmeth', hr, ret, narrow_b1]
  (try refine ⟨rfl, ?_⟩); (try refine ⟨rfl, ?_⟩)
  first | (intro acts; rw [hret _ acts rfl rfl rfl]) | rw [hret _ _ rfl rfl rfl]
  exact Steps.refl _
/-- what holds at the law's entry: the machine, the code, the tables' words (any of lw_tbl by 'hts w (by decide +kernel)'), the script of L ints xs at the cell b, what the Statement gives of the start (any of its parts by flat_of_before) -/
def lw_At (p : Program) (s : State) (m : MethodId) (meth : Method) (c : Code) (b L : Nat) (xs : Nat → Int32) : Prop :=
  p.tables.exec = Jvm.exec ∧ c.code = code ∧ meth.sig.returnType = ret ∧ c.maxLocals = 4 ∧ s.vm.findClass R_law = some m.cls ∧ (∀ w ∈ lw_tbl, w.before #[Value.ref b] s = true) ∧ va_X b L xs s s.heap ∧ b < s.heap.size ∧ meth.locks = false ∧ (Jvm.Cond.and given_1 narrow_1).before #[Value.ref b] s = true
/-! what stands fixed in the loop, and what moves -/
def lw_F (p : Program) (s : State) (m : MethodId) (c : Code) (b L : Nat) (xs : Nat → Int32) (D : va_G) (cs : ClassId × ClassId × ClassId × ClassId) (adX adM : Nat → Nat) : Prop := p.tables.exec = Jvm.exec ∧ c.code = cL_law ∧ c.maxLocals = 4 ∧ s.vm.findClass RL = some m.cls ∧ (∀ w ∈ lw_good, w.before #[Value.ref b] s = true) ∧ va_K D classes (mm_ty cs) s ∧ mm_Nw nests s ∧ (∀ i j : Nat, i < 87 → j < 12 → adX i ≠ adM j) ∧ va_X b L xs s s.heap ∧ b < s.heap.size ∧ L ≤ 3072
def lw_S (D : va_G) (cs : ClassId × ClassId × ClassId × ClassId) (adX adM : Nat → Nat) (s : State) (h g : mm_H) (v : Nat) (H : Heap) (locs : List Loc) : Prop := Rel h g v ∧ mm_okH h ∧ mm_okH g ∧ va_P D classes (wdX cs adX h) H ∧ va_D (fun q => s.heap.size ≤ q) (wdX cs adX h) ∧ va_P D classes (wdM cs adM g) H ∧ va_D (fun q => s.heap.size ≤ q) (wdM cs adM g) ∧ va_S (fun q => s.heap.size ≤ q) s.heap H locs
theorem lw_G {I : mm_M} (hc : Cond.code I.1 I.2.1 I.2.2.1 I.2.2.2.1 ∈ lw_good) : GoodIn lw_good (mm_ws lw_good I) := fun q hq => by
  have : q ∈ lw_good := (List.mem_cons.mp hq).elim (fun e => e ▸ hc) id
  exact ⟨this, good_of_word (lw_goodw q this)⟩
section LWC
variable {p : Program} {l : Launch} {e : Env} {s : State} {m : MethodId} {below : List Frame} {meth : Method} {c : Code} {b L : Nat} {xs : Nat → Int32} {D : va_G} {cs : ClassId × ClassId × ClassId × ClassId} {adX adM : Nat → Nat} {H : Heap} {locs : List Loc} {Q : State → Prop} {ls : Array Slot} {rest : List Value} {pc : Nat}
theorem la_X (F : lw_F p s m c b L xs D cs adX adM) {y idx n : Nat} {I : mm_M} (hI : infX y = I) {as : List mm_V} {h g : mm_H} {res : mm_R} (er : ex y 0 (mm_ent I.2.2.1 (mm_r 0 :: as)) [] h = some res) (hokS : mm_okS as) (hokH : mm_okH h) (hall : as.all mm_c1 = true) (hlen : as.length + 1 ≤ I.2.2.1) (hcode : Cond.code I.1 I.2.1 I.2.2.1 I.2.2.2.1 ∈ lw_good) (hini : Cond.initialized I.1.cls ∈ lw_good) (hlink : Cond.methodLink RL idx I.1 ∈ lw_good) (hinst : Cond.instanceMethod I.1 ∈ lw_good) (hsel : Cond.selects RX10 I.1 I.1 ∈ lw_good) (hd : I.1.cls ≠ "java/lang/invoke/MethodHandle" ∧ I.1.cls ≠ "java/lang/invoke/VarHandle" ∧ (parseMethodDescriptor I.1.desc).map (fun d => d.parameters.length) = some n) (hR : I.2.2.2.2 + 2 ≤ 2048 ∧ 8 + (I.2.2.1 + 11) + 100 * (I.2.2.2.2 + 1) ≤ 84000) (hPX : va_P D classes (wdX cs adX h) H) (hDX : va_D (fun q => s.heap.size ≤ q) (wdX cs adX h)) (hPM : va_P D classes (wdM cs adM g) H) (hS : va_S (fun q => s.heap.size ≤ q) s.heap H locs) (hlsz : ls.size = 4) (hn : as.length = n) {st0 : List Value} (hst : st0 = (as.map (mm_f adX)).reverse ++ .ref (adX 0) :: rest) (hrest : (rest.map fun v => v.category).sum ≤ 8) (hdg : decode cL_law pc = .ok (.invokevirtual idx, 3))
    (kk : ∀ (H1 : Heap) (locs1 : List Loc), va_P D classes (wdX cs adX res.2) H1 → va_D (fun q => s.heap.size ≤ q) (wdX cs adX res.2) → mm_okH res.2 → va_P D classes (wdM cs adM g) H1 → va_S (fun q => s.heap.size ≤ q) s.heap H1 locs1 → W p l e room_1 s m #[Value.ref b] below meth c H1 locs1 600000 7302250 Q (F0 m (pc + 3) ls ((res.1.map (mm_f adX)).toList ++ rest))) : W p l e room_1 s m #[Value.ref b] below meth c H locs 600000 7302250 Q (F0 m pc ls st0) := by
  obtain ⟨hx, hb, hml, hown, hts, hK, hNw, hXM, hX, hbl, hL⟩ := F
  refine lc_call (fun y pc => hOkX (l := l) (D := D) (tys := mm_ty cs) (cs := cs) (ad := adX) rfl rfl rfl rfl y pc) hPlX hI er hokS hokH hall hlen hx hb hml hown hts (lw_G hcode) hini hlink hinst (ci := 10) rfl (by decide) (by decide) hsel hd hR hK hNw hPX hDX hS (fun _ h => h) hlsz hn hst hrest hdg ⟨Nat.le_refl _, Nat.le_refl _⟩ (fun H1 locs1 hP1 hD1 hok1 _ hz hk hS1 => ?_)
  refine kk H1 locs1 hP1 hD1 hok1 (hPM.kept (fun k x hx => ?_)) hS1
  obtain ⟨hk12, rfl⟩ := mm_wd_of hx
  have hlt := (hPM k _ hx).lt
  refine hk _ hlt (fun z => ?_)
  rcases z with ⟨i, hi, ei⟩ | z
  · exact hXM i k hi hk12 ei.symm
  · exact absurd hlt (Nat.not_lt.mpr z)
theorem la_M (F : lw_F p s m c b L xs D cs adX adM) {y idx n : Nat} {I : mm_M} (hI : infM y = I) {as : List mm_V} {h g : mm_H} {res : mm_R} (er : em y 0 (mm_ent I.2.2.1 (mm_r 0 :: as)) [] g = some res) (hokS : mm_okS as) (hokH : mm_okH g) (hall : as.all mm_c1 = true) (hlen : as.length + 1 ≤ I.2.2.1) (hcode : Cond.code I.1 I.2.1 I.2.2.1 I.2.2.2.1 ∈ lw_good) (hini : Cond.initialized I.1.cls ∈ lw_good) (hlink : Cond.methodLink RL idx I.1 ∈ lw_good) (hinst : Cond.instanceMethod I.1 ∈ lw_good) (hsel : Cond.selects RX11 I.1 I.1 ∈ lw_good) (hd : I.1.cls ≠ "java/lang/invoke/MethodHandle" ∧ I.1.cls ≠ "java/lang/invoke/VarHandle" ∧ (parseMethodDescriptor I.1.desc).map (fun d => d.parameters.length) = some n) (hR : I.2.2.2.2 + 2 ≤ 2048 ∧ 8 + (I.2.2.1 + 11) + 100 * (I.2.2.2.2 + 1) ≤ 84000) (hPX : va_P D classes (wdX cs adX h) H) (hPM : va_P D classes (wdM cs adM g) H) (hDM : va_D (fun q => s.heap.size ≤ q) (wdM cs adM g)) (hS : va_S (fun q => s.heap.size ≤ q) s.heap H locs) (hlsz : ls.size = 4) (hn : as.length = n) {st0 : List Value} (hst : st0 = (as.map (mm_f adM)).reverse ++ .ref (adM 0) :: rest) (hrest : (rest.map fun v => v.category).sum ≤ 8) (hdg : decode cL_law pc = .ok (.invokevirtual idx, 3))
    (kk : ∀ (H1 : Heap) (locs1 : List Loc), va_P D classes (wdM cs adM res.2) H1 → va_D (fun q => s.heap.size ≤ q) (wdM cs adM res.2) → mm_okH res.2 → va_P D classes (wdX cs adX h) H1 → va_S (fun q => s.heap.size ≤ q) s.heap H1 locs1 → W p l e room_1 s m #[Value.ref b] below meth c H1 locs1 600000 7302250 Q (F0 m (pc + 3) ls ((res.1.map (mm_f adM)).toList ++ rest))) : W p l e room_1 s m #[Value.ref b] below meth c H locs 600000 7302250 Q (F0 m pc ls st0) := by
  obtain ⟨hx, hb, hml, hown, hts, hK, hNw, hXM, hX, hbl, hL⟩ := F
  refine lc_call (fun y pc => hOkM (l := l) (D := D) (tys := mm_ty cs) (cs := cs) (ad := adM) rfl rfl rfl rfl y pc) hPlM hI er hokS hokH hall hlen hx hb hml hown hts (lw_G hcode) hini hlink hinst (ci := 11) rfl (by decide) (by decide) hsel hd hR hK hNw hPM hDM hS (fun _ h => h) hlsz hn hst hrest hdg ⟨Nat.le_refl _, Nat.le_refl _⟩ (fun H1 locs1 hP1 hD1 hok1 _ hz hk hS1 => ?_)
  refine kk H1 locs1 hP1 hD1 hok1 (hPX.kept (fun k x hx => ?_)) hS1
  obtain ⟨hk87, rfl⟩ := mm_wd_of hx
  have hlt := (hPX k _ hx).lt
  refine hk _ hlt (fun z => ?_)
  rcases z with ⟨i, hi, ei⟩ | z
  · exact hXM k i hk87 hi ei
  · exact absurd hlt (Nat.not_lt.mpr z)
/-- a number of the script -/
theorem la_a (F : lw_F p s m c b L xs D cs adX adM) {i j : Nat} {n : Int} (hi : i + 6 ≤ L) (hj : j ≤ 5) (hn : Int32.ofInt n = nI j) (hl : lv_has ls 4 [(3, .int (nI i)), (0, .ref b), (1, .ref (adX 0)), (2, .ref (adM 0))]) (hS : va_S (fun q => s.heap.size ≤ q) s.heap H locs) (d0 : decode cL_law pc = .ok (.aload_n 0, 1)) (d1 : decode cL_law (pc + 1) = .ok (.iload_n 3, 1)) (d2 : decode cL_law (pc + 1 + 1) = .ok (.iconst n, 1)) (d3 : decode cL_law (pc + 1 + 1 + 1) = .ok (.iadd, 1)) (d4 : decode cL_law (pc + 1 + 1 + 1 + 1) = .ok (.iaload, 1)) (kk : W p l e room_1 s m #[Value.ref b] below meth c H locs 600000 7302250 Q (F0 m (pc + 1 + 1 + 1 + 1 + 1) ls (.int (Int32.ofInt (xs (i + j)).toInt) :: rest))) : W p l e room_1 s m #[Value.ref b] below meth c H locs 600000 7302250 Q (F0 m pc ls rest) := by
  obtain ⟨hx, hb, hml, hown, hts, hK, hNw, hXM, hX, hbl, hL⟩ := F
  refine lv_aload_n hx hb d0 rfl (lv_at hl 1 rfl) ?_
  refine lv_iload_n hx hb d1 rfl (lv_at hl 0 rfl) ?_
  refine lv_iconst (v := nI j) hx hb d2 hn ?_
  refine lv_iadd hx hb d3 ?_
  rw [nI_add]
  refine va_sld hx hb hX hbl (Nat.not_le.mpr hbl) hS (vp_in_nI (by omega) (by omega)) d4 ?_
  rw [nI_clamp (by omega)]
  rw [Int32.ofInt_toInt] at kk
  exact kk
end LWC
theorem vw_225 : Cond.code yX10_write cX10_write 2 (some FieldType.int) ∈ lw_good := lw_in 472 (by decide +kernel) rfl
theorem vw_226 : Cond.methodLink RL 13 yX10_write ∈ lw_good := lw_in 469 (by decide +kernel) rfl
theorem vw_227 : Cond.instanceMethod yX10_write ∈ lw_good := lw_in 470 (by decide +kernel) rfl
theorem vw_228 : Cond.selects RX10 yX10_write yX10_write ∈ lw_good := lw_in 471 (by decide +kernel) rfl
theorem vw_229 : Cond.code yX11_write cX11_write 2 (some FieldType.int) ∈ lw_good := lw_in 873 (by decide +kernel) rfl
theorem vw_230 : Cond.methodLink RL 17 yX11_write ∈ lw_good := lw_in 870 (by decide +kernel) rfl
theorem vw_231 : Cond.instanceMethod yX11_write ∈ lw_good := lw_in 871 (by decide +kernel) rfl
theorem vw_232 : Cond.selects RX11 yX11_write yX11_write ∈ lw_good := lw_in 872 (by decide +kernel) rfl
theorem vw_233 : Cond.code yX10_wipe cX10_wipe 2 (some FieldType.int) ∈ lw_good := lw_in 481 (by decide +kernel) rfl
theorem vw_234 : Cond.methodLink RL 18 yX10_wipe ∈ lw_good := lw_in 478 (by decide +kernel) rfl
theorem vw_235 : Cond.instanceMethod yX10_wipe ∈ lw_good := lw_in 479 (by decide +kernel) rfl
theorem vw_236 : Cond.selects RX10 yX10_wipe yX10_wipe ∈ lw_good := lw_in 480 (by decide +kernel) rfl
theorem vw_237 : Cond.code yX11_wipe cX11_wipe 2 (some FieldType.int) ∈ lw_good := lw_in 880 (by decide +kernel) rfl
theorem vw_238 : Cond.methodLink RL 22 yX11_wipe ∈ lw_good := lw_in 877 (by decide +kernel) rfl
theorem vw_239 : Cond.instanceMethod yX11_wipe ∈ lw_good := lw_in 878 (by decide +kernel) rfl
theorem vw_240 : Cond.selects RX11 yX11_wipe yX11_wipe ∈ lw_good := lw_in 879 (by decide +kernel) rfl
theorem vw_241 : Cond.code yX10_fault cX10_fault 1 (some FieldType.int) ∈ lw_good := lw_in 485 (by decide +kernel) rfl
theorem vw_242 : Cond.methodLink RL 23 yX10_fault ∈ lw_good := lw_in 482 (by decide +kernel) rfl
theorem vw_243 : Cond.instanceMethod yX10_fault ∈ lw_good := lw_in 483 (by decide +kernel) rfl
theorem vw_244 : Cond.selects RX10 yX10_fault yX10_fault ∈ lw_good := lw_in 484 (by decide +kernel) rfl
theorem vw_245 : Cond.code yX11_fault cX11_fault 1 (some FieldType.int) ∈ lw_good := lw_in 884 (by decide +kernel) rfl
theorem vw_246 : Cond.methodLink RL 26 yX11_fault ∈ lw_good := lw_in 881 (by decide +kernel) rfl
theorem vw_247 : Cond.instanceMethod yX11_fault ∈ lw_good := lw_in 882 (by decide +kernel) rfl
theorem vw_248 : Cond.selects RX11 yX11_fault yX11_fault ∈ lw_good := lw_in 883 (by decide +kernel) rfl
theorem vw_249 : Cond.code yX10_lay cX10_lay 2 (some FieldType.int) ∈ lw_good := lw_in 489 (by decide +kernel) rfl
theorem vw_250 : Cond.methodLink RL 27 yX10_lay ∈ lw_good := lw_in 486 (by decide +kernel) rfl
theorem vw_251 : Cond.instanceMethod yX10_lay ∈ lw_good := lw_in 487 (by decide +kernel) rfl
theorem vw_252 : Cond.selects RX10 yX10_lay yX10_lay ∈ lw_good := lw_in 488 (by decide +kernel) rfl
theorem vw_253 : Cond.code yX11_lay cX11_lay 1 (some FieldType.int) ∈ lw_good := lw_in 914 (by decide +kernel) rfl
theorem vw_254 : Cond.methodLink RL 30 yX11_lay ∈ lw_good := lw_in 911 (by decide +kernel) rfl
theorem vw_255 : Cond.instanceMethod yX11_lay ∈ lw_good := lw_in 912 (by decide +kernel) rfl
theorem vw_256 : Cond.selects RX11 yX11_lay yX11_lay ∈ lw_good := lw_in 913 (by decide +kernel) rfl
theorem vw_257 : Cond.code yX10_rope cX10_rope 3 (some FieldType.int) ∈ lw_good := lw_in 501 (by decide +kernel) rfl
theorem vw_258 : Cond.methodLink RL 31 yX10_rope ∈ lw_good := lw_in 498 (by decide +kernel) rfl
theorem vw_259 : Cond.instanceMethod yX10_rope ∈ lw_good := lw_in 499 (by decide +kernel) rfl
theorem vw_260 : Cond.selects RX10 yX10_rope yX10_rope ∈ lw_good := lw_in 500 (by decide +kernel) rfl
theorem vw_261 : Cond.code yX11_rope cX11_rope 3 (some FieldType.int) ∈ lw_good := lw_in 918 (by decide +kernel) rfl
theorem vw_262 : Cond.methodLink RL 35 yX11_rope ∈ lw_good := lw_in 915 (by decide +kernel) rfl
theorem vw_263 : Cond.instanceMethod yX11_rope ∈ lw_good := lw_in 916 (by decide +kernel) rfl
theorem vw_264 : Cond.selects RX11 yX11_rope yX11_rope ∈ lw_good := lw_in 917 (by decide +kernel) rfl
theorem vw_265 : Cond.code yX10_sky cX10_sky 2 (some FieldType.int) ∈ lw_good := lw_in 509 (by decide +kernel) rfl
theorem vw_266 : Cond.methodLink RL 36 yX10_sky ∈ lw_good := lw_in 506 (by decide +kernel) rfl
theorem vw_267 : Cond.instanceMethod yX10_sky ∈ lw_good := lw_in 507 (by decide +kernel) rfl
theorem vw_268 : Cond.selects RX10 yX10_sky yX10_sky ∈ lw_good := lw_in 508 (by decide +kernel) rfl
theorem vw_269 : Cond.code yX11_sky cX11_sky 2 (some FieldType.int) ∈ lw_good := lw_in 926 (by decide +kernel) rfl
theorem vw_270 : Cond.methodLink RL 39 yX11_sky ∈ lw_good := lw_in 923 (by decide +kernel) rfl
theorem vw_271 : Cond.instanceMethod yX11_sky ∈ lw_good := lw_in 924 (by decide +kernel) rfl
theorem vw_272 : Cond.selects RX11 yX11_sky yX11_sky ∈ lw_good := lw_in 925 (by decide +kernel) rfl
theorem vw_273 : Cond.code yX10_light cX10_light 2 (some FieldType.int) ∈ lw_good := lw_in 519 (by decide +kernel) rfl
theorem vw_274 : Cond.methodLink RL 40 yX10_light ∈ lw_good := lw_in 516 (by decide +kernel) rfl
theorem vw_275 : Cond.instanceMethod yX10_light ∈ lw_good := lw_in 517 (by decide +kernel) rfl
theorem vw_276 : Cond.selects RX10 yX10_light yX10_light ∈ lw_good := lw_in 518 (by decide +kernel) rfl
theorem vw_277 : Cond.code yX11_light cX11_light 2 (some FieldType.int) ∈ lw_good := lw_in 938 (by decide +kernel) rfl
theorem vw_278 : Cond.methodLink RL 43 yX11_light ∈ lw_good := lw_in 935 (by decide +kernel) rfl
theorem vw_279 : Cond.instanceMethod yX11_light ∈ lw_good := lw_in 936 (by decide +kernel) rfl
theorem vw_280 : Cond.selects RX11 yX11_light yX11_light ∈ lw_good := lw_in 937 (by decide +kernel) rfl
theorem vw_281 : Cond.code yX10_hour cX10_hour 4 (some FieldType.int) ∈ lw_good := lw_in 531 (by decide +kernel) rfl
theorem vw_282 : Cond.methodLink RL 44 yX10_hour ∈ lw_good := lw_in 528 (by decide +kernel) rfl
theorem vw_283 : Cond.instanceMethod yX10_hour ∈ lw_good := lw_in 529 (by decide +kernel) rfl
theorem vw_284 : Cond.selects RX10 yX10_hour yX10_hour ∈ lw_good := lw_in 530 (by decide +kernel) rfl
theorem vw_285 : Cond.code yX11_hour cX11_hour 3 (some FieldType.int) ∈ lw_good := lw_in 945 (by decide +kernel) rfl
theorem vw_286 : Cond.methodLink RL 47 yX11_hour ∈ lw_good := lw_in 942 (by decide +kernel) rfl
theorem vw_287 : Cond.instanceMethod yX11_hour ∈ lw_good := lw_in 943 (by decide +kernel) rfl
theorem vw_288 : Cond.selects RX11 yX11_hour yX11_hour ∈ lw_good := lw_in 944 (by decide +kernel) rfl
theorem vw_289 : Cond.code yX10_grease cX10_grease 3 (some FieldType.int) ∈ lw_good := lw_in 583 (by decide +kernel) rfl
theorem vw_290 : Cond.methodLink RL 48 yX10_grease ∈ lw_good := lw_in 580 (by decide +kernel) rfl
theorem vw_291 : Cond.instanceMethod yX10_grease ∈ lw_good := lw_in 581 (by decide +kernel) rfl
theorem vw_292 : Cond.selects RX10 yX10_grease yX10_grease ∈ lw_good := lw_in 582 (by decide +kernel) rfl
theorem vw_293 : Cond.code yX11_grease cX11_grease 3 (some FieldType.int) ∈ lw_good := lw_in 967 (by decide +kernel) rfl
theorem vw_294 : Cond.methodLink RL 51 yX11_grease ∈ lw_good := lw_in 964 (by decide +kernel) rfl
theorem vw_295 : Cond.instanceMethod yX11_grease ∈ lw_good := lw_in 965 (by decide +kernel) rfl
theorem vw_296 : Cond.selects RX11 yX11_grease yX11_grease ∈ lw_good := lw_in 966 (by decide +kernel) rfl
theorem vw_297 : Cond.code yX10_undo cX10_undo 1 (some FieldType.int) ∈ lw_good := lw_in 587 (by decide +kernel) rfl
theorem vw_298 : Cond.methodLink RL 52 yX10_undo ∈ lw_good := lw_in 584 (by decide +kernel) rfl
theorem vw_299 : Cond.instanceMethod yX10_undo ∈ lw_good := lw_in 585 (by decide +kernel) rfl
theorem vw_300 : Cond.selects RX10 yX10_undo yX10_undo ∈ lw_good := lw_in 586 (by decide +kernel) rfl
theorem vw_301 : Cond.code yX11_undo cX11_undo 2 (some FieldType.int) ∈ lw_good := lw_in 971 (by decide +kernel) rfl
theorem vw_302 : Cond.methodLink RL 55 yX11_undo ∈ lw_good := lw_in 968 (by decide +kernel) rfl
theorem vw_303 : Cond.instanceMethod yX11_undo ∈ lw_good := lw_in 969 (by decide +kernel) rfl
theorem vw_304 : Cond.selects RX11 yX11_undo yX11_undo ∈ lw_good := lw_in 970 (by decide +kernel) rfl
theorem vw_305 : Cond.code yX10_met cX10_met 1 (some FieldType.int) ∈ lw_good := lw_in 599 (by decide +kernel) rfl
theorem vw_306 : Cond.methodLink RL 56 yX10_met ∈ lw_good := lw_in 596 (by decide +kernel) rfl
theorem vw_307 : Cond.instanceMethod yX10_met ∈ lw_good := lw_in 597 (by decide +kernel) rfl
theorem vw_308 : Cond.selects RX10 yX10_met yX10_met ∈ lw_good := lw_in 598 (by decide +kernel) rfl
theorem vw_309 : Cond.code yX11_met cX11_met 3 (some FieldType.int) ∈ lw_good := lw_in 975 (by decide +kernel) rfl
theorem vw_310 : Cond.methodLink RL 59 yX11_met ∈ lw_good := lw_in 972 (by decide +kernel) rfl
theorem vw_311 : Cond.instanceMethod yX11_met ∈ lw_good := lw_in 973 (by decide +kernel) rfl
theorem vw_312 : Cond.selects RX11 yX11_met yX11_met ∈ lw_good := lw_in 974 (by decide +kernel) rfl
theorem vw_313 : Cond.code yX10_noon cX10_noon 2 (some FieldType.int) ∈ lw_good := lw_in 612 (by decide +kernel) rfl
theorem vw_314 : Cond.methodLink RL 60 yX10_noon ∈ lw_good := lw_in 609 (by decide +kernel) rfl
theorem vw_315 : Cond.instanceMethod yX10_noon ∈ lw_good := lw_in 610 (by decide +kernel) rfl
theorem vw_316 : Cond.selects RX10 yX10_noon yX10_noon ∈ lw_good := lw_in 611 (by decide +kernel) rfl
theorem vw_317 : Cond.code yX11_noon cX11_noon 3 (some FieldType.int) ∈ lw_good := lw_in 979 (by decide +kernel) rfl
theorem vw_318 : Cond.methodLink RL 63 yX11_noon ∈ lw_good := lw_in 976 (by decide +kernel) rfl
theorem vw_319 : Cond.instanceMethod yX11_noon ∈ lw_good := lw_in 977 (by decide +kernel) rfl
theorem vw_320 : Cond.selects RX11 yX11_noon yX11_noon ∈ lw_good := lw_in 978 (by decide +kernel) rfl
theorem vw_321 : Cond.code yX10_soon cX10_soon 3 (some FieldType.int) ∈ lw_good := lw_in 616 (by decide +kernel) rfl
theorem vw_322 : Cond.methodLink RL 64 yX10_soon ∈ lw_good := lw_in 613 (by decide +kernel) rfl
theorem vw_323 : Cond.instanceMethod yX10_soon ∈ lw_good := lw_in 614 (by decide +kernel) rfl
theorem vw_324 : Cond.selects RX10 yX10_soon yX10_soon ∈ lw_good := lw_in 615 (by decide +kernel) rfl
theorem vw_325 : Cond.code yX11_soon cX11_soon 5 (some FieldType.int) ∈ lw_good := lw_in 983 (by decide +kernel) rfl
theorem vw_326 : Cond.methodLink RL 67 yX11_soon ∈ lw_good := lw_in 980 (by decide +kernel) rfl
theorem vw_327 : Cond.instanceMethod yX11_soon ∈ lw_good := lw_in 981 (by decide +kernel) rfl
theorem vw_328 : Cond.selects RX11 yX11_soon yX11_soon ∈ lw_good := lw_in 982 (by decide +kernel) rfl
theorem vw_329 : Cond.code yX10_plan cX10_plan 2 (some FieldType.int) ∈ lw_good := lw_in 633 (by decide +kernel) rfl
theorem vw_330 : Cond.methodLink RL 68 yX10_plan ∈ lw_good := lw_in 630 (by decide +kernel) rfl
theorem vw_331 : Cond.instanceMethod yX10_plan ∈ lw_good := lw_in 631 (by decide +kernel) rfl
theorem vw_332 : Cond.selects RX10 yX10_plan yX10_plan ∈ lw_good := lw_in 632 (by decide +kernel) rfl
theorem vw_333 : Cond.code yX11_plan cX11_plan 11 (some FieldType.int) ∈ lw_good := lw_in 995 (by decide +kernel) rfl
theorem vw_334 : Cond.methodLink RL 71 yX11_plan ∈ lw_good := lw_in 992 (by decide +kernel) rfl
theorem vw_335 : Cond.instanceMethod yX11_plan ∈ lw_good := lw_in 993 (by decide +kernel) rfl
theorem vw_336 : Cond.selects RX11 yX11_plan yX11_plan ∈ lw_good := lw_in 994 (by decide +kernel) rfl
theorem vw_337 : Cond.code yX10_best cX10_best 7 (some FieldType.int) ∈ lw_good := lw_in 656 (by decide +kernel) rfl
theorem vw_338 : Cond.methodLink RL 72 yX10_best ∈ lw_good := lw_in 653 (by decide +kernel) rfl
theorem vw_339 : Cond.instanceMethod yX10_best ∈ lw_good := lw_in 654 (by decide +kernel) rfl
theorem vw_340 : Cond.selects RX10 yX10_best yX10_best ∈ lw_good := lw_in 655 (by decide +kernel) rfl
theorem vw_341 : Cond.code yX11_best cX11_best 7 (some FieldType.int) ∈ lw_good := lw_in 1000 (by decide +kernel) rfl
theorem vw_342 : Cond.methodLink RL 75 yX11_best ∈ lw_good := lw_in 997 (by decide +kernel) rfl
theorem vw_343 : Cond.instanceMethod yX11_best ∈ lw_good := lw_in 998 (by decide +kernel) rfl
theorem vw_344 : Cond.selects RX11 yX11_best yX11_best ∈ lw_good := lw_in 999 (by decide +kernel) rfl
theorem vw_345 : Cond.code yX10_posts cX10_posts 2 (some FieldType.int) ∈ lw_good := lw_in 668 (by decide +kernel) rfl
theorem vw_346 : Cond.methodLink RL 76 yX10_posts ∈ lw_good := lw_in 665 (by decide +kernel) rfl
theorem vw_347 : Cond.instanceMethod yX10_posts ∈ lw_good := lw_in 666 (by decide +kernel) rfl
theorem vw_348 : Cond.selects RX10 yX10_posts yX10_posts ∈ lw_good := lw_in 667 (by decide +kernel) rfl
theorem vw_349 : Cond.code yX11_posts cX11_posts 13 (some FieldType.int) ∈ lw_good := lw_in 1008 (by decide +kernel) rfl
theorem vw_350 : Cond.methodLink RL 79 yX11_posts ∈ lw_good := lw_in 1005 (by decide +kernel) rfl
theorem vw_351 : Cond.instanceMethod yX11_posts ∈ lw_good := lw_in 1006 (by decide +kernel) rfl
theorem vw_352 : Cond.selects RX11 yX11_posts yX11_posts ∈ lw_good := lw_in 1007 (by decide +kernel) rfl
theorem vw_353 : Cond.code yX10_brown cX10_brown 7 (some FieldType.int) ∈ lw_good := lw_in 683 (by decide +kernel) rfl
theorem vw_354 : Cond.methodLink RL 80 yX10_brown ∈ lw_good := lw_in 680 (by decide +kernel) rfl
theorem vw_355 : Cond.instanceMethod yX10_brown ∈ lw_good := lw_in 681 (by decide +kernel) rfl
theorem vw_356 : Cond.selects RX10 yX10_brown yX10_brown ∈ lw_good := lw_in 682 (by decide +kernel) rfl
theorem vw_357 : Cond.code yX11_brown cX11_brown 6 (some FieldType.int) ∈ lw_good := lw_in 1012 (by decide +kernel) rfl
theorem vw_358 : Cond.methodLink RL 83 yX11_brown ∈ lw_good := lw_in 1009 (by decide +kernel) rfl
theorem vw_359 : Cond.instanceMethod yX11_brown ∈ lw_good := lw_in 1010 (by decide +kernel) rfl
theorem vw_360 : Cond.selects RX11 yX11_brown yX11_brown ∈ lw_good := lw_in 1011 (by decide +kernel) rfl
theorem vw_361 : Cond.code yX10_seen cX10_seen 3 (some FieldType.int) ∈ lw_good := lw_in 687 (by decide +kernel) rfl
theorem vw_362 : Cond.methodLink RL 84 yX10_seen ∈ lw_good := lw_in 684 (by decide +kernel) rfl
theorem vw_363 : Cond.instanceMethod yX10_seen ∈ lw_good := lw_in 685 (by decide +kernel) rfl
theorem vw_364 : Cond.selects RX10 yX10_seen yX10_seen ∈ lw_good := lw_in 686 (by decide +kernel) rfl
theorem vw_365 : Cond.code yX11_seen cX11_seen 3 (some FieldType.int) ∈ lw_good := lw_in 1016 (by decide +kernel) rfl
theorem vw_366 : Cond.methodLink RL 87 yX11_seen ∈ lw_good := lw_in 1013 (by decide +kernel) rfl
theorem vw_367 : Cond.instanceMethod yX11_seen ∈ lw_good := lw_in 1014 (by decide +kernel) rfl
theorem vw_368 : Cond.selects RX11 yX11_seen yX11_seen ∈ lw_good := lw_in 1015 (by decide +kernel) rfl
theorem vw_369 : Cond.code yX10_forget cX10_forget 2 (some FieldType.int) ∈ lw_good := lw_in 704 (by decide +kernel) rfl
theorem vw_370 : Cond.methodLink RL 88 yX10_forget ∈ lw_good := lw_in 701 (by decide +kernel) rfl
theorem vw_371 : Cond.instanceMethod yX10_forget ∈ lw_good := lw_in 702 (by decide +kernel) rfl
theorem vw_372 : Cond.selects RX10 yX10_forget yX10_forget ∈ lw_good := lw_in 703 (by decide +kernel) rfl
theorem vw_373 : Cond.code yX11_forget cX11_forget 2 (some FieldType.int) ∈ lw_good := lw_in 1020 (by decide +kernel) rfl
theorem vw_374 : Cond.methodLink RL 91 yX11_forget ∈ lw_good := lw_in 1017 (by decide +kernel) rfl
theorem vw_375 : Cond.instanceMethod yX11_forget ∈ lw_good := lw_in 1018 (by decide +kernel) rfl
theorem vw_376 : Cond.selects RX11 yX11_forget yX11_forget ∈ lw_good := lw_in 1019 (by decide +kernel) rfl
theorem vw_377 : Cond.code yX10_slipped cX10_slipped 2 (some FieldType.int) ∈ lw_good := lw_in 708 (by decide +kernel) rfl
theorem vw_378 : Cond.methodLink RL 92 yX10_slipped ∈ lw_good := lw_in 705 (by decide +kernel) rfl
theorem vw_379 : Cond.instanceMethod yX10_slipped ∈ lw_good := lw_in 706 (by decide +kernel) rfl
theorem vw_380 : Cond.selects RX10 yX10_slipped yX10_slipped ∈ lw_good := lw_in 707 (by decide +kernel) rfl
theorem vw_381 : Cond.code yX11_slipped cX11_slipped 3 (some FieldType.int) ∈ lw_good := lw_in 1024 (by decide +kernel) rfl
theorem vw_382 : Cond.methodLink RL 95 yX11_slipped ∈ lw_good := lw_in 1021 (by decide +kernel) rfl
theorem vw_383 : Cond.instanceMethod yX11_slipped ∈ lw_good := lw_in 1022 (by decide +kernel) rfl
theorem vw_384 : Cond.selects RX11 yX11_slipped yX11_slipped ∈ lw_good := lw_in 1023 (by decide +kernel) rfl
theorem vw_385 : Cond.code yX10_look cX10_look 6 (some FieldType.int) ∈ lw_good := lw_in 727 (by decide +kernel) rfl
theorem vw_386 : Cond.methodLink RL 96 yX10_look ∈ lw_good := lw_in 724 (by decide +kernel) rfl
theorem vw_387 : Cond.instanceMethod yX10_look ∈ lw_good := lw_in 725 (by decide +kernel) rfl
theorem vw_388 : Cond.selects RX10 yX10_look yX10_look ∈ lw_good := lw_in 726 (by decide +kernel) rfl
theorem vw_389 : Cond.code yX11_look cX11_look 9 (some FieldType.int) ∈ lw_good := lw_in 1036 (by decide +kernel) rfl
theorem vw_390 : Cond.methodLink RL 99 yX11_look ∈ lw_good := lw_in 1033 (by decide +kernel) rfl
theorem vw_391 : Cond.instanceMethod yX11_look ∈ lw_good := lw_in 1034 (by decide +kernel) rfl
theorem vw_392 : Cond.selects RX11 yX11_look yX11_look ∈ lw_good := lw_in 1035 (by decide +kernel) rfl
theorem vw_393 : Cond.code yX10_paces cX10_paces 8 (some FieldType.int) ∈ lw_good := lw_in 739 (by decide +kernel) rfl
theorem vw_394 : Cond.methodLink RL 100 yX10_paces ∈ lw_good := lw_in 736 (by decide +kernel) rfl
theorem vw_395 : Cond.instanceMethod yX10_paces ∈ lw_good := lw_in 737 (by decide +kernel) rfl
theorem vw_396 : Cond.selects RX10 yX10_paces yX10_paces ∈ lw_good := lw_in 738 (by decide +kernel) rfl
theorem vw_397 : Cond.code yX11_paces cX11_paces 8 (some FieldType.int) ∈ lw_good := lw_in 1040 (by decide +kernel) rfl
theorem vw_398 : Cond.methodLink RL 104 yX11_paces ∈ lw_good := lw_in 1037 (by decide +kernel) rfl
theorem vw_399 : Cond.instanceMethod yX11_paces ∈ lw_good := lw_in 1038 (by decide +kernel) rfl
theorem vw_400 : Cond.selects RX11 yX11_paces yX11_paces ∈ lw_good := lw_in 1039 (by decide +kernel) rfl
theorem vw_401 : Cond.code yX10_slips cX10_slips 9 (some FieldType.int) ∈ lw_good := lw_in 744 (by decide +kernel) rfl
theorem vw_402 : Cond.methodLink RL 105 yX10_slips ∈ lw_good := lw_in 741 (by decide +kernel) rfl
theorem vw_403 : Cond.instanceMethod yX10_slips ∈ lw_good := lw_in 742 (by decide +kernel) rfl
theorem vw_404 : Cond.selects RX10 yX10_slips yX10_slips ∈ lw_good := lw_in 743 (by decide +kernel) rfl
theorem vw_405 : Cond.code yX11_slips cX11_slips 11 (some FieldType.int) ∈ lw_good := lw_in 1044 (by decide +kernel) rfl
theorem vw_406 : Cond.methodLink RL 109 yX11_slips ∈ lw_good := lw_in 1041 (by decide +kernel) rfl
theorem vw_407 : Cond.instanceMethod yX11_slips ∈ lw_good := lw_in 1042 (by decide +kernel) rfl
theorem vw_408 : Cond.selects RX11 yX11_slips yX11_slips ∈ lw_good := lw_in 1043 (by decide +kernel) rfl
theorem vw_409 : Cond.code yX10_spent cX10_spent 2 (some FieldType.int) ∈ lw_good := lw_in 766 (by decide +kernel) rfl
theorem vw_410 : Cond.methodLink RL 110 yX10_spent ∈ lw_good := lw_in 763 (by decide +kernel) rfl
theorem vw_411 : Cond.instanceMethod yX10_spent ∈ lw_good := lw_in 764 (by decide +kernel) rfl
theorem vw_412 : Cond.selects RX10 yX10_spent yX10_spent ∈ lw_good := lw_in 765 (by decide +kernel) rfl
theorem vw_413 : Cond.code yX11_spent cX11_spent 2 (some FieldType.int) ∈ lw_good := lw_in 1048 (by decide +kernel) rfl
theorem vw_414 : Cond.methodLink RL 113 yX11_spent ∈ lw_good := lw_in 1045 (by decide +kernel) rfl
theorem vw_415 : Cond.instanceMethod yX11_spent ∈ lw_good := lw_in 1046 (by decide +kernel) rfl
theorem vw_416 : Cond.selects RX11 yX11_spent yX11_spent ∈ lw_good := lw_in 1047 (by decide +kernel) rfl
theorem vw_417 : Cond.code yX10_evening cX10_evening 5 (some FieldType.int) ∈ lw_good := lw_in 770 (by decide +kernel) rfl
theorem vw_418 : Cond.methodLink RL 114 yX10_evening ∈ lw_good := lw_in 767 (by decide +kernel) rfl
theorem vw_419 : Cond.instanceMethod yX10_evening ∈ lw_good := lw_in 768 (by decide +kernel) rfl
theorem vw_420 : Cond.selects RX10 yX10_evening yX10_evening ∈ lw_good := lw_in 769 (by decide +kernel) rfl
theorem vw_421 : Cond.code yX11_evening cX11_evening 9 (some FieldType.int) ∈ lw_good := lw_in 1052 (by decide +kernel) rfl
theorem vw_422 : Cond.methodLink RL 117 yX11_evening ∈ lw_good := lw_in 1049 (by decide +kernel) rfl
theorem vw_423 : Cond.instanceMethod yX11_evening ∈ lw_good := lw_in 1050 (by decide +kernel) rfl
theorem vw_424 : Cond.selects RX11 yX11_evening yX11_evening ∈ lw_good := lw_in 1051 (by decide +kernel) rfl
theorem vw_425 : Cond.code yX10_keep cX10_keep 1 (some FieldType.int) ∈ lw_good := lw_in 785 (by decide +kernel) rfl
theorem vw_426 : Cond.methodLink RL 118 yX10_keep ∈ lw_good := lw_in 782 (by decide +kernel) rfl
theorem vw_427 : Cond.instanceMethod yX10_keep ∈ lw_good := lw_in 783 (by decide +kernel) rfl
theorem vw_428 : Cond.selects RX10 yX10_keep yX10_keep ∈ lw_good := lw_in 784 (by decide +kernel) rfl
theorem vw_429 : Cond.code yX11_keep cX11_keep 2 (some FieldType.int) ∈ lw_good := lw_in 1059 (by decide +kernel) rfl
theorem vw_430 : Cond.methodLink RL 121 yX11_keep ∈ lw_good := lw_in 1056 (by decide +kernel) rfl
theorem vw_431 : Cond.instanceMethod yX11_keep ∈ lw_good := lw_in 1057 (by decide +kernel) rfl
theorem vw_432 : Cond.selects RX11 yX11_keep yX11_keep ∈ lw_good := lw_in 1058 (by decide +kernel) rfl
theorem vw_433 : Cond.code yX10_back cX10_back 1 (some FieldType.int) ∈ lw_good := lw_in 790 (by decide +kernel) rfl
theorem vw_434 : Cond.methodLink RL 122 yX10_back ∈ lw_good := lw_in 787 (by decide +kernel) rfl
theorem vw_435 : Cond.instanceMethod yX10_back ∈ lw_good := lw_in 788 (by decide +kernel) rfl
theorem vw_436 : Cond.selects RX10 yX10_back yX10_back ∈ lw_good := lw_in 789 (by decide +kernel) rfl
theorem vw_437 : Cond.code yX11_back cX11_back 2 (some FieldType.int) ∈ lw_good := lw_in 1063 (by decide +kernel) rfl
theorem vw_438 : Cond.methodLink RL 125 yX11_back ∈ lw_good := lw_in 1060 (by decide +kernel) rfl
theorem vw_439 : Cond.instanceMethod yX11_back ∈ lw_good := lw_in 1061 (by decide +kernel) rfl
theorem vw_440 : Cond.selects RX11 yX11_back yX11_back ∈ lw_good := lw_in 1062 (by decide +kernel) rfl
theorem vw_441 : Cond.code yX10_count cX10_count 2 (some FieldType.int) ∈ lw_good := lw_in 794 (by decide +kernel) rfl
theorem vw_442 : Cond.methodLink RL 126 yX10_count ∈ lw_good := lw_in 791 (by decide +kernel) rfl
theorem vw_443 : Cond.instanceMethod yX10_count ∈ lw_good := lw_in 792 (by decide +kernel) rfl
theorem vw_444 : Cond.selects RX10 yX10_count yX10_count ∈ lw_good := lw_in 793 (by decide +kernel) rfl
theorem vw_445 : Cond.code yX11_count cX11_count 2 (some FieldType.int) ∈ lw_good := lw_in 1067 (by decide +kernel) rfl
theorem vw_446 : Cond.methodLink RL 129 yX11_count ∈ lw_good := lw_in 1064 (by decide +kernel) rfl
theorem vw_447 : Cond.instanceMethod yX11_count ∈ lw_good := lw_in 1065 (by decide +kernel) rfl
theorem vw_448 : Cond.selects RX11 yX11_count yX11_count ∈ lw_good := lw_in 1066 (by decide +kernel) rfl
