/-! ===== the String constant (by wip/gen/walkj.py) ===== -/
theorem vw_71 : Cond.fieldLink RJ0 38 "java/lang/String" "COMPACT_STRINGS" "Z" ∈ lw_good := lw_in 315 (by decide +kernel) rfl
theorem vw_72 : Cond.fieldLink RJ0 15 "java/lang/String" "coder" "B" ∈ lw_good := lw_in 1069 (by decide +kernel) rfl
theorem vw_73 : Cond.fieldLink RJ0 9 "java/lang/String" "value" "[B" ∈ lw_good := lw_in 1068 (by decide +kernel) rfl
theorem vw_74 : Cond.fieldLink RJ0 1053 "jdk/internal/util/Preconditions" "SIOOBE_FORMATTER" "Ljava/util/function/BiFunction;" ∈ lw_good := lw_in 331 (by decide +kernel) rfl
theorem vw_75 : Cond.code yJ0_coder_7d493 cJ0_coder_7d493 1 (some FieldType.byte) ∈ lw_good := lw_in 314 (by decide +kernel) rfl
theorem vw_76 : Cond.initialized RJ0 ∈ lw_good := lw_in 45 (by decide +kernel) rfl
theorem vw_77 : Cond.methodLink RJ0 335 yJ0_coder_7d493 ∈ lw_good := lw_in 311 (by decide +kernel) rfl
theorem vw_78 : Cond.instanceMethod yJ0_coder_7d493 ∈ lw_good := lw_in 312 (by decide +kernel) rfl
theorem vw_79 : Cond.selects RJ0 yJ0_coder_7d493 yJ0_coder_7d493 ∈ lw_good := lw_in 313 (by decide +kernel) rfl
theorem vw_80 : Cond.code yJ0_isLatin1_aae02 cJ0_isLatin1_aae02 1 (some FieldType.boolean) ∈ lw_good := lw_in 324 (by decide +kernel) rfl
theorem vw_81 : Cond.methodLink RJ0 492 yJ0_isLatin1_aae02 ∈ lw_good := lw_in 321 (by decide +kernel) rfl
theorem vw_82 : Cond.instanceMethod yJ0_isLatin1_aae02 ∈ lw_good := lw_in 322 (by decide +kernel) rfl
theorem vw_83 : Cond.selects RJ0 yJ0_isLatin1_aae02 yJ0_isLatin1_aae02 ∈ lw_good := lw_in 323 (by decide +kernel) rfl
theorem vw_84 : Cond.code yJ3_checkIndex_8e157 cJ3_checkIndex_8e157 3 (some FieldType.int) ∈ lw_good := lw_in 335 (by decide +kernel) rfl
theorem vw_85 : Cond.initialized RJ3 ∈ lw_good := lw_in 47 (by decide +kernel) rfl
theorem vw_86 : Cond.methodLink RJ0 1059 yJ3_checkIndex_8e157 ∈ lw_good := lw_in 333 (by decide +kernel) rfl
theorem vw_87 : Cond.static yJ3_checkIndex_8e157 ∈ lw_good := lw_in 334 (by decide +kernel) rfl
theorem vw_88 : Cond.code yJ0_checkIndex_df160 cJ0_checkIndex_df160 2 none ∈ lw_good := lw_in 330 (by decide +kernel) rfl
theorem vw_89 : Cond.methodLink RJ1 9 yJ0_checkIndex_df160 ∈ lw_good := lw_in 328 (by decide +kernel) rfl
theorem vw_90 : Cond.static yJ0_checkIndex_df160 ∈ lw_good := lw_in 329 (by decide +kernel) rfl
theorem vw_91 : Cond.code yJ1_charAt_3b067 cJ1_charAt_3b067 2 (some FieldType.char) ∈ lw_good := lw_in 327 (by decide +kernel) rfl
theorem vw_92 : Cond.initialized RJ1 ∈ lw_good := lw_in 46 (by decide +kernel) rfl
theorem vw_93 : Cond.methodLink RJ0 495 yJ1_charAt_3b067 ∈ lw_good := lw_in 325 (by decide +kernel) rfl
theorem vw_94 : Cond.static yJ1_charAt_3b067 ∈ lw_good := lw_in 326 (by decide +kernel) rfl
theorem dJ0_length_8abf5_0 : decode cJ0_length_8abf5 0 = .ok (.aload_n 0, 1) := by decide +kernel
theorem dJ0_length_8abf5_1 : decode cJ0_length_8abf5 1 = .ok (.getfield 9, 3) := by decide +kernel
theorem dJ0_length_8abf5_4 : decode cJ0_length_8abf5 4 = .ok (.arraylength, 1) := by decide +kernel
theorem dJ0_length_8abf5_5 : decode cJ0_length_8abf5 5 = .ok (.aload_n 0, 1) := by decide +kernel
theorem dJ0_length_8abf5_6 : decode cJ0_length_8abf5 6 = .ok (.invokevirtual 335, 3) := by decide +kernel
theorem dJ0_length_8abf5_9 : decode cJ0_length_8abf5 9 = .ok (.ishr, 1) := by decide +kernel
theorem dJ0_length_8abf5_10 : decode cJ0_length_8abf5 10 = .ok (.ireturn, 1) := by decide +kernel
theorem dJ0_charAt_5068e_0 : decode cJ0_charAt_5068e 0 = .ok (.aload_n 0, 1) := by decide +kernel
theorem dJ0_charAt_5068e_1 : decode cJ0_charAt_5068e 1 = .ok (.invokevirtual 492, 3) := by decide +kernel
theorem dJ0_charAt_5068e_4 : decode cJ0_charAt_5068e 4 = .ok (.ifCond .eq 12, 3) := by decide +kernel
theorem dJ0_charAt_5068e_7 : decode cJ0_charAt_5068e 7 = .ok (.aload_n 0, 1) := by decide +kernel
theorem dJ0_charAt_5068e_8 : decode cJ0_charAt_5068e 8 = .ok (.getfield 9, 3) := by decide +kernel
theorem dJ0_charAt_5068e_11 : decode cJ0_charAt_5068e 11 = .ok (.iload_n 1, 1) := by decide +kernel
theorem dJ0_charAt_5068e_12 : decode cJ0_charAt_5068e 12 = .ok (.invokestatic 495, 3) := by decide +kernel
theorem dJ0_charAt_5068e_15 : decode cJ0_charAt_5068e 15 = .ok (.ireturn, 1) := by decide +kernel
theorem dJ0_charAt_5068e_16 : decode cJ0_charAt_5068e 16 = .ok (.aload_n 0, 1) := by decide +kernel
theorem dJ0_charAt_5068e_17 : decode cJ0_charAt_5068e 17 = .ok (.getfield 9, 3) := by decide +kernel
theorem dJ0_charAt_5068e_20 : decode cJ0_charAt_5068e 20 = .ok (.iload_n 1, 1) := by decide +kernel
theorem dJ0_charAt_5068e_21 : decode cJ0_charAt_5068e 21 = .ok (.invokestatic 498, 3) := by decide +kernel
theorem dJ0_charAt_5068e_24 : decode cJ0_charAt_5068e 24 = .ok (.ireturn, 1) := by decide +kernel
theorem dJ0_coder_7d493_0 : decode cJ0_coder_7d493 0 = .ok (.getstatic 38, 3) := by decide +kernel
theorem dJ0_coder_7d493_3 : decode cJ0_coder_7d493 3 = .ok (.ifCond .eq 10, 3) := by decide +kernel
theorem dJ0_coder_7d493_6 : decode cJ0_coder_7d493 6 = .ok (.aload_n 0, 1) := by decide +kernel
theorem dJ0_coder_7d493_7 : decode cJ0_coder_7d493 7 = .ok (.getfield 15, 3) := by decide +kernel
theorem dJ0_coder_7d493_10 : decode cJ0_coder_7d493 10 = .ok (.goto 4, 3) := by decide +kernel
theorem dJ0_coder_7d493_13 : decode cJ0_coder_7d493 13 = .ok (.iconst 1, 1) := by decide +kernel
theorem dJ0_coder_7d493_14 : decode cJ0_coder_7d493 14 = .ok (.ireturn, 1) := by decide +kernel
theorem dJ0_isLatin1_aae02_0 : decode cJ0_isLatin1_aae02 0 = .ok (.getstatic 38, 3) := by decide +kernel
theorem dJ0_isLatin1_aae02_3 : decode cJ0_isLatin1_aae02 3 = .ok (.ifCond .eq 14, 3) := by decide +kernel
theorem dJ0_isLatin1_aae02_6 : decode cJ0_isLatin1_aae02 6 = .ok (.aload_n 0, 1) := by decide +kernel
theorem dJ0_isLatin1_aae02_7 : decode cJ0_isLatin1_aae02 7 = .ok (.getfield 15, 3) := by decide +kernel
theorem dJ0_isLatin1_aae02_10 : decode cJ0_isLatin1_aae02 10 = .ok (.ifCond .ne 7, 3) := by decide +kernel
theorem dJ0_isLatin1_aae02_13 : decode cJ0_isLatin1_aae02 13 = .ok (.iconst 1, 1) := by decide +kernel
theorem dJ0_isLatin1_aae02_14 : decode cJ0_isLatin1_aae02 14 = .ok (.goto 4, 3) := by decide +kernel
theorem dJ0_isLatin1_aae02_17 : decode cJ0_isLatin1_aae02 17 = .ok (.iconst 0, 1) := by decide +kernel
theorem dJ0_isLatin1_aae02_18 : decode cJ0_isLatin1_aae02 18 = .ok (.ireturn, 1) := by decide +kernel
theorem dJ0_checkIndex_df160_0 : decode cJ0_checkIndex_df160 0 = .ok (.iload_n 0, 1) := by decide +kernel
theorem dJ0_checkIndex_df160_1 : decode cJ0_checkIndex_df160 1 = .ok (.iload_n 1, 1) := by decide +kernel
theorem dJ0_checkIndex_df160_2 : decode cJ0_checkIndex_df160 2 = .ok (.getstatic 1053, 3) := by decide +kernel
theorem dJ0_checkIndex_df160_5 : decode cJ0_checkIndex_df160 5 = .ok (.invokestatic 1059, 3) := by decide +kernel
theorem dJ0_checkIndex_df160_8 : decode cJ0_checkIndex_df160 8 = .ok (.pop, 1) := by decide +kernel
theorem dJ0_checkIndex_df160_9 : decode cJ0_checkIndex_df160 9 = .ok (.return_, 1) := by decide +kernel
theorem dJ1_charAt_3b067_0 : decode cJ1_charAt_3b067 0 = .ok (.iload_n 1, 1) := by decide +kernel
theorem dJ1_charAt_3b067_1 : decode cJ1_charAt_3b067 1 = .ok (.aload_n 0, 1) := by decide +kernel
theorem dJ1_charAt_3b067_2 : decode cJ1_charAt_3b067 2 = .ok (.arraylength, 1) := by decide +kernel
theorem dJ1_charAt_3b067_3 : decode cJ1_charAt_3b067 3 = .ok (.invokestatic 9, 3) := by decide +kernel
theorem dJ1_charAt_3b067_6 : decode cJ1_charAt_3b067 6 = .ok (.aload_n 0, 1) := by decide +kernel
theorem dJ1_charAt_3b067_7 : decode cJ1_charAt_3b067 7 = .ok (.iload_n 1, 1) := by decide +kernel
theorem dJ1_charAt_3b067_8 : decode cJ1_charAt_3b067 8 = .ok (.baload, 1) := by decide +kernel
theorem dJ1_charAt_3b067_9 : decode cJ1_charAt_3b067 9 = .ok (.sipush 255, 3) := by decide +kernel
theorem dJ1_charAt_3b067_12 : decode cJ1_charAt_3b067 12 = .ok (.iand, 1) := by decide +kernel
theorem dJ1_charAt_3b067_13 : decode cJ1_charAt_3b067 13 = .ok (.i2c, 1) := by decide +kernel
theorem dJ1_charAt_3b067_14 : decode cJ1_charAt_3b067 14 = .ok (.ireturn, 1) := by decide +kernel
theorem dJ3_checkIndex_8e157_0 : decode cJ3_checkIndex_8e157 0 = .ok (.iload_n 0, 1) := by decide +kernel
theorem dJ3_checkIndex_8e157_1 : decode cJ3_checkIndex_8e157 1 = .ok (.ifCond .lt 8, 3) := by decide +kernel
theorem dJ3_checkIndex_8e157_4 : decode cJ3_checkIndex_8e157 4 = .ok (.iload_n 0, 1) := by decide +kernel
theorem dJ3_checkIndex_8e157_5 : decode cJ3_checkIndex_8e157 5 = .ok (.iload_n 1, 1) := by decide +kernel
theorem dJ3_checkIndex_8e157_6 : decode cJ3_checkIndex_8e157 6 = .ok (.if_icmp .lt 10, 3) := by decide +kernel
theorem dJ3_checkIndex_8e157_9 : decode cJ3_checkIndex_8e157 9 = .ok (.aload_n 2, 1) := by decide +kernel
theorem dJ3_checkIndex_8e157_10 : decode cJ3_checkIndex_8e157 10 = .ok (.iload_n 0, 1) := by decide +kernel
theorem dJ3_checkIndex_8e157_11 : decode cJ3_checkIndex_8e157 11 = .ok (.iload_n 1, 1) := by decide +kernel
theorem dJ3_checkIndex_8e157_12 : decode cJ3_checkIndex_8e157 12 = .ok (.invokestatic 95, 3) := by decide +kernel
theorem dJ3_checkIndex_8e157_15 : decode cJ3_checkIndex_8e157 15 = .ok (.athrow, 1) := by decide +kernel
theorem dJ3_checkIndex_8e157_16 : decode cJ3_checkIndex_8e157 16 = .ok (.iload_n 0, 1) := by decide +kernel
theorem dJ3_checkIndex_8e157_17 : decode cJ3_checkIndex_8e157 17 = .ok (.ireturn, 1) := by decide +kernel
/-- the first text -/
def tx_l : List Int := [114, 50, 44, 51, 44, 48, 44, 48, 59, 114, 57, 44, 50, 44, 50, 44, 52, 59, 114, 49, 53, 44, 52, 44, 49, 44, 48, 59, 114, 50, 49, 44, 53, 44, 51, 44, 54, 59, 119, 52, 44, 49, 59, 119, 49, 48, 44, 50, 59, 119, 50, 48, 44, 48, 59, 109, 48, 59, 109, 56, 59, 109, 49, 50, 59, 109, 50, 51, 59, 109, 49, 54, 59, 99, 49, 44, 50, 59]
def tx_f (j : Nat) : Int := tx_l.getD j 0
def tx_v (j : Nat) : Int32 := Int32.ofInt (tx_f j)
theorem tx_ok : ∀ k, k < 78 → (((tx_v k) &&& 255).toUInt32 % 65536).toInt32 = tx_v k ∧ narrow .char (.int (tx_v k)) = .int (tx_v k) := by decide +kernel
def SF (tK tV : Nat) (A : Nat → Prop) (U : State) (H : Heap) : Prop := va_O "java/lang/String" tK A U H ∧ va_OF "java/lang/String" "coder" "B" (.int 0) tK A U H ∧ va_OF "java/lang/String" "value" "[B" (.ref tV) tK A U H ∧ va_T .byte tV 78 (fun j => .int (tx_v j)) A U H ∧ va_Z "java/lang/String" "COMPACT_STRINGS" "Z" (.int 1) A U H ∧ va_Zq "jdk/internal/util/Preconditions" "SIOOBE_FORMATTER" "Ljava/util/function/BiFunction;" A U H
theorem SF.moved {tK tV : Nat} {A : Nat → Prop} {u U : State} {H : Heap} (hvm : u.vm.Alike U.vm) (h : SF tK tV A u H) : SF tK tV A U H := ⟨va_O.moved hvm h.1, va_OF.moved hvm h.2.1, va_OF.moved hvm h.2.2.1, va_T.moved hvm h.2.2.2.1, va_Z.moved hvm h.2.2.2.2.1, va_Zq.moved hvm h.2.2.2.2.2⟩
theorem SF.kept {tK tV : Nat} {A : Nat → Prop} {U : State} {H H1 : Heap} (h : SF tK tV A U H) (hq : ∀ a : Nat, a < H.size → ¬ A a → H1[a]? = H[a]?) : SF tK tV A U H1 := ⟨h.1.kept hq, h.2.1.kept hq, h.2.2.1.kept hq, h.2.2.2.1.kept hq, h.2.2.2.2.1.kept hq, h.2.2.2.2.2.kept hq⟩
theorem va_Z_here {C n d : String} {v : Value} {A : Nat → Prop} {U : State} {H : Heap} (h : va_Z C n d v A U H) : va_Z C n d v (fun q => H.size ≤ q) U H := by
  obtain ⟨cf, kf, fi, f, a, cell, h1, h2, h3, h4, h5, h6, h7, h8⟩ := h
  exact ⟨cf, kf, fi, f, a, cell, h1, h2, h3, h4, h5, h6, h7, Nat.not_le.mpr (Array.getElem?_eq_some_iff.mp h5).1⟩
theorem va_OF_here {o n d : String} {v : Value} {t : Nat} {A : Nat → Prop} {U : State} {H : Heap} (h : va_OF o n d v t A U H) : va_OF o n d v t (fun q => H.size ≤ q) U H := by
  obtain ⟨cf, k, fi, f, cell, h1, h2, h3, h4, h5, h6⟩ := h
  exact ⟨cf, k, fi, f, cell, h1, h2, h3, h4, h5, Nat.not_le.mpr (Array.getElem?_eq_some_iff.mp h3).1⟩
theorem SF.here {tK tV : Nat} {A : Nat → Prop} {U : State} {H : Heap} (h : SF tK tV A U H) : SF tK tV (fun q => H.size ≤ q) U H := by
  obtain ⟨⟨cell, a1, a2, a3, a4⟩, b, c, ⟨cellT, d1, d2, d3, d4, d5, d6, d7⟩, e, f⟩ := h
  refine ⟨⟨cell, a1, a2, a3, Nat.not_le.mpr (Array.getElem?_eq_some_iff.mp a1).1⟩, va_OF_here b, va_OF_here c, ⟨cellT, d1, d2, d3, d4, d5, d6, Nat.not_le.mpr (Array.getElem?_eq_some_iff.mp d1).1⟩, va_Z_here e, ?_⟩
  rcases f with f | ⟨t, f⟩
  · exact Or.inl (va_Z_here f)
  · exact Or.inr ⟨t, va_Z_here f⟩
/-! methods that change nothing -/
def pj_P (tK tV sz : Nat) : State → Prop := fun U => U.heap.size = sz ∧ SF tK tV (fun q => sz ≤ q) U U.heap
def pj_M (l : Launch) (I : mm_M) (As : List Value) (fr tK tV : Nat) (post : Int32 → Prop) : Prop := ∀ sz : Nat, Met l I.1 (mm_ws lw_good I) (kc_R fr 0 0) (va_Pc As (pj_P tK tV sz)) (va_Qi (fun r (_ : Unit) => post r) (fun _ _ => True) (fun q => sz ≤ q)) 0 0 (fun q => sz ≤ q)
def pj_V (l : Launch) (I : mm_M) (As : List Value) (fr tK tV : Nat) : Prop := ∀ sz : Nat, Met l I.1 (mm_ws lw_good I) (kc_R fr 0 0) (va_Pc As (pj_P tK tV sz)) (va_Qv (fun _ : Unit => True) (fun _ _ => True) (fun q => sz ≤ q)) 0 0 (fun q => sz ≤ q)
theorem pj_blind {tK tV sz : Nat} {av : List Value} : FrameBlind (va_Pc av (pj_P tK tV sz)) := fun a U g mk q => by
  obtain ⟨q0, q1, qS⟩ := q
  exact ⟨q0, q1, SF.moved (u := U) (U := U.calling g mk a) (Vm.Alike.refl U.vm) qS⟩
theorem pj_of {l : Launch} {I : mm_M} {As : List Value} {fr tK tV : Nat} {post : Int32 → Prop} {ty : FieldType} (hpl : plainName I.1.cls = true) (hret : I.2.2.2.1 = some ty) (hlen : (lg_sl As).length ≤ I.2.2.1)
    (body : ∀ (p : Program) (e : Env) (s : State) (m : MethodId) (args : Array Value) (below : List Frame) (meth : Method) (c : Code) (ls : Array Slot) (Q : State → Prop), p.tables.exec = Jvm.exec → c.code = I.2.1 → c.maxLocals = I.2.2.1 → s.vm.findClass I.1.cls = some m.cls → (∀ w ∈ mm_ws lw_good I, w.before args s = true) → SF tK tV (fun q => s.heap.size ≤ q) s s.heap → lv_has ls I.2.2.1 (lv_args 0 As) → (∀ (H : Heap) (locs : List Loc) (r : Int32) (pc : Nat) (ls : Array Slot), post r → narrow ty (.int r) = .int r → va_S (fun q => s.heap.size ≤ q) s.heap H locs → decode I.2.1 pc = .ok (.ireturn, 1) → W p l e (kc_R fr 0 0) s m args below meth c H locs 0 0 Q (F0 m pc ls [.int r])) → W p l e (kc_R fr 0 0) s m args below meth c s.heap [] 0 0 Q (F0 m 0 ls [])) : pj_M l I As fr tK tV post := by
  intro sz
  refine Met.ofW (cc := I.2.1) (maxL := I.2.2.1) (ret := I.2.2.2.1) hpl rfl ?_
  intro p e s m args below meth c s1 Bd hml hv
  obtain ⟨rfl, hsz, hSF⟩ := hv
  subst hsz
  have hr := Bd.returns
  rw [hret] at hr
  have hlocks := Bd.notSynchronized
  have hl := lv_entry As (n := I.2.2.1) hlen
  rw [lg_entry_eq]
  have hts := atoms_spec (ws := mm_ws lw_good I) Bd.pre
  have hx := Bd.exec
  have hb := Bd.bytes
  have hw := findClass_of_methodNamed Bd.named
  refine body p e s m _ below meth c _ _ hx hb hml hw hts hSF hl (fun H locs r pc ls hp hn hS1 hdg => ?_)
  exact W.zret hx hb hr hn (fun t ht hW => ⟨⟨r, (), rfl, hp, trivial⟩, hS1.F ht⟩) hS1.2.2 hdg
theorem pj_ofV {l : Launch} {I : mm_M} {As : List Value} {fr tK tV : Nat} (hpl : plainName I.1.cls = true) (hret : I.2.2.2.1 = none) (hlen : (lg_sl As).length ≤ I.2.2.1)
    (body : ∀ (p : Program) (e : Env) (s : State) (m : MethodId) (args : Array Value) (below : List Frame) (meth : Method) (c : Code) (ls : Array Slot) (Q : State → Prop), p.tables.exec = Jvm.exec → c.code = I.2.1 → c.maxLocals = I.2.2.1 → s.vm.findClass I.1.cls = some m.cls → (∀ w ∈ mm_ws lw_good I, w.before args s = true) → SF tK tV (fun q => s.heap.size ≤ q) s s.heap → lv_has ls I.2.2.1 (lv_args 0 As) → (∀ (H : Heap) (locs : List Loc) (pc : Nat) (ls : Array Slot), va_S (fun q => s.heap.size ≤ q) s.heap H locs → decode I.2.1 pc = .ok (.return_, 1) → W p l e (kc_R fr 0 0) s m args below meth c H locs 0 0 Q (F0 m pc ls [])) → W p l e (kc_R fr 0 0) s m args below meth c s.heap [] 0 0 Q (F0 m 0 ls [])) : pj_V l I As fr tK tV := by
  intro sz
  refine Met.ofW (cc := I.2.1) (maxL := I.2.2.1) (ret := I.2.2.2.1) hpl rfl ?_
  intro p e s m args below meth c s1 Bd hml hv
  obtain ⟨rfl, hsz, hSF⟩ := hv
  subst hsz
  have hr := Bd.returns
  rw [hret] at hr
  have hlocks := Bd.notSynchronized
  have hl := lv_entry As (n := I.2.2.1) hlen
  rw [lg_entry_eq]
  have hts := atoms_spec (ws := mm_ws lw_good I) Bd.pre
  have hx := Bd.exec
  have hb := Bd.bytes
  have hw := findClass_of_methodNamed Bd.named
  refine body p e s m _ below meth c _ _ hx hb hml hw hts hSF hl (fun H locs pc ls hS1 hdg => ?_)
  exact W.vret hx hb hr (fun t ht hW => ⟨⟨(), rfl, trivial, trivial⟩, hS1.F ht⟩) hS1.2.2 hdg
section PJC
variable {p : Program} {l : Launch} {e : Env} {R : Room} {s : State} {m : MethodId} {args : Array Value} {below : List Frame} {meth : Method} {c : Code} {H : Heap} {locs : List Loc} {cells slots : Nat} {Q : State → Prop}
variable {cc : ByteArray} {pc : Nat} {ls : Array Slot} {rest : List Value} {A : Nat → Prop}
theorem pj_callV {I : mm_M} {As : List Value} {fr tK tV b : Nat} {post : Int32 → Prop} (hM : pj_M l I (.ref b :: As) fr tK tV post) {own : String} {nL idx n : Nat} (hx : p.tables.exec = Jvm.exec) (hb : c.code = cc) (hml : c.maxLocals = nL) (hown : s.vm.findClass own = some m.cls) {Ts : List Cond} (hts : ∀ w ∈ Ts, w.before args s = true) (hTs : GoodIn Ts (mm_ws lw_good I)) (hini : Cond.initialized I.1.cls ∈ Ts) (hlink : Cond.methodLink own idx I.1 ∈ Ts) (hinst : Cond.instanceMethod I.1 ∈ Ts) (hcl : I.1.cls = "java/lang/String") (hsel : Cond.selects "java/lang/String" I.1 I.1 ∈ Ts) (hd : I.1.cls ≠ "java/lang/invoke/MethodHandle" ∧ I.1.cls ≠ "java/lang/invoke/VarHandle" ∧ (parseMethodDescriptor I.1.desc).map (fun d => d.parameters.length) = some n) (hR : fr + 1 ≤ R.frames ∧ 8 + (I.2.2.1 + 11) + 100 * fr ≤ R.locals) (hSF : SF tK tV A s s.heap) (hbK : b = tK) (hS : va_S A s.heap H locs) (hA : ∀ q, s.heap.size ≤ q → A q) (hlsz : ls.size = nL) (hn : As.length = n) {st0 : List Value} (hst : st0 = As.reverse ++ .ref b :: rest) (hrest : (rest.map fun v => v.category).sum ≤ 8) (hdg : decode cc pc = .ok (.invokevirtual idx, 3)) (hcells : cells + 0 ≤ R.cells ∧ slots + 0 ≤ R.slots)
    (kk : ∀ (r : Int32) (H1 : Heap) (locs1 : List Loc), post r → (∀ q : Nat, q < H.size → H1[q]? = H[q]?) → va_S A s.heap H1 locs1 → W p l e R s m args below meth c H1 locs1 cells slots Q (F0 m (pc + 3) ls (.int r :: rest))) : W p l e R s m args below meth c H locs cells slots Q (F0 m pc ls st0) := by
  subst hbK
  have hSH : SF b tV A s H := hSF.kept hS.2.1
  obtain ⟨cell, a1, a2, a3, a4⟩ := hSH.1
  refine va_calli (va_runV (C := "java/lang/String") (As := As) (rest := rest) ⟨hx, hb, hml, hown, hts⟩ (hM H.size) ⟨callB_of (bytes := I.2.1) (maxL := I.2.2.1) (ret := I.2.2.2.1) (ws' := lw_good) n hts hTs rfl rfl rfl (hts _ hini) (hts _ hlink) hd hR, hts _ hinst, hts _ hsel⟩ ⟨pj_blind, ⟨cell, a1, a2, a3⟩, fun U hU hW => ⟨rfl, by rw [hU], by rw [hU]; exact SF.moved hW.alike hSH.here⟩⟩ rfl hn hlsz hst (lv_room hrest) hdg hcells) hS (fun q h1 h2 => absurd h2 (Nat.not_le.mpr h1)) (fun q h => hA q (Nat.le_trans hS.1 h)) (fun r u t H1 locs1 ht hvm hp hB hz1 hk1 hS1 => ?_)
  exact kk r H1 locs1 hp (fun q hq => hk1 q hq (Nat.not_le.mpr hq)) hS1
theorem pj_callS {I : mm_M} {As : List Value} {fr tK tV : Nat} {post : Int32 → Prop} (hM : pj_M l I As fr tK tV post) {own : String} {nL idx n : Nat} (hx : p.tables.exec = Jvm.exec) (hb : c.code = cc) (hml : c.maxLocals = nL) (hown : s.vm.findClass own = some m.cls) {Ts : List Cond} (hts : ∀ w ∈ Ts, w.before args s = true) (hTs : GoodIn Ts (mm_ws lw_good I)) (hini : Cond.initialized I.1.cls ∈ Ts) (hlink : Cond.methodLink own idx I.1 ∈ Ts) (hstat : Cond.static I.1 ∈ Ts) (hd : I.1.cls ≠ "java/lang/invoke/MethodHandle" ∧ I.1.cls ≠ "java/lang/invoke/VarHandle" ∧ (parseMethodDescriptor I.1.desc).map (fun d => d.parameters.length) = some n) (hR : fr + 1 ≤ R.frames ∧ 8 + (I.2.2.1 + 11) + 100 * fr ≤ R.locals) (hSF : SF tK tV A s s.heap) (hS : va_S A s.heap H locs) (hA : ∀ q, s.heap.size ≤ q → A q) (hlsz : ls.size = nL) (hn : As.length = n) {st0 : List Value} (hst : st0 = As.reverse ++ rest) (hrest : (rest.map fun v => v.category).sum ≤ 8) (hdg : decode cc pc = .ok (.invokestatic idx, 3)) (hcells : cells + 0 ≤ R.cells ∧ slots + 0 ≤ R.slots)
    (kk : ∀ (r : Int32) (H1 : Heap) (locs1 : List Loc), post r → (∀ q : Nat, q < H.size → H1[q]? = H[q]?) → va_S A s.heap H1 locs1 → W p l e R s m args below meth c H1 locs1 cells slots Q (F0 m (pc + 3) ls (.int r :: rest))) : W p l e R s m args below meth c H locs cells slots Q (F0 m pc ls st0) := by
  have hSH : SF tK tV A s H := hSF.kept hS.2.1
  refine va_calli (va_runS (As := As) (rest := rest) ⟨hx, hb, hml, hown, hts⟩ (hM H.size) ⟨callB_of (bytes := I.2.1) (maxL := I.2.2.1) (ret := I.2.2.2.1) (ws' := lw_good) n hts hTs rfl rfl rfl (hts _ hini) (hts _ hlink) hd hR, hts _ hstat⟩ ⟨pj_blind, fun U hU hW => ⟨rfl, by rw [hU], by rw [hU]; exact SF.moved hW.alike hSH.here⟩⟩ rfl hn hlsz hst (lv_room hrest) hdg hcells) hS (fun q h1 h2 => absurd h2 (Nat.not_le.mpr h1)) (fun q h => hA q (Nat.le_trans hS.1 h)) (fun r u t H1 locs1 ht hvm hp hB hz1 hk1 hS1 => ?_)
  exact kk r H1 locs1 hp (fun q hq => hk1 q hq (Nat.not_le.mpr hq)) hS1
theorem pj_callSV {I : mm_M} {As : List Value} {fr tK tV : Nat} (hM : pj_V l I As fr tK tV) {own : String} {nL idx n : Nat} (hx : p.tables.exec = Jvm.exec) (hb : c.code = cc) (hml : c.maxLocals = nL) (hown : s.vm.findClass own = some m.cls) {Ts : List Cond} (hts : ∀ w ∈ Ts, w.before args s = true) (hTs : GoodIn Ts (mm_ws lw_good I)) (hini : Cond.initialized I.1.cls ∈ Ts) (hlink : Cond.methodLink own idx I.1 ∈ Ts) (hstat : Cond.static I.1 ∈ Ts) (hd : I.1.cls ≠ "java/lang/invoke/MethodHandle" ∧ I.1.cls ≠ "java/lang/invoke/VarHandle" ∧ (parseMethodDescriptor I.1.desc).map (fun d => d.parameters.length) = some n) (hR : fr + 1 ≤ R.frames ∧ 8 + (I.2.2.1 + 11) + 100 * fr ≤ R.locals) (hSF : SF tK tV A s s.heap) (hS : va_S A s.heap H locs) (hA : ∀ q, s.heap.size ≤ q → A q) (hlsz : ls.size = nL) (hn : As.length = n) {st0 : List Value} (hst : st0 = As.reverse ++ rest) (hrest : (rest.map fun v => v.category).sum ≤ 8) (hdg : decode cc pc = .ok (.invokestatic idx, 3)) (hcells : cells + 0 ≤ R.cells ∧ slots + 0 ≤ R.slots)
    (kk : ∀ (H1 : Heap) (locs1 : List Loc), (∀ q : Nat, q < H.size → H1[q]? = H[q]?) → va_S A s.heap H1 locs1 → W p l e R s m args below meth c H1 locs1 cells slots Q (F0 m (pc + 3) ls rest)) : W p l e R s m args below meth c H locs cells slots Q (F0 m pc ls st0) := by
  have hSH : SF tK tV A s H := hSF.kept hS.2.1
  refine va_callv (va_runS (As := As) (rest := rest) ⟨hx, hb, hml, hown, hts⟩ (hM H.size) ⟨callB_of (bytes := I.2.1) (maxL := I.2.2.1) (ret := I.2.2.2.1) (ws' := lw_good) n hts hTs rfl rfl rfl (hts _ hini) (hts _ hlink) hd hR, hts _ hstat⟩ ⟨pj_blind, fun U hU hW => ⟨rfl, by rw [hU], by rw [hU]; exact SF.moved hW.alike hSH.here⟩⟩ rfl hn hlsz hst (lv_room hrest) hdg hcells) hS (fun q h1 h2 => absurd h2 (Nat.not_le.mpr h1)) (fun q h => hA q (Nat.le_trans hS.1 h)) (fun u t H1 locs1 ht hvm hp hB hz1 hk1 hS1 => ?_)
  exact kk H1 locs1 (fun q hq => hk1 q hq (Nat.not_le.mpr hq)) hS1
/-- a String constant, wide: the library's row -/
theorem lv_ldcwS (hexec : p.tables.exec = Jvm.exec) (hb : c.code = cc) {own tx : String} {index q : Nat} (hown : s.vm.findClass own = some m.cls) (hZ : vk_R own index tx q s) (hdg : decode cc pc = .ok (.ldc_w index, 3)) (k : W p l e R s m args below meth c H locs cells slots Q (F0 m (pc + 3) ls (.ref q :: rest))) : W p l e R s m args below meth c H locs cells slots Q (F0 m pc ls rest) := fun T hT X =>
  (k T hT X).imp fun t h => ⟨X.ldcStringW hexec hown hZ.1 hZ.2 (g := F0 m pc ls rest) rfl (hb ▸ hdg) t h.1, h.2⟩
end PJC
abbrev ji_coder : mm_M := (yJ0_coder_7d493, cJ0_coder_7d493, 1, some .byte, 0)
abbrev ji_lat : mm_M := (yJ0_isLatin1_aae02, cJ0_isLatin1_aae02, 1, some .boolean, 0)
abbrev ji_len : mm_M := (yJ0_length_8abf5, cJ0_length_8abf5, 1, some .int, 0)
abbrev ji_pc : mm_M := (yJ3_checkIndex_8e157, cJ3_checkIndex_8e157, 3, some .int, 0)
abbrev ji_ci : mm_M := (yJ0_checkIndex_df160, cJ0_checkIndex_df160, 2, none, 0)
abbrev ji_lc : mm_M := (yJ1_charAt_3b067, cJ1_charAt_3b067, 2, some .char, 0)
abbrev ji_ca : mm_M := (yJ0_charAt_5068e, cJ0_charAt_5068e, 2, some .char, 0)
set_option maxRecDepth 20000 in
theorem pj_coder (l : Launch) (tK tV : Nat) : pj_M l ji_coder [.ref tK] 0 tK tV (fun r => r = 0) := by
  refine pj_of (ty := .byte) (by decide) rfl (Nat.le_of_ble_eq_true rfl) ?_
  intro p e s m args below meth c ls Q hx hb hml hown hts hSF hl fin
  have hb : c.code = cJ0_coder_7d493 := hb
  have hown : s.vm.findClass RJ0 = some m.cls := hown
  have hl : lv_has ls 1 [(0, .ref tK)] := hl
  have hS : va_S (fun q => s.heap.size ≤ q) s.heap s.heap [] := va_S.rf
  refine va_gets hx hb hSF.2.2.2.2.1 hS hown (hts _ (List.mem_cons_of_mem _ vw_71)) (fun _ h => h) dJ0_coder_7d493_0 ?_
  refine lv_if_eq (tgt := 13) hx hb dJ0_coder_7d493_3 (by decide) (fun cc => absurd cc (by decide)) (fun _ => ?_)
  refine lv_aload_n hx hb dJ0_coder_7d493_6 rfl (lv_at hl 0 rfl) ?_
  refine vk_getf hx hb hSF.2.1 hS hown (hts _ (List.mem_cons_of_mem _ vw_72)) (fun _ h => h) dJ0_coder_7d493_7 ?_
  refine lv_goto (tgt := 14) hx hb dJ0_coder_7d493_10 (by decide) ?_
  exact fin _ _ 0 _ ls rfl (by decide) hS dJ0_coder_7d493_14
set_option maxRecDepth 20000 in
theorem pj_lat (l : Launch) (tK tV : Nat) : pj_M l ji_lat [.ref tK] 0 tK tV (fun r => r = 1) := by
  refine pj_of (ty := .boolean) (by decide) rfl (Nat.le_of_ble_eq_true rfl) ?_
  intro p e s m args below meth c ls Q hx hb hml hown hts hSF hl fin
  have hb : c.code = cJ0_isLatin1_aae02 := hb
  have hown : s.vm.findClass RJ0 = some m.cls := hown
  have hl : lv_has ls 1 [(0, .ref tK)] := hl
  have hS : va_S (fun q => s.heap.size ≤ q) s.heap s.heap [] := va_S.rf
  refine va_gets hx hb hSF.2.2.2.2.1 hS hown (hts _ (List.mem_cons_of_mem _ vw_71)) (fun _ h => h) dJ0_isLatin1_aae02_0 ?_
  refine lv_if_eq (tgt := 17) hx hb dJ0_isLatin1_aae02_3 (by decide) (fun cc => absurd cc (by decide)) (fun _ => ?_)
  refine lv_aload_n hx hb dJ0_isLatin1_aae02_6 rfl (lv_at hl 0 rfl) ?_
  refine vk_getf hx hb hSF.2.1 hS hown (hts _ (List.mem_cons_of_mem _ vw_72)) (fun _ h => h) dJ0_isLatin1_aae02_7 ?_
  refine lv_if_ne (tgt := 17) hx hb dJ0_isLatin1_aae02_10 (by decide) (fun cc => absurd rfl cc) (fun _ => ?_)
  refine lv_iconst (v := 1) hx hb dJ0_isLatin1_aae02_13 (by decide) ?_
  refine lv_goto (tgt := 18) hx hb dJ0_isLatin1_aae02_14 (by decide) ?_
  exact fin _ _ 1 _ ls rfl (by decide) hS dJ0_isLatin1_aae02_18
set_option maxRecDepth 20000 in
theorem pj_len (l : Launch) (tK tV : Nat) : pj_M l ji_len [.ref tK] 1 tK tV (fun r => r = 78) := by
  refine pj_of (ty := .int) (by decide) rfl (Nat.le_of_ble_eq_true rfl) ?_
  intro p e s m args below meth c ls Q hx hb hml hown hts hSF hl fin
  have hb : c.code = cJ0_length_8abf5 := hb
  have hml : c.maxLocals = 1 := hml
  have hown : s.vm.findClass RJ0 = some m.cls := hown
  have hl : lv_has ls 1 [(0, .ref tK)] := hl
  have hS : va_S (fun q => s.heap.size ≤ q) s.heap s.heap [] := va_S.rf
  refine lv_aload_n hx hb dJ0_length_8abf5_0 rfl (lv_at hl 0 rfl) ?_
  refine vk_getf hx hb hSF.2.2.1 hS hown (hts _ (List.mem_cons_of_mem _ vw_73)) (fun _ h => h) dJ0_length_8abf5_1 ?_
  refine va_tlen hx hb hSF.2.2.2.1 hS (v := 78) rfl dJ0_length_8abf5_4 ?_
  refine lv_aload_n hx hb dJ0_length_8abf5_5 rfl (lv_at hl 0 rfl) ?_
  refine pj_callV (pj_coder l tK tV) hx hb hml hown hts (mm_good lw_goodw (fun z hz => (List.mem_cons.mp hz).elim (fun e => e ▸ vw_75) id)) (List.mem_cons_of_mem _ vw_76) (List.mem_cons_of_mem _ vw_77) (List.mem_cons_of_mem _ vw_78) rfl (List.mem_cons_of_mem _ vw_79) (by decide +kernel) ⟨Nat.le_of_ble_eq_true rfl, Nat.le_of_ble_eq_true rfl⟩ hSF rfl hS (fun _ h => h) hl.1 rfl rfl (Nat.le_of_ble_eq_true rfl) dJ0_length_8abf5_6 ⟨Nat.le_refl _, Nat.le_refl _⟩ (fun r H1 locs1 hr hk hS => ?_)
  subst hr
  refine lv_ishr hx hb dJ0_length_8abf5_9 ?_
  exact fin _ _ 78 _ ls rfl rfl hS dJ0_length_8abf5_10
set_option maxRecDepth 20000 in
theorem pj_pc (l : Launch) (tK tV k : Nat) (hk : k < 78) (v : Value) (hv : v = .null ∨ ∃ t, v = .ref t) : pj_M l ji_pc [.int (nI k), .int 78, v] 0 tK tV (fun _ => True) := by
  refine pj_of (ty := .int) (by decide) rfl (by rcases hv with rfl | ⟨t, rfl⟩ <;> exact Nat.le_of_ble_eq_true rfl) ?_
  intro p e s m args below meth c ls Q hx hb hml hown hts hSF hl fin
  have hb : c.code = cJ3_checkIndex_8e157 := hb
  have hown : s.vm.findClass RJ3 = some m.cls := hown
  have hl : lv_has ls 3 [(0, .int (nI k)), (1, .int 78), (2, v)] := hl
  have hS : va_S (fun q => s.heap.size ≤ q) s.heap s.heap [] := va_S.rf
  refine lv_iload_n hx hb dJ3_checkIndex_8e157_0 rfl (lv_at hl 0 rfl) ?_
  refine lv_if_lt (tgt := 9) hx hb dJ3_checkIndex_8e157_1 (by decide) (fun cc => absurd cc (nI_pos (by omega))) (fun _ => ?_)
  refine lv_iload_n hx hb dJ3_checkIndex_8e157_4 rfl (lv_at hl 0 rfl) ?_
  refine lv_iload_n hx hb dJ3_checkIndex_8e157_5 rfl (lv_at hl 1 rfl) ?_
  refine lv_icmp_lt (tgt := 16) hx hb dJ3_checkIndex_8e157_6 (by decide) (fun _ => ?_) (fun cc => absurd (nI_lt (a := k) (b := 78) hk (by omega)) cc)
  refine lv_iload_n hx hb dJ3_checkIndex_8e157_16 rfl (lv_at hl 0 rfl) ?_
  exact fin _ _ _ _ ls trivial rfl hS dJ3_checkIndex_8e157_17
set_option maxRecDepth 20000 in
theorem pj_ci (l : Launch) (tK tV k : Nat) (hk : k < 78) : pj_V l ji_ci [.int (nI k), .int 78] 1 tK tV := by
  refine pj_ofV (by decide) rfl (Nat.le_of_ble_eq_true rfl) ?_
  intro p e s m args below meth c ls Q hx hb hml hown hts hSF hl fin
  have hb : c.code = cJ0_checkIndex_df160 := hb
  have hml : c.maxLocals = 2 := hml
  have hown : s.vm.findClass RJ0 = some m.cls := hown
  have hl : lv_has ls 2 [(0, .int (nI k)), (1, .int 78)] := hl
  have hS : va_S (fun q => s.heap.size ≤ q) s.heap s.heap [] := va_S.rf
  have go : ∀ v : Value, (v = .null ∨ ∃ t, v = .ref t) → va_Z "jdk/internal/util/Preconditions" "SIOOBE_FORMATTER" "Ljava/util/function/BiFunction;" v (fun q => s.heap.size ≤ q) s s.heap → W p l e (kc_R 1 0 0) s m args below meth c s.heap [] 0 0 Q (F0 m 0 ls []) := by
    intro v hv hZ
    refine lv_iload_n hx hb dJ0_checkIndex_df160_0 rfl (lv_at hl 0 rfl) ?_
    refine lv_iload_n hx hb dJ0_checkIndex_df160_1 rfl (lv_at hl 1 rfl) ?_
    refine va_gets hx hb hZ hS hown (hts _ (List.mem_cons_of_mem _ vw_74)) (fun _ h => h) dJ0_checkIndex_df160_2 ?_
    refine pj_callS (n := 3) (pj_pc l tK tV k hk v hv) hx hb hml hown hts (mm_good lw_goodw (fun z hz => (List.mem_cons.mp hz).elim (fun e => e ▸ vw_84) id)) (List.mem_cons_of_mem _ vw_85) (List.mem_cons_of_mem _ vw_86) (List.mem_cons_of_mem _ vw_87) (by decide +kernel) ⟨Nat.le_of_ble_eq_true rfl, Nat.le_of_ble_eq_true rfl⟩ hSF hS (fun _ h => h) hl.1 rfl (rest := []) rfl (Nat.le_of_ble_eq_true rfl) dJ0_checkIndex_df160_5 ⟨Nat.le_refl _, Nat.le_refl _⟩ (fun r H1 locs1 hr hk hS => ?_)
    refine lv_pop hx hb dJ0_checkIndex_df160_8 rfl ?_
    exact fin _ _ _ ls hS dJ0_checkIndex_df160_9
  rcases hSF.2.2.2.2.2 with h | ⟨t, h⟩
  · exact go _ (Or.inl rfl) h
  · exact go _ (Or.inr ⟨t, rfl⟩) h
set_option maxRecDepth 20000 in
theorem pj_lc (l : Launch) (tK tV k : Nat) (hk : k < 78) : pj_M l ji_lc [.ref tV, .int (nI k)] 2 tK tV (fun r => r = tx_v k) := by
  refine pj_of (ty := .char) (by decide) rfl (Nat.le_of_ble_eq_true rfl) ?_
  intro p e s m args below meth c ls Q hx hb hml hown hts hSF hl fin
  have hb : c.code = cJ1_charAt_3b067 := hb
  have hml : c.maxLocals = 2 := hml
  have hown : s.vm.findClass RJ1 = some m.cls := hown
  have hl : lv_has ls 2 [(0, .ref tV), (1, .int (nI k))] := hl
  have hS : va_S (fun q => s.heap.size ≤ q) s.heap s.heap [] := va_S.rf
  refine lv_iload_n hx hb dJ1_charAt_3b067_0 rfl (lv_at hl 1 rfl) ?_
  refine lv_aload_n hx hb dJ1_charAt_3b067_1 rfl (lv_at hl 0 rfl) ?_
  refine va_tlen hx hb hSF.2.2.2.1 hS (v := 78) rfl dJ1_charAt_3b067_2 ?_
  refine pj_callSV (n := 2) (pj_ci l tK tV k hk) hx hb hml hown hts (mm_good lw_goodw (fun z hz => (List.mem_cons.mp hz).elim (fun e => e ▸ vw_88) id)) (List.mem_cons_of_mem _ vw_76) (List.mem_cons_of_mem _ vw_89) (List.mem_cons_of_mem _ vw_90) (by decide +kernel) ⟨Nat.le_of_ble_eq_true rfl, Nat.le_of_ble_eq_true rfl⟩ hSF hS (fun _ h => h) hl.1 rfl (rest := []) rfl (Nat.le_of_ble_eq_true rfl) dJ1_charAt_3b067_3 ⟨Nat.le_refl _, Nat.le_refl _⟩ (fun H1 locs1 hk1 hS => ?_)
  refine lv_aload_n hx hb dJ1_charAt_3b067_6 rfl (lv_at hl 0 rfl) ?_
  refine lv_iload_n hx hb dJ1_charAt_3b067_7 rfl (lv_at hl 1 rfl) ?_
  refine va_tb hx hb hSF.2.2.2.1 hS (vp_in_nI hk (by omega)) (v := .int (tx_v k)) (by rw [nI_clamp (by omega)]) dJ1_charAt_3b067_8 ?_
  refine lv_sipush (v := 255) hx hb dJ1_charAt_3b067_9 (by decide) ?_
  refine lv_iand hx hb dJ1_charAt_3b067_12 ?_
  refine lv_i2c (v := tx_v k) hx hb dJ1_charAt_3b067_13 (tx_ok k hk).1 ?_
  exact fin _ _ _ _ ls rfl (tx_ok k hk).2 hS dJ1_charAt_3b067_14
set_option maxRecDepth 20000 in
theorem pj_ca (l : Launch) (tK tV k : Nat) (hk : k < 78) : pj_M l ji_ca [.ref tK, .int (nI k)] 3 tK tV (fun r => r = tx_v k) := by
  refine pj_of (ty := .char) (by decide) rfl (Nat.le_of_ble_eq_true rfl) ?_
  intro p e s m args below meth c ls Q hx hb hml hown hts hSF hl fin
  have hb : c.code = cJ0_charAt_5068e := hb
  have hml : c.maxLocals = 2 := hml
  have hown : s.vm.findClass RJ0 = some m.cls := hown
  have hl : lv_has ls 2 [(0, .ref tK), (1, .int (nI k))] := hl
  have hS : va_S (fun q => s.heap.size ≤ q) s.heap s.heap [] := va_S.rf
  refine lv_aload_n hx hb dJ0_charAt_5068e_0 rfl (lv_at hl 0 rfl) ?_
  refine pj_callV (pj_lat l tK tV) hx hb hml hown hts (mm_good lw_goodw (fun z hz => (List.mem_cons.mp hz).elim (fun e => e ▸ vw_80) id)) (List.mem_cons_of_mem _ vw_76) (List.mem_cons_of_mem _ vw_81) (List.mem_cons_of_mem _ vw_82) rfl (List.mem_cons_of_mem _ vw_83) (by decide +kernel) ⟨Nat.le_of_ble_eq_true rfl, Nat.le_of_ble_eq_true rfl⟩ hSF rfl hS (fun _ h => h) hl.1 rfl rfl (Nat.le_of_ble_eq_true rfl) dJ0_charAt_5068e_1 ⟨Nat.le_refl _, Nat.le_refl _⟩ (fun r H1 locs1 hr hk1 hS => ?_)
  subst hr
  refine lv_if_eq (tgt := 16) hx hb dJ0_charAt_5068e_4 (by decide) (fun cc => absurd cc (by decide)) (fun _ => ?_)
  refine lv_aload_n hx hb dJ0_charAt_5068e_7 rfl (lv_at hl 0 rfl) ?_
  refine vk_getf hx hb hSF.2.2.1 hS hown (hts _ (List.mem_cons_of_mem _ vw_73)) (fun _ h => h) dJ0_charAt_5068e_8 ?_
  refine lv_iload_n hx hb dJ0_charAt_5068e_11 rfl (lv_at hl 1 rfl) ?_
  refine pj_callS (n := 2) (pj_lc l tK tV k hk) hx hb hml hown hts (mm_good lw_goodw (fun z hz => (List.mem_cons.mp hz).elim (fun e => e ▸ vw_91) id)) (List.mem_cons_of_mem _ vw_92) (List.mem_cons_of_mem _ vw_93) (List.mem_cons_of_mem _ vw_94) (by decide +kernel) ⟨Nat.le_of_ble_eq_true rfl, Nat.le_of_ble_eq_true rfl⟩ hSF hS (fun _ h => h) hl.1 rfl (rest := []) rfl (Nat.le_of_ble_eq_true rfl) dJ0_charAt_5068e_12 ⟨Nat.le_refl _, Nat.le_refl _⟩ (fun r H1 locs1 hr hk1 hS => ?_)
  subst hr
  exact fin _ _ _ _ ls rfl (tx_ok k hk).2 hS dJ0_charAt_5068e_15
