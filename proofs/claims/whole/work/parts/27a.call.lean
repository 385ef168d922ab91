/-! ===== a method of the mini machine, called from outside ===== -/
section LCC
variable {p : Program} {l : Launch} {e : Env} {R : Room} {s : State} {m : MethodId} {args : Array Value} {below : List Frame} {meth : Method} {c : Code} {H : Heap} {locs : List Loc} {cells slots : Nat} {Q : State → Prop}
variable {cc : ByteArray} {pc : Nat} {ls : Array Slot} {rest : List Value} {A : Nat → Prop} {H0 : Heap} {D : va_G} {cs : ClassId × ClassId × ClassId × ClassId} {N : Nat} {w : mm_W} {ad : Nat → Nat} {inf : Nat → mm_M} {tab : Nat → Nat → mm_I}
theorem lc_call (hOk : ∀ y pc, mm_Ok l D classes (mm_ty cs) lw_good nests N w mm_fs cs ad inf tab (inf y) pc (tab y pc)) (hpl : ∀ y, plainName (inf y).1.cls = true) {y a : Nat} {I : mm_M} (hI : inf y = I) {as : List mm_V} {h : mm_H} {res : mm_R} (er : mm_ev tab (mm_en inf) y 0 (mm_ent I.2.2.1 (mm_r a :: as)) [] h = some res) (hokS : mm_okS as) (hokH : mm_okH h) (hall : as.all mm_c1 = true) (hlen : as.length + 1 ≤ I.2.2.1) {own : String} {nL idx n ci : Nat} (hx : p.tables.exec = Jvm.exec) (hb : c.code = cc) (hml : c.maxLocals = nL) (hown : s.vm.findClass own = some m.cls) {Ts : List Cond} (hts : ∀ w ∈ Ts, w.before args s = true) (hTs : GoodIn Ts (mm_ws lw_good I)) (hini : Cond.initialized I.1.cls ∈ Ts) (hlink : Cond.methodLink own idx I.1 ∈ Ts) (hinst : Cond.instanceMethod I.1 ∈ Ts) {r : vw_C} (hcl : classes[ci]? = some r) (hwa : (w a).1 = ci + 4) (haN : a < N) (hsel : Cond.selects r.1 I.1 I.1 ∈ Ts) (hd : I.1.cls ≠ "java/lang/invoke/MethodHandle" ∧ I.1.cls ≠ "java/lang/invoke/VarHandle" ∧ (parseMethodDescriptor I.1.desc).map (fun d => d.parameters.length) = some n) (hR : I.2.2.2.2 + 2 ≤ R.frames ∧ 8 + (I.2.2.1 + 11) + 100 * (I.2.2.2.2 + 1) ≤ R.locals) (hK : va_K D classes (mm_ty cs) s) (hNw : mm_Nw nests s) (hP : va_P D classes (mm_wd N w mm_fs cs ad h) H) (hD : va_D A (mm_wd N w mm_fs cs ad h)) (hS : va_S A H0 H locs) (hA : ∀ q, H0.size ≤ q → A q) (hlsz : ls.size = nL) (hn : as.length = n) {st0 : List Value} (hst : st0 = (as.map (mm_f ad)).reverse ++ .ref (ad a) :: rest) (hrest : (rest.map fun v => v.category).sum ≤ 8) (hdg : decode cc pc = .ok (.invokevirtual idx, 3)) (hcells : cells + 0 ≤ R.cells ∧ slots + 0 ≤ R.slots)
    (kk : ∀ (H1 : Heap) (locs1 : List Loc), va_P D classes (mm_wd N w mm_fs cs ad res.2) H1 → va_D A (mm_wd N w mm_fs cs ad res.2) → mm_okH res.2 → mm_okS res.1.toList → H.size ≤ H1.size → (∀ q : Nat, q < H.size → ¬ mm_A N ad H.size q → H1[q]? = H[q]?) → va_S A H0 H1 locs1 → W p l e R s m args below meth c H1 locs1 cells slots Q (F0 m (pc + 3) ls ((res.1.map (mm_f ad)).toList ++ rest))) : W p l e R s m args below meth c H locs cells slots Q (F0 m pc ls st0) := by
  subst hI
  obtain ⟨n0, er⟩ := mm_ev_to er
  have hokA : mm_okS (mm_r a :: as) := mm_okS_c (v := mm_r a) trivial hokS
  have hallA : (mm_r a :: as).all mm_c1 = true := by rw [List.all_cons, hall]; rfl
  have hM := mm_sound hOk hpl ((inf y).2.2.2.2 + 1) y (Nat.lt_succ_self _) (mm_r a :: as) h res n0 er hokA hokH hallA hlen H.size
  have hat := mm_wd_at (N := N) (w := w) (fsp := mm_fs) (cs := cs) (ad := ad) (h := h) haN
  rw [mm_cell4 hwa] at hat
  have hAd : ∀ i, i < N → A (ad i) := fun i hi => hD.2 i _ (mm_wd_at hi)
  have hFc : ∀ q, mm_A N ad H.size q → A q := by
    intro q hq
    rcases hq with ⟨i, hi, rfl⟩ | hq
    · exact hAd i hi
    · exact hA q (Nat.le_trans hS.1 hq)
  have hrun := va_runV (H := H) (locs := locs) (cells := cells) (slots := slots) (R := R) (e := e) (below := below) (meth := meth) (g := F0 m pc ls st0) (C := r.1) (As := as.map (mm_f ad)) (rest := rest) ⟨hx, hb, hml, hown, hts⟩ hM ⟨callB_of (bytes := (inf y).2.1) (maxL := (inf y).2.2.1) (ret := (inf y).2.2.2.1) (ws' := lw_good) n hts hTs rfl rfl rfl (hts _ hini) (hts _ hlink) hd hR, hts _ hinst, hts _ hsel⟩ ⟨mm_blind, va_recv hK hP hcl hat, fun U hU hW => ⟨rfl, by rw [hU], by rw [hU]; exact hP, va_K.moved hW.alike hK, hD.weaken (fun _ _ _ _ => trivial), mm_Nw_warm hW hNw⟩⟩ rfl (by rw [List.length_map]; exact hn) hlsz hst (lv_room hrest) hdg hcells
  exact mm_goes2 hrun hS (fun q _ hq => hFc q hq) hFc fun H1 l1 hP1 ok1 ok2 hz hk hS1 => kk H1 l1 hP1 (mm_wd_D hD hAd) ok1 ok2 hz hk hS1
end LCC
