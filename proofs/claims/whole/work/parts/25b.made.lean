/-! ===== what constructors make ===== -/
abbrev mm_ty (cs : ClassId × ClassId × ClassId × ClassId) : List (ClassId × FieldType) := [(cs.1, .int), (cs.2.1, .char), (cs.2.2.1, .object RX3), (cs.2.2.2, .array .int)]
/-- zeros -/
abbrev zi (cs : ClassId × ClassId × ClassId × ClassId) (n : Nat) : va_E := .inl (cs.1, n, .inl (fun _ => 0))
abbrev zc (cs : ClassId × ClassId × ClassId × ClassId) (n : Nat) : va_E := .inl (cs.2.1, n, .inl (fun _ => 0))
abbrev zq (cs : ClassId × ClassId × ClassId × ClassId) (n : Nat) (f : Nat → Option Nat) : va_E := .inl (cs.2.2.1, n, .inr (.inr (.inr (.inr f))))
abbrev zg (cs : ClassId × ClassId × ClassId × ClassId) (n : Nat) (f : Nat → Option Nat) : va_E := .inl (cs.2.2.2, n, .inr (.inr (.inr (.inr f))))
/-- what the tables say of arrays over arrays -/
def EX (cs : ClassId × ClassId × ClassId × ClassId) (U : State) : Prop := va_AO RX3 U ∧ ∃ kA, U.vm.classes[cs.2.2.2]? = some kA ∧ kA.kind = .array cs.1 (.array .int)
theorem EX.moved {cs : ClassId × ClassId × ClassId × ClassId} {u U : State} (hvm : u.vm.Alike U.vm) (h : EX cs u) : EX cs U := by
  obtain ⟨h1, kA, h2, h3⟩ := h
  obtain ⟨k', hk', he⟩ := hvm.2.2 _ _ h2
  exact ⟨va_AO.moved hvm h1, k', hk', by rw [he]; exact h3⟩
section NW
variable {p : Program} {l : Launch} {e : Env} {R : Room} {s : State} {m : MethodId} {args : Array Value} {below : List Frame} {meth : Method} {c : Code} {H : Heap} {locs : List Loc} {cells slots : Nat} {Q : State → Prop}
variable {cc : ByteArray} {pc : Nat} {ls : Array Slot} {rest : List Value} {D : va_G} {cl : List vw_C} {A : Nat → Prop} {ws : va_W} {H0 : Heap} {cs : ClassId × ClassId × ClassId × ClassId}
theorem nw_i (hexec : p.tables.exec = Jvm.exec) (hb : c.code = cc) (harr : (Cond.arrayClass .int).before args s = true) (hK : va_K D cl (mm_ty cs) s) (hP : va_P D cl ws H) (hD : va_D A ws) (hS : va_S A H0 H locs) (hA : ∀ q, H0.size ≤ q → A q) {n : Int32} {N' : Nat} (hn : ¬ n < 0) (hN : n.toNatClampNeg = N') (hbytes : N' * 4 ≤ 536870912) (hcells : cells + 1 ≤ R.cells) (hslots : slots + N' ≤ R.slots) (hdg : decode cc pc = .ok (.newarray .int, 2)) (kk : ∀ (q : Nat) (H1 : Heap), va_P D cl (ws ++ [(q, zi cs N')]) H1 → va_D A (ws ++ [(q, zi cs N')]) → va_S A H0 H1 locs → W p l e R s m args below meth c H1 locs (cells + 1) (slots + N') Q (F0 m (pc + 2) ls (.ref q :: rest))) : W p l e R s m args below meth c H locs cells slots Q (F0 m pc ls (.int n :: rest)) := by
  refine va_newa (atype := .int) (ty := .int) hexec hb harr rfl hK hP hD hS hA (a0 := (N', .inl (fun _ => 0))) (fun cA => rfl) hn hN hbytes hcells hslots hdg (fun q cA H1 hK1 hP1 hD1 hS1 => ?_)
  have h1 := va_nm_int (hK1.2 4 (cA, .int) rfl).2
  have h2 := va_nm_int (hK.2 0 (cs.1, .int) rfl).2
  have e1 : cA = cs.1 := Option.some.inj (h1.symm.trans h2)
  subst e1
  exact kk q H1 hP1 hD1 hS1
theorem nw_c (hexec : p.tables.exec = Jvm.exec) (hb : c.code = cc) (harr : (Cond.arrayClass .char).before args s = true) (hK : va_K D cl (mm_ty cs) s) (hP : va_P D cl ws H) (hD : va_D A ws) (hS : va_S A H0 H locs) (hA : ∀ q, H0.size ≤ q → A q) {n : Int32} {N' : Nat} (hn : ¬ n < 0) (hN : n.toNatClampNeg = N') (hbytes : N' * 2 ≤ 536870912) (hcells : cells + 1 ≤ R.cells) (hslots : slots + N' ≤ R.slots) (hdg : decode cc pc = .ok (.newarray .char, 2)) (kk : ∀ (q : Nat) (H1 : Heap), va_P D cl (ws ++ [(q, zc cs N')]) H1 → va_D A (ws ++ [(q, zc cs N')]) → va_S A H0 H1 locs → W p l e R s m args below meth c H1 locs (cells + 1) (slots + N') Q (F0 m (pc + 2) ls (.ref q :: rest))) : W p l e R s m args below meth c H locs cells slots Q (F0 m pc ls (.int n :: rest)) := by
  refine va_newa (atype := .char) (ty := .char) hexec hb harr rfl hK hP hD hS hA (a0 := (N', .inl (fun _ => 0))) (fun cA => rfl) hn hN hbytes hcells hslots hdg (fun q cA H1 hK1 hP1 hD1 hS1 => ?_)
  have h1 := va_nm_char (hK1.2 4 (cA, .char) rfl).2
  have h2 := va_nm_char (hK.2 1 (cs.2.1, .char) rfl).2
  have e1 : cA = cs.2.1 := Option.some.inj (h1.symm.trans h2)
  subst e1
  exact kk q H1 hP1 hD1 hS1
theorem nw_q (hexec : p.tables.exec = Jvm.exec) (hb : c.code = cc) {own : String} {index : Nat} (hown : s.vm.findClass own = some m.cls) (hclink : (Cond.classLink own index RX3).before args s = true) (hover : va_AO RX3 s) (hK : va_K D cl (mm_ty cs) s) (hP : va_P D cl ws H) (hD : va_D A ws) (hS : va_S A H0 H locs) (hA : ∀ q, H0.size ≤ q → A q) {n : Int32} {N' : Nat} (hn : ¬ n < 0) (hN : n.toNatClampNeg = N') (hbytes : N' * 4 ≤ 536870912) (hcells : cells + 1 ≤ R.cells) (hslots : slots + N' ≤ R.slots) (hdg : decode cc pc = .ok (.anewarray index, 3)) (kk : ∀ (q : Nat) (H1 : Heap), va_P D cl (ws ++ [(q, zq cs N' (fun _ => none))]) H1 → va_D A (ws ++ [(q, zq cs N' (fun _ => none))]) → va_S A H0 H1 locs → W p l e R s m args below meth c H1 locs (cells + 1) (slots + N') Q (F0 m (pc + 3) ls (.ref q :: rest))) : W p l e R s m args below meth c H locs cells slots Q (F0 m pc ls (.int n :: rest)) := by
  refine va_newq hexec hb hown hclink hover hK hP hD hS hA hn hN hbytes hcells hslots hdg (fun q cA H1 hK1 hP1 hD1 hS1 => ?_)
  obtain ⟨_, _, _, _, _, h1⟩ := (hK1.2 4 (cA, .object RX3) rfl).2
  obtain ⟨_, _, _, _, _, h2⟩ := (hK.2 2 (cs.2.2.1, .object RX3) rfl).2
  have e1 : cA = cs.2.2.1 := Option.some.inj (h1.symm.trans h2)
  subst e1
  exact kk q H1 hP1 hD1 hS1
theorem mb_topq (cA : ClassId) (a : Nat) : mb_top cA a 5 = vp_cell cA (5, .inr (.inr (.inr (.inr (fun j => some (a + 1 + j)))))) := by
  rw [vp_cell_q]
  have h : (fun j : Fin 5 => if j.val < 5 then Value.ref (a + 1 + j.val) else .null) = fun j : Fin 5 => va_rf (some (a + 1 + j.val)) := funext fun j => if_pos j.isLt
  unfold mb_top arrV
  rw [h]
theorem nw_m (hexec : p.tables.exec = Jvm.exec) (hb : c.code = cc) {own : String} {index : Nat} (hown : s.vm.findClass own = some m.cls) (hclink : (Cond.classLink own index "[[I").before args s = true) (hE : EX cs s) (hK : va_K D cl (mm_ty cs) s) (hP : va_P D cl ws H) (hD : va_D A ws) (hS : va_S A H0 H locs) (hA : ∀ q, H0.size ≤ q → A q) (hcells : cells + 6 ≤ R.cells) (hslots : slots + 30 ≤ R.slots) (hdg : decode cc pc = .ok (.multianewarray index 2, 4)) (kk : ∀ (q : Nat) (H1 : Heap) (locs1 : List Loc), va_P D cl (ws ++ [(q, zg cs 5 (fun j => some (q + 1 + j))), (q + 1, zi cs 5), (q + 2, zi cs 5), (q + 3, zi cs 5), (q + 4, zi cs 5), (q + 5, zi cs 5)]) H1 → va_D A (ws ++ [(q, zg cs 5 (fun j => some (q + 1 + j))), (q + 1, zi cs 5), (q + 2, zi cs 5), (q + 3, zi cs 5), (q + 4, zi cs 5), (q + 5, zi cs 5)]) → va_S A H0 H1 locs1 → W p l e R s m args below meth c H1 locs1 (cells + 6) (slots + 30) Q (F0 m (pc + 4) ls (.ref q :: rest))) : W p l e R s m args below meth c H locs cells slots Q (F0 m pc ls (.int 5 :: .int 5 :: rest)) := by
  intro T hT X
  subst hT
  obtain ⟨kA, hkA, hkindA⟩ := hE.2
  have hG : s.vm.findClass "[[I" = some cs.2.2.2 := (hK.2 3 (cs.2.2.2, .array .int) rfl).2
  obtain ⟨-, kR, hkR, cI, hkindR⟩ := (hK.2 0 (cs.1, .int) rfl).1 0 (fun _ => .null)
  obtain ⟨vm1, X1, st⟩ := mb_step X hexec hown hclink hG hkA hkindA hkR hkindR (pc := pc) (ls := ls) (rest := rest) (by rw [hb]; exact hdg) hcells hslots
  have old := fun (q : Nat) (hq : q < T.heap.size) => mb_back (T.setVm vm1) cs.2.2.2 cs.1 5 hq
  have new := mb_fore (T.setVm vm1) cs.2.2.2 cs.1 5
  have len := mb_len (T.setVm vm1) cs.2.2.2 cs.1 5
  have go := kk T.heap.size (mb_on (T.setVm vm1) cs.2.2.2 cs.1 5).heap locs
  generalize hws : [(T.heap.size, zg cs 5 (fun j => some (T.heap.size + 1 + j))), (T.heap.size + 1, zi cs 5), (T.heap.size + 2, zi cs 5), (T.heap.size + 3, zi cs 5), (T.heap.size + 4, zi cs 5), (T.heap.size + 5, zi cs 5)] = nws at go
  have place : ∀ (k : Nat) (x : Nat × va_E), nws[k]? = some x → x.1 = T.heap.size + k := fun k x hx => by
    have h1 : (nws.map Prod.fst)[k]? = some x.1 := by rw [List.getElem?_map, hx]; rfl
    have h2 : nws.map Prod.fst = (List.range 6).map (T.heap.size + ·) := by rw [← hws]; rfl
    rw [h2, List.getElem?_map] at h1
    obtain ⟨j, hj, e1⟩ := Option.map_eq_some_iff.mp h1
    obtain ⟨hlt, hj2⟩ := List.getElem?_eq_some_iff.mp hj
    rw [List.getElem_range] at hj2
    omega
  have made : va_P D cl nws (mb_on (T.setVm vm1) cs.2.2.2 cs.1 5).heap := fun k x hx => by
    rw [← hws] at hx
    match k, hx with
    | 0, hx => cases hx; exact (new 0).trans (congrArg some (mb_topq _ _))
    | 1, hx => cases hx; exact new 1
    | 2, hx => cases hx; exact new 2
    | 3, hx => cases hx; exact new 3
    | 4, hx => cases hx; exact new 4
    | 5, hx => cases hx; exact new 5
    | k + 6, hx => cases hx
  have apart : va_D A nws := ⟨fun i j x y hx hy exy => by
    have := place i x hx
    have := place j y hy
    omega, fun k x hx => by
    rw [place k x hx]
    exact hA _ (Nat.le_trans hS.1 (Nat.le_add_right _ _))⟩
  obtain ⟨t, a1, b1⟩ := go ((hP.kept fun k x hx => old x.1 ((hP k x hx).lt)).app made) (va_D.app hD apart fun i j x y hx hy exy => by
    have := (hP i x hx).lt
    have := place j y hy
    omega) ⟨by rw [len]; exact Nat.le_trans hS.1 (Nat.le_add_right _ _), fun q h1 h2 => (old q (Nat.lt_of_lt_of_le h1 hS.1)).trans (hS.2.1 q h1 h2), hS.2.2⟩ _ rfl X1
  exact ⟨t, st t a1, b1⟩
/-! constructors' contracts -/
abbrev kc_R (fr mc ms : Nat) : Room := { frames := fr, cells := mc, slots := ms, locals := 100 * fr }
def kc_P (D : va_G) (cs : ClassId × ClassId × ClassId × ClassId) (w0 : va_W) (sz : Nat) : State → Prop := fun U => U.heap.size = sz ∧ va_P D classes w0 U.heap ∧ va_K D classes (mm_ty cs) U ∧ va_D (fun _ => True) w0 ∧ EX cs U
def kc_Q (D : va_G) (cs : ClassId × ClassId × ClassId × ClassId) (h0 : Nat) (B : Nat → va_W → Prop) (A : Nat → Prop) : Unit → State → Prop := fun _ t => ∃ blk, B h0 blk ∧ va_P D classes blk t.heap ∧ va_K D classes (mm_ty cs) t ∧ va_D A blk
def kc_M (l : Launch) (D : va_G) (cs : ClassId × ClassId × ClassId × ClassId) (I : mm_M) (ci : Nat) (fs As : List Value) (fr mc ms : Nat) (B : Nat → va_W → Prop) : Prop := ∀ h0 sz : Nat, Met l I.1 (mm_ws lw_good I) (kc_R fr mc ms) (va_Pc (.ref h0 :: As) (kc_P D cs [(h0, .inr (ci, fs))] sz)) (va_Qv (fun _ : Unit => True) (kc_Q D cs h0 B (va_A [(h0, .inr (ci, fs))] sz)) (va_A [(h0, .inr (ci, fs))] sz)) mc ms (va_A [(h0, .inr (ci, fs))] sz)
theorem kc_blind {D : va_G} {w0 : va_W} {sz : Nat} {av : List Value} : FrameBlind (va_Pc av (kc_P D cs w0 sz)) := fun a U g mk q => by
  obtain ⟨q0, q1, qP, qK, qD, qE⟩ := q
  exact ⟨q0, q1, qP, va_K.moved (u := U) (U := U.calling g mk a) (Vm.Alike.refl U.vm) qK, qD, EX.moved (u := U) (U := U.calling g mk a) (Vm.Alike.refl U.vm) qE⟩
/-- a constructor out of the walk of its body -/
theorem kc_of {I : mm_M} {ci : Nat} {fs As : List Value} {fr mc ms : Nat} {B : Nat → va_W → Prop} (hpl : plainName I.1.cls = true) (hret : I.2.2.2.1 = none) (hlen : ∀ h0 : Nat, (lg_sl (Value.ref h0 :: As)).length ≤ I.2.2.1)
    (body : ∀ (p : Program) (e : Env) (s : State) (m : MethodId) (args : Array Value) (below : List Frame) (meth : Method) (c : Code) (h0 : Nat) (A : Nat → Prop) (ls : Array Slot) (Q : State → Prop), p.tables.exec = Jvm.exec → c.code = I.2.1 → c.maxLocals = I.2.2.1 → s.vm.findClass I.1.cls = some m.cls → (∀ w ∈ mm_ws lw_good I, w.before args s = true) → meth.name = I.1.name → (∀ q : Nat, s.heap.size ≤ q → A q) → va_P D classes [(h0, .inr (ci, fs))] s.heap → va_K D classes (mm_ty cs) s → va_D A [(h0, .inr (ci, fs))] → EX cs s → lv_has ls I.2.2.1 (lv_args 0 (Value.ref h0 :: As)) → (∀ (H : Heap) (locs : List Loc) (blk : va_W) (pc : Nat) (ls : Array Slot), B h0 blk → va_P D classes blk H → va_D A blk → va_S A s.heap H locs → decode I.2.1 pc = .ok (.return_, 1) → W p l e (kc_R fr mc ms) s m args below meth c H locs mc ms Q (F0 m pc ls [])) → W p l e (kc_R fr mc ms) s m args below meth c s.heap [] 0 0 Q (F0 m 0 ls [])) : kc_M l D cs I ci fs As fr mc ms B := by
  intro h0 sz
  refine Met.ofW (cc := I.2.1) (maxL := I.2.2.1) (ret := I.2.2.2.1) hpl rfl ?_
  intro p e s m args below meth c s1 Bd hml hv
  obtain ⟨rfl, hsz, hP, hK, hD0, hE⟩ := hv
  subst hsz
  have hr := Bd.returns
  rw [hret] at hr
  have hlocks := Bd.notSynchronized
  have hin : meth.name = I.1.name := (name_of_methodNamed Bd.named Bd.method).1
  have hl := lv_entry (Value.ref h0 :: As) (n := I.2.2.1) (hlen h0)
  rw [lg_entry_eq]
  have hts := atoms_spec (ws := mm_ws lw_good I) Bd.pre
  have hx := Bd.exec
  have hb := Bd.bytes
  have hw := findClass_of_methodNamed Bd.named
  refine body p e s m _ below meth c h0 (va_A [(h0, .inr (ci, fs))] s.heap.size) _ _ hx hb hml hw hts hin (fun q h => Or.inr h) hP hK (hD0.self (sz := s.heap.size)) hE hl (fun H locs blk pc ls hB hP1 hD1 hS1 hdg => ?_)
  exact W.vret hx hb hr (fun t ht hW => ⟨⟨(), rfl, trivial, blk, hB, by rw [ht]; exact hP1, va_K.moved hW.alike hK, hD1⟩, hS1.F ht⟩) hS1.2.2 hdg
/-- a call of a constructor -/
theorem kc_call {I : mm_M} {ci : Nat} {fs As : List Value} {fr mc ms : Nat} {B : Nat → va_W → Prop} (hM : kc_M l D cs I ci fs As fr mc ms B) {own : String} {nL idx n q : Nat} (hx : p.tables.exec = Jvm.exec) (hb : c.code = cc) (hml : c.maxLocals = nL) (hown : s.vm.findClass own = some m.cls) {Ts : List Cond} (hts : ∀ w ∈ Ts, w.before args s = true) (hTs : GoodIn Ts (mm_ws lw_good I)) (hret : I.2.2.2.1 = none) (hini : Cond.initialized I.1.cls ∈ Ts) (hlink : Cond.methodLink own idx I.1 ∈ Ts) (hinst : Cond.instanceMethod I.1 ∈ Ts) (hnm : I.1.name = "<init>") (hd : I.1.cls ≠ "java/lang/invoke/MethodHandle" ∧ I.1.cls ≠ "java/lang/invoke/VarHandle" ∧ (parseMethodDescriptor I.1.desc).map (fun d => d.parameters.length) = some n) (hR : fr + 1 ≤ R.frames ∧ 8 + (I.2.2.1 + 11) + 100 * fr ≤ R.locals) (hK : va_K D classes (mm_ty cs) s) (hE : EX cs s) (hP : va_P D classes (ws ++ [(q, .inr (ci, fs))]) H) (hD : va_D A (ws ++ [(q, .inr (ci, fs))])) (hS : va_S A H0 H locs) (hA : ∀ q, H0.size ≤ q → A q) (hlsz : ls.size = nL) (hn : As.length = n) {st0 : List Value} (hst : st0 = As.reverse ++ .ref q :: rest) (hrest : (rest.map fun v => v.category).sum ≤ 8) (hdg : decode cc pc = .ok (.invokespecial idx, 3)) (hcells : cells + mc ≤ R.cells ∧ slots + ms ≤ R.slots)
    (kk : ∀ (H1 : Heap) (locs1 : List Loc) (blk : va_W), B q blk → va_P D classes (ws ++ blk) H1 → va_D A (ws ++ blk) → va_S A H0 H1 locs1 → W p l e R s m args below meth c H1 locs1 (cells + mc) (slots + ms) Q (F0 m (pc + 3) ls rest)) : W p l e R s m args below meth c H locs cells slots Q (F0 m pc ls st0) := by
  have hat : (ws ++ [(q, (.inr (ci, fs) : va_E))])[ws.length]? = some (q, .inr (ci, fs)) := by
    rw [List.getElem?_append_right (Nat.le_refl _), Nat.sub_self]; rfl
  have hPc : va_P D classes [(q, .inr (ci, fs))] H := fun k x hx => by
    match k, hx with
    | 0, hx => cases hx; exact hP ws.length _ hat
    | k + 1, hx => cases hx
  have hDc : va_D A [(q, .inr (ci, fs))] := ⟨fun i j x y hx hy _ => by
    have h1 := (List.getElem?_eq_some_iff.mp hx).1
    have h2 := (List.getElem?_eq_some_iff.mp hy).1
    simp at h1 h2
    omega, fun k x hx => by
    match k, hx with
    | 0, hx => cases hx; exact hD.2 ws.length _ hat
    | k + 1, hx => cases hx⟩
  have hFc : ∀ x, va_A [(q, .inr (ci, fs))] H.size x → A x := by
    intro x hx
    rcases hx with ⟨k, e0, hk⟩ | hx
    · exact hDc.2 k _ hk
    · exact hA x (Nat.le_trans hS.1 hx)
  refine va_callv (va_runI (As := As) (rest := rest) ⟨hx, hb, hml, hown, hts⟩ (hM q H.size) (cwI (bytes := I.2.1) (maxL := I.2.2.1) (ws' := lw_good) n hts hTs (by show mm_ws lw_good I = _; unfold mm_ws; rw [hret]) rfl rfl (hts _ hini) (hts _ hlink) (hts _ hinst) hnm hd hR) ⟨kc_blind, fun U hU hW => ⟨rfl, by rw [hU], by rw [hU]; exact hPc, va_K.moved hW.alike hK, hDc.weaken (fun _ _ _ _ => trivial), EX.moved hW.alike hE⟩⟩ rfl hn hlsz hst (lv_room hrest) hdg hcells) hS (fun x _ h => hFc x h) hFc (fun u t H1 locs1 ht hvm hw hB hz1 hk1 hS1 => ?_)
  obtain ⟨blk, hBq, hP1, hK1, hD1⟩ := hB
  rw [ht] at hP1
  have apart : ∀ (k : Nat) (x : Nat × va_E), ws[k]? = some x → x.1 < H.size ∧ ¬ va_A [(q, .inr (ci, fs))] H.size x.1 := by
    intro k x hx
    have hkl := (List.getElem?_eq_some_iff.mp hx).1
    have hx2 : (ws ++ [(q, (.inr (ci, fs) : va_E))])[k]? = some x := by rw [List.getElem?_append_left hkl]; exact hx
    have hlt := (hP k x hx2).lt
    refine ⟨hlt, fun h => ?_⟩
    rcases h with ⟨k2, e0, hk2⟩ | h
    · match k2, hk2 with
      | 0, hk2 =>
        cases hk2
        have := hD.1 k ws.length x (x.1, .inr (ci, fs)) hx2 hat rfl
        omega
      | k2 + 1, hk2 => cases hk2
    · omega
  have hDw : va_D A ws := ⟨fun i j x y hx hy exy => hD.1 i j x y (by rw [List.getElem?_append_left (List.getElem?_eq_some_iff.mp hx).1]; exact hx) (by rw [List.getElem?_append_left (List.getElem?_eq_some_iff.mp hy).1]; exact hy) exy, fun k x hx => hD.2 k x (by rw [List.getElem?_append_left (List.getElem?_eq_some_iff.mp hx).1]; exact hx)⟩
  refine kk H1 locs1 blk hBq (va_P.app (fun k x hx => ?_) hP1) (va_D.app hDw (hD1.weaken (fun k x _ h => hFc x.1 h)) (fun i j x y hx hy hxy => ?_)) hS1
  · obtain ⟨g1, g2⟩ := apart k x hx
    have hkl := (List.getElem?_eq_some_iff.mp hx).1
    exact (hP k x (by rw [List.getElem?_append_left hkl]; exact hx)).kept (hk1 x.1 g1 g2)
  · exact (apart i x hx).2 (by rw [hxy]; exact hD1.2 j y hy)
/-- a call of a method of the same form -/
theorem kc_callV {I : mm_M} {ci : Nat} {fs As : List Value} {fr mc ms : Nat} {B : Nat → va_W → Prop} (hM : kc_M l D cs I ci fs As fr mc ms B) {own : String} {nL idx n q : Nat} (hx : p.tables.exec = Jvm.exec) (hb : c.code = cc) (hml : c.maxLocals = nL) (hown : s.vm.findClass own = some m.cls) {Ts : List Cond} (hts : ∀ w ∈ Ts, w.before args s = true) (hTs : GoodIn Ts (mm_ws lw_good I)) (hini : Cond.initialized I.1.cls ∈ Ts) (hlink : Cond.methodLink own idx I.1 ∈ Ts) (hinst : Cond.instanceMethod I.1 ∈ Ts) {r : vw_C} (hcl : classes[ci]? = some r) (hr1 : I.1.cls = r.1) (hsel : Cond.selects r.1 I.1 I.1 ∈ Ts) (hd : I.1.cls ≠ "java/lang/invoke/MethodHandle" ∧ I.1.cls ≠ "java/lang/invoke/VarHandle" ∧ (parseMethodDescriptor I.1.desc).map (fun d => d.parameters.length) = some n) (hR : fr + 1 ≤ R.frames ∧ 8 + (I.2.2.1 + 11) + 100 * fr ≤ R.locals) (hK : va_K D classes (mm_ty cs) s) (hE : EX cs s) (hP : va_P D classes (ws ++ [(q, .inr (ci, fs))]) H) (hD : va_D A (ws ++ [(q, .inr (ci, fs))])) (hS : va_S A H0 H locs) (hA : ∀ q, H0.size ≤ q → A q) (hlsz : ls.size = nL) (hn : As.length = n) {st0 : List Value} (hst : st0 = As.reverse ++ .ref q :: rest) (hrest : (rest.map fun v => v.category).sum ≤ 8) (hdg : decode cc pc = .ok (.invokevirtual idx, 3)) (hcells : cells + mc ≤ R.cells ∧ slots + ms ≤ R.slots)
    (kk : ∀ (H1 : Heap) (locs1 : List Loc) (blk : va_W), B q blk → va_P D classes (ws ++ blk) H1 → va_D A (ws ++ blk) → va_S A H0 H1 locs1 → W p l e R s m args below meth c H1 locs1 (cells + mc) (slots + ms) Q (F0 m (pc + 3) ls rest)) : W p l e R s m args below meth c H locs cells slots Q (F0 m pc ls st0) := by
  have hat : (ws ++ [(q, (.inr (ci, fs) : va_E))])[ws.length]? = some (q, .inr (ci, fs)) := by
    rw [List.getElem?_append_right (Nat.le_refl _), Nat.sub_self]; rfl
  have hPc : va_P D classes [(q, .inr (ci, fs))] H := fun k x hx => by
    match k, hx with
    | 0, hx => cases hx; exact hP ws.length _ hat
    | k + 1, hx => cases hx
  have hDc : va_D A [(q, .inr (ci, fs))] := ⟨fun i j x y hx hy _ => by
    have h1 := (List.getElem?_eq_some_iff.mp hx).1
    have h2 := (List.getElem?_eq_some_iff.mp hy).1
    simp at h1 h2
    omega, fun k x hx => by
    match k, hx with
    | 0, hx => cases hx; exact hD.2 ws.length _ hat
    | k + 1, hx => cases hx⟩
  have hFc : ∀ x, va_A [(q, .inr (ci, fs))] H.size x → A x := by
    intro x hx
    rcases hx with ⟨k, e0, hk⟩ | hx
    · exact hDc.2 k _ hk
    · exact hA x (Nat.le_trans hS.1 hx)
  refine va_callv (va_runV (C := r.1) (As := As) (rest := rest) ⟨hx, hb, hml, hown, hts⟩ (hM q H.size) ⟨callB_of (bytes := I.2.1) (maxL := I.2.2.1) (ret := I.2.2.2.1) (ws' := lw_good) n hts hTs rfl rfl rfl (hts _ hini) (hts _ hlink) hd hR, hts _ hinst, hts _ hsel⟩ ⟨kc_blind, va_recv hK hP hcl hat, fun U hU hW => ⟨rfl, by rw [hU], by rw [hU]; exact hPc, va_K.moved hW.alike hK, hDc.weaken (fun _ _ _ _ => trivial), EX.moved hW.alike hE⟩⟩ rfl hn hlsz hst (lv_room hrest) hdg hcells) hS (fun x _ h => hFc x h) hFc (fun u t H1 locs1 ht hvm hw hB hz1 hk1 hS1 => ?_)
  obtain ⟨blk, hBq, hP1, hK1, hD1⟩ := hB
  rw [ht] at hP1
  have apart : ∀ (k : Nat) (x : Nat × va_E), ws[k]? = some x → x.1 < H.size ∧ ¬ va_A [(q, .inr (ci, fs))] H.size x.1 := by
    intro k x hx
    have hkl := (List.getElem?_eq_some_iff.mp hx).1
    have hx2 : (ws ++ [(q, (.inr (ci, fs) : va_E))])[k]? = some x := by rw [List.getElem?_append_left hkl]; exact hx
    have hlt := (hP k x hx2).lt
    refine ⟨hlt, fun h => ?_⟩
    rcases h with ⟨k2, e0, hk2⟩ | h
    · match k2, hk2 with
      | 0, hk2 =>
        cases hk2
        have := hD.1 k ws.length x (x.1, .inr (ci, fs)) hx2 hat rfl
        omega
      | k2 + 1, hk2 => cases hk2
    · omega
  have hDw : va_D A ws := ⟨fun i j x y hx hy exy => hD.1 i j x y (by rw [List.getElem?_append_left (List.getElem?_eq_some_iff.mp hx).1]; exact hx) (by rw [List.getElem?_append_left (List.getElem?_eq_some_iff.mp hy).1]; exact hy) exy, fun k x hx => hD.2 k x (by rw [List.getElem?_append_left (List.getElem?_eq_some_iff.mp hx).1]; exact hx)⟩
  refine kk H1 locs1 blk hBq (va_P.app (fun k x hx => ?_) hP1) (va_D.app hDw (hD1.weaken (fun k x _ h => hFc x.1 h)) (fun i j x y hx hy hxy => ?_)) hS1
  · obtain ⟨g1, g2⟩ := apart k x hx
    have hkl := (List.getElem?_eq_some_iff.mp hx).1
    exact (hP k x (by rw [List.getElem?_append_left hkl]; exact hx)).kept (hk1 x.1 g1 g2)
  · exact (apart i x hx).2 (by rw [hxy]; exact hD1.2 j y hy)
end NW
