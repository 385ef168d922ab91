/-! ===== multianewarray, five rows of five ints: the heap gets one stretch of six cells behind it ===== -/
/-- the row of rows at a, k of them in place -/
def mb_top (cA : ClassId) (a k : Nat) : Cell := arrV cA 5 fun j => if j < k then .ref (a + 1 + j) else .null
def mb_low (cR : ClassId) : Cell := arrV cR 5 fun _ => .int 0
/-- the stretch: the row of rows, then k rows -/
def mb_blk (cA cR : ClassId) (a k : Nat) : List Cell := mb_top cA a k :: List.replicate k (mb_low cR)
/-- a state with the stretch behind its heap -/
def mb_on (U : State) (cA cR : ClassId) (k : Nat) : State := { U with heap := U.heap ++ (mb_blk cA cR U.heap.size k).toArray, slotsUsed := U.slotsUsed + (5 + 5 * k) }
theorem mb_len (U : State) (cA cR : ClassId) (k : Nat) : (mb_on U cA cR k).heap.size = U.heap.size + (k + 1) := by
  simp [mb_on, mb_blk]
theorem mb_back (U : State) (cA cR : ClassId) (k : Nat) {q : Nat} (hq : q < U.heap.size) : (mb_on U cA cR k).heap[q]? = U.heap[q]? := by
  simp [mb_on, Array.getElem?_append_left hq]
theorem mb_fore (U : State) (cA cR : ClassId) (k j : Nat) : (mb_on U cA cR k).heap[U.heap.size + j]? = (mb_blk cA cR U.heap.size k)[j]? := by
  simp [mb_on, Array.getElem?_append_right]
theorem mb_zero (U : State) (cA cR : ClassId) : U.pushCell { cls := cA, slots := Array.replicate 5 .null, vm := .none } = mb_on U cA cR 0 := by
  rw [arrV_new]
  simp [State.pushCell, mb_on, mb_blk, mb_top, arrV_size]
theorem mb_fill (cA : ClassId) (a k : Nat) : (mb_top cA a k).setSlot k (.ref (a + (k + 1))) = mb_top cA a (k + 1) := by
  unfold mb_top
  rw [arrV_store]
  congr 1
  funext j
  unfold updV
  by_cases h : j = k
  · subst h
    simp [Nat.add_comm, Nat.add_left_comm]
  · by_cases h2 : j < k
    · simp [h, h2, Nat.lt_succ_of_lt h2]
    · simp [h, h2, show ¬ j < k + 1 by omega]
/-- a further row, and its place in the row of rows: the stretch is one longer -/
theorem mb_more (U : State) (cA cR : ClassId) (k : Nat) : ((mb_on U cA cR k).pushCell (mb_low cR)).setCell U.heap.size ((mb_top cA U.heap.size k).setSlot k (.ref (mb_on U cA cR k).heap.size)) = mb_on U cA cR (k + 1) := by
  rw [mb_len, mb_fill]
  have hh : ((U.heap ++ (mb_blk cA cR U.heap.size k).toArray).push (mb_low cR)).setIfInBounds U.heap.size (mb_top cA U.heap.size (k + 1)) = U.heap ++ (mb_blk cA cR U.heap.size (k + 1)).toArray := by
    apply Array.toList_inj.mp
    simp [mb_blk, List.set_append, List.replicate_succ']
  have hu : U.slotsUsed + (5 + 5 * k) + (mb_low cR).slots.size = U.slotsUsed + (5 + 5 * (k + 1)) := by
    rw [mb_low, arrV_size]; omega
  show ({ U with heap := _, slotsUsed := _ } : State) = { U with heap := _, slotsUsed := _ }
  rw [← hh, ← hu]
  rfl
section MB
variable {E : CtlPost} {e : Env} {d : Bool} {acts : List Action} {U : State}
/-- what is known of an array class, and that five of its elements may be had -/
def mb_ok (e : Env) (vm : Vm) (c comp : ClassId) (ty : FieldType) : Prop := (∃ k, vm.classes[c]? = some k ∧ k.kind = .array comp ty) ∧ 5 ≤ e.platform.arrayLengthLimit ∧ 5 * componentBytes ty ≤ e.platform.maxHeapBytes
theorem mb_take {c comp : ClassId} {ty : FieldType} {v : Value} (ho : mb_ok e U.vm c comp ty) (hv : fits ty v = true) (hz : v.isDefault = true) (h1 : U.heap.size < e.platform.maxCells) (h2 : U.slotsUsed + 5 ≤ e.platform.maxSlots) {Q : Addr → Pre} (hq : Q U.heap.size d acts (U.pushCell { cls := c, slots := Array.replicate 5 v, vm := .none })) : wp (Jvm.newArray c 5 v) Q E e d acts U := by
  obtain ⟨⟨k, hk, hkd⟩, hl, hb⟩ := ho
  have hact : allocActs (Array.replicate 5 v) U.heap.size acts = acts := by
    have e5 : Array.replicate 5 v = #[v, v, v, v, v] := rfl
    simp [allocActs, e5, hz]
  have hfit : ∀ (i : Nat) (x : Value), (Array.replicate 5 v)[i]? = some x → U.fitsSlot c .none i x = true := fun i x hx => by
    have hxv : x = v := Array.eq_of_mem_replicate (Array.mem_of_getElem? hx)
    subst hxv
    simp [State.fitsSlot, State.slotType?, hk, hkd, hv]
  have hs : ¬ 5 > e.platform.maxSlots := by omega
  simp only [Jvm.newArray, Jvm.arrayFits, wp_bind', W.ask, W.ite, W.theClass, W.alloc, W.stop, wp_pure', hk, hkd, Option.some.injEq, exists_eq_left', Nat.not_lt.mpr hl, Nat.not_lt.mpr hb, hs, if_false, Array.size_replicate, hact]
  exact ⟨h1, h2, hfit, hq⟩
/-- one turn of the loop -/
theorem mb_line {cA cR cI : ClassId} (hA : mb_ok e U.vm cA cR (.array .int)) (hR : mb_ok e U.vm cR cI .int) (h1 : U.heap.size + 6 ≤ e.platform.maxCells) (h2 : U.slotsUsed + 30 ≤ e.platform.maxSlots) (k : Nat) (hk : k < 5) {Q : ForInStep PUnit → Pre} (hq : ∀ d' acts', Q (.yield PUnit.unit) d' acts' (mb_on U cA cR (k + 1))) : wp (do let r ← multianewarray.make cR [5]; Jvm.writeLoc U.heap.size k (.ref r); Pure.pure (ForInStep.yield PUnit.unit)) Q E e d acts (mb_on U cA cR k) := by
  have hlen := mb_len U cA cR k
  have hat : ((mb_on U cA cR k).pushCell (mb_low cR)).heap[U.heap.size]? = some (mb_top cA U.heap.size k) := by
    have hin : U.heap.size < (mb_on U cA cR k).heap.size := by omega
    rw [State.heap_pushCell_of_lt (h := hin)]
    exact mb_fore U cA cR k 0
  have hput : ((mb_on U cA cR k).pushCell (mb_low cR)).fitsSlot cA .none k (.ref (mb_on U cA cR k).heap.size) = true := by
    obtain ⟨⟨kA, ha, hb⟩, -⟩ := hA
    show U.fitsSlot cA .none k (.ref _) = true
    simp [State.fitsSlot, State.slotType?, ha, hb, fits]
  obtain ⟨⟨kR, hc, hd⟩, hrest⟩ := hR
  have hc2 : (mb_on U cA cR k).vm.classes[cR]? = some kR := hc
  rw [multianewarray.make]
  simp only [wp_bind', W.ite, show ¬ (5 : Int32) < 0 by decide, if_false, wp_pure', W.theClass, hc2, hd, Option.some.injEq, exists_eq_left']
  refine mb_take (U := mb_on U cA cR k) (v := .int 0) ⟨⟨kR, hc, hd⟩, hrest⟩ rfl rfl (by omega) (by show U.slotsUsed + (5 + 5 * k) + 5 ≤ _; omega) ?_
  rw [arrV_new, wp_bind']
  refine (W.writeLoc _ _ _ _).mpr ⟨mb_top cA U.heap.size k, hat, by simp [mb_top, arrV], by simp [mb_top, arrV_size, hk], hput, ?_⟩
  have := hq true (writeActs ⟨U.heap.size, k⟩ .plain (.ref (mb_on U cA cR k).heap.size) acts)
  rw [← mb_more] at this
  exact this
/-- five turns: the whole -/
theorem mb_make {cA cR cI : ClassId} (hA : mb_ok e U.vm cA cR (.array .int)) (hR : mb_ok e U.vm cR cI .int) (h1 : U.heap.size + 6 ≤ e.platform.maxCells) (h2 : U.slotsUsed + 30 ≤ e.platform.maxSlots) {Q : Addr → Pre} (hq : ∀ d' acts', Q U.heap.size d' acts' (mb_on U cA cR 5)) : wp (multianewarray.make cA [5, 5]) Q E e d acts U := by
  have turn := fun k hk d acts Q hq => mb_line (E := E) (d := d) (acts := acts) hA hR h1 h2 k hk (Q := Q) hq
  obtain ⟨kA, ha, hb⟩ := hA.1
  rw [multianewarray.make]
  simp only [wp_bind', W.ite, show ¬ (5 : Int32) < 0 by decide, if_false, wp_pure', W.theClass, ha, hb, Option.some.injEq, exists_eq_left']
  refine mb_take hA rfl rfl (by omega) (by omega) ?_
  rw [mb_zero U cA cR, if_neg (by decide), wp_bind', Std.Legacy.Range.forIn_eq_forIn_range']
  show wp (forIn [0, 1, 2, 3, 4] PUnit.unit _) _ E e d acts _
  rw [List.forIn_cons, wp_bind']
  refine turn 0 (by decide) _ _ _ fun d0 a0 => ?_
  show wp (forIn [1, 2, 3, 4] PUnit.unit _) _ E e d0 a0 _
  rw [List.forIn_cons, wp_bind']
  refine turn 1 (by decide) _ _ _ fun d1 a1 => ?_
  show wp (forIn [2, 3, 4] PUnit.unit _) _ E e d1 a1 _
  rw [List.forIn_cons, wp_bind']
  refine turn 2 (by decide) _ _ _ fun d2 a2 => ?_
  show wp (forIn [3, 4] PUnit.unit _) _ E e d2 a2 _
  rw [List.forIn_cons, wp_bind']
  refine turn 3 (by decide) _ _ _ fun d3 a3 => ?_
  show wp (forIn [4] PUnit.unit _) _ E e d3 a3 _
  rw [List.forIn_cons, wp_bind']
  refine turn 4 (by decide) _ _ _ fun d4 a4 => ?_
  exact hq d4 a4
/-- the instruction's body, the class already found -/
theorem mb_sem {g : JFrame} {index : Nat} {rest : List Value} {vm1 : Vm} {cA cR cI : ClassId} (ht : U.topJava?.isSome) (hg : (Jvm.resolveClass g.method.cls index).Gives e.toSetting U.vm (.ok cA) vm1) (hsz : vm1.classes.size ≤ U.vm.classes.size) (hst : g.stack = .int 5 :: .int 5 :: rest) (hA : mb_ok e vm1 cA cR (.array .int)) (hR : mb_ok e vm1 cR cI .int) (h1 : U.heap.size + 6 ≤ e.platform.maxCells) (h2 : U.slotsUsed + 30 ≤ e.platform.maxSlots) {Q : Unit → Pre} (hq : ∀ acts', Q () true acts' ((mb_on (U.setVm vm1) cA cR 5).setTop { g with stack := .ref U.heap.size :: rest })) : wp (multianewarray.sem index 2) Q E e d acts (U.setTop g) := by
  unfold multianewarray.sem
  rw [wp_bind', W.resolveClassAt_links (State.method?_setTop g ht) hg hsz, wp_bind']
  refine (popN_top (s := U.setVm vm1) (f := g) (args := [.int 5, .int 5]) (rest := rest) ht hst).mpr ?_
  simp only [List.mapM_cons, List.mapM_nil, wp_bind', wp_pure']
  refine mb_make (U := (U.setVm vm1).setTop { g with stack := rest }) (cI := cI) hA hR h1 h2 fun d' acts' => ?_
  rw [wp_bind']
  refine (W.mark _).mpr ?_
  exact (W.pushRef _).mpr ⟨{ g with stack := rest }, State.topJava?_setTop' (s := mb_on (U.setVm vm1) cA cR 5) _ ht, by
    have := hq acts'
    rw [← State.setTop_setTop (mb_on (U.setVm vm1) cA cR 5) { g with stack := rest }] at this
    exact this⟩
end MB
section MBS
variable {p : Program} {l : Launch} {e : Env} {R : Room} {s : State} {m : MethodId} {args : Array Value} {below : List Frame} {meth : Method} {c : Code} {T : State} {locs : List Loc} {cells slots : Nat}
/-- a stretch behind the heap is all that has changed -/
theorem mb_same {x : Thread} (hx : T.threads[T.cur]? = some x) (cA cR : ClassId) : T.sameButNew ((mb_on T cA cR 5).setVm T.vm) [] 6 30 := by
  have hd : ((mb_on T cA cR 5).heap.toList.drop T.heap.size).map (·.slots.size) = [5, 5, 5, 5, 5, 5] := by
    simp [mb_on, mb_blk, mb_top, mb_low, arrV_size, List.replicate]
  refine ⟨?_, ?_, ?_, ?_, ?_, fun a y hy => ⟨y, ?_, rfl, rfl, fun _ _ => rfl⟩⟩
  · exact congrArg (fun u : State => { u with heap := (mb_on T cA cR 5).heap, slotsUsed := (mb_on T cA cR 5).slotsUsed }) (State.sameButNew.refl T hx).1
  · show T.heap.size ≤ (mb_on T cA cR 5).heap.size
    rw [mb_len]; omega
  · show (mb_on T cA cR 5).heap.size ≤ _
    rw [mb_len]; omega
  · show _ = T.slotsUsed + (((mb_on T cA cR 5).heap.toList.drop T.heap.size).map (·.slots.size)).sum
    rw [hd]; rfl
  · show (((mb_on T cA cR 5).heap.toList.drop T.heap.size).map (·.slots.size)).sum ≤ 30
    rw [hd]; decide
  · show (mb_on T cA cR 5).heap[a]? = some y
    rw [mb_back T cA cR 5 (Array.getElem?_eq_some_iff.mp hy).1]; exact hy
theorem mb_stand (X : Stand p l e R s m args below meth c T locs cells slots) (cA cR : ClassId) : Stand p l e R s m args below meth c (mb_on T cA cR 5) locs (cells + 6) (slots + 30) := by
  obtain ⟨g0, hg0⟩ := X.frames_eq
  obtain ⟨x, hx, -⟩ := State.frames_cons hg0
  have h := X.moved (T₂ := mb_on T cA cR 5) ⟨X.here.top, X.here.above, X.here.running, X.here.runnable, X.here.alone, X.here.code, X.here.plain⟩ X.tail rfl rfl (State.WarmedH.refl T) (mb_same hx cA cR)
  rwa [List.append_nil] at h
/-- the instruction, where a walk stands -/
theorem mb_step (X : Stand p l e R s m args below meth c T locs cells slots) (hexec : p.tables.exec = Jvm.exec) {own : String} {index : Nat} (hown : s.vm.findClass own = some m.cls) (hlink : (Cond.classLink own index "[[I").before args s = true) {cA cR cI : ClassId} {kA kR : Class} (hfind : s.vm.findClass "[[I" = some cA) (hA : s.vm.classes[cA]? = some kA) (hAk : kA.kind = .array cR (.array .int)) (hR : s.vm.classes[cR]? = some kR) (hRk : kR.kind = .array cI .int) {pc : Nat} {ls : Array Slot} {rest : List Value} (hdec : decode c.code pc = .ok (.multianewarray index 2, 4)) (hcells : cells + 6 ≤ R.cells) (hslots : slots + 30 ≤ R.slots) :
    ∃ vm1 : Vm, Stand p l e R s m args below meth c (mb_on (T.setVm vm1) cA cR 5) locs (cells + 6) (slots + 30) ∧ ∀ t, Steps p.tables e below ((mb_on (T.setVm vm1) cA cR 5).setTop (F0 m (pc + 4) ls (.ref T.heap.size :: rest))) t → Steps p.tables e below (T.setTop (F0 m pc ls (.int 5 :: .int 5 :: rest))) t := by
  obtain ⟨c1, hc1, hlinks⟩ := Cond.classLink_spec hown hlink e.platform (by rw [X.admits.platform])
  have ec : c1 = cA := Option.some.inj (hc1.symm.trans hfind)
  rw [ec] at hlinks
  have entry := State.classEntry (e := e) X.warmed hlinks
  have hsz : (T.vm.noted m.cls index (.cls cA)).classes.size ≤ T.vm.classes.size := by no_record
  refine ⟨T.vm.noted m.cls index (.cls cA), mb_stand (X.noted entry.2.1) cA cR, fun t ht => ?_⟩
  have known : ∀ (q : ClassId) (k : Class) (comp : ClassId) (ty : FieldType), s.vm.classes[q]? = some k → k.kind = .array comp ty → componentBytes ty = 4 → mb_ok e (T.vm.noted m.cls index (.cls cA)) q comp ty := fun q k comp ty h1 h2 h3 => by
    obtain ⟨k', hk', he⟩ := entry.2.1.alike.2.2 _ _ h1
    refine ⟨⟨k', hk', by rw [he]; exact h2⟩, ?_, ?_⟩
    · rw [Launch.admits_arrayLengthLimit X.admits]; decide
    · rw [Launch.admits_maxHeapBytes X.admits, h3]; decide
  have room := X.roomAbove hcells hslots
  jvm_step X.here [hexec, hdec]
  refine mb_sem (cI := cI) X.here.top entry.1 hsz rfl (known cA kA cR _ hA hAk rfl) (known cR kR cI _ hR hRk rfl) room.1 room.2 fun acts' => ?_
  intro acts2
  simpa [jvm] using ht
end MBS
