/-! ===== an array of five rows of five ints ===== -/
/-- the outer array's cell when i rows stand -/
def mq_o (cA : ClassId) (h0 : Nat) : Nat → Cell
  | 0 => { cls := cA, slots := Array.replicate 5 .null, vm := .none }
  | i + 1 => (mq_o cA h0 i).setSlot i (.ref (h0 + 1 + i))
def mq_r (cR : ClassId) : Cell := { cls := cR, slots := Array.replicate 5 (.int 0), vm := .none }
def mq_T (T : State) (cA cR : ClassId) : Nat → State
  | 0 => T.pushCell (mq_o cA T.heap.size 0)
  | i + 1 => ((mq_T T cA cR i).pushCell (mq_r cR)).setCell T.heap.size (mq_o cA T.heap.size (i + 1))
theorem mq_of (cA : ClassId) (h0 : Nat) : ∀ i, (mq_o cA h0 i).cls = cA ∧ (mq_o cA h0 i).vm = .none ∧ (mq_o cA h0 i).slots.size = 5
  | 0 => ⟨rfl, rfl, by simp [mq_o]⟩
  | i + 1 => by
    have ih := mq_of cA h0 i
    refine ⟨?_, ?_, ?_⟩ <;> simp [mq_o, Cell.setSlot, ih.1, ih.2.1, ih.2.2]
theorem mq_Tf (T : State) (cA cR : ClassId) : ∀ i, (mq_T T cA cR i).heap.size = T.heap.size + 1 + i ∧ (mq_T T cA cR i).heap[T.heap.size]? = some (mq_o cA T.heap.size i) ∧ (mq_T T cA cR i).vm = T.vm ∧ (mq_T T cA cR i).slotsUsed = T.slotsUsed + 5 + i * 5
  | 0 => ⟨by simp [mq_T], by simp [mq_T], rfl, by simp [mq_T, mq_o]⟩
  | i + 1 => by
    obtain ⟨a, b, d, u⟩ := mq_Tf T cA cR i
    have hlt : T.heap.size < (mq_T T cA cR i).heap.size := by omega
    have hb : ((mq_T T cA cR i).pushCell (mq_r cR)).heap[T.heap.size]? = some (mq_o cA T.heap.size i) := by
      rw [State.heap_pushCell_of_lt (h := hlt)]; exact b
    refine ⟨?_, State.heap_setCell_self hb, by simp [mq_T, d], ?_⟩
    · simp [mq_T, State.setCell, a]; omega
    · simp [mq_T, u, mq_r]; omega
theorem mq_Tt (T : State) (f : JFrame) (cA cR : ClassId) : ∀ i, mq_T (T.setTop f) cA cR i = (mq_T T cA cR i).setTop f
  | 0 => rfl
  | i + 1 => by simp only [mq_T, mq_Tt T f cA cR i, State.heap_setTop, State.pushCell_setTop, State.setCell_setTop]
theorem mq_old (T : State) (cA cR : ClassId) {a : Nat} (ha : a < T.heap.size) : ∀ i, (mq_T T cA cR i).heap[a]? = T.heap[a]?
  | 0 => State.heap_pushCell_of_lt _ _ ha
  | i + 1 => by
    have f1 := (mq_Tf T cA cR i).1
    show (((mq_T T cA cR i).pushCell (mq_r cR)).setCell T.heap.size _).heap[a]? = _
    have hlt : a < (mq_T T cA cR i).heap.size := by omega
    rw [State.heap_setCell_other (Nat.ne_of_gt ha), State.heap_pushCell_of_lt (h := hlt)]
    exact mq_old T cA cR ha i
theorem mq_row (T : State) (cA cR : ClassId) : ∀ i j, j < i → (mq_T T cA cR i).heap[T.heap.size + 1 + j]? = some (mq_r cR)
  | 0, _, h => absurd h (Nat.not_lt_zero _)
  | i + 1, j, h => by
    have f1 := (mq_Tf T cA cR i).1
    show (((mq_T T cA cR i).pushCell (mq_r cR)).setCell T.heap.size _).heap[T.heap.size + 1 + j]? = _
    rw [State.heap_setCell_other (show T.heap.size ≠ T.heap.size + 1 + j by omega)]
    by_cases hj : j < i
    · have hlt : T.heap.size + 1 + j < (mq_T T cA cR i).heap.size := by omega
      rw [State.heap_pushCell_of_lt (h := hlt)]
      exact mq_row T cA cR i j hj
    · have e : T.heap.size + 1 + j = (mq_T T cA cR i).heap.size := by omega
      rw [e]
      simp
theorem mq_slot (cA : ClassId) (h0 : Nat) : ∀ i j, j < 5 → (mq_o cA h0 i).slots[j]? = some (if j < i then .ref (h0 + 1 + j) else .null)
  | 0, j, h => by simp [mq_o, h]
  | i + 1, j, h => by
    have ih := mq_slot cA h0 i j h
    have hs := (mq_of cA h0 i).2.2
    show ((mq_o cA h0 i).setSlot i (.ref (h0 + 1 + i))).slots[j]? = _
    simp only [Cell.setSlot, Array.getElem?_setIfInBounds]
    by_cases e : i = j
    · subst e; simp [hs, h]
    · rw [if_neg e, ih]
      by_cases hj : j < i
      · rw [if_pos hj, if_pos (by omega)]
      · rw [if_neg hj, if_neg (by omega)]
section MQM
variable {E : CtlPost} {e : Env} {d : Bool} {acts : List Action} {s : State}
theorem mq_new {c comp : ClassId} {k : Class} {type : FieldType} {init : Value} (hk : s.vm.classes[c]? = some k) (hkind : k.kind = .array comp type) (hlimit : ¬ 5 > e.platform.arrayLengthLimit) (hheap : ¬ 5 * componentBytes type > e.platform.maxHeapBytes) (hfit : fits type init = true) (hdef : init.isDefault = true) {Q : Addr → Pre} (h1 : s.heap.size < e.platform.maxCells) (h2 : s.slotsUsed + 5 ≤ e.platform.maxSlots) (hq : Q s.heap.size d acts (s.pushCell { cls := c, slots := Array.replicate 5 init, vm := .none })) : wp (Jvm.newArray c 5 init) Q E e d acts s := by
  have hfits : ∀ i v, (Array.replicate 5 init)[i]? = some v → s.fitsSlot c .none i v = true := by
    intro i v hv
    rw [Array.getElem?_replicate] at hv
    split at hv
    · cases hv; simp [State.fitsSlot, State.slotType?, hk, hkind, hfit]
    · cases hv
  have hda : allocActs (Array.replicate 5 init) s.heap.size acts = acts := by
    have hall : ((Array.replicate 5 init).all (·.isDefault)) = true := by
      rw [Array.all_replicate]; split <;> simp [hdef]
    unfold allocActs; rw [if_pos hall]
  simp only [Jvm.newArray, Jvm.arrayFits, wp_bind', W.ask, W.ite, hlimit, if_false, wp_pure', W.theClass, hk, hkind, hheap, W.alloc, W.stop, Option.some.injEq, exists_eq_left', Array.size_replicate, hda]
  rw [if_neg (by omega)]
  exact ⟨h1, h2, hfits, hq⟩
theorem mq_make {c comp cc : ClassId} {k kc : Class} (hk : s.vm.classes[c]? = some k) (hkind : k.kind = .array comp (.array .int)) (hkc : s.vm.classes[comp]? = some kc) (hkindc : kc.kind = .array cc .int) (hl : ¬ 5 > e.platform.arrayLengthLimit) (hh : ¬ 20 > e.platform.maxHeapBytes) (hc : s.heap.size + 6 ≤ e.platform.maxCells) (hs : s.slotsUsed + 30 ≤ e.platform.maxSlots) {Q : Addr → Pre} (hq : ∀ d' acts', Q s.heap.size d' acts' (mq_T s c comp 5)) : wp (multianewarray.make c [5, 5]) Q E e d acts s := by
  have n5 : (5 : Int32).toNatClampNeg = 5 := rfl
  have hfind : ([(5 : Int32)].find? (· < 0)) = none := by decide
  have h50 : ¬ (5 : Int32) < 0 := by decide
  rw [multianewarray.make]
  simp only [wp_bind', W.ite, h50, if_false, wp_pure', W.theClass, hk, hkind, Option.some.injEq, exists_eq_left', n5]
  refine mq_new hk hkind hl hh rfl rfl (by omega) (by omega) ?_
  simp only [hfind]
  rw [ite_self, wp_bind', Std.Legacy.Range.forIn_eq_forIn_range']
  show wp (forIn (List.range' 0 5 1) PUnit.unit _) _ E e d acts _
  refine wp_forIn_inv (fun rest s' => ∃ i, i ≤ 5 ∧ rest = List.range' i (5 - i) ∧ s' = mq_T s c comp i) _ _ ⟨0, Nat.zero_le _, rfl, rfl⟩ ?_ ?_
  · rintro x rest s' d' acts' Q' ⟨i, hi, hl0, rfl⟩ hnext
    have hlt : i < 5 := by
      rcases Nat.lt_or_ge i 5 with h | h
      · exact h
      · rw [show 5 - i = 0 by omega] at hl0; simp at hl0
    obtain ⟨rfl, hrest⟩ : x = i ∧ rest = List.range' (i + 1) (5 - (i + 1)) := by
      rw [show 5 - i = (5 - (i + 1)) + 1 by omega, List.range'_succ] at hl0
      exact List.cons.inj hl0
    obtain ⟨f1, f2, f3, f4⟩ := mq_Tf s c comp x
    obtain ⟨o1, o2, o3⟩ := mq_of c s.heap.size x
    simp only [wp_bind']
    rw [multianewarray.make]
    simp only [wp_bind', W.ite, h50, if_false, wp_pure', W.theClass, f3, hkc, hkindc, Option.some.injEq, exists_eq_left', n5]
    refine mq_new (by rw [f3]; exact hkc) hkindc hl hh rfl rfl (by omega) (by omega) ?_
    simp only [wp_bind', W.writeLoc, wp_pure']
    have hlt2 : s.heap.size < (mq_T s c comp x).heap.size := by omega
    refine ⟨mq_o c s.heap.size x, by rw [State.heap_pushCell_of_lt (h := hlt2)]; exact f2, by rw [o2]; simp, by rw [o3]; exact hlt, ?_, hnext _ _ _ ⟨x + 1, hlt, hrest, ?_⟩⟩
    · rw [o1, o2]
      simp [State.fitsSlot, State.slotType?, f3, hk, hkind, fits]
    · rw [f1]; rfl
  · rintro s' d' acts' ⟨i, hi, hl0, rfl⟩
    have hiN : i = 5 := by
      rcases Nat.lt_or_ge i 5 with h | h
      · rw [show 5 - i = (5 - (i + 1)) + 1 by omega, List.range'_succ] at hl0; cases hl0
      · omega
    subst hiN
    simp only [wp_pure']
    exact hq _ _
end MQM
section MQS
variable {p : Program} {l : Launch} {e : Env} {R : Room} {s : State} {m : MethodId} {args : Array Value} {below : List Frame} {meth : Method} {c : Code} {T : State} {locs : List Loc} {cells slots : Nat}
theorem mq_stand (X : Stand p l e R s m args below meth c T locs cells slots) (cA cR : ClassId) : ∀ i, Stand p l e R s m args below meth c (mq_T T cA cR i) (locs ++ (List.range i).map fun j => ⟨T.heap.size, j⟩) (cells + 1 + i) (slots + 5 + i * 5)
  | 0 => by
    have h := X.pushed (mq_o cA T.heap.size 0)
    rw [(mq_of cA T.heap.size 0).2.2] at h
    simpa [mq_T] using h
  | i + 1 => by
    have Xi := mq_stand X cA cR i
    obtain ⟨f1, f2, f3, f4⟩ := mq_Tf T cA cR i
    have hlt : T.heap.size < (mq_T T cA cR i).heap.size := by omega
    have hcell : ((mq_T T cA cR i).pushCell (mq_r cR)).heap[T.heap.size]? = some (mq_o cA T.heap.size i) := by rw [State.heap_pushCell_of_lt (h := hlt)]; exact f2
    have h := (Xi.pushed (mq_r cR)).stored hcell i (.ref (T.heap.size + 1 + i))
    have e1 : (mq_r cR).slots.size = 5 := by simp [mq_r]
    rw [e1] at h
    have e2 : (locs ++ (List.range (i + 1)).map fun j => (⟨T.heap.size, j⟩ : Loc)) = (locs ++ (List.range i).map fun j => (⟨T.heap.size, j⟩ : Loc)) ++ [⟨T.heap.size, i⟩] := by simp [List.range_succ, List.append_assoc]
    have e3 : slots + 5 + (i + 1) * 5 = slots + 5 + i * 5 + 5 := by omega
    rw [e2, e3]
    exact h
/-- the instruction itself -/
theorem mq_step (X : Stand p l e R s m args below meth c T locs cells slots) (hexec : p.tables.exec = Jvm.exec) {own : String} {index : Nat} (hown : s.vm.findClass own = some m.cls) (hclink : (Cond.classLink own index "[[I").before args s = true) {cA cR cI : ClassId} {kA kR : Class} (hcA : s.vm.findClass "[[I" = some cA) (hkA : s.vm.classes[cA]? = some kA) (hkindA : kA.kind = .array cR (.array .int)) (hkR : s.vm.classes[cR]? = some kR) (hkindR : kR.kind = .array cI .int) {g : JFrame} (hg : g.method = m) (hdg : decode c.code g.pc = .ok (.multianewarray index 2, 4)) {rest : List Value} (hstack : g.stack = .int 5 :: .int 5 :: rest) (hcells : cells + 6 ≤ R.cells) (hslots : slots + 30 ≤ R.slots) :
    ∃ vm1 : Vm, s.WarmedH vm1 ∧ Stand p l e R s m args below meth c (mq_T (T.setVm vm1) cA cR 5) (locs ++ (List.range 5).map fun j => ⟨T.heap.size, j⟩) (cells + 6) (slots + 30) ∧ ∀ target, Steps p.tables e below ((mq_T (T.setVm vm1) cA cR 5).setTop { g with pc := g.pc + 4, stack := .ref T.heap.size :: rest }) target → Steps p.tables e below (T.setTop g) target := by
  subst hg
  have hpl : e.platform.magicAccessors = ({} : Platform).magicAccessors := by rw [X.admits.platform]
  obtain ⟨c0, hfc0, hcl⟩ := Cond.classLink_spec hown hclink e.platform hpl
  cases hcA.symm.trans hfc0
  obtain ⟨hg1, hwarm1, hready1⟩ := State.classEntry (e := e) X.warmed hcl
  generalize T.vm.noted g.method.cls index (.cls cA) = vm1 at hg1 hwarm1 hready1
  have hal : s.vm.Alike vm1 := hwarm1.alike
  obtain ⟨kA1, hkA1, heA⟩ := hal.2.2 _ _ hkA
  obtain ⟨kR1, hkR1, heR⟩ := hal.2.2 _ _ hkR
  have hkindA1 : kA1.kind = .array cR (.array .int) := by rw [heA]; exact hkindA
  have hkindR1 : kR1.kind = .array cI .int := by rw [heR]; exact hkindR
  have X1 := X.noted hwarm1
  obtain ⟨hr1, hr2⟩ := X.roomAbove hcells hslots
  have XF := mq_stand X1 cA cR 5
  refine ⟨vm1, hwarm1, XF, fun target hrest => ?_⟩
  have hl1 : ¬ 5 > e.platform.arrayLengthLimit := by rw [Launch.admits_arrayLengthLimit X.admits]; decide
  have hh1 : ¬ 20 > e.platform.maxHeapBytes := by rw [Launch.admits_maxHeapBytes X.admits]; decide
  jvm_step X.here [hexec, hdg]
  simp only [multianewarray.sem, wp_bind', W.resolveClassAt_links (State.method?_setTop g X.here.top) hg1]
  rw [W.popN, if_neg (by decide)]
  refine ⟨g, State.topJava?_setTop' (s := T.setVm vm1) g X.here.top, [.int 5, .int 5], rest, rfl, hstack, ?_⟩
  simp only [List.mapM_cons, List.mapM_nil, wp_bind', wp_pure']
  refine mq_make (k := kA1) (kc := kR1) (comp := cR) (cc := cI) hkA1 hkindA1 hkR1 hkindR1 hl1 hh1 (by show T.heap.size + 6 ≤ _; omega) (by show T.slotsUsed + 30 ≤ _; omega) (fun d' acts' => ?_)
  have eS : ((T.setTop g).setVm vm1).setTop { g with stack := rest } = (T.setVm vm1).setTop { g with stack := rest } := by
    show ((T.setVm vm1).setTop g).setTop _ = _
    rw [State.setTop_setTop]
  rw [eS, mq_Tt]
  simp only [wp_bind', W.mark, W.pushRef, State.topJava?_setTop' _ XF.here.top, Option.some.injEq, exists_eq_left', State.setTop_setTop, State.heap_setTop]
  intro acts
  simp [jvm, XF.here.top]
  exact hrest
end MQS
