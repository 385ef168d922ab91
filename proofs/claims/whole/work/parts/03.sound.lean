/-! ===== THE MINI MACHINE AGAINST THE KIT'S ROWS ===== -/
/-- a method: name, bytes, locals, answer, rank -/
abbrev mm_M : Type := MethodName × ByteArray × Nat × Option FieldType × Nat
def mm_ok (v : mm_V) : Prop := match v with
  | .inl (.inl n) => mm_in n
  | .inl (.inr n) => mm_il n
  | _ => True
def mm_f (ad : Nat → Nat) (v : mm_V) : Value := match v with
  | .inl (.inl n) => .int (Int32.ofInt n)
  | .inl (.inr n) => .long (Int64.ofInt n)
  | .inr (.inl k) => .ref (ad k)
  | .inr (.inr _) => .null
def mm_okH (h : mm_H) : Prop := ∀ a k, mm_in (h a k)
def mm_okS (st : List mm_V) : Prop := ∀ v ∈ st, mm_ok v
theorem mm_okS_c {v : mm_V} {st : List mm_V} (hv : mm_ok v) (h : mm_okS st) : mm_okS (v :: st) := fun x hx => (List.mem_cons.mp hx).elim (fun e => e ▸ hv) (h x)
theorem mm_okS_t {v : mm_V} {st : List mm_V} (h : mm_okS (v :: st)) : mm_okS st := fun x hx => h x (List.mem_cons_of_mem _ hx)
theorem mm_okS_h {v : mm_V} {st : List mm_V} (h : mm_okS (v :: st)) : mm_ok v := h v List.mem_cons_self
theorem mm_okS_set {ls : List mm_V} {k : Nat} {v : mm_V} (hv : mm_ok v) (h : mm_okS ls) : mm_okS (ls.set k v) := fun x hx => (List.mem_or_eq_of_mem_set hx).elim (h x) (fun e => e ▸ hv)
theorem mm_okS_at {ls : List mm_V} {k : Nat} {v : mm_V} (h : mm_okS ls) (e : ls[k]? = some v) : mm_ok v := h v (List.mem_of_getElem? e)
/-! locals -/
def mm_vis (ls : List mm_V) (k : Nat) (v : mm_V) : Bool := match v with
  | .inl (.inl _) => true
  | .inl (.inr _) => (match ls[k + 1]? with
    | some (.inr (.inr _)) => true
    | _ => false)
  | .inr (.inl _) => true
  | .inr (.inr _) => false
def mm_lp (ad : Nat → Nat) (ls : List mm_V) : List (Nat × Value) := (List.range ls.length).filterMap fun k => (ls[k]?).bind fun v => if mm_vis ls k v = true then some (k, mm_f ad v) else none
theorem mm_lp_mem {ad : Nat → Nat} {ls : List mm_V} {q : Nat × Value} : q ∈ mm_lp ad ls ↔ ∃ v, ls[q.1]? = some v ∧ mm_vis ls q.1 v = true ∧ q.2 = mm_f ad v := by
  unfold mm_lp
  rw [List.mem_filterMap]
  constructor
  · rintro ⟨k, -, hk⟩
    obtain ⟨v, h1, h2⟩ := Option.bind_eq_some_iff.mp hk
    split at h2
    · rename_i hv
      have e := Option.some.inj h2
      subst e
      exact ⟨v, h1, hv, rfl⟩
    · cases h2
  · rintro ⟨v, h1, h2, h3⟩
    refine ⟨q.1, List.mem_range.mpr (List.getElem?_eq_some_iff.mp h1).1, ?_⟩
    rw [h1, Option.bind_some, if_pos h2, ← h3]
def mm_LR (ad : Nat → Nat) (ls : List mm_V) (jls : Array Slot) : Prop := lv_has jls ls.length (mm_lp ad ls)
theorem mm_LR_at {ad : Nat → Nat} {ls : List mm_V} {jls : Array Slot} (h : mm_LR ad ls jls) {k : Nat} {v : mm_V} (e : ls[k]? = some v) (hv : mm_vis ls k v = true) : jls[k]? = some (.val (mm_f ad v)) := h.2.2 (k, mm_f ad v) (mm_lp_mem.mpr ⟨v, e, hv, rfl⟩)
theorem mm_LR_sub {ad : Nat → Nat} {ls : List mm_V} {jls : Array Slot} {n : Nat} {L : List (Nat × Value)} (h : lv_has jls n L) (hn : ls.length = n) (hs : ∀ q ∈ mm_lp ad ls, q ∈ L) : mm_LR ad ls jls := ⟨h.1.trans hn.symm, h.2.1, fun q hq => h.2.2 q (hs q hq)⟩
/-- a value of one slot is stored -/
theorem mm_LR_set {ad : Nat → Nat} {ls : List mm_V} {jls : Array Slot} {i : Nat} {v : mm_V} (hv : mm_c1 v = true) (h : lv_has jls ls.length ((i, mm_f ad v) :: (mm_lp ad ls).filter (fun q => !(q.1 == i) && !(q.1 + 1 == i && q.2.category == 2)))) (hi : i < ls.length) : mm_LR ad (ls.set i v) jls := by
  refine mm_LR_sub h (by rw [List.length_set]) ?_
  intro q hq
  obtain ⟨x, h1, h2, h3⟩ := mm_lp_mem.mp hq
  by_cases e : q.1 = i
  · rw [e, List.getElem?_set_self hi] at h1
    have := Option.some.inj h1
    subst this
    exact List.mem_cons.mpr (Or.inl (Prod.ext e h3))
  · rw [List.getElem?_set_ne (Ne.symm e)] at h1
    refine List.mem_cons.mpr (Or.inr (List.mem_filter.mpr ⟨mm_lp_mem.mpr ⟨x, h1, ?_, h3⟩, ?_⟩))
    · revert h2
      unfold mm_vis
      split
      · exact id
      · by_cases e2 : q.1 + 1 = i
        · rw [e2, List.getElem?_set_self hi]
          revert hv
          unfold mm_c1
          split <;> simp_all
        · rw [List.getElem?_set_ne (Ne.symm e2)]; exact id
      · exact id
      · exact id
    · have hc : ¬ (q.1 + 1 = i ∧ q.2.category = 2) := by
        rintro ⟨e2, e3⟩
        rw [h3] at e3
        revert h2 e3
        unfold mm_vis mm_f
        split
        · intro _ q; simp [Value.category] at q
        · intro h2 _
          rw [e2, List.getElem?_set_self hi] at h2
          revert hv h2
          unfold mm_c1
          split <;> simp
        · intro _ q; simp [Value.category] at q
        · intro h2; cases h2
      have h4 : (q.1 == i) = false := by simpa using e
      rw [h4]
      by_cases e5 : q.1 + 1 = i
      · have e6 : ¬ q.2.category = 2 := fun z => hc ⟨e5, z⟩
        have h6 : (q.2.category == 2) = false := by simpa using e6
        rw [h6]; simp
      · have h6 : (q.1 + 1 == i) = false := by simpa using e5
        rw [h6]; simp
/-- a long is stored -/
theorem mm_LR_set2 {ad : Nat → Nat} {ls : List mm_V} {jls : Array Slot} {i : Nat} {n : Int} (h : lv_has jls ls.length ((i, mm_f ad (mm_j n)) :: (mm_lp ad ls).filter (fun q => !(q.1 == i) && (!(q.1 == i + 1) && !(q.1 + 1 == i && q.2.category == 2))))) (hi : i + 1 < ls.length) : mm_LR ad ((ls.set i (mm_j n)).set (i + 1) mm_u) jls := by
  refine mm_LR_sub h (by rw [List.length_set, List.length_set]) ?_
  intro q hq
  obtain ⟨x, h1, h2, h3⟩ := mm_lp_mem.mp hq
  have hi1 : i + 1 < (ls.set i (mm_j n)).length := by rw [List.length_set]; exact hi
  by_cases e1 : q.1 = i + 1
  · rw [e1, List.getElem?_set_self hi1] at h1
    have := Option.some.inj h1
    subst this
    cases h2
  · rw [List.getElem?_set_ne (Ne.symm e1)] at h1
    by_cases e : q.1 = i
    · rw [e, List.getElem?_set_self (by omega)] at h1
      have := Option.some.inj h1
      subst this
      exact List.mem_cons.mpr (Or.inl (Prod.ext e h3))
    · rw [List.getElem?_set_ne (Ne.symm e)] at h1
      refine List.mem_cons.mpr (Or.inr (List.mem_filter.mpr ⟨mm_lp_mem.mpr ⟨x, h1, ?_, h3⟩, ?_⟩))
      · revert h2
        unfold mm_vis
        split
        · exact id
        · by_cases e2 : q.1 + 1 = i
          · rw [List.getElem?_set_ne (by omega), e2, List.getElem?_set_self (by omega)]
            intro z; cases z
          · rw [List.getElem?_set_ne (by omega), List.getElem?_set_ne (by omega)]; exact id
        · exact id
        · exact id
      · have hc : ¬ (q.1 + 1 = i ∧ q.2.category = 2) := by
          rintro ⟨e2, e3⟩
          rw [h3] at e3
          revert h2 e3
          unfold mm_vis mm_f
          split
          · intro _ q; simp [Value.category] at q
          · intro h2 _
            rw [List.getElem?_set_ne (by omega), e2, List.getElem?_set_self (by omega)] at h2
            cases h2
          · intro _ q; simp [Value.category] at q
          · intro h2; cases h2
        have h4 : (q.1 == i) = false := by simpa using e
        have h5 : (q.1 == i + 1) = false := by simpa using e1
        rw [h4, h5]
        by_cases e5 : q.1 + 1 = i
        · have e6 : ¬ q.2.category = 2 := fun z => hc ⟨e5, z⟩
          have h6 : (q.2.category == 2) = false := by simpa using e6
          rw [h6]; simp
        · have h6 : (q.1 + 1 == i) = false := by simpa using e5
          rw [h6]; simp
/-! the world -/
def mm_fv (ad : Nat → Nat) (f : Nat → Int) (a : Nat) (k sp : Nat) : Value := if sp = 0 then .int (Int32.ofInt (f k)) else if sp = 1 then .ref (ad (f k).toNat) else .ref (ad (a + (sp - 2)))
def mm_cell (w : mm_W) (fsp : Nat → List Nat) (cs : ClassId × ClassId × ClassId × ClassId) (ad : Nat → Nat) (f : Nat → Int) (i : Nat) : va_E :=
  if (w i).1 = 0 then .inl (cs.1, (w i).2, .inl (fun j => Int32.ofInt (f j)))
  else if (w i).1 = 1 then .inl (cs.2.1, (w i).2, .inl (fun j => Int32.ofInt (f j)))
  else if (w i).1 = 2 then .inl (cs.2.2.1, (w i).2, .inr (.inr (.inr (.inr (fun j => some (ad (f j).toNat))))))
  else if (w i).1 = 3 then .inl (cs.2.2.2, (w i).2, .inr (.inr (.inr (.inr (fun j => some (ad (i + 1 + j)))))))
  else .inr ((w i).1 - 4, (fsp ((w i).1 - 4)).mapIdx (mm_fv ad f i))
def mm_wd (N : Nat) (w : mm_W) (fsp : Nat → List Nat) (cs : ClassId × ClassId × ClassId × ClassId) (ad : Nat → Nat) (h : mm_H) : va_W := (List.range N).map fun i => (ad i, mm_cell w fsp cs ad (h i) i)
section MMW
variable {N : Nat} {w : mm_W} {fsp : Nat → List Nat} {cs : ClassId × ClassId × ClassId × ClassId} {ad : Nat → Nat}
theorem mm_wd_at {h : mm_H} {i : Nat} (hi : i < N) : (mm_wd N w fsp cs ad h)[i]? = some (ad i, mm_cell w fsp cs ad (h i) i) := by
  unfold mm_wd
  rw [List.getElem?_map, List.getElem?_range hi]
  rfl
theorem mm_wd_of {h : mm_H} {i : Nat} {q : Nat × va_E} (e : (mm_wd N w fsp cs ad h)[i]? = some q) : i < N ∧ q = (ad i, mm_cell w fsp cs ad (h i) i) := by
  have hl := (List.getElem?_eq_some_iff.mp e).1
  have hi : i < N := by unfold mm_wd at hl; rw [List.length_map, List.length_range] at hl; exact hl
  rw [mm_wd_at hi] at e
  exact ⟨hi, (Option.some.inj e).symm⟩
theorem mm_wd_set {h : mm_H} {i : Nat} {g : Nat → Int} (hi : i < N) : (mm_wd N w fsp cs ad h).set i (ad i, mm_cell w fsp cs ad g i) = mm_wd N w fsp cs ad (mm_up h i g) := by
  apply List.ext_getElem?
  intro j
  by_cases e : j = i
  · subst e
    rw [List.getElem?_set_self (by unfold mm_wd; rw [List.length_map, List.length_range]; exact hi), mm_wd_at hi]
    simp [mm_up]
  · rw [List.getElem?_set_ne (Ne.symm e)]
    by_cases hj : j < N
    · rw [mm_wd_at hj, mm_wd_at hj]
      simp [mm_up, e]
    · have : ∀ h : mm_H, (mm_wd N w fsp cs ad h)[j]? = none := fun h => List.getElem?_eq_none (by unfold mm_wd; rw [List.length_map, List.length_range]; omega)
      rw [this, this]
theorem mm_wd_D {h h2 : mm_H} {A B : Nat → Prop} (hD : va_D B (mm_wd N w fsp cs ad h)) (hA : ∀ i, i < N → A (ad i)) : va_D A (mm_wd N w fsp cs ad h2) := by
  refine ⟨fun i j p q hi hj e => ?_, fun k q hk => ?_⟩
  · obtain ⟨h1, e1⟩ := mm_wd_of hi
    obtain ⟨h3, e3⟩ := mm_wd_of hj
    rw [e1, e3] at e
    exact hD.1 i j _ _ (mm_wd_at h1) (mm_wd_at h3) e
  · obtain ⟨h1, e1⟩ := mm_wd_of hk
    rw [e1]
    exact hA k h1
def mm_A (N : Nat) (ad : Nat → Nat) (sz : Nat) : Nat → Prop := fun q => (∃ i, i < N ∧ q = ad i) ∨ sz ≤ q
theorem mm_A_in {sz i : Nat} (hi : i < N) : mm_A N ad sz (ad i) := Or.inl ⟨i, hi, rfl⟩
theorem mm_cell0 {f : Nat → Int} {i : Nat} (e : (w i).1 = 0) : mm_cell w fsp cs ad f i = .inl (cs.1, (w i).2, .inl (fun j => Int32.ofInt (f j))) := if_pos e
theorem mm_cell1 {f : Nat → Int} {i : Nat} (e : (w i).1 = 1) : mm_cell w fsp cs ad f i = .inl (cs.2.1, (w i).2, .inl (fun j => Int32.ofInt (f j))) := by unfold mm_cell; rw [if_neg (by omega), if_pos e]
theorem mm_cell2 {f : Nat → Int} {i : Nat} (e : (w i).1 = 2) : mm_cell w fsp cs ad f i = .inl (cs.2.2.1, (w i).2, .inr (.inr (.inr (.inr (fun j => some (ad (f j).toNat)))))) := by unfold mm_cell; rw [if_neg (by omega), if_neg (by omega), if_pos e]
theorem mm_cell3 {f : Nat → Int} {i : Nat} (e : (w i).1 = 3) : mm_cell w fsp cs ad f i = .inl (cs.2.2.2, (w i).2, .inr (.inr (.inr (.inr (fun j => some (ad (i + 1 + j))))))) := by unfold mm_cell; rw [if_neg (by omega), if_neg (by omega), if_neg (by omega), if_pos e]
theorem mm_cell4 {f : Nat → Int} {i ci : Nat} (e : (w i).1 = ci + 4) : mm_cell w fsp cs ad f i = .inr (ci, (fsp ci).mapIdx (mm_fv ad f i)) := by
  unfold mm_cell
  rw [if_neg (by omega), if_neg (by omega), if_neg (by omega), if_neg (by omega), show (w i).1 - 4 = ci by omega]
theorem mm_fv_set {l : List Nat} {f : Nat → Int} {a k : Nat} {sp : Nat} {v : Int} {x : Value} (hk : l[k]? = some sp) (hx : mm_fv ad (mm_up f k v) a k sp = x) : (l.mapIdx (mm_fv ad f a)).set k x = l.mapIdx (mm_fv ad (mm_up f k v) a) := by
  have hl := (List.getElem?_eq_some_iff.mp hk).1
  apply List.ext_getElem?
  intro j
  by_cases e : j = k
  · subst e
    rw [List.getElem?_set_self (by rw [List.length_mapIdx]; exact hl), List.getElem?_mapIdx, hk, ← hx]
    rfl
  · rw [List.getElem?_set_ne (Ne.symm e), List.getElem?_mapIdx, List.getElem?_mapIdx]
    cases l[j]? with
    | none => rfl
    | some y => simp [mm_fv, mm_up, e]
theorem mm_upd_of (f : Nat → Int) (k : Nat) (v : Int) : upd (fun j => Int32.ofInt (f j)) k (Int32.ofInt v) = fun j => Int32.ofInt (mm_up f k v j) := by
  funext j
  unfold upd mm_up
  split <;> rfl
theorem mm_cpy_of (f g : Nat → Int) (sp dp n : Nat) : va_cpy (fun j => Int32.ofInt (f j)) (fun j => Int32.ofInt (g j)) sp dp n = fun j => Int32.ofInt (mm_cp f g sp dp n j) := by
  funext j
  unfold va_cpy mm_cp
  split <;> rfl
theorem mm_okH_up {h : mm_H} {a k : Nat} {v : Int} (hh : mm_okH h) (hv : mm_in v) : mm_okH (mm_st h a k v) := by
  intro b j
  unfold mm_st mm_up
  split
  · dsimp only
    split
    · exact hv
    · exact hh _ _
  · exact hh _ _
end MMW
def mm_ent (n : Nat) (as : List mm_V) : List mm_V := as ++ List.replicate (n - as.length) mm_u
abbrev mm_en (inf : Nat → mm_M) : Nat → List mm_V → List mm_V := fun y as => mm_ent (inf y).2.2.1 as
def mm_rm (r : Nat) : Room := { frames := r + 1, cells := 0, slots := 0, locals := 100 * (r + 1) }
def mm_ws (Ts : List Cond) (I : mm_M) : List Cond := .code I.1 I.2.1 I.2.2.1 I.2.2.2.1 :: Ts
def mm_Qc (D : va_G) (cl : List vw_C) (tys : List (ClassId × FieldType)) (N : Nat) (w : mm_W) (fsp : Nat → List Nat) (cs : ClassId × ClassId × ClassId × ClassId) (ad : Nat → Nat) (res : mm_R) (A : Nat → Prop) : Array Value → State → Outcome → State → Prop := fun _ st oc t => (oc = .returned (res.1.map (mm_f ad)) ∧ va_P D cl (mm_wd N w fsp cs ad res.2) t.heap ∧ va_K D cl tys t ∧ mm_okH res.2 ∧ mm_okS res.1.toList) ∧ va_F A st t
/-- calls of nest mates' private methods are allowed -/
def mm_Nw (Ns : List (String × Nat × MethodName × String)) (U : State) : Prop := ∀ q ∈ Ns, va_Nw (.methodLinkNest q.1 q.2.1 q.2.2.1 q.2.2.2) U
theorem mm_Nw_warm {Ns : List (String × Nat × MethodName × String)} {s U : State} (hW : s.WarmedH U.vm) (h : mm_Nw Ns s) : mm_Nw Ns U := fun q hq => va_Nw.warmM hW (h q hq)
/-- a method's contract, for every run of it in the mini machine -/
def mm_Sp (l : Launch) (D : va_G) (cl : List vw_C) (tys : List (ClassId × FieldType)) (Ts : List Cond) (Ns : List (String × Nat × MethodName × String)) (N : Nat) (w : mm_W) (fsp : Nat → List Nat) (cs : ClassId × ClassId × ClassId × ClassId) (ad : Nat → Nat) (inf : Nat → mm_M) (tab : Nat → Nat → mm_I) (y : Nat) : Prop := ∀ (as : List mm_V) (h : mm_H) (res : mm_R) (n : Nat), mm_run tab (mm_en inf) n y 0 (mm_en inf y as) [] h = some res → mm_okS as → mm_okH h → as.all mm_c1 = true → as.length ≤ (inf y).2.2.1 → ∀ sz : Nat, Met l (inf y).1 (mm_ws Ts (inf y)) (mm_rm (inf y).2.2.2.2) (va_Pc (as.map (mm_f ad)) (fun U => U.heap.size = sz ∧ va_P D cl (mm_wd N w fsp cs ad h) U.heap ∧ va_K D cl tys U ∧ va_D (fun _ => True) (mm_wd N w fsp cs ad h) ∧ mm_Nw Ns U)) (mm_Qc D cl tys N w fsp cs ad res (mm_A N ad sz)) 0 0 (mm_A N ad sz)
/-- what holds in a method's body -/
def mm_Cx (D : va_G) (cl : List vw_C) (tys : List (ClassId × FieldType)) (Ts : List Cond) (Ns : List (String × Nat × MethodName × String)) (N : Nat) (w : mm_W) (fsp : Nat → List Nat) (cs : ClassId × ClassId × ClassId × ClassId) (ad : Nat → Nat) (I : mm_M) (p : Program) (s : State) (m : MethodId) (args : Array Value) (meth : Method) (c : Code) : Prop :=
  p.tables.exec = Jvm.exec ∧ c.code = I.2.1 ∧ c.maxLocals = I.2.2.1 ∧ s.vm.findClass I.1.cls = some m.cls ∧ (∀ w ∈ mm_ws Ts I, w.before args s = true) ∧ meth.sig.returnType = I.2.2.2.1 ∧ meth.locks = false ∧ va_K D cl tys s ∧ (∀ h, va_D (mm_A N ad s.heap.size) (mm_wd N w fsp cs ad h)) ∧ mm_Nw Ns s
/-- the goal at a place of the body -/
def mm_G (l : Launch) (D : va_G) (cl : List vw_C) (tys : List (ClassId × FieldType)) (N : Nat) (w : mm_W) (fsp : Nat → List Nat) (cs : ClassId × ClassId × ClassId × ClassId) (ad : Nat → Nat) (I : mm_M) (p : Program) (e : Env) (s : State) (m : MethodId) (args : Array Value) (below : List Frame) (meth : Method) (c : Code) (pc : Nat) (ls st : List mm_V) (h : mm_H) (res : mm_R) : Prop := ∀ (H : Heap) (locs : List Loc) (jls : Array Slot), va_P D cl (mm_wd N w fsp cs ad h) H → va_S (mm_A N ad s.heap.size) s.heap H locs → mm_okH h → mm_LR ad ls jls → ls.length = I.2.2.1 → mm_okS ls → mm_okS st → W p l e (mm_rm I.2.2.2.2) s m args below meth c H locs 0 0 (MQ below (mm_Qc D cl tys N w fsp cs ad res (mm_A N ad s.heap.size)) args s 0 0 (mm_A N ad s.heap.size)) (F0 m pc jls (st.map (mm_f ad)))
/-- an instruction is right -/
def mm_Ok (l : Launch) (D : va_G) (cl : List vw_C) (tys : List (ClassId × FieldType)) (Ts : List Cond) (Ns : List (String × Nat × MethodName × String)) (N : Nat) (w : mm_W) (fsp : Nat → List Nat) (cs : ClassId × ClassId × ClassId × ClassId) (ad : Nat → Nat) (inf : Nat → mm_M) (tab : Nat → Nat → mm_I) (I : mm_M) (pc : Nat) (i : mm_I) : Prop := mm_sh i ∧ ∀ (p : Program) (e : Env) (s : State) (m : MethodId) (args : Array Value) (below : List Frame) (meth : Method) (c : Code), mm_Cx D cl tys Ts Ns N w fsp cs ad I p s m args meth c → (∀ y, (inf y).2.2.2.2 < I.2.2.2.2 → mm_Sp l D cl tys Ts Ns N w fsp cs ad inf tab y) → ∀ (J : Nat → mm_K) (C : mm_C), (∀ y as h r, C y as h = some r → ∃ n, mm_run tab (mm_en inf) n y 0 (mm_en inf y as) [] h = some r) → ∀ (ls st : List mm_V) (h : mm_H) (res : mm_R), i J C ls st h = some res → (∀ pc' ls' st' h', J pc' ls' st' h' = some res → mm_G l D cl tys N w fsp cs ad I p e s m args below meth c pc' ls' st' h' res) → mm_G l D cl tys N w fsp cs ad I p e s m args below meth c pc ls st h res
section MMO
variable {l : Launch} {D : va_G} {cl : List vw_C} {tys : List (ClassId × FieldType)} {Ts : List Cond} {Ns : List (String × Nat × MethodName × String)} {N : Nat} {w : mm_W} {fsp : Nat → List Nat} {cs : ClassId × ClassId × ClassId × ClassId} {ad : Nat → Nat} {inf : Nat → mm_M} {tab : Nat → Nat → mm_I} {I : mm_M} {pc : Nat}
theorem ok_bad  : mm_Ok l D cl tys Ts Ns N w fsp cs ad inf tab I pc (mi_bad) := by
  refine ⟨sh_bad, ?_⟩
  intro p e s m args below meth c hc hSp J C hC ls st h res er k H locs jls hP hS hH hL hn hls hst
  obtain ⟨hx, hb, hml, hown, hts, hr, hlk, hK, hDA, hNw⟩ := hc
  cases er
theorem ok_nd {b : Nat} {f g : Nat → mm_I} (hl : ∀ pc, mm_Ok l D cl tys Ts Ns N w fsp cs ad inf tab I pc (f pc)) (hr : ∀ pc, mm_Ok l D cl tys Ts Ns N w fsp cs ad inf tab I pc (g pc)) (pc : Nat) : mm_Ok l D cl tys Ts Ns N w fsp cs ad inf tab I pc (mm_nd b f g pc) := by
  unfold mm_nd
  cases Nat.blt pc b
  · exact hr pc
  · exact hl pc
theorem ok_lf {k : Nat} {i : mm_I} (hi : mm_Ok l D cl tys Ts Ns N w fsp cs ad inf tab I k i) (pc : Nat) : mm_Ok l D cl tys Ts Ns N w fsp cs ad inf tab I pc (mm_lf k i pc) := by
  unfold mm_lf
  cases e : Nat.beq pc k
  · exact ok_bad
  · have := Nat.eq_of_beq_eq_true e
    subst this
    exact hi
theorem ok_iconst {n v : Int} (hd : decode I.2.1 pc = .ok (.iconst n, 1)) (hv : Int32.ofInt n = Int32.ofInt v) (hi : mm_in v) : mm_Ok l D cl tys Ts Ns N w fsp cs ad inf tab I pc (mi_const v (pc + 1)) := by
  refine ⟨sh_const _ _, ?_⟩
  intro p e s m args below meth c hc hSp J C hC ls st h res er k H locs jls hP hS hH hL hn hls hst
  obtain ⟨hx, hb, hml, hown, hts, hr, hlk, hK, hDA, hNw⟩ := hc
  exact lv_iconst hx hb hd hv (k _ _ _ _ er H locs jls hP hS hH hL hn hls (mm_okS_c hi hst))
theorem ok_bipush {n v : Int} (hd : decode I.2.1 pc = .ok (.bipush n, 2)) (hv : (Int8.ofInt n).toInt32 = Int32.ofInt v) (hi : mm_in v) : mm_Ok l D cl tys Ts Ns N w fsp cs ad inf tab I pc (mi_const v (pc + 2)) := by
  refine ⟨sh_const _ _, ?_⟩
  intro p e s m args below meth c hc hSp J C hC ls st h res er k H locs jls hP hS hH hL hn hls hst
  obtain ⟨hx, hb, hml, hown, hts, hr, hlk, hK, hDA, hNw⟩ := hc
  exact lv_bipush hx hb hd hv (k _ _ _ _ er H locs jls hP hS hH hL hn hls (mm_okS_c hi hst))
theorem ok_sipush {n v : Int} (hd : decode I.2.1 pc = .ok (.sipush n, 3)) (hv : (Int16.ofInt n).toInt32 = Int32.ofInt v) (hi : mm_in v) : mm_Ok l D cl tys Ts Ns N w fsp cs ad inf tab I pc (mi_const v (pc + 3)) := by
  refine ⟨sh_const _ _, ?_⟩
  intro p e s m args below meth c hc hSp J C hC ls st h res er k H locs jls hP hS hH hL hn hls hst
  obtain ⟨hx, hb, hml, hown, hts, hr, hlk, hK, hDA, hNw⟩ := hc
  exact lv_sipush hx hb hd hv (k _ _ _ _ er H locs jls hP hS hH hL hn hls (mm_okS_c hi hst))
theorem ok_lconst {n : Fin 2} {v : Int} (hd : decode I.2.1 pc = .ok (.lconst n, 1)) (hv : Int64.ofNat (n : Nat) = Int64.ofInt v) (hi : mm_il v) : mm_Ok l D cl tys Ts Ns N w fsp cs ad inf tab I pc (mi_lconst v (pc + 1)) := by
  refine ⟨sh_lconst _ _, ?_⟩
  intro p e s m args below meth c hc hSp J C hC ls st h res er k H locs jls hP hS hH hL hn hls hst
  obtain ⟨hx, hb, hml, hown, hts, hr, hlk, hK, hDA, hNw⟩ := hc
  exact lv_lconst hx hb hd hv (k _ _ _ _ er H locs jls hP hS hH hL hn hls (mm_okS_c hi hst))
theorem ok_ldc {ix : Nat} {v : Int} (hw : Cond.constant I.1.cls ix (Int32.ofInt v) ∈ Ts) (hd : decode I.2.1 pc = .ok (.ldc ix, 2)) (hi : mm_in v) : mm_Ok l D cl tys Ts Ns N w fsp cs ad inf tab I pc (mi_const v (pc + 2)) := by
  refine ⟨sh_const _ _, ?_⟩
  intro p e s m args below meth c hc hSp J C hC ls st h res er k H locs jls hP hS hH hL hn hls hst
  obtain ⟨hx, hb, hml, hown, hts, hr, hlk, hK, hDA, hNw⟩ := hc
  exact lv_ldc hx hb hown (hts _ (List.mem_cons_of_mem _ hw)) hd (k _ _ _ _ er H locs jls hP hS hH hL hn hls (mm_okS_c hi hst))
theorem ok_ldcw {ix : Nat} {v : Int} (hw : Cond.constant I.1.cls ix (Int32.ofInt v) ∈ Ts) (hd : decode I.2.1 pc = .ok (.ldc_w ix, 3)) (hi : mm_in v) : mm_Ok l D cl tys Ts Ns N w fsp cs ad inf tab I pc (mi_const v (pc + 3)) := by
  refine ⟨sh_const _ _, ?_⟩
  intro p e s m args below meth c hc hSp J C hC ls st h res er k H locs jls hP hS hH hL hn hls hst
  obtain ⟨hx, hb, hml, hown, hts, hr, hlk, hK, hDA, hNw⟩ := hc
  exact lv_ldcw hx hb hown (hts _ (List.mem_cons_of_mem _ hw)) hd (k _ _ _ _ er H locs jls hP hS hH hL hn hls (mm_okS_c hi hst))
theorem ok_ldc2 {ix : Nat} {v : Int} (hw : Cond.constantLong I.1.cls ix (Int64.ofInt v) ∈ Ts) (hd : decode I.2.1 pc = .ok (.ldc2_w ix, 3)) (hi : mm_il v) : mm_Ok l D cl tys Ts Ns N w fsp cs ad inf tab I pc (mi_lconst v (pc + 3)) := by
  refine ⟨sh_lconst _ _, ?_⟩
  intro p e s m args below meth c hc hSp J C hC ls st h res er k H locs jls hP hS hH hL hn hls hst
  obtain ⟨hx, hb, hml, hown, hts, hr, hlk, hK, hDA, hNw⟩ := hc
  exact lv_ldc2 hx hb hown (hts _ (List.mem_cons_of_mem _ hw)) hd (k _ _ _ _ er H locs jls hP hS hH hL hn hls (mm_okS_c hi hst))
theorem ok_iload {i : Nat} (hd : decode I.2.1 pc = .ok (.iload i, 2)) : mm_Ok l D cl tys Ts Ns N w fsp cs ad inf tab I pc (mi_iload i (pc + 2)) := by
  refine ⟨sh_iload _ _, ?_⟩
  intro p e s m args below meth c hc hSp J C hC ls st h res er k H locs jls hP hS hH hL hn hls hst
  obtain ⟨hx, hb, hml, hown, hts, hr, hlk, hK, hDA, hNw⟩ := hc
  unfold mi_iload at er
  split at er
  · rename_i n0 he
    refine lv_iload hx hb hd (mm_LR_at hL he rfl) ?_
    exact k _ _ _ _ er H locs jls hP hS hH hL hn hls (mm_okS_c (mm_okS_at (v := mm_i n0) hls he) hst)
  · cases er
theorem ok_iload_n {k0 : Fin 4} {i : Nat} (hd : decode I.2.1 pc = .ok (.iload_n k0, 1)) (hi : (k0 : Nat) = i) : mm_Ok l D cl tys Ts Ns N w fsp cs ad inf tab I pc (mi_iload i (pc + 1)) := by
  refine ⟨sh_iload _ _, ?_⟩
  intro p e s m args below meth c hc hSp J C hC ls st h res er k H locs jls hP hS hH hL hn hls hst
  obtain ⟨hx, hb, hml, hown, hts, hr, hlk, hK, hDA, hNw⟩ := hc
  unfold mi_iload at er
  split at er
  · rename_i n0 he
    refine lv_iload_n hx hb hd hi (mm_LR_at hL he rfl) ?_
    exact k _ _ _ _ er H locs jls hP hS hH hL hn hls (mm_okS_c (mm_okS_at (v := mm_i n0) hls he) hst)
  · cases er
theorem ok_aload {i : Nat} (hd : decode I.2.1 pc = .ok (.aload i, 2)) : mm_Ok l D cl tys Ts Ns N w fsp cs ad inf tab I pc (mi_aload i (pc + 2)) := by
  refine ⟨sh_aload _ _, ?_⟩
  intro p e s m args below meth c hc hSp J C hC ls st h res er k H locs jls hP hS hH hL hn hls hst
  obtain ⟨hx, hb, hml, hown, hts, hr, hlk, hK, hDA, hNw⟩ := hc
  unfold mi_aload at er
  split at er
  · rename_i n0 he
    refine lv_aload hx hb hd (mm_LR_at hL he rfl) ?_
    exact k _ _ _ _ er H locs jls hP hS hH hL hn hls (mm_okS_c (mm_okS_at (v := mm_r n0) hls he) hst)
  · cases er
theorem ok_aload_n {k0 : Fin 4} {i : Nat} (hd : decode I.2.1 pc = .ok (.aload_n k0, 1)) (hi : (k0 : Nat) = i) : mm_Ok l D cl tys Ts Ns N w fsp cs ad inf tab I pc (mi_aload i (pc + 1)) := by
  refine ⟨sh_aload _ _, ?_⟩
  intro p e s m args below meth c hc hSp J C hC ls st h res er k H locs jls hP hS hH hL hn hls hst
  obtain ⟨hx, hb, hml, hown, hts, hr, hlk, hK, hDA, hNw⟩ := hc
  unfold mi_aload at er
  split at er
  · rename_i n0 he
    refine lv_aload_n hx hb hd hi (mm_LR_at hL he rfl) ?_
    exact k _ _ _ _ er H locs jls hP hS hH hL hn hls (mm_okS_c (mm_okS_at (v := mm_r n0) hls he) hst)
  · cases er
theorem ok_lload {i : Nat} (hd : decode I.2.1 pc = .ok (.lload i, 2)) : mm_Ok l D cl tys Ts Ns N w fsp cs ad inf tab I pc (mi_lload i (pc + 2)) := by
  refine ⟨sh_lload _ _, ?_⟩
  intro p e s m args below meth c hc hSp J C hC ls st h res er k H locs jls hP hS hH hL hn hls hst
  obtain ⟨hx, hb, hml, hown, hts, hr, hlk, hK, hDA, hNw⟩ := hc
  unfold mi_lload at er
  split at er
  · rename_i n0 u0 he he2
    refine lv_lload hx hb hd (mm_LR_at hL he (by simp [mm_vis, he2])) ?_
    exact k _ _ _ _ er H locs jls hP hS hH hL hn hls (mm_okS_c (mm_okS_at (v := mm_j n0) hls he) hst)
  · cases er
theorem ok_lload_n {k0 : Fin 4} {i : Nat} (hd : decode I.2.1 pc = .ok (.lload_n k0, 1)) (hi : (k0 : Nat) = i) : mm_Ok l D cl tys Ts Ns N w fsp cs ad inf tab I pc (mi_lload i (pc + 1)) := by
  refine ⟨sh_lload _ _, ?_⟩
  intro p e s m args below meth c hc hSp J C hC ls st h res er k H locs jls hP hS hH hL hn hls hst
  obtain ⟨hx, hb, hml, hown, hts, hr, hlk, hK, hDA, hNw⟩ := hc
  unfold mi_lload at er
  split at er
  · rename_i n0 u0 he he2
    refine lv_lload_n hx hb hd hi (mm_LR_at hL he (by simp [mm_vis, he2])) ?_
    exact k _ _ _ _ er H locs jls hP hS hH hL hn hls (mm_okS_c (mm_okS_at (v := mm_j n0) hls he) hst)
  · cases er
theorem ok_istore {i : Nat} (hd : decode I.2.1 pc = .ok (.istore i, 2)) (hb0 : i < I.2.2.1) : mm_Ok l D cl tys Ts Ns N w fsp cs ad inf tab I pc (mi_istore i (pc + 2)) := by
  refine ⟨sh_istore _ _, ?_⟩
  intro p e s m args below meth c hc hSp J C hC ls st h res er k H locs jls hP hS hH hL hn hls hst
  obtain ⟨hx, hb, hml, hown, hts, hr, hlk, hK, hDA, hNw⟩ := hc
  unfold mi_istore at er
  split at er
  · rename_i n0 st
    refine lv_istore hx hb hd hL (by omega) rfl (fun jls2 hL2 => ?_)
    exact k _ _ _ _ er H locs jls2 hP hS hH (mm_LR_set (v := mm_i n0) rfl hL2 (by omega)) (by rw [List.length_set]; exact hn) (mm_okS_set (mm_okS_h hst) hls) (mm_okS_t hst)
  · cases er
theorem ok_istore_n {k0 : Fin 4} {i : Nat} (hd : decode I.2.1 pc = .ok (.istore_n k0, 1)) (hi : (k0 : Nat) = i) (hb0 : i < I.2.2.1) : mm_Ok l D cl tys Ts Ns N w fsp cs ad inf tab I pc (mi_istore i (pc + 1)) := by
  refine ⟨sh_istore _ _, ?_⟩
  intro p e s m args below meth c hc hSp J C hC ls st h res er k H locs jls hP hS hH hL hn hls hst
  obtain ⟨hx, hb, hml, hown, hts, hr, hlk, hK, hDA, hNw⟩ := hc
  unfold mi_istore at er
  split at er
  · rename_i n0 st
    refine lv_istore_n hx hb hd hi hL (by omega) rfl (fun jls2 hL2 => ?_)
    exact k _ _ _ _ er H locs jls2 hP hS hH (mm_LR_set (v := mm_i n0) rfl hL2 (by omega)) (by rw [List.length_set]; exact hn) (mm_okS_set (mm_okS_h hst) hls) (mm_okS_t hst)
  · cases er
theorem ok_astore {i : Nat} (hd : decode I.2.1 pc = .ok (.astore i, 2)) (hb0 : i < I.2.2.1) : mm_Ok l D cl tys Ts Ns N w fsp cs ad inf tab I pc (mi_astore i (pc + 2)) := by
  refine ⟨sh_astore _ _, ?_⟩
  intro p e s m args below meth c hc hSp J C hC ls st h res er k H locs jls hP hS hH hL hn hls hst
  obtain ⟨hx, hb, hml, hown, hts, hr, hlk, hK, hDA, hNw⟩ := hc
  unfold mi_astore at er
  split at er
  · rename_i n0 st
    refine lv_astore hx hb hd hL (by omega) rfl (fun jls2 hL2 => ?_)
    exact k _ _ _ _ er H locs jls2 hP hS hH (mm_LR_set (v := mm_r n0) rfl hL2 (by omega)) (by rw [List.length_set]; exact hn) (mm_okS_set (mm_okS_h hst) hls) (mm_okS_t hst)
  · cases er
theorem ok_astore_n {k0 : Fin 4} {i : Nat} (hd : decode I.2.1 pc = .ok (.astore_n k0, 1)) (hi : (k0 : Nat) = i) (hb0 : i < I.2.2.1) : mm_Ok l D cl tys Ts Ns N w fsp cs ad inf tab I pc (mi_astore i (pc + 1)) := by
  refine ⟨sh_astore _ _, ?_⟩
  intro p e s m args below meth c hc hSp J C hC ls st h res er k H locs jls hP hS hH hL hn hls hst
  obtain ⟨hx, hb, hml, hown, hts, hr, hlk, hK, hDA, hNw⟩ := hc
  unfold mi_astore at er
  split at er
  · rename_i n0 st
    refine lv_astore_n hx hb hd hi hL (by omega) rfl (fun jls2 hL2 => ?_)
    exact k _ _ _ _ er H locs jls2 hP hS hH (mm_LR_set (v := mm_r n0) rfl hL2 (by omega)) (by rw [List.length_set]; exact hn) (mm_okS_set (mm_okS_h hst) hls) (mm_okS_t hst)
  · cases er
theorem ok_lstore {i : Nat} (hd : decode I.2.1 pc = .ok (.lstore i, 2)) (hb0 : i + 1 < I.2.2.1) : mm_Ok l D cl tys Ts Ns N w fsp cs ad inf tab I pc (mi_lstore i (pc + 2)) := by
  refine ⟨sh_lstore _ _, ?_⟩
  intro p e s m args below meth c hc hSp J C hC ls st h res er k H locs jls hP hS hH hL hn hls hst
  obtain ⟨hx, hb, hml, hown, hts, hr, hlk, hK, hDA, hNw⟩ := hc
  unfold mi_lstore at er
  split at er
  · rename_i n0 st
    refine lv_lstore hx hb hd hL (by omega) rfl (fun jls2 hL2 => ?_)
    exact k _ _ _ _ er H locs jls2 hP hS hH (mm_LR_set2 hL2 (by omega)) (by rw [List.length_set, List.length_set]; exact hn) (mm_okS_set trivial (mm_okS_set (mm_okS_h hst) hls)) (mm_okS_t hst)
  · cases er
theorem ok_lstore_n {k0 : Fin 4} {i : Nat} (hd : decode I.2.1 pc = .ok (.lstore_n k0, 1)) (hi : (k0 : Nat) = i) (hb0 : i + 1 < I.2.2.1) : mm_Ok l D cl tys Ts Ns N w fsp cs ad inf tab I pc (mi_lstore i (pc + 1)) := by
  refine ⟨sh_lstore _ _, ?_⟩
  intro p e s m args below meth c hc hSp J C hC ls st h res er k H locs jls hP hS hH hL hn hls hst
  obtain ⟨hx, hb, hml, hown, hts, hr, hlk, hK, hDA, hNw⟩ := hc
  unfold mi_lstore at er
  split at er
  · rename_i n0 st
    refine lv_lstore_n hx hb hd hi hL (by omega) rfl (fun jls2 hL2 => ?_)
    exact k _ _ _ _ er H locs jls2 hP hS hH (mm_LR_set2 hL2 (by omega)) (by rw [List.length_set, List.length_set]; exact hn) (mm_okS_set trivial (mm_okS_set (mm_okS_h hst) hls)) (mm_okS_t hst)
  · cases er
theorem ok_iinc {i : Nat} {n v : Int} (hd : decode I.2.1 pc = .ok (.iinc i n, 3)) (hv : Int32.ofInt n = Int32.ofInt v) (hb0 : i < I.2.2.1) : mm_Ok l D cl tys Ts Ns N w fsp cs ad inf tab I pc (mi_iinc i v (pc + 3)) := by
  refine ⟨sh_iinc _ _ _, ?_⟩
  intro p e s m args below meth c hc hSp J C hC ls st h res er k H locs jls hP hS hH hL hn hls hst
  obtain ⟨hx, hb, hml, hown, hts, hr, hlk, hK, hDA, hNw⟩ := hc
  unfold mi_iinc at er
  split at er
  · rename_i n0 he
    obtain ⟨k1, hk1⟩ := List.getElem?_of_mem (mm_lp_mem (ad := ad) (q := (i, mm_f ad (mm_i n0))) |>.mpr ⟨_, he, rfl, rfl⟩)
    refine lv_iinc (v := Int32.ofInt (mm_wr (n0 + v))) hx hb hd hL hk1 (by rw [hv]; exact mm_e_add n0 v) (by omega) rfl (fun jls2 hL2 => ?_)
    exact k _ _ _ _ er H locs jls2 hP hS hH (mm_LR_set (v := mm_i (mm_wr (n0 + v))) rfl hL2 (by omega)) (by rw [List.length_set]; exact hn) (mm_okS_set (mm_wr_in _) hls) hst
  · cases er
theorem ok_iadd (hd : decode I.2.1 pc = .ok (.iadd, 1)) : mm_Ok l D cl tys Ts Ns N w fsp cs ad inf tab I pc (mi_bin mm_add (pc + 1)) := by
  refine ⟨sh_bin _ _, ?_⟩
  intro p e s m args below meth c hc hSp J C hC ls st h res er k H locs jls hP hS hH hL hn hls hst
  obtain ⟨hx, hb, hml, hown, hts, hr, hlk, hK, hDA, hNw⟩ := hc
  unfold mi_bin at er
  split at er
  · rename_i b a st
    have hb1 : mm_in b := mm_okS_h hst
    have ha1 : mm_in a := mm_okS_h (mm_okS_t hst)
    refine lv_iadd hx hb hd ?_
    rw [mm_e_add]
    exact k _ _ _ _ er H locs jls hP hS hH hL hn hls (mm_okS_c (v := mm_i _) (mm_wr_in _) (mm_okS_t (mm_okS_t hst)))
  · cases er
theorem ok_isub (hd : decode I.2.1 pc = .ok (.isub, 1)) : mm_Ok l D cl tys Ts Ns N w fsp cs ad inf tab I pc (mi_bin mm_sub (pc + 1)) := by
  refine ⟨sh_bin _ _, ?_⟩
  intro p e s m args below meth c hc hSp J C hC ls st h res er k H locs jls hP hS hH hL hn hls hst
  obtain ⟨hx, hb, hml, hown, hts, hr, hlk, hK, hDA, hNw⟩ := hc
  unfold mi_bin at er
  split at er
  · rename_i b a st
    have hb1 : mm_in b := mm_okS_h hst
    have ha1 : mm_in a := mm_okS_h (mm_okS_t hst)
    refine lv_isub hx hb hd ?_
    rw [mm_e_sub]
    exact k _ _ _ _ er H locs jls hP hS hH hL hn hls (mm_okS_c (v := mm_i _) (mm_wr_in _) (mm_okS_t (mm_okS_t hst)))
  · cases er
theorem ok_imul (hd : decode I.2.1 pc = .ok (.imul, 1)) : mm_Ok l D cl tys Ts Ns N w fsp cs ad inf tab I pc (mi_bin mm_mul (pc + 1)) := by
  refine ⟨sh_bin _ _, ?_⟩
  intro p e s m args below meth c hc hSp J C hC ls st h res er k H locs jls hP hS hH hL hn hls hst
  obtain ⟨hx, hb, hml, hown, hts, hr, hlk, hK, hDA, hNw⟩ := hc
  unfold mi_bin at er
  split at er
  · rename_i b a st
    have hb1 : mm_in b := mm_okS_h hst
    have ha1 : mm_in a := mm_okS_h (mm_okS_t hst)
    refine lv_imul hx hb hd ?_
    rw [mm_e_mul]
    exact k _ _ _ _ er H locs jls hP hS hH hL hn hls (mm_okS_c (v := mm_i _) (mm_wr_in _) (mm_okS_t (mm_okS_t hst)))
  · cases er
theorem ok_iand (hd : decode I.2.1 pc = .ok (.iand, 1)) : mm_Ok l D cl tys Ts Ns N w fsp cs ad inf tab I pc (mi_bin mm_and (pc + 1)) := by
  refine ⟨sh_bin _ _, ?_⟩
  intro p e s m args below meth c hc hSp J C hC ls st h res er k H locs jls hP hS hH hL hn hls hst
  obtain ⟨hx, hb, hml, hown, hts, hr, hlk, hK, hDA, hNw⟩ := hc
  unfold mi_bin at er
  split at er
  · rename_i b a st
    have hb1 : mm_in b := mm_okS_h hst
    have ha1 : mm_in a := mm_okS_h (mm_okS_t hst)
    refine lv_iand hx hb hd ?_
    rw [mm_e_and]
    exact k _ _ _ _ er H locs jls hP hS hH hL hn hls (mm_okS_c (v := mm_i _) (mm_toI _) (mm_okS_t (mm_okS_t hst)))
  · cases er
theorem ok_ior (hd : decode I.2.1 pc = .ok (.ior, 1)) : mm_Ok l D cl tys Ts Ns N w fsp cs ad inf tab I pc (mi_bin mm_or (pc + 1)) := by
  refine ⟨sh_bin _ _, ?_⟩
  intro p e s m args below meth c hc hSp J C hC ls st h res er k H locs jls hP hS hH hL hn hls hst
  obtain ⟨hx, hb, hml, hown, hts, hr, hlk, hK, hDA, hNw⟩ := hc
  unfold mi_bin at er
  split at er
  · rename_i b a st
    have hb1 : mm_in b := mm_okS_h hst
    have ha1 : mm_in a := mm_okS_h (mm_okS_t hst)
    refine lv_ior hx hb hd ?_
    rw [mm_e_or]
    exact k _ _ _ _ er H locs jls hP hS hH hL hn hls (mm_okS_c (v := mm_i _) (mm_toI _) (mm_okS_t (mm_okS_t hst)))
  · cases er
theorem ok_ixor (hd : decode I.2.1 pc = .ok (.ixor, 1)) : mm_Ok l D cl tys Ts Ns N w fsp cs ad inf tab I pc (mi_bin mm_xor (pc + 1)) := by
  refine ⟨sh_bin _ _, ?_⟩
  intro p e s m args below meth c hc hSp J C hC ls st h res er k H locs jls hP hS hH hL hn hls hst
  obtain ⟨hx, hb, hml, hown, hts, hr, hlk, hK, hDA, hNw⟩ := hc
  unfold mi_bin at er
  split at er
  · rename_i b a st
    have hb1 : mm_in b := mm_okS_h hst
    have ha1 : mm_in a := mm_okS_h (mm_okS_t hst)
    refine lv_ixor hx hb hd ?_
    rw [mm_e_xor]
    exact k _ _ _ _ er H locs jls hP hS hH hL hn hls (mm_okS_c (v := mm_i _) (mm_toI _) (mm_okS_t (mm_okS_t hst)))
  · cases er
theorem ok_ishl (hd : decode I.2.1 pc = .ok (.ishl, 1)) : mm_Ok l D cl tys Ts Ns N w fsp cs ad inf tab I pc (mi_bin mm_shl (pc + 1)) := by
  refine ⟨sh_bin _ _, ?_⟩
  intro p e s m args below meth c hc hSp J C hC ls st h res er k H locs jls hP hS hH hL hn hls hst
  obtain ⟨hx, hb, hml, hown, hts, hr, hlk, hK, hDA, hNw⟩ := hc
  unfold mi_bin at er
  split at er
  · rename_i b a st
    have hb1 : mm_in b := mm_okS_h hst
    have ha1 : mm_in a := mm_okS_h (mm_okS_t hst)
    refine lv_ishl hx hb hd ?_
    rw [mm_e_shl]
    exact k _ _ _ _ er H locs jls hP hS hH hL hn hls (mm_okS_c (v := mm_i _) (mm_toI _) (mm_okS_t (mm_okS_t hst)))
  · cases er
theorem ok_ishr (hd : decode I.2.1 pc = .ok (.ishr, 1)) : mm_Ok l D cl tys Ts Ns N w fsp cs ad inf tab I pc (mi_bin mm_shr (pc + 1)) := by
  refine ⟨sh_bin _ _, ?_⟩
  intro p e s m args below meth c hc hSp J C hC ls st h res er k H locs jls hP hS hH hL hn hls hst
  obtain ⟨hx, hb, hml, hown, hts, hr, hlk, hK, hDA, hNw⟩ := hc
  unfold mi_bin at er
  split at er
  · rename_i b a st
    have hb1 : mm_in b := mm_okS_h hst
    have ha1 : mm_in a := mm_okS_h (mm_okS_t hst)
    refine lv_ishr hx hb hd ?_
    rw [mm_e_shr]
    exact k _ _ _ _ er H locs jls hP hS hH hL hn hls (mm_okS_c (v := mm_i _) (mm_toI _) (mm_okS_t (mm_okS_t hst)))
  · cases er
theorem ok_iushr (hd : decode I.2.1 pc = .ok (.iushr, 1)) : mm_Ok l D cl tys Ts Ns N w fsp cs ad inf tab I pc (mi_bin mm_ush (pc + 1)) := by
  refine ⟨sh_bin _ _, ?_⟩
  intro p e s m args below meth c hc hSp J C hC ls st h res er k H locs jls hP hS hH hL hn hls hst
  obtain ⟨hx, hb, hml, hown, hts, hr, hlk, hK, hDA, hNw⟩ := hc
  unfold mi_bin at er
  split at er
  · rename_i b a st
    refine lv_iushr hx hb hd (mm_e_ush a b) ?_
    exact k _ _ _ _ er H locs jls hP hS hH hL hn hls (mm_okS_c (v := mm_i _) (mm_toI _) (mm_okS_t (mm_okS_t hst)))
  · cases er
theorem ok_ladd (hd : decode I.2.1 pc = .ok (.ladd, 1)) : mm_Ok l D cl tys Ts Ns N w fsp cs ad inf tab I pc (mi_lbin mm_ladd (pc + 1)) := by
  refine ⟨sh_lbin _ _, ?_⟩
  intro p e s m args below meth c hc hSp J C hC ls st h res er k H locs jls hP hS hH hL hn hls hst
  obtain ⟨hx, hb, hml, hown, hts, hr, hlk, hK, hDA, hNw⟩ := hc
  unfold mi_lbin at er
  split at er
  · rename_i b a st
    refine lv_ladd hx hb hd ?_
    rw [mm_e_ladd]
    exact k _ _ _ _ er H locs jls hP hS hH hL hn hls (mm_okS_c (v := mm_j _) (mm_wl_in _) (mm_okS_t (mm_okS_t hst)))
  · cases er
theorem ok_lmul (hd : decode I.2.1 pc = .ok (.lmul, 1)) : mm_Ok l D cl tys Ts Ns N w fsp cs ad inf tab I pc (mi_lbin mm_lmul (pc + 1)) := by
  refine ⟨sh_lbin _ _, ?_⟩
  intro p e s m args below meth c hc hSp J C hC ls st h res er k H locs jls hP hS hH hL hn hls hst
  obtain ⟨hx, hb, hml, hown, hts, hr, hlk, hK, hDA, hNw⟩ := hc
  unfold mi_lbin at er
  split at er
  · rename_i b a st
    refine lv_lmul hx hb hd ?_
    rw [mm_e_lmul]
    exact k _ _ _ _ er H locs jls hP hS hH hL hn hls (mm_okS_c (v := mm_j _) (mm_wl_in _) (mm_okS_t (mm_okS_t hst)))
  · cases er
theorem ok_idiv (hd : decode I.2.1 pc = .ok (.idiv, 1)) : mm_Ok l D cl tys Ts Ns N w fsp cs ad inf tab I pc (mi_div (pc + 1)) := by
  refine ⟨sh_div _, ?_⟩
  intro p e s m args below meth c hc hSp J C hC ls st h res er k H locs jls hP hS hH hL hn hls hst
  obtain ⟨hx, hb, hml, hown, hts, hr, hlk, hK, hDA, hNw⟩ := hc
  unfold mi_div at er
  split at er
  · rename_i b a st
    split at er
    · cases er
    · rename_i hz
      have hb1 : mm_in b := mm_okS_h hst
      have ha1 : mm_in a := mm_okS_h (mm_okS_t hst)
      refine lv_idiv hx hb hd (fun q => hz ((mm_eq hb1 mm_z_in).mp (q.trans mm_z))) ?_
      rw [mm_e_div ha1 hb1]
      exact k _ _ _ _ er H locs jls hP hS hH hL hn hls (mm_okS_c (v := mm_i _) (mm_wr_in _) (mm_okS_t (mm_okS_t hst)))
  · cases er
theorem ok_irem (hd : decode I.2.1 pc = .ok (.irem, 1)) : mm_Ok l D cl tys Ts Ns N w fsp cs ad inf tab I pc (mi_rem (pc + 1)) := by
  refine ⟨sh_rem _, ?_⟩
  intro p e s m args below meth c hc hSp J C hC ls st h res er k H locs jls hP hS hH hL hn hls hst
  obtain ⟨hx, hb, hml, hown, hts, hr, hlk, hK, hDA, hNw⟩ := hc
  unfold mi_rem at er
  split at er
  · rename_i b a st
    split at er
    · cases er
    · rename_i hz
      have hb1 : mm_in b := mm_okS_h hst
      have ha1 : mm_in a := mm_okS_h (mm_okS_t hst)
      refine lv_irem hx hb hd (fun q => hz ((mm_eq hb1 mm_z_in).mp (q.trans mm_z))) ?_
      rw [mm_e_rem ha1 hb1]
      exact k _ _ _ _ er H locs jls hP hS hH hL hn hls (mm_okS_c (v := mm_i _) (mm_rem_in ha1) (mm_okS_t (mm_okS_t hst)))
  · cases er
theorem ok_lrem (hd : decode I.2.1 pc = .ok (.lrem, 1)) : mm_Ok l D cl tys Ts Ns N w fsp cs ad inf tab I pc (mi_lrem (pc + 1)) := by
  refine ⟨sh_lrem _, ?_⟩
  intro p e s m args below meth c hc hSp J C hC ls st h res er k H locs jls hP hS hH hL hn hls hst
  obtain ⟨hx, hb, hml, hown, hts, hr, hlk, hK, hDA, hNw⟩ := hc
  unfold mi_lrem at er
  split at er
  · rename_i b a st
    split at er
    · cases er
    · rename_i hz
      have hb1 : mm_il b := mm_okS_h hst
      have ha1 : mm_il a := mm_okS_h (mm_okS_t hst)
      refine lv_lrem hx hb hd (fun q => hz ((mm_eql hb1 mm_z_il).mp (q.trans mm_zl))) ?_
      rw [mm_e_lrem ha1 hb1]
      exact k _ _ _ _ er H locs jls hP hS hH hL hn hls (mm_okS_c (v := mm_j _) (mm_lrem_il ha1) (mm_okS_t (mm_okS_t hst)))
  · cases er
theorem ok_ineg (hd : decode I.2.1 pc = .ok (.ineg, 1)) : mm_Ok l D cl tys Ts Ns N w fsp cs ad inf tab I pc (mi_neg (pc + 1)) := by
  refine ⟨sh_neg _, ?_⟩
  intro p e s m args below meth c hc hSp J C hC ls st h res er k H locs jls hP hS hH hL hn hls hst
  obtain ⟨hx, hb, hml, hown, hts, hr, hlk, hK, hDA, hNw⟩ := hc
  unfold mi_neg at er
  split at er
  · rename_i a st
    refine lv_ineg hx hb hd ?_
    rw [mm_e_neg]
    exact k _ _ _ _ er H locs jls hP hS hH hL hn hls (mm_okS_c (v := mm_i _) (mm_wr_in _) (mm_okS_t hst))
  · cases er
theorem ok_i2l (hd : decode I.2.1 pc = .ok (.i2l, 1)) : mm_Ok l D cl tys Ts Ns N w fsp cs ad inf tab I pc (mi_i2l (pc + 1)) := by
  refine ⟨sh_i2l _, ?_⟩
  intro p e s m args below meth c hc hSp J C hC ls st h res er k H locs jls hP hS hH hL hn hls hst
  obtain ⟨hx, hb, hml, hown, hts, hr, hlk, hK, hDA, hNw⟩ := hc
  unfold mi_i2l at er
  split at er
  · rename_i a st
    refine lv_i2l hx hb hd (mm_e_i2l (mm_okS_h hst)) ?_
    exact k _ _ _ _ er H locs jls hP hS hH hL hn hls (mm_okS_c (v := mm_j _) (mm_in_l (mm_okS_h hst)) (mm_okS_t hst))
  · cases er
theorem ok_l2i (hd : decode I.2.1 pc = .ok (.l2i, 1)) : mm_Ok l D cl tys Ts Ns N w fsp cs ad inf tab I pc (mi_l2i (pc + 1)) := by
  refine ⟨sh_l2i _, ?_⟩
  intro p e s m args below meth c hc hSp J C hC ls st h res er k H locs jls hP hS hH hL hn hls hst
  obtain ⟨hx, hb, hml, hown, hts, hr, hlk, hK, hDA, hNw⟩ := hc
  unfold mi_l2i at er
  split at er
  · rename_i a st
    refine lv_l2i hx hb hd (mm_e_l2i _) ?_
    exact k _ _ _ _ er H locs jls hP hS hH hL hn hls (mm_okS_c (v := mm_i _) (mm_wr_in _) (mm_okS_t hst))
  · cases er
theorem ok_i2c (hd : decode I.2.1 pc = .ok (.i2c, 1)) : mm_Ok l D cl tys Ts Ns N w fsp cs ad inf tab I pc (mi_i2c (pc + 1)) := by
  refine ⟨sh_i2c _, ?_⟩
  intro p e s m args below meth c hc hSp J C hC ls st h res er k H locs jls hP hS hH hL hn hls hst
  obtain ⟨hx, hb, hml, hown, hts, hr, hlk, hK, hDA, hNw⟩ := hc
  unfold mi_i2c at er
  split at er
  · rename_i a st
    refine lv_i2c hx hb hd (mm_e_i2c (mm_okS_h hst)) ?_
    exact k _ _ _ _ er H locs jls hP hS hH hL hn hls (mm_okS_c (v := mm_i _) (mm_i2c_in _) (mm_okS_t hst))
  · cases er
theorem ok_dup (hd : decode I.2.1 pc = .ok (.dup, 1)) : mm_Ok l D cl tys Ts Ns N w fsp cs ad inf tab I pc (mi_dup (pc + 1)) := by
  refine ⟨sh_dup _, ?_⟩
  intro p e s m args below meth c hc hSp J C hC ls st h res er k H locs jls hP hS hH hL hn hls hst
  obtain ⟨hx, hb, hml, hown, hts, hr, hlk, hK, hDA, hNw⟩ := hc
  unfold mi_dup at er
  split at er
  · rename_i a st
    refine lv_dup hx hb hd rfl ?_
    exact k _ _ _ _ er H locs jls hP hS hH hL hn hls (mm_okS_c (mm_okS_h hst) hst)
  · rename_i a st
    refine lv_dup hx hb hd rfl ?_
    exact k _ _ _ _ er H locs jls hP hS hH hL hn hls (mm_okS_c (mm_okS_h hst) hst)
  · cases er
theorem ok_dup2 (hd : decode I.2.1 pc = .ok (.dup2, 1)) : mm_Ok l D cl tys Ts Ns N w fsp cs ad inf tab I pc (mi_dup2 (pc + 1)) := by
  refine ⟨sh_dup2 _, ?_⟩
  intro p e s m args below meth c hc hSp J C hC ls st h res er k H locs jls hP hS hH hL hn hls hst
  obtain ⟨hx, hb, hml, hown, hts, hr, hlk, hK, hDA, hNw⟩ := hc
  unfold mi_dup2 at er
  split at er
  · rename_i a b st
    refine lv_dup2_11 hx hb hd rfl rfl ?_
    exact k _ _ _ _ er H locs jls hP hS hH hL hn hls (mm_okS_c (mm_okS_h hst) (mm_okS_c (mm_okS_h (mm_okS_t hst)) hst))
  · cases er
theorem ok_pop (hd : decode I.2.1 pc = .ok (.pop, 1)) : mm_Ok l D cl tys Ts Ns N w fsp cs ad inf tab I pc (mi_pop (pc + 1)) := by
  refine ⟨sh_pop _, ?_⟩
  intro p e s m args below meth c hc hSp J C hC ls st h res er k H locs jls hP hS hH hL hn hls hst
  obtain ⟨hx, hb, hml, hown, hts, hr, hlk, hK, hDA, hNw⟩ := hc
  unfold mi_pop at er
  split at er
  · rename_i a st
    refine lv_pop hx hb hd rfl ?_
    exact k _ _ _ _ er H locs jls hP hS hH hL hn hls (mm_okS_t hst)
  · rename_i a st
    refine lv_pop hx hb hd rfl ?_
    exact k _ _ _ _ er H locs jls hP hS hH hL hn hls (mm_okS_t hst)
  · cases er
theorem ok_goto {off : Int} {tg : Nat} (hd : decode I.2.1 pc = .ok (.goto off, 3)) (ht : (pc : Int) + off = (tg : Int)) : mm_Ok l D cl tys Ts Ns N w fsp cs ad inf tab I pc (mi_goto tg) := by
  refine ⟨sh_goto _, ?_⟩
  intro p e s m args below meth c hc hSp J C hC ls st h res er k H locs jls hP hS hH hL hn hls hst
  obtain ⟨hx, hb, hml, hown, hts, hr, hlk, hK, hDA, hNw⟩ := hc
  exact lv_goto hx hb hd ht (k _ _ _ _ er H locs jls hP hS hH hL hn hls hst)
theorem ok_ifeq {off : Int} {tg : Nat} (hd : decode I.2.1 pc = .ok (.ifCond .eq off, 3)) (ht : (pc : Int) + off = (tg : Int)) : mm_Ok l D cl tys Ts Ns N w fsp cs ad inf tab I pc (mi_ifeq tg (pc + 3)) := by
  refine ⟨sh_ifeq _ _, ?_⟩
  intro p e s m args below meth c hc hSp J C hC ls st h res er k H locs jls hP hS hH hL hn hls hst
  obtain ⟨hx, hb, hml, hown, hts, hr, hlk, hK, hDA, hNw⟩ := hc
  unfold mi_ifeq at er
  split at er
  · rename_i a st
    have ha1 : mm_in a := mm_okS_h hst
    have E0 : (Int32.ofInt a = 0) = (a = 0) := propext (by rw [mm_z]; exact mm_eq ha1 mm_z_in)
    have E1 : (Int32.ofInt a < 0) = (a < 0) := propext (by rw [mm_z]; exact mm_lt ha1 mm_z_in)
    have E2 : (0 ≤ Int32.ofInt a) = (0 ≤ a) := propext (by rw [mm_z]; exact mm_le mm_z_in ha1)
    have E3 : (0 < Int32.ofInt a) = (0 < a) := propext (by rw [mm_z]; exact mm_lt mm_z_in ha1)
    have E4 : (Int32.ofInt a ≤ 0) = (a ≤ 0) := propext (by rw [mm_z]; exact mm_le ha1 mm_z_in)
    refine lv_if_eq hx hb hd ht (fun q => ?_) (fun q => ?_)
    all_goals
      simp only [E0, E1, E2, E3, E4, ne_eq] at q
      split at er
      all_goals first | (exfalso; omega) | exact k _ _ _ _ er H locs jls hP hS hH hL hn hls (mm_okS_t hst)
  · cases er
theorem ok_cmpeq {off : Int} {tg : Nat} (hd : decode I.2.1 pc = .ok (.if_icmp .eq off, 3)) (ht : (pc : Int) + off = (tg : Int)) : mm_Ok l D cl tys Ts Ns N w fsp cs ad inf tab I pc (mi_cmpeq tg (pc + 3)) := by
  refine ⟨sh_cmpeq _ _, ?_⟩
  intro p e s m args below meth c hc hSp J C hC ls st h res er k H locs jls hP hS hH hL hn hls hst
  obtain ⟨hx, hb, hml, hown, hts, hr, hlk, hK, hDA, hNw⟩ := hc
  unfold mi_cmpeq at er
  split at er
  · rename_i b a st
    have hb1 : mm_in b := mm_okS_h hst
    have ha1 : mm_in a := mm_okS_h (mm_okS_t hst)
    have E0 : (Int32.ofInt a = Int32.ofInt b) = (a = b) := propext (mm_eq ha1 hb1)
    have E1 : (Int32.ofInt a < Int32.ofInt b) = (a < b) := propext (mm_lt ha1 hb1)
    have E2 : (Int32.ofInt b ≤ Int32.ofInt a) = (b ≤ a) := propext (mm_le hb1 ha1)
    have E3 : (Int32.ofInt b < Int32.ofInt a) = (b < a) := propext (mm_lt hb1 ha1)
    have E4 : (Int32.ofInt a ≤ Int32.ofInt b) = (a ≤ b) := propext (mm_le ha1 hb1)
    refine lv_icmp_eq hx hb hd ht (fun q => ?_) (fun q => ?_)
    all_goals
      simp only [E0, E1, E2, E3, E4, ne_eq] at q
      split at er
      all_goals first | (exfalso; omega) | exact k _ _ _ _ er H locs jls hP hS hH hL hn hls (mm_okS_t (mm_okS_t hst))
  · cases er
theorem ok_ifne {off : Int} {tg : Nat} (hd : decode I.2.1 pc = .ok (.ifCond .ne off, 3)) (ht : (pc : Int) + off = (tg : Int)) : mm_Ok l D cl tys Ts Ns N w fsp cs ad inf tab I pc (mi_ifne tg (pc + 3)) := by
  refine ⟨sh_ifne _ _, ?_⟩
  intro p e s m args below meth c hc hSp J C hC ls st h res er k H locs jls hP hS hH hL hn hls hst
  obtain ⟨hx, hb, hml, hown, hts, hr, hlk, hK, hDA, hNw⟩ := hc
  unfold mi_ifne at er
  split at er
  · rename_i a st
    have ha1 : mm_in a := mm_okS_h hst
    have E0 : (Int32.ofInt a = 0) = (a = 0) := propext (by rw [mm_z]; exact mm_eq ha1 mm_z_in)
    have E1 : (Int32.ofInt a < 0) = (a < 0) := propext (by rw [mm_z]; exact mm_lt ha1 mm_z_in)
    have E2 : (0 ≤ Int32.ofInt a) = (0 ≤ a) := propext (by rw [mm_z]; exact mm_le mm_z_in ha1)
    have E3 : (0 < Int32.ofInt a) = (0 < a) := propext (by rw [mm_z]; exact mm_lt mm_z_in ha1)
    have E4 : (Int32.ofInt a ≤ 0) = (a ≤ 0) := propext (by rw [mm_z]; exact mm_le ha1 mm_z_in)
    refine lv_if_ne hx hb hd ht (fun q => ?_) (fun q => ?_)
    all_goals
      simp only [E0, E1, E2, E3, E4, ne_eq] at q
      split at er
      all_goals first | (exfalso; omega) | exact k _ _ _ _ er H locs jls hP hS hH hL hn hls (mm_okS_t hst)
  · cases er
theorem ok_cmpne {off : Int} {tg : Nat} (hd : decode I.2.1 pc = .ok (.if_icmp .ne off, 3)) (ht : (pc : Int) + off = (tg : Int)) : mm_Ok l D cl tys Ts Ns N w fsp cs ad inf tab I pc (mi_cmpne tg (pc + 3)) := by
  refine ⟨sh_cmpne _ _, ?_⟩
  intro p e s m args below meth c hc hSp J C hC ls st h res er k H locs jls hP hS hH hL hn hls hst
  obtain ⟨hx, hb, hml, hown, hts, hr, hlk, hK, hDA, hNw⟩ := hc
  unfold mi_cmpne at er
  split at er
  · rename_i b a st
    have hb1 : mm_in b := mm_okS_h hst
    have ha1 : mm_in a := mm_okS_h (mm_okS_t hst)
    have E0 : (Int32.ofInt a = Int32.ofInt b) = (a = b) := propext (mm_eq ha1 hb1)
    have E1 : (Int32.ofInt a < Int32.ofInt b) = (a < b) := propext (mm_lt ha1 hb1)
    have E2 : (Int32.ofInt b ≤ Int32.ofInt a) = (b ≤ a) := propext (mm_le hb1 ha1)
    have E3 : (Int32.ofInt b < Int32.ofInt a) = (b < a) := propext (mm_lt hb1 ha1)
    have E4 : (Int32.ofInt a ≤ Int32.ofInt b) = (a ≤ b) := propext (mm_le ha1 hb1)
    refine lv_icmp_ne hx hb hd ht (fun q => ?_) (fun q => ?_)
    all_goals
      simp only [E0, E1, E2, E3, E4, ne_eq] at q
      split at er
      all_goals first | (exfalso; omega) | exact k _ _ _ _ er H locs jls hP hS hH hL hn hls (mm_okS_t (mm_okS_t hst))
  · cases er
theorem ok_iflt {off : Int} {tg : Nat} (hd : decode I.2.1 pc = .ok (.ifCond .lt off, 3)) (ht : (pc : Int) + off = (tg : Int)) : mm_Ok l D cl tys Ts Ns N w fsp cs ad inf tab I pc (mi_iflt tg (pc + 3)) := by
  refine ⟨sh_iflt _ _, ?_⟩
  intro p e s m args below meth c hc hSp J C hC ls st h res er k H locs jls hP hS hH hL hn hls hst
  obtain ⟨hx, hb, hml, hown, hts, hr, hlk, hK, hDA, hNw⟩ := hc
  unfold mi_iflt at er
  split at er
  · rename_i a st
    have ha1 : mm_in a := mm_okS_h hst
    have E0 : (Int32.ofInt a = 0) = (a = 0) := propext (by rw [mm_z]; exact mm_eq ha1 mm_z_in)
    have E1 : (Int32.ofInt a < 0) = (a < 0) := propext (by rw [mm_z]; exact mm_lt ha1 mm_z_in)
    have E2 : (0 ≤ Int32.ofInt a) = (0 ≤ a) := propext (by rw [mm_z]; exact mm_le mm_z_in ha1)
    have E3 : (0 < Int32.ofInt a) = (0 < a) := propext (by rw [mm_z]; exact mm_lt mm_z_in ha1)
    have E4 : (Int32.ofInt a ≤ 0) = (a ≤ 0) := propext (by rw [mm_z]; exact mm_le ha1 mm_z_in)
    refine lv_if_lt hx hb hd ht (fun q => ?_) (fun q => ?_)
    all_goals
      simp only [E0, E1, E2, E3, E4, ne_eq] at q
      split at er
      all_goals first | (exfalso; omega) | exact k _ _ _ _ er H locs jls hP hS hH hL hn hls (mm_okS_t hst)
  · cases er
theorem ok_cmplt {off : Int} {tg : Nat} (hd : decode I.2.1 pc = .ok (.if_icmp .lt off, 3)) (ht : (pc : Int) + off = (tg : Int)) : mm_Ok l D cl tys Ts Ns N w fsp cs ad inf tab I pc (mi_cmplt tg (pc + 3)) := by
  refine ⟨sh_cmplt _ _, ?_⟩
  intro p e s m args below meth c hc hSp J C hC ls st h res er k H locs jls hP hS hH hL hn hls hst
  obtain ⟨hx, hb, hml, hown, hts, hr, hlk, hK, hDA, hNw⟩ := hc
  unfold mi_cmplt at er
  split at er
  · rename_i b a st
    have hb1 : mm_in b := mm_okS_h hst
    have ha1 : mm_in a := mm_okS_h (mm_okS_t hst)
    have E0 : (Int32.ofInt a = Int32.ofInt b) = (a = b) := propext (mm_eq ha1 hb1)
    have E1 : (Int32.ofInt a < Int32.ofInt b) = (a < b) := propext (mm_lt ha1 hb1)
    have E2 : (Int32.ofInt b ≤ Int32.ofInt a) = (b ≤ a) := propext (mm_le hb1 ha1)
    have E3 : (Int32.ofInt b < Int32.ofInt a) = (b < a) := propext (mm_lt hb1 ha1)
    have E4 : (Int32.ofInt a ≤ Int32.ofInt b) = (a ≤ b) := propext (mm_le ha1 hb1)
    refine lv_icmp_lt hx hb hd ht (fun q => ?_) (fun q => ?_)
    all_goals
      simp only [E0, E1, E2, E3, E4, ne_eq] at q
      split at er
      all_goals first | (exfalso; omega) | exact k _ _ _ _ er H locs jls hP hS hH hL hn hls (mm_okS_t (mm_okS_t hst))
  · cases er
theorem ok_ifge {off : Int} {tg : Nat} (hd : decode I.2.1 pc = .ok (.ifCond .ge off, 3)) (ht : (pc : Int) + off = (tg : Int)) : mm_Ok l D cl tys Ts Ns N w fsp cs ad inf tab I pc (mi_ifge tg (pc + 3)) := by
  refine ⟨sh_ifge _ _, ?_⟩
  intro p e s m args below meth c hc hSp J C hC ls st h res er k H locs jls hP hS hH hL hn hls hst
  obtain ⟨hx, hb, hml, hown, hts, hr, hlk, hK, hDA, hNw⟩ := hc
  unfold mi_ifge at er
  split at er
  · rename_i a st
    have ha1 : mm_in a := mm_okS_h hst
    have E0 : (Int32.ofInt a = 0) = (a = 0) := propext (by rw [mm_z]; exact mm_eq ha1 mm_z_in)
    have E1 : (Int32.ofInt a < 0) = (a < 0) := propext (by rw [mm_z]; exact mm_lt ha1 mm_z_in)
    have E2 : (0 ≤ Int32.ofInt a) = (0 ≤ a) := propext (by rw [mm_z]; exact mm_le mm_z_in ha1)
    have E3 : (0 < Int32.ofInt a) = (0 < a) := propext (by rw [mm_z]; exact mm_lt mm_z_in ha1)
    have E4 : (Int32.ofInt a ≤ 0) = (a ≤ 0) := propext (by rw [mm_z]; exact mm_le ha1 mm_z_in)
    refine lv_if_ge hx hb hd ht (fun q => ?_) (fun q => ?_)
    all_goals
      simp only [E0, E1, E2, E3, E4, ne_eq] at q
      split at er
      all_goals first | (exfalso; omega) | exact k _ _ _ _ er H locs jls hP hS hH hL hn hls (mm_okS_t hst)
  · cases er
theorem ok_cmpge {off : Int} {tg : Nat} (hd : decode I.2.1 pc = .ok (.if_icmp .ge off, 3)) (ht : (pc : Int) + off = (tg : Int)) : mm_Ok l D cl tys Ts Ns N w fsp cs ad inf tab I pc (mi_cmpge tg (pc + 3)) := by
  refine ⟨sh_cmpge _ _, ?_⟩
  intro p e s m args below meth c hc hSp J C hC ls st h res er k H locs jls hP hS hH hL hn hls hst
  obtain ⟨hx, hb, hml, hown, hts, hr, hlk, hK, hDA, hNw⟩ := hc
  unfold mi_cmpge at er
  split at er
  · rename_i b a st
    have hb1 : mm_in b := mm_okS_h hst
    have ha1 : mm_in a := mm_okS_h (mm_okS_t hst)
    have E0 : (Int32.ofInt a = Int32.ofInt b) = (a = b) := propext (mm_eq ha1 hb1)
    have E1 : (Int32.ofInt a < Int32.ofInt b) = (a < b) := propext (mm_lt ha1 hb1)
    have E2 : (Int32.ofInt b ≤ Int32.ofInt a) = (b ≤ a) := propext (mm_le hb1 ha1)
    have E3 : (Int32.ofInt b < Int32.ofInt a) = (b < a) := propext (mm_lt hb1 ha1)
    have E4 : (Int32.ofInt a ≤ Int32.ofInt b) = (a ≤ b) := propext (mm_le ha1 hb1)
    refine lv_icmp_ge hx hb hd ht (fun q => ?_) (fun q => ?_)
    all_goals
      simp only [E0, E1, E2, E3, E4, ne_eq] at q
      split at er
      all_goals first | (exfalso; omega) | exact k _ _ _ _ er H locs jls hP hS hH hL hn hls (mm_okS_t (mm_okS_t hst))
  · cases er
theorem ok_ifgt {off : Int} {tg : Nat} (hd : decode I.2.1 pc = .ok (.ifCond .gt off, 3)) (ht : (pc : Int) + off = (tg : Int)) : mm_Ok l D cl tys Ts Ns N w fsp cs ad inf tab I pc (mi_ifgt tg (pc + 3)) := by
  refine ⟨sh_ifgt _ _, ?_⟩
  intro p e s m args below meth c hc hSp J C hC ls st h res er k H locs jls hP hS hH hL hn hls hst
  obtain ⟨hx, hb, hml, hown, hts, hr, hlk, hK, hDA, hNw⟩ := hc
  unfold mi_ifgt at er
  split at er
  · rename_i a st
    have ha1 : mm_in a := mm_okS_h hst
    have E0 : (Int32.ofInt a = 0) = (a = 0) := propext (by rw [mm_z]; exact mm_eq ha1 mm_z_in)
    have E1 : (Int32.ofInt a < 0) = (a < 0) := propext (by rw [mm_z]; exact mm_lt ha1 mm_z_in)
    have E2 : (0 ≤ Int32.ofInt a) = (0 ≤ a) := propext (by rw [mm_z]; exact mm_le mm_z_in ha1)
    have E3 : (0 < Int32.ofInt a) = (0 < a) := propext (by rw [mm_z]; exact mm_lt mm_z_in ha1)
    have E4 : (Int32.ofInt a ≤ 0) = (a ≤ 0) := propext (by rw [mm_z]; exact mm_le ha1 mm_z_in)
    refine lv_if_gt hx hb hd ht (fun q => ?_) (fun q => ?_)
    all_goals
      simp only [E0, E1, E2, E3, E4, ne_eq] at q
      split at er
      all_goals first | (exfalso; omega) | exact k _ _ _ _ er H locs jls hP hS hH hL hn hls (mm_okS_t hst)
  · cases er
theorem ok_cmpgt {off : Int} {tg : Nat} (hd : decode I.2.1 pc = .ok (.if_icmp .gt off, 3)) (ht : (pc : Int) + off = (tg : Int)) : mm_Ok l D cl tys Ts Ns N w fsp cs ad inf tab I pc (mi_cmpgt tg (pc + 3)) := by
  refine ⟨sh_cmpgt _ _, ?_⟩
  intro p e s m args below meth c hc hSp J C hC ls st h res er k H locs jls hP hS hH hL hn hls hst
  obtain ⟨hx, hb, hml, hown, hts, hr, hlk, hK, hDA, hNw⟩ := hc
  unfold mi_cmpgt at er
  split at er
  · rename_i b a st
    have hb1 : mm_in b := mm_okS_h hst
    have ha1 : mm_in a := mm_okS_h (mm_okS_t hst)
    have E0 : (Int32.ofInt a = Int32.ofInt b) = (a = b) := propext (mm_eq ha1 hb1)
    have E1 : (Int32.ofInt a < Int32.ofInt b) = (a < b) := propext (mm_lt ha1 hb1)
    have E2 : (Int32.ofInt b ≤ Int32.ofInt a) = (b ≤ a) := propext (mm_le hb1 ha1)
    have E3 : (Int32.ofInt b < Int32.ofInt a) = (b < a) := propext (mm_lt hb1 ha1)
    have E4 : (Int32.ofInt a ≤ Int32.ofInt b) = (a ≤ b) := propext (mm_le ha1 hb1)
    refine lv_icmp_gt hx hb hd ht (fun q => ?_) (fun q => ?_)
    all_goals
      simp only [E0, E1, E2, E3, E4, ne_eq] at q
      split at er
      all_goals first | (exfalso; omega) | exact k _ _ _ _ er H locs jls hP hS hH hL hn hls (mm_okS_t (mm_okS_t hst))
  · cases er
theorem ok_ifle {off : Int} {tg : Nat} (hd : decode I.2.1 pc = .ok (.ifCond .le off, 3)) (ht : (pc : Int) + off = (tg : Int)) : mm_Ok l D cl tys Ts Ns N w fsp cs ad inf tab I pc (mi_ifle tg (pc + 3)) := by
  refine ⟨sh_ifle _ _, ?_⟩
  intro p e s m args below meth c hc hSp J C hC ls st h res er k H locs jls hP hS hH hL hn hls hst
  obtain ⟨hx, hb, hml, hown, hts, hr, hlk, hK, hDA, hNw⟩ := hc
  unfold mi_ifle at er
  split at er
  · rename_i a st
    have ha1 : mm_in a := mm_okS_h hst
    have E0 : (Int32.ofInt a = 0) = (a = 0) := propext (by rw [mm_z]; exact mm_eq ha1 mm_z_in)
    have E1 : (Int32.ofInt a < 0) = (a < 0) := propext (by rw [mm_z]; exact mm_lt ha1 mm_z_in)
    have E2 : (0 ≤ Int32.ofInt a) = (0 ≤ a) := propext (by rw [mm_z]; exact mm_le mm_z_in ha1)
    have E3 : (0 < Int32.ofInt a) = (0 < a) := propext (by rw [mm_z]; exact mm_lt mm_z_in ha1)
    have E4 : (Int32.ofInt a ≤ 0) = (a ≤ 0) := propext (by rw [mm_z]; exact mm_le ha1 mm_z_in)
    refine lv_if_le hx hb hd ht (fun q => ?_) (fun q => ?_)
    all_goals
      simp only [E0, E1, E2, E3, E4, ne_eq] at q
      split at er
      all_goals first | (exfalso; omega) | exact k _ _ _ _ er H locs jls hP hS hH hL hn hls (mm_okS_t hst)
  · cases er
theorem ok_cmple {off : Int} {tg : Nat} (hd : decode I.2.1 pc = .ok (.if_icmp .le off, 3)) (ht : (pc : Int) + off = (tg : Int)) : mm_Ok l D cl tys Ts Ns N w fsp cs ad inf tab I pc (mi_cmple tg (pc + 3)) := by
  refine ⟨sh_cmple _ _, ?_⟩
  intro p e s m args below meth c hc hSp J C hC ls st h res er k H locs jls hP hS hH hL hn hls hst
  obtain ⟨hx, hb, hml, hown, hts, hr, hlk, hK, hDA, hNw⟩ := hc
  unfold mi_cmple at er
  split at er
  · rename_i b a st
    have hb1 : mm_in b := mm_okS_h hst
    have ha1 : mm_in a := mm_okS_h (mm_okS_t hst)
    have E0 : (Int32.ofInt a = Int32.ofInt b) = (a = b) := propext (mm_eq ha1 hb1)
    have E1 : (Int32.ofInt a < Int32.ofInt b) = (a < b) := propext (mm_lt ha1 hb1)
    have E2 : (Int32.ofInt b ≤ Int32.ofInt a) = (b ≤ a) := propext (mm_le hb1 ha1)
    have E3 : (Int32.ofInt b < Int32.ofInt a) = (b < a) := propext (mm_lt hb1 ha1)
    have E4 : (Int32.ofInt a ≤ Int32.ofInt b) = (a ≤ b) := propext (mm_le ha1 hb1)
    refine lv_icmp_le hx hb hd ht (fun q => ?_) (fun q => ?_)
    all_goals
      simp only [E0, E1, E2, E3, E4, ne_eq] at q
      split at er
      all_goals first | (exfalso; omega) | exact k _ _ _ _ er H locs jls hP hS hH hL hn hls (mm_okS_t (mm_okS_t hst))
  · cases er
end MMO
