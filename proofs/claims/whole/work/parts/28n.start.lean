/-! ===== the law's start (by wip/gen/walkl.py) ===== -/
theorem vw_449 : Cond.instantiable RX10 12 ∈ lw_good := lw_in 54 (by decide +kernel) rfl
theorem vw_450 : Cond.instantiable RX11 16 ∈ lw_good := lw_in 796 (by decide +kernel) rfl
theorem vw_451 : Cond.classLink RL 7 RX10 ∈ lw_good := lw_in 53 (by decide +kernel) rfl
theorem vw_452 : Cond.classLink RL 10 RX11 ∈ lw_good := lw_in 795 (by decide +kernel) rfl
theorem vw_453 : Cond.code yX10_init cX10_init 1 none ∈ lw_good := lw_in 57 (by decide +kernel) rfl
theorem vw_454 : Cond.methodLink RL 9 yX10_init ∈ lw_good := lw_in 55 (by decide +kernel) rfl
theorem vw_455 : Cond.instanceMethod yX10_init ∈ lw_good := lw_in 56 (by decide +kernel) rfl
theorem vw_456 : Cond.code yX11_init cX11_init 1 none ∈ lw_good := lw_in 799 (by decide +kernel) rfl
theorem vw_457 : Cond.methodLink RL 12 yX11_init ∈ lw_good := lw_in 797 (by decide +kernel) rfl
theorem vw_458 : Cond.instanceMethod yX11_init ∈ lw_good := lw_in 798 (by decide +kernel) rfl
theorem tx_e : ∀ j, j < 78 → (tx_l.map Int32.ofInt).getD j 0 = tx_v j := by decide +kernel
abbrev tm_s : Term := .string "DuskOnRopes" 262
theorem na_el : ∀ j, j < 78 → Cond.eq (.elem (.field tm_s "java/lang/String" "value" "[B") (.int (Int32.ofNat j))) (.int ((tx_l.map Int32.ofInt).getD j 0)) ∈ flatC (Jvm.Cond.and given_1 narrow_1) := by decide +kernel
theorem na_ex : Cond.exactly tm_s "java/lang/String" ∈ flatC (Jvm.Cond.and given_1 narrow_1) := by decide +kernel
theorem na_co : Cond.eq (.field tm_s "java/lang/String" "coder" "B") (.int 0) ∈ flatC (Jvm.Cond.and given_1 narrow_1) := by decide +kernel
theorem na_ar : Cond.arrayOf (.field tm_s "java/lang/String" "value" "[B") .byte ∈ flatC (Jvm.Cond.and given_1 narrow_1) := by decide +kernel
theorem na_le : Cond.eq (.length (.field tm_s "java/lang/String" "value" "[B")) (.int (Int32.ofNat 78)) ∈ flatC (Jvm.Cond.and given_1 narrow_1) := by decide +kernel
theorem na_cs : Cond.eq (.static "java/lang/String" "COMPACT_STRINGS" "Z") (.int 1) ∈ flatC (Jvm.Cond.and given_1 narrow_1) := by decide +kernel
theorem na_si : Cond.isRef (.static "jdk/internal/util/Preconditions" "SIOOBE_FORMATTER" "Ljava/util/function/BiFunction;") ∈ flatC (Jvm.Cond.and given_1 narrow_1) := by decide +kernel
/-- the String constant at the start -/
theorem st_text {s : State} {b : Nat} (hgv : (Jvm.Cond.and given_1 narrow_1).before #[Value.ref b] s = true) (hts : ∀ w ∈ lw_tbl, w.before #[Value.ref b] s = true) : ∃ tK tV : Nat, SF tK tV (fun q => s.heap.size ≤ q) s s.heap ∧ vk_R RX10 262 "r2,3,0,0;r9,2,2,4;r15,4,1,0;r21,5,3,6;w4,1;w10,2;w20,0;m0;m8;m12;m23;m16;c1,2;" tK s := by
  have hs := flat_of_before _ hgv
  have hA : ∀ a : Nat, a < s.heap.size → ¬ (fun q => s.heap.size ≤ q) a := fun a h => Nat.not_le.mpr h
  obtain ⟨adK, adV, h1, h2⟩ := vk_Sof (args := #[Value.ref b]) (s := s) (N := 1) (tm := fun _ => tm_s) (len := [78]) (byt := [tx_l.map Int32.ofInt]) (A := fun q => s.heap.size ≤ q) (fun i hi => by rcases (show i = 0 by omega) with rfl; decide) (fun i hi => hs _ na_ex) (fun i hi => hs _ na_co) (fun i hi => hs _ na_ar) (fun i hi => by rcases (show i = 0 by omega) with rfl; exact hs _ na_le) (fun i hi j hj => by rcases (show i = 0 by omega) with rfl; exact hs _ (na_el j hj)) (fun i j hi hj hij => by omega) hA
  obtain ⟨k1, k2, k3, cell, t1, t2, t3, t4, t5, t6, t7⟩ := h1.1 0 (by decide)
  refine ⟨adK 0, adV 0, ⟨k1, k2, k3, ⟨cell, t1, t2, t3, t4, t5, fun j hj => ?_, t7⟩, va_Zof (hts _ (List.mem_of_getElem? (i := 316) (by decide +kernel))) (hts _ (List.mem_of_getElem? (i := 45) (by decide +kernel))) (va_eqi (hs _ na_cs)) hA, va_Zqof (hts _ (List.mem_of_getElem? (i := 332) (by decide +kernel))) (hts _ (List.mem_of_getElem? (i := 47) (by decide +kernel))) (hs _ na_si) hA⟩, vk_R.of (hts _ (List.mem_of_getElem? (i := 306) (by decide +kernel))) (h2 0 (by decide))⟩
  have h8 := t6 j hj
  have e8 : (fun j => Value.int (([tx_l.map Int32.ofInt].getD 0 []).getD j 0)) j = .int (tx_v j) := by
    show Value.int ((tx_l.map Int32.ofInt).getD j 0) = _
    rw [tx_e j hj]
  exact h8.trans (congrArg some e8)
/-- the arrays' classes at the start -/
theorem st_arrays {s : State} {b : Nat} (hts : ∀ w ∈ lw_tbl, w.before #[Value.ref b] s = true) : ∃ cs : ClassId × ClassId × ClassId × ClassId, (∀ (k : Nat) (q : ClassId × FieldType), (mm_ty cs)[k]? = some q → ArrOfT s q.1 q.2 ∧ va_RA s q.1 q.2) ∧ EX cs s := by
  obtain ⟨cI, kI, iI, i1, i2, i3⟩ := Cond.arrayClass_spec (type := .int) (hts _ (List.mem_of_getElem? (i := 88) (by decide +kernel)))
  obtain ⟨cC, kC, iC, c1, c2, c3⟩ := Cond.arrayClass_spec (type := .char) (hts _ (List.mem_of_getElem? (i := 74) (by decide +kernel)))
  have hAO : va_AO RX3 s := va_AO.of (hts _ (List.mem_of_getElem? (i := 197) (by decide +kernel)))
  obtain ⟨dc, cD, kD, d1, d2, d3, d4, d5⟩ := Cond.arrayOver_spec (n := RX3) (hts _ (List.mem_of_getElem? (i := 197) (by decide +kernel)))
  obtain ⟨gc, cG, kG, g1, g2, g3, g4, g5⟩ := arrayOverA_spec (t := .int) (hts _ (List.mem_of_getElem? (i := 225) (by decide +kernel)))
  have eg : gc = cI := Option.some.inj (g1.symm.trans i1)
  subst eg
  refine ⟨(gc, cC, cD, cG), fun k q hq => ?_, hAO, kG, g3, g4⟩
  match k, hq with
  | 0, hq => cases hq; exact ⟨fun n z => ⟨fun k h => (by cases h), kI, i2, iI, i3⟩, i1⟩
  | 1, hq => cases hq; exact ⟨fun n z => ⟨fun k h => (by cases h), kC, c2, iC, c3⟩, c1⟩
  | 2, hq => cases hq; exact ⟨fun n z => ⟨fun k h => (by cases h), kD, d3, dc, d4⟩, kD, dc, d3, d4, d1, d5⟩
  | 3, hq => cases hq; exact ⟨fun n z => ⟨fun k h => (by cases h), kG, g3, gc, g4⟩, g5⟩
  | k + 4, hq => cases hq
theorem st_nests {s : State} {b : Nat} (hts : ∀ w ∈ lw_tbl, w.before #[Value.ref b] s = true) : mm_Nw nests s := by
  have h : ∀ w ∈ lw_tbl, w.onTables = true → va_Nw w s := fun w hw ho => va_Nw.of ho (hts w hw)
  intro q hq
  simp only [nests, List.mem_cons, List.not_mem_nil, or_false] at hq
  rcases hq with rfl | rfl | rfl | rfl | rfl | rfl | rfl | rfl | rfl
  · exact h _ wnt_0 rfl
  · exact h _ wnt_1 rfl
  · exact h _ wnt_2 rfl
  · exact h _ wnt_3 rfl
  · exact h _ wnt_4 rfl
  · exact h _ wnt_5 rfl
  · exact h _ wnt_6 rfl
  · exact h _ wnt_7 rfl
  · exact h _ wnt_8 rfl
theorem st_classes {s : State} {b : Nat} (hts : ∀ w ∈ lw_tbl, w.before #[Value.ref b] s = true) : ∃ D : va_G, ∀ (k : Nat) (q : vw_C), classes[k]? = some q → u_Kn s q.1 q.2.1 q.2.2 (D.1 k) (D.2 k) := by
  obtain ⟨c0, i0, hn0⟩ := u_known (C := RX0) (T := TX0) (N := 1) (n := 1) hts (fun w hw => (List.mem_filter.mp (ig_X0 w hw)).1) (hts (.instantiable RX0 1) (List.mem_filter.mp vw_153).1)
  obtain ⟨c1, i1, hn1⟩ := u_known (C := RX1) (T := TX1) (N := 1) (n := 1) hts (fun w hw => (List.mem_filter.mp (ig_X1 w hw)).1) (hts (.instantiable RX1 1) (List.mem_filter.mp vw_181).1)
  obtain ⟨c2, i2, hn2⟩ := u_known (C := RX2) (T := TX2) (N := 7) (n := 7) hts (fun w hw => (List.mem_filter.mp (ig_X2 w hw)).1) (hts (.instantiable RX2 7) (List.mem_filter.mp vw_174).1)
  obtain ⟨c3, i3, hn3⟩ := u_known (C := RX3) (T := TX3) (N := 4) (n := 4) hts (fun w hw => (List.mem_filter.mp (ig_X3 w hw)).1) (hts (.instantiable RX3 4) (List.mem_filter.mp vw_58).1)
  obtain ⟨c4, i4, hn4⟩ := u_known (C := RX4) (T := TX4) (N := 5) (n := 5) hts (fun w hw => (List.mem_filter.mp (ig_X4 w hw)).1) (hts (.instantiable RX4 5) (List.mem_filter.mp vw_160).1)
  obtain ⟨c5, i5, hn5⟩ := u_known (C := RX5) (T := TX5) (N := 3) (n := 3) hts (fun w hw => (List.mem_filter.mp (ig_X5 w hw)).1) (hts (.instantiable RX5 3) (List.mem_filter.mp vw_167).1)
  obtain ⟨c6, i6, hn6⟩ := u_known (C := RX6) (T := TX6) (N := 2) (n := 2) hts (fun w hw => (List.mem_filter.mp (ig_X6 w hw)).1) (hts (.instantiable RX6 2) (List.mem_filter.mp vw_132).1)
  obtain ⟨c7, i7, hn7⟩ := u_known (C := RX7) (T := TX7) (N := 2) (n := 2) hts (fun w hw => (List.mem_filter.mp (ig_X7 w hw)).1) (hts (.instantiable RX7 2) (List.mem_filter.mp vw_145).1)
  obtain ⟨c8, i8, hn8⟩ := u_known (C := RX8) (T := TX8) (N := 2) (n := 2) hts (fun w hw => (List.mem_filter.mp (ig_X8 w hw)).1) (hts (.instantiable RX8 2) (List.mem_filter.mp vw_127).1)
  obtain ⟨c9, i9, hn9⟩ := u_known (C := RX9) (T := TX9) (N := 14) (n := 14) hts (fun w hw => (List.mem_filter.mp (ig_X9 w hw)).1) (hts (.instantiable RX9 14) (List.mem_filter.mp vw_137).1)
  obtain ⟨c10, i10, hn10⟩ := u_known (C := RX10) (T := TX10) (N := 12) (n := 12) hts (fun w hw => (List.mem_filter.mp (ig_X10 w hw)).1) (hts (.instantiable RX10 12) (List.mem_filter.mp vw_449).1)
  obtain ⟨c11, i11, hn11⟩ := u_known (C := RX11) (T := TX11) (N := 16) (n := 16) hts (fun w hw => (List.mem_filter.mp (ig_X11 w hw)).1) (hts (.instantiable RX11 16) (List.mem_filter.mp vw_450).1)
  refine ⟨(fun k => if k = 0 then c0 else if k = 1 then c1 else if k = 2 then c2 else if k = 3 then c3 else if k = 4 then c4 else if k = 5 then c5 else if k = 6 then c6 else if k = 7 then c7 else if k = 8 then c8 else if k = 9 then c9 else if k = 10 then c10 else c11, fun k => if k = 0 then i0 else if k = 1 then i1 else if k = 2 then i2 else if k = 3 then i3 else if k = 4 then i4 else if k = 5 then i5 else if k = 6 then i6 else if k = 7 then i7 else if k = 8 then i8 else if k = 9 then i9 else if k = 10 then i10 else i11), ?_⟩
  intro k q hq
  match k, hq with
  | 0, hq => cases hq; exact hn0
  | 1, hq => cases hq; exact hn1
  | 2, hq => cases hq; exact hn2
  | 3, hq => cases hq; exact hn3
  | 4, hq => cases hq; exact hn4
  | 5, hq => cases hq; exact hn5
  | 6, hq => cases hq; exact hn6
  | 7, hq => cases hq; exact hn7
  | 8, hq => cases hq; exact hn8
  | 9, hq => cases hq; exact hn9
  | 10, hq => cases hq; exact hn10
  | 11, hq => cases hq; exact hn11
  | k + 12, hq => cases hq
set_option maxHeartbeats 8000000 in
set_option maxRecDepth 100000 in
/-- from the entry -/
theorem whole_start {p : Program} {e : Env} {s : State} {m : MethodId} {below : List Frame} {meth : Method} {c : Code} (l : Launch) (hflags : l.flags = flags0) {b L : Nat} {xs : Nat → Int32} (hL : L ≤ 3072) (C0 : lw_At p s m meth c b L xs) : W p l e room_1 s m #[Value.ref b] below meth c s.heap [] 0 0 (lw_Z below #[Value.ref b] s) (entryFrame m ([Value.ref b] : List Value).toArray 4) := by
  obtain ⟨hx, hb, hr, hml, hown, hts0, hX, hbl, hlocks, hgv⟩ := id C0
  have hb : c.code = cL_law := hb
  have hown : s.vm.findClass RL = some m.cls := hown
  have hts : ∀ w ∈ lw_good, w.before #[Value.ref b] s = true := fun w hw => hts0 w (List.mem_filter.mp hw).1
  have hA : ∀ q : Nat, s.heap.size ≤ q → (fun q : Nat => s.heap.size ≤ q) q := fun _ h => h
  obtain ⟨tK, tV, hSF, hR⟩ := st_text hgv hts0
  obtain ⟨cs, hcs, hE⟩ := st_arrays hts0
  obtain ⟨D, hDc⟩ := st_classes hts0
  have hNw := st_nests hts0
  have hK : va_K D classes (mm_ty cs) s := ⟨hDc, hcs⟩
  have hS : va_S (fun q : Nat => s.heap.size ≤ q) s.heap s.heap [] := va_S.rf
  have hP : va_P D classes [] s.heap := fun k q h => by simp at h
  have hD : va_D (fun q : Nat => s.heap.size ≤ q) [] := ⟨fun i j p q h => by simp at h, fun k q h => by simp at h⟩
  have hl := lv_entry ([.ref b]) (n := 4) (Nat.le_of_ble_eq_true rfl)
  rw [lg_entry_eq]
  generalize (lg_sl ([.ref b]) ++ List.replicate (4 - (lg_sl ([.ref b])).length) Slot.unset).toArray = ls at hl ⊢
  have hl : lv_has ls 4 [(0, .ref b)] := hl
  refine va_new (ci := 10) (fs := [.null, .null, .null, .null, .null, .null, .null, .null, .null, .null, .null, .null]) (C := RX10) (T := TX10) (N := 12) hx hb hts (fun w hw => ig_X10 w hw) tyX10 tyX10_ok hown (hts _ vw_451) (hts _ vw_449) (hts _ vw_188) hK hP hD hS hA rfl (fun j hj => by rcases (show j = 0 ∨ j = 1 ∨ j = 2 ∨ j = 3 ∨ j = 4 ∨ j = 5 ∨ j = 6 ∨ j = 7 ∨ j = 8 ∨ j = 9 ∨ j = 10 ∨ j = 11 by omega) with rfl | rfl | rfl | rfl | rfl | rfl | rfl | rfl | rfl | rfl | rfl | rfl <;> rfl) (Nat.le_of_ble_eq_true rfl) (Nat.le_of_ble_eq_true rfl) dL_law_0 (fun q0 H hP hD hS => ?_)
  have hP : va_P D classes (w0X q0) H := hP
  have hD : va_D (fun q : Nat => s.heap.size ≤ q) (w0X q0) := hD
  refine lv_dup hx hb dL_law_3 rfl ?_
  have hF0 : ∀ x, va_A (w0X q0) H.size x → s.heap.size ≤ x := by
    intro x hx
    rcases hx with ⟨k, e0, hk⟩ | hx
    · exact hD.2 k _ hk
    · exact Nat.le_trans hS.1 hx
  refine va_callv (va_runI (As := []) (rest := [.ref q0]) ⟨hx, hb, hml, hown, hts⟩ (cx_met l D cs q0 _ tK tV H.size) (cwI (bytes := cX10_init) (maxL := 1) (ws' := lw_good) 0 hts (lw_G (I := ii_X10) vw_453) rfl rfl rfl (hts _ vw_188) (hts _ vw_454) (hts _ vw_455) rfl (by decide +kernel) ⟨Nat.le_of_ble_eq_true rfl, Nat.le_of_ble_eq_true rfl⟩) ⟨cx_blind, fun U hU hW => ⟨rfl, ⟨by rw [hU], by rw [hU]; exact hP, va_K.moved hW.alike hK, hD.weaken (fun _ _ _ _ => trivial), EX.moved hW.alike hE⟩, mm_Nw_warm hW hNw, by rw [hU]; exact SF.moved hW.alike ((hSF.kept hS.2.1).narrow hF0), vk_R.warm hW hR⟩⟩ rfl rfl hl.1 rfl (lv_room (Nat.le_of_ble_eq_true rfl)) dL_law_4 ⟨Nat.le_of_ble_eq_true rfl, Nat.le_of_ble_eq_true rfl⟩) hS (fun x _ h => hF0 x h) hF0 (fun u t H1 locs1 ht hvm hw hB hz1 hk1 hS => ?_)
  obtain ⟨adX, h⟩ := u
  obtain ⟨hw1, hIX, hokX⟩ := hw
  obtain ⟨hPX0, hDX0⟩ := hB
  rw [ht] at hPX0
  have hw1 : adX 0 = q0 := hw1
  have hPX : va_P D classes (wdX cs adX h) H1 := hPX0
  have hDX : va_D (fun q : Nat => s.heap.size ≤ q) (wdX cs adX h) := hDX0.weaken (fun k x _ z => hF0 x.1 z)
  subst hw1
  refine lv_astore_n (lv' := [(1, .ref (adX 0)), (0, .ref b)]) hx hb dL_law_7 rfl hl (by decide) rfl (fun ls hl => ?_)
  refine va_new (ci := 11) (fs := [.null, .int 0, .null, .null, .null, .null, .int 0, .null, .int 0, .null, .int 0, .int 0, .null, .null, .null, .null]) (C := RX11) (T := TX11) (N := 16) hx hb hts (fun w hw => ig_X11 w hw) tyX11 tyX11_ok hown (hts _ vw_452) (hts _ vw_450) (hts _ vw_205) hK hPX hDX hS hA rfl (fun j hj => by rcases (show j = 0 ∨ j = 1 ∨ j = 2 ∨ j = 3 ∨ j = 4 ∨ j = 5 ∨ j = 6 ∨ j = 7 ∨ j = 8 ∨ j = 9 ∨ j = 10 ∨ j = 11 ∨ j = 12 ∨ j = 13 ∨ j = 14 ∨ j = 15 by omega) with rfl | rfl | rfl | rfl | rfl | rfl | rfl | rfl | rfl | rfl | rfl | rfl | rfl | rfl | rfl | rfl <;> rfl) (Nat.le_of_ble_eq_true rfl) (Nat.le_of_ble_eq_true rfl) dL_law_8 (fun q1 H hPA hDA hS => ?_)
  have hat : (wdX cs adX h ++ [(q1, (.inr (11, [.null, .int 0, .null, .null, .null, .null, .int 0, .null, .int 0, .null, .int 0, .int 0, .null, .null, .null, .null]) : va_E))])[87]? = some (q1, .inr (11, [.null, .int 0, .null, .null, .null, .null, .int 0, .null, .int 0, .null, .int 0, .int 0, .null, .null, .null, .null])) := by
    have hlen : (wdX cs adX h).length = 87 := by simp [mm_wd]
    rw [List.getElem?_append_right (by omega), hlen]
    rfl
  have hlX : ∀ (k : Nat) (x : Nat × va_E), (wdX cs adX h)[k]? = some x → (wdX cs adX h ++ [(q1, (.inr (11, [.null, .int 0, .null, .null, .null, .null, .int 0, .null, .int 0, .null, .int 0, .int 0, .null, .null, .null, .null]) : va_E))])[k]? = some x := fun k x hx => by
    rw [List.getElem?_append_left (List.getElem?_eq_some_iff.mp hx).1]; exact hx
  have hPX : va_P D classes (wdX cs adX h) H := fun k x hx => hPA k x (hlX k x hx)
  have hP : va_P D classes (w0M q1) H := fun k x hx => by
    match k, hx with
    | 0, hx => cases hx; exact hPA 87 _ hat
    | k + 1, hx => cases hx
  have hD : va_D (fun q : Nat => s.heap.size ≤ q) (w0M q1) := ⟨fun i j x y hx hy _ => by
    have h1 := (List.getElem?_eq_some_iff.mp hx).1
    have h2 := (List.getElem?_eq_some_iff.mp hy).1
    simp at h1 h2
    omega, fun k x hx => by
    match k, hx with
    | 0, hx => cases hx; exact hDA.2 87 _ hat
    | k + 1, hx => cases hx⟩
  have hne : ∀ i, i < 87 → adX i ≠ q1 := fun i hi z => by
    have := hDA.1 i 87 _ _ (hlX i _ (mm_wd_at hi)) hat z
    omega
  have hltX : ∀ i, i < 87 → adX i < H.size := fun i hi => (hPX i _ (mm_wd_at hi)).lt
  refine lv_dup hx hb dL_law_11 rfl ?_
  have hF1 : ∀ x, va_A (w0M q1) H.size x → s.heap.size ≤ x := by
    intro x hx
    rcases hx with ⟨k, e0, hk⟩ | hx
    · exact hD.2 k _ hk
    · exact Nat.le_trans hS.1 hx
  have hnA : ∀ i, i < 87 → ¬ va_A (w0M q1) H.size (adX i) := by
    intro i hi z
    rcases z with ⟨k, e0, hk⟩ | z
    · match k, hk with
      | 0, hk =>
        have := Option.some.inj hk
        exact hne i hi (congrArg Prod.fst this).symm
      | k + 1, hk => cases hk
    · exact absurd (hltX i hi) (Nat.not_lt.mpr z)
  refine va_callv (va_runI (As := []) (rest := [.ref q1]) ⟨hx, hb, hml, hown, hts⟩ (cm_met l D cs q1 H.size) (cwI (bytes := cX11_init) (maxL := 1) (ws' := lw_good) 0 hts (lw_G (I := ii_X11) vw_456) rfl rfl rfl (hts _ vw_205) (hts _ vw_457) (hts _ vw_458) rfl (by decide +kernel) ⟨Nat.le_of_ble_eq_true rfl, Nat.le_of_ble_eq_true rfl⟩) ⟨cm_blind, fun U hU hW => ⟨rfl, ⟨by rw [hU], by rw [hU]; exact hP, va_K.moved hW.alike hK, hD.weaken (fun _ _ _ _ => trivial), EX.moved hW.alike hE⟩, mm_Nw_warm hW hNw⟩⟩ rfl rfl hl.1 rfl (lv_room (Nat.le_of_ble_eq_true rfl)) dL_law_12 ⟨Nat.le_of_ble_eq_true rfl, Nat.le_of_ble_eq_true rfl⟩) hS (fun x _ h => hF1 x h) hF1 (fun u t H1 locs1 ht hvm hw hB hz1 hk1 hS => ?_)
  obtain ⟨adM, g⟩ := u
  obtain ⟨hw1, hIM, hokM⟩ := hw
  obtain ⟨hPM0, hDM0⟩ := hB
  rw [ht] at hPM0
  have hw1 : adM 0 = q1 := hw1
  have hPM : va_P D classes (wdM cs adM g) H1 := hPM0
  have hDM : va_D (fun q : Nat => s.heap.size ≤ q) (wdM cs adM g) := hDM0.weaken (fun k x _ z => hF1 x.1 z)
  have hPX : va_P D classes (wdX cs adX h) H1 := hPX.kept (fun k x hx => by
    obtain ⟨hk, rfl⟩ := mm_wd_of hx
    exact hk1 _ (hltX k hk) (hnA k hk))
  have hXM : ∀ i j : Nat, i < 87 → j < 12 → adX i ≠ adM j := fun i j hi hj z => hnA i hi (by rw [z]; exact hDM0.2 j _ (mm_wd_at hj))
  subst hw1
  refine lv_astore_n (lv' := [(2, .ref (adM 0)), (1, .ref (adX 0)), (0, .ref b)]) hx hb dL_law_15 rfl hl (by decide) rfl (fun ls hl => ?_)
  refine lv_iconst (v := 0) hx hb dL_law_16 (by decide) ?_
  refine lv_istore_n (lv' := [(3, .int 0), (2, .ref (adM 0)), (1, .ref (adX 0)), (0, .ref b)]) hx hb dL_law_17 rfl hl (by decide) rfl (fun ls hl => ?_)
  refine W.widen (k := 600000) (n := 7302250) (Nat.le_of_ble_eq_true rfl) (Nat.le_of_ble_eq_true rfl) ?_
  exact law_loop ⟨hx, hb, hml, hown, hts, hK, hNw, hXM, hX, hbl, hL⟩ hr hlocks (L + 1) 0 h g 5 H1 _ ls (by omega) (by omega) ⟨Rel_0 hIX hIM, hokX, hokM, hPX, hDX, hPM, hDM, hS⟩ (lv_sub hl [0, 3, 2, 1] rfl)
