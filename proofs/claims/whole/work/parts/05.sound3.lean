theorem mm_cat (ad : Nat → Nat) : ∀ st : List mm_V, ((st.map (mm_f ad)).map fun v => v.category).sum ≤ 2 * st.length
  | [] => Nat.zero_le _
  | v :: st => by
    have h := mm_cat ad st
    have h2 : (mm_f ad v).category ≤ 2 := by unfold mm_f; split <;> simp [Value.category]
    simp only [List.map_cons, List.sum_cons, List.length_cons]
    omega
section MMQ
variable {l : Launch} {D : va_G} {cl : List vw_C} {tys : List (ClassId × FieldType)} {Ts : List Cond} {Ns : List (String × Nat × MethodName × String)} {N : Nat} {w : mm_W} {fsp : Nat → List Nat} {cs : ClassId × ClassId × ClassId × ClassId} {ad : Nat → Nat} {inf : Nat → mm_M} {tab : Nat → Nat → mm_I} {I : mm_M} {pc : Nat}
theorem ok_max {ix : Nat} (hw1 : Cond.methodLink I.1.cls ix Lib.Math.max.name ∈ Ts) (hw2 : Cond.static Lib.Math.max.name ∈ Ts) (hw3 : Cond.initialized "java/lang/Math" ∈ Ts) (hw4 : Cond.code Lib.Math.max.name Lib.Math.max.code 2 (some .int) ∈ Ts) (hd : decode I.2.1 pc = .ok (.invokestatic ix, 3)) : mm_Ok l D cl tys Ts Ns N w fsp cs ad inf tab I pc (mi_max (pc + 3)) := by
  refine ⟨sh_max _, ?_⟩
  intro p e s m args below meth c hc hSp J C hC ls st h res er k H locs jls hP hS hH hL hn hls hst
  obtain ⟨hx, hb, hml, hown, hts, hr, hlk, hK, hDA, hNw⟩ := hc
  unfold mi_max at er
  split at er
  · rename_i b a st
    split at er
    · rename_i hlen
      have hlen := Nat.le_of_ble_eq_true hlen
      have hb1 : mm_in b := mm_okS_h hst
      have ha1 : mm_in a := mm_okS_h (mm_okS_t hst)
      have hcat := mm_cat ad st
      refine va_mmax hx hb (by rw [hml, ← hn]; exact hL.1.symm) hown (hts _ (List.mem_cons_of_mem _ hw1)) (hts _ (List.mem_cons_of_mem _ hw2)) (hts _ (List.mem_cons_of_mem _ hw3)) (hts _ (List.mem_cons_of_mem _ hw4)) (by show 1 ≤ _ + 1; omega) (by show _ ≤ 100 * (_ + 1); omega) (Nat.zero_le _) (Nat.zero_le _) hd ?_
      have e1 : (if Int32.ofInt a < Int32.ofInt b then Int32.ofInt b else Int32.ofInt a) = Int32.ofInt (if a < b then b else a) := by
        have := mm_lt ha1 hb1
        split <;> split <;> simp_all
      rw [e1]
      exact k _ _ _ _ er H locs jls hP hS hH hL hn hls (mm_okS_c (v := mm_i _) (by show mm_in _; split <;> assumption) (mm_okS_t (mm_okS_t hst)))
    · cases er
  · cases er
theorem ok_min {ix : Nat} (hw1 : Cond.methodLink I.1.cls ix Lib.Math.min.name ∈ Ts) (hw2 : Cond.static Lib.Math.min.name ∈ Ts) (hw3 : Cond.initialized "java/lang/Math" ∈ Ts) (hw4 : Cond.code Lib.Math.min.name Lib.Math.min.code 2 (some .int) ∈ Ts) (hd : decode I.2.1 pc = .ok (.invokestatic ix, 3)) : mm_Ok l D cl tys Ts Ns N w fsp cs ad inf tab I pc (mi_min (pc + 3)) := by
  refine ⟨sh_min _, ?_⟩
  intro p e s m args below meth c hc hSp J C hC ls st h res er k H locs jls hP hS hH hL hn hls hst
  obtain ⟨hx, hb, hml, hown, hts, hr, hlk, hK, hDA, hNw⟩ := hc
  unfold mi_min at er
  split at er
  · rename_i b a st
    split at er
    · rename_i hlen
      have hlen := Nat.le_of_ble_eq_true hlen
      have hb1 : mm_in b := mm_okS_h hst
      have ha1 : mm_in a := mm_okS_h (mm_okS_t hst)
      have hcat := mm_cat ad st
      refine va_mmin hx hb (by rw [hml, ← hn]; exact hL.1.symm) hown (hts _ (List.mem_cons_of_mem _ hw1)) (hts _ (List.mem_cons_of_mem _ hw2)) (hts _ (List.mem_cons_of_mem _ hw3)) (hts _ (List.mem_cons_of_mem _ hw4)) (by show 1 ≤ _ + 1; omega) (by show _ ≤ 100 * (_ + 1); omega) (Nat.zero_le _) (Nat.zero_le _) hd ?_
      have e1 : (if Int32.ofInt b < Int32.ofInt a then Int32.ofInt b else Int32.ofInt a) = Int32.ofInt (if b < a then b else a) := by
        have := mm_lt hb1 ha1
        split <;> split <;> simp_all
      rw [e1]
      exact k _ _ _ _ er H locs jls hP hS hH hL hn hls (mm_okS_c (v := mm_i _) (by show mm_in _; split <;> assumption) (mm_okS_t (mm_okS_t hst)))
    · cases er
  · cases er
theorem ok_abs {ix : Nat} (hw1 : Cond.methodLink I.1.cls ix Lib.Math.abs.name ∈ Ts) (hw2 : Cond.static Lib.Math.abs.name ∈ Ts) (hw3 : Cond.initialized "java/lang/Math" ∈ Ts) (hw4 : Cond.code Lib.Math.abs.name Lib.Math.abs.code 1 (some .int) ∈ Ts) (hd : decode I.2.1 pc = .ok (.invokestatic ix, 3)) : mm_Ok l D cl tys Ts Ns N w fsp cs ad inf tab I pc (mi_abs (pc + 3)) := by
  refine ⟨sh_abs _, ?_⟩
  intro p e s m args below meth c hc hSp J C hC ls st h res er k H locs jls hP hS hH hL hn hls hst
  obtain ⟨hx, hb, hml, hown, hts, hr, hlk, hK, hDA, hNw⟩ := hc
  unfold mi_abs at er
  split at er
  · rename_i a st
    split at er
    · rename_i hlen
      have hlen := Nat.le_of_ble_eq_true hlen
      have ha1 : mm_in a := mm_okS_h hst
      have hcat := mm_cat ad st
      refine va_mabs hx hb (by rw [hml, ← hn]; exact hL.1.symm) hown (hts _ (List.mem_cons_of_mem _ hw1)) (hts _ (List.mem_cons_of_mem _ hw2)) (hts _ (List.mem_cons_of_mem _ hw3)) (hts _ (List.mem_cons_of_mem _ hw4)) (by show 1 ≤ _ + 1; omega) (by show _ ≤ 100 * (_ + 1); omega) (Nat.zero_le _) (Nat.zero_le _) hd ?_
      have e1 : (if 0 ≤ Int32.ofInt a then Int32.ofInt a else 0 - Int32.ofInt a) = Int32.ofInt (mm_wr (if 0 ≤ a then a else 0 - a)) := by
        have e2 : (0 ≤ Int32.ofInt a) = (0 ≤ a) := propext (by rw [mm_z]; exact mm_le mm_z_in ha1)
        simp only [e2]
        rw [mm_ofwr]
        split
        · rfl
        · rw [Int32.ofInt_sub]; rfl
      rw [e1]
      exact k _ _ _ _ er H locs jls hP hS hH hL hn hls (mm_okS_c (v := mm_i _) (mm_wr_in _) (mm_okS_t hst))
    · cases er
  · cases er
theorem ok_copy {ix : Nat} (hN : ∀ a, (w a).1 < 1000 → a < N) (ht : tys[0]? = some (cs.1, .int)) (hw1 : Cond.methodLink I.1.cls ix arraycopyName ∈ Ts) (hw2 : Cond.native arraycopyName ∈ Ts) (hw3 : Cond.static arraycopyName ∈ Ts) (hw4 : Cond.initialized "java/lang/System" ∈ Ts) (hd : decode I.2.1 pc = .ok (.invokestatic ix, 3)) : mm_Ok l D cl tys Ts Ns N w fsp cs ad inf tab I pc (mi_copy w (pc + 3)) := by
  refine ⟨sh_copy _ _, ?_⟩
  intro p e s m args below meth c hc hSp J C hC ls st h res er k H locs jls hP hS hH hL hn hls hst
  obtain ⟨hx, hb, hml, hown, hts, hr, hlk, hK, hDA, hNw⟩ := hc
  unfold mi_copy at er
  split at er
  · rename_i n dp b sp a st
    split at er
    · rename_i hlen
      have hlen := Nat.le_of_ble_eq_true hlen
      split at er
      · rename_i hw0
        obtain ⟨hwa, hwb⟩ := hw0
        split at er
        · rename_i hix
          obtain ⟨⟨g1, g2, g3⟩, g4, g5⟩ := hix
          have haN : a < N := hN a (by omega)
          have hbN : b < N := hN b (by omega)
          have hat := mm_wd_at (N := N) (w := w) (fsp := fsp) (cs := cs) (ad := ad) (h := h) haN
          rw [mm_cell0 hwa] at hat
          have hbt := mm_wd_at (N := N) (w := w) (fsp := fsp) (cs := cs) (ad := ad) (h := h) hbN
          rw [mm_cell0 hwb] at hbt
          have q1 : mm_in n := mm_okS_h hst
          have q2 : mm_in dp := mm_okS_h (mm_okS_t hst)
          have q3 : mm_in sp := mm_okS_h (mm_okS_t (mm_okS_t (mm_okS_t hst)))
          have hcat := mm_cat ad st
          have neg : ∀ x : Int, mm_in x → 0 ≤ x → ¬ Int32.ofInt x < 0 := fun x hx0 h0 q => by
            rw [mm_z, mm_lt hx0 mm_z_in] at q
            omega
          refine va_copyi (ty := .int) hx hb (by rw [hml, ← hn]; exact hL.1.symm) hown (hts _ (List.mem_cons_of_mem _ hw1)) (hts _ (List.mem_cons_of_mem _ hw2)) (hts _ (List.mem_cons_of_mem _ hw3)) (hts _ (List.mem_cons_of_mem _ hw4)) hK hP (hDA h) hS a b 0 0 hat hbt ht ht rfl (neg sp q3 g1) (neg dp q2 g2) (neg n q1 g3) (by rw [mm_ixn q3, mm_ixn q1]; omega) (by rw [mm_ixn q2, mm_ixn q1]; omega) (fun _ _ => rfl) (by show 1 ≤ _ + 1; omega) (by show _ + (5 + 2 + 11) ≤ 100 * (_ + 1); omega) hd (fun H1 locs1 hP1 hD1 hS1 => ?_)
          rw [mm_ixn q1, mm_ixn q2, mm_ixn q3, mm_cpy_of, ← mm_cell0 (fsp := fsp) (cs := cs) (ad := ad) hwb, mm_wd_set hbN] at hP1
          refine k _ _ _ _ er H1 locs1 jls hP1 hS1 ?_ hL hn hls (mm_okS_t (mm_okS_t (mm_okS_t (mm_okS_t (mm_okS_t hst)))))
          intro x y
          unfold mm_up
          split
          · unfold mm_cp
            split <;> exact hH _ _
          · exact hH _ _
        · cases er
      · cases er
    · cases er
  · cases er
/-- a run with a weaker end -/
theorem mm_ends {p : Program} {e : Env} {R : Room} {s : State} {m : MethodId} {args : Array Value} {below : List Frame} {meth : Method} {c : Code} {H : Heap} {locs : List Loc} {cells slots : Nat} {rest : List Value} {free : Addr → Prop} {g : JFrame} {Qa Qb : State → Outcome → State → Prop} (h : ∀ u o t, Qa u o t → Qb u o t) (hr : va_Run p l e R s m args below meth c H locs cells slots 0 0 g rest Qa free) : va_Run p l e R s m args below meth c H locs cells slots 0 0 g rest Qb free := fun T hT X =>
  (hr T hT X).imp fun _ h1 => h1.imp fun _ h2 => h2.imp fun _ h3 => h3.imp fun _ h4 => h4.imp fun _ h5 => ⟨h5.1, h5.2.1, h5.2.2.1, h5.2.2.2.1, h5.2.2.2.2.1, h _ _ _ h5.2.2.2.2.2.1, h5.2.2.2.2.2.2⟩
/-- what a call leaves, but for its answer -/
abbrev mm_B (D : va_G) (cl : List vw_C) (N : Nat) (w : mm_W) (fsp : Nat → List Nat) (cs : ClassId × ClassId × ClassId × ClassId) (ad : Nat → Nat) (res : mm_R) : Unit → State → Prop := fun _ t => va_P D cl (mm_wd N w fsp cs ad res.2) t.heap ∧ mm_okH res.2 ∧ mm_okS res.1.toList
/-- a call of a method of the mini machine, by the kit's row for its kind of answer -/
theorem mm_goes2 {p : Program} {e : Env} {R : Room} {s : State} {m : MethodId} {args : Array Value} {below : List Frame} {meth : Method} {c : Code} {H : Heap} {locs : List Loc} {Q : State → Prop} {ls : Array Slot} {rest st0 : List Value} {a : Array Value} {A0 A1 : Nat → Prop} {H0 : Heap} {free : Addr → Prop} {cells slots : Nat} {res : mm_R} (hr : va_Run p l e R s m args below meth c H locs cells slots 0 0 (F0 m pc ls st0) rest (mm_Qc D cl tys N w fsp cs ad res A1 a) free) (hS : va_S A0 H0 H locs) (hA : ∀ q, q < H.size → A1 q → A0 q) (hf : ∀ q, free q → A0 q)
    (kk : ∀ (H1 : Heap) (locs1 : List Loc), va_P D cl (mm_wd N w fsp cs ad res.2) H1 → mm_okH res.2 → mm_okS res.1.toList → H.size ≤ H1.size → (∀ q : Nat, q < H.size → ¬ A1 q → H1[q]? = H[q]?) → va_S A0 H0 H1 locs1 → W p l e R s m args below meth c H1 locs1 cells slots Q (F0 m (pc + 3) ls ((res.1.map (mm_f ad)).toList ++ rest))) : W p l e R s m args below meth c H locs cells slots Q (F0 m pc ls st0) := by
  obtain ⟨ans, hp⟩ := res
  match ans with
  | none =>
    exact va_callv (a := a) (post := fun _ => True) (B := mm_B D cl N w fsp cs ad (none, hp)) (mm_ends (fun u o t q => ⟨⟨(), q.1.1, trivial, q.1.2.1, q.1.2.2.2⟩, q.2⟩) hr) hS hA hf fun _ t H1 l1 ht _ _ b hz hk hS1 => kk H1 l1 (ht ▸ b.1) b.2.1 b.2.2 hz hk hS1
  | some (.inl (.inl n)) =>
    exact va_calli (a := a) (post := fun r _ => r = Int32.ofInt n) (B := mm_B D cl N w fsp cs ad (some (mm_i n), hp)) (mm_ends (fun u o t q => ⟨⟨_, (), q.1.1, rfl, q.1.2.1, q.1.2.2.2⟩, q.2⟩) hr) hS hA hf fun r _ t H1 l1 ht _ er b hz hk hS1 => er ▸ kk H1 l1 (ht ▸ b.1) b.2.1 b.2.2 hz hk hS1
  | some (.inl (.inr n)) =>
    exact va_calll (a := a) (post := fun r _ => r = Int64.ofInt n) (B := mm_B D cl N w fsp cs ad (some (mm_j n), hp)) (mm_ends (fun u o t q => ⟨⟨_, (), q.1.1, rfl, q.1.2.1, q.1.2.2.2⟩, q.2⟩) hr) hS hA hf fun r _ t H1 l1 ht _ er b hz hk hS1 => er ▸ kk H1 l1 (ht ▸ b.1) b.2.1 b.2.2 hz hk hS1
  | some (.inr (.inl k)) =>
    exact va_callq (a := a) (post := fun r _ => r = some (ad k)) (B := mm_B D cl N w fsp cs ad (some (mm_r k), hp)) (mm_ends (fun u o t q => ⟨⟨_, (), q.1.1, rfl, q.1.2.1, q.1.2.2.2⟩, q.2⟩) hr) hS hA hf fun r _ t H1 l1 ht _ er b hz hk hS1 => er ▸ kk H1 l1 (ht ▸ b.1) b.2.1 b.2.2 hz hk hS1
  | some (.inr (.inr ())) =>
    exact va_callq (a := a) (post := fun r _ => r = none) (B := mm_B D cl N w fsp cs ad (some mm_u, hp)) (mm_ends (fun u o t q => ⟨⟨none, (), q.1.1, rfl, q.1.2.1, q.1.2.2.2⟩, q.2⟩) hr) hS hA hf fun r _ t H1 l1 ht _ er b hz hk hS1 => er ▸ kk H1 l1 (ht ▸ b.1) b.2.1 b.2.2 hz hk hS1
theorem mm_goes {p : Program} {e : Env} {R : Room} {s : State} {m : MethodId} {args : Array Value} {below : List Frame} {meth : Method} {c : Code} {H : Heap} {locs : List Loc} {Q : State → Prop} {ls : Array Slot} {rest st0 : List Value} {a : Array Value} {A0 A1 : Nat → Prop} {H0 : Heap} {free : Addr → Prop} {res : mm_R} (hr : va_Run p l e R s m args below meth c H locs 0 0 0 0 (F0 m pc ls st0) rest (mm_Qc D cl tys N w fsp cs ad res A1 a) free) (hS : va_S A0 H0 H locs) (hA : ∀ q, q < H.size → A1 q → A0 q) (hf : ∀ q, free q → A0 q)
    (kk : ∀ (H1 : Heap) (locs1 : List Loc), va_P D cl (mm_wd N w fsp cs ad res.2) H1 → mm_okH res.2 → mm_okS res.1.toList → va_S A0 H0 H1 locs1 → W p l e R s m args below meth c H1 locs1 0 0 Q (F0 m (pc + 3) ls ((res.1.map (mm_f ad)).toList ++ rest))) : W p l e R s m args below meth c H locs 0 0 Q (F0 m pc ls st0) :=
  mm_goes2 hr hS hA hf fun H1 l1 hP hH hV _ _ hS1 => kk H1 l1 hP hH hV hS1
theorem mm_blind {as : List mm_V} {h : mm_H} {sz : Nat} : FrameBlind (va_Pc (as.map (mm_f ad)) (fun U => U.heap.size = sz ∧ va_P D cl (mm_wd N w fsp cs ad h) U.heap ∧ va_K D cl tys U ∧ va_D (fun _ => True) (mm_wd N w fsp cs ad h) ∧ mm_Nw Ns U)) := fun a U g mk q => by
  obtain ⟨q0, q1, qP, qK, qD, qN⟩ := q
  exact ⟨q0, q1, qP, va_K.moved (u := U) (U := U.calling g mk a) (Vm.Alike.refl U.vm) qK, qD, fun x hx => va_Nw.same rfl rfl (qN x hx)⟩
theorem mm_good {ws : List Cond} (hTs : ∀ q ∈ Ts, goodWord q = true) (h : ∀ q ∈ ws, q ∈ Ts) : GoodIn (mm_ws Ts I) ws := fun q hq => ⟨List.mem_cons_of_mem _ (h q hq), good_of_word (hTs q (h q hq))⟩
theorem mm_room {r q n : Nat} (h : r < q) (hn : n ≤ 60) : (mm_rm r).frames + 1 ≤ (mm_rm q).frames ∧ 8 + (n + 11) + (mm_rm r).locals ≤ (mm_rm q).locals := by
  refine ⟨?_, ?_⟩
  · show r + 1 + 1 ≤ q + 1; omega
  · show 8 + (n + 11) + 100 * (r + 1) ≤ 100 * (q + 1); omega
theorem mm_cb_of {na : Nat} {st : List mm_V} (h : mm_cb na st = true) : na ≤ st.length ∧ (st.drop na).length ≤ 4 ∧ (st.take na).all mm_c1 = true := by
  unfold mm_cb at h
  rw [Bool.and_eq_true, Bool.and_eq_true] at h
  exact ⟨Nat.le_of_ble_eq_true h.1, Nat.le_of_ble_eq_true h.2.1, h.2.2⟩
theorem mm_rest {na : Nat} {st : List mm_V} (h : (st.drop na).length ≤ 4) : (((st.drop na).map (mm_f ad)).map fun v => v.category).sum ≤ 8 := Nat.le_trans (mm_cat ad _) (by omega)
theorem mm_Amono {sz sz2 : Nat} (h : sz ≤ sz2) : ∀ q, mm_A N ad sz2 q → mm_A N ad sz q := fun q z => z.elim Or.inl (fun z => Or.inr (Nat.le_trans h z))
theorem ok_callS {y na ix : Nat} (hTs : ∀ q ∈ Ts, goodWord q = true) (hrk : (inf y).2.2.2.2 < I.2.2.2.2) (hmx : (inf y).2.2.1 ≤ 60) (hna : na ≤ (inf y).2.2.1) (hcode : Cond.code (inf y).1 (inf y).2.1 (inf y).2.2.1 (inf y).2.2.2.1 ∈ Ts) (hini : Cond.initialized (inf y).1.cls ∈ Ts) (hnh : (inf y).1.cls ≠ "java/lang/invoke/MethodHandle" ∧ (inf y).1.cls ≠ "java/lang/invoke/VarHandle") (hpar : (parseMethodDescriptor (inf y).1.desc).map (fun d => d.parameters.length) = some na) (hlink : Cond.methodLink I.1.cls ix (inf y).1 ∈ Ts) (hstat : Cond.static (inf y).1 ∈ Ts) (hd : decode I.2.1 pc = .ok (.invokestatic ix, 3)) : mm_Ok l D cl tys Ts Ns N w fsp cs ad inf tab I pc (mi_callS y na (pc + 3)) := by
  refine ⟨sh_callS _ _ _, ?_⟩
  intro p e s m args below meth c hc hSp J C hC ls st h res er k H locs jls hP hS hH hL hn hls hst
  obtain ⟨hx, hb, hml, hown, hts, hr, hlk, hK, hDA, hNw⟩ := hc
  unfold mi_callS at er
  split at er
  · rename_i hcb
    obtain ⟨b1, b2, b3⟩ := mm_cb_of hcb
    obtain ⟨q, h1, h2⟩ := Option.bind_eq_some_iff.mp er
    obtain ⟨n0, h1⟩ := hC _ _ _ _ h1
    have hokA : mm_okS (st.take na).reverse := fun v hv => hst v (List.mem_of_mem_take (List.mem_reverse.mp hv))
    have hall : (st.take na).reverse.all mm_c1 = true := by rw [List.all_reverse]; exact b3
    have hlenA : (st.take na).reverse.length = na := by rw [List.length_reverse, List.length_take]; omega
    have hM := hSp y hrk (st.take na).reverse h q n0 h1 hokA hH hall (by rw [hlenA]; exact hna) H.size
    refine mm_goes (rest := (st.drop na).map (mm_f ad)) (va_runS (As := ((st.take na).reverse).map (mm_f ad)) (rest := (st.drop na).map (mm_f ad)) ⟨hx, hb, hml, hown, hts⟩ hM (va_cwS na hts (mm_good hTs (fun q hq => by
      simp only [va_wsS, mm_ws, List.cons_append, List.nil_append, List.mem_cons] at hq
      rcases hq with rfl | rfl | rfl | rfl | hq
      · exact hlink
      · exact hstat
      · exact hini
      · exact hcode
      · exact hq)) rfl rfl rfl ⟨hnh.1, hnh.2, hpar⟩ (mm_room hrk hmx)) ⟨mm_blind, fun U hU hW => ⟨rfl, by rw [hU], by rw [hU]; exact hP, va_K.moved hW.alike hK, (hDA h).weaken (fun _ _ _ _ => trivial), mm_Nw_warm hW hNw⟩⟩ rfl (by rw [List.length_map]; exact hlenA) (hL.1.trans hn) (by show st.map (mm_f ad) = _; rw [← List.map_reverse, List.reverse_reverse, ← List.map_append, List.take_append_drop]) (lv_room (mm_rest b2)) hd ⟨Nat.le_refl 0, Nat.le_refl 0⟩) hS (fun x _ z => mm_Amono hS.1 x z) (fun x z => mm_Amono hS.1 x z) (fun H1 locs1 hP1 hH1 hok1 hS1 => ?_)
    have fin := k _ _ _ _ h2 H1 locs1 jls hP1 hS1 hH1 hL hn hls (fun v hv => (List.mem_append.mp hv).elim (hok1 v) (fun z => hst v (List.mem_of_mem_drop z)))
    have e9 : (q.1.toList ++ st.drop na).map (mm_f ad) = (q.1.map (mm_f ad)).toList ++ (st.drop na).map (mm_f ad) := by
      rw [List.map_append]
      cases q.1 <;> rfl
    rw [e9] at fin
    exact fin
  · cases er
theorem ok_callN {y na ix : Nat} (hTs : ∀ q ∈ Ts, goodWord q = true) (hrk : (inf y).2.2.2.2 < I.2.2.2.2) (hmx : (inf y).2.2.1 ≤ 60) (hna : na ≤ (inf y).2.2.1) (hcode : Cond.code (inf y).1 (inf y).2.1 (inf y).2.2.1 (inf y).2.2.2.1 ∈ Ts) (hini : Cond.initialized (inf y).1.cls ∈ Ts) (hnh : (inf y).1.cls ≠ "java/lang/invoke/MethodHandle" ∧ (inf y).1.cls ≠ "java/lang/invoke/VarHandle") {host : String} (hpar : (parseMethodDescriptor (inf y).1.desc).map (fun d => d.parameters.length) = some na) (hlink : (I.1.cls, ix, (inf y).1, host) ∈ Ns) (hstat : Cond.static (inf y).1 ∈ Ts) (hd : decode I.2.1 pc = .ok (.invokestatic ix, 3)) : mm_Ok l D cl tys Ts Ns N w fsp cs ad inf tab I pc (mi_callS y na (pc + 3)) := by
  refine ⟨sh_callS _ _ _, ?_⟩
  intro p e s m args below meth c hc hSp J C hC ls st h res er k H locs jls hP hS hH hL hn hls hst
  obtain ⟨hx, hb, hml, hown, hts, hr, hlk, hK, hDA, hNw⟩ := hc
  unfold mi_callS at er
  split at er
  · rename_i hcb
    obtain ⟨b1, b2, b3⟩ := mm_cb_of hcb
    obtain ⟨q, h1, h2⟩ := Option.bind_eq_some_iff.mp er
    obtain ⟨n0, h1⟩ := hC _ _ _ _ h1
    have hokA : mm_okS (st.take na).reverse := fun v hv => hst v (List.mem_of_mem_take (List.mem_reverse.mp hv))
    have hall : (st.take na).reverse.all mm_c1 = true := by rw [List.all_reverse]; exact b3
    have hlenA : (st.take na).reverse.length = na := by rw [List.length_reverse, List.length_take]; omega
    have hM := hSp y hrk (st.take na).reverse h q n0 h1 hokA hH hall (by rw [hlenA]; exact hna) H.size
    refine mm_goes (rest := (st.drop na).map (mm_f ad)) (va_runSN (As := ((st.take na).reverse).map (mm_f ad)) (rest := (st.drop na).map (mm_f ad)) (host := host) ⟨hx, hb, hml, hown, hts⟩ hM ⟨va_cnB na hts (mm_good hTs (fun q hq => by
      simp only [mm_ws, List.mem_cons] at hq
      rcases hq with rfl | hq
      · exact hcode
      · exact hq)) rfl rfl rfl (hNw _ hlink) (hts _ (List.mem_cons_of_mem _ hini)) ⟨hnh.1, hnh.2, hpar⟩ (mm_room hrk hmx), hts _ (List.mem_cons_of_mem _ hstat), trivial⟩ ⟨mm_blind, fun U hU hW => ⟨rfl, by rw [hU], by rw [hU]; exact hP, va_K.moved hW.alike hK, (hDA h).weaken (fun _ _ _ _ => trivial), mm_Nw_warm hW hNw⟩⟩ rfl (by rw [List.length_map]; exact hlenA) (hL.1.trans hn) (by show st.map (mm_f ad) = _; rw [← List.map_reverse, List.reverse_reverse, ← List.map_append, List.take_append_drop]) (lv_room (mm_rest b2)) hd ⟨Nat.le_refl 0, Nat.le_refl 0⟩) hS (fun x _ z => mm_Amono hS.1 x z) (fun x z => mm_Amono hS.1 x z) (fun H1 locs1 hP1 hH1 hok1 hS1 => ?_)
    have fin := k _ _ _ _ h2 H1 locs1 jls hP1 hS1 hH1 hL hn hls (fun v hv => (List.mem_append.mp hv).elim (hok1 v) (fun z => hst v (List.mem_of_mem_drop z)))
    have e9 : (q.1.toList ++ st.drop na).map (mm_f ad) = (q.1.map (mm_f ad)).toList ++ (st.drop na).map (mm_f ad) := by
      rw [List.map_append]
      cases q.1 <;> rfl
    rw [e9] at fin
    exact fin
  · cases er
theorem ok_callV {y na ix : Nat} (hTs : ∀ q ∈ Ts, goodWord q = true) (hrk : (inf y).2.2.2.2 < I.2.2.2.2) (hmx : (inf y).2.2.1 ≤ 60) (hna : na ≤ (inf y).2.2.1) (hcode : Cond.code (inf y).1 (inf y).2.1 (inf y).2.2.1 (inf y).2.2.2.1 ∈ Ts) (hini : Cond.initialized (inf y).1.cls ∈ Ts) (hnh : (inf y).1.cls ≠ "java/lang/invoke/MethodHandle" ∧ (inf y).1.cls ≠ "java/lang/invoke/VarHandle") {Cn : String} {T : u_T} {Nf ci : Nat} (hN : ∀ a, (w a).1 < 1000 → a < N) (hci : ci < 900) (hcl : cl[ci]? = some (Cn, T, Nf)) (hCn : (inf y).1.cls = Cn) (hpar : (parseMethodDescriptor (inf y).1.desc).map (fun d => d.parameters.length) = some (na - 1)) (hlink : Cond.methodLink I.1.cls ix (inf y).1 ∈ Ts) (hinst : Cond.instanceMethod (inf y).1 ∈ Ts) (hsel : Cond.selects Cn (inf y).1 (inf y).1 ∈ Ts) (hd : decode I.2.1 pc = .ok (.invokevirtual ix, 3)) : mm_Ok l D cl tys Ts Ns N w fsp cs ad inf tab I pc (mi_callV w ci y na (pc + 3)) := by
  refine ⟨sh_callV _ _ _ _ _, ?_⟩
  intro p e s m args below meth c hc hSp J C hC ls st h res er k H locs jls hP hS hH hL hn hls hst
  obtain ⟨hx, hb, hml, hown, hts, hr, hlk, hK, hDA, hNw⟩ := hc
  unfold mi_callV at er
  split at er
  · rename_i _ _ a as hcb has
    split at er
    · rename_i hwa
      obtain ⟨b1, b2, b3⟩ := mm_cb_of hcb
      obtain ⟨q, h1, h2⟩ := Option.bind_eq_some_iff.mp er
      obtain ⟨n0, h1⟩ := hC _ _ _ _ h1
      have hokA : mm_okS (st.take na).reverse := fun v hv => hst v (List.mem_of_mem_take (List.mem_reverse.mp hv))
      have hall : (st.take na).reverse.all mm_c1 = true := by rw [List.all_reverse]; exact b3
      have hlenA : (st.take na).reverse.length = na := by rw [List.length_reverse, List.length_take]; omega
      rw [has] at hokA hall hlenA
      have hM := hSp y hrk (mm_r a :: as) h q n0 h1 hokA hH hall (by rw [hlenA]; exact hna) H.size
      have haN : a < N := hN a (by omega)
      have hat := mm_wd_at (N := N) (w := w) (fsp := fsp) (cs := cs) (ad := ad) (h := h) haN
      rw [mm_cell4 hwa] at hat
      have hstk : st.map (mm_f ad) = (as.map (mm_f ad)).reverse ++ .ref (ad a) :: (st.drop na).map (mm_f ad) := by
        have e1 : st = (mm_r a :: as).reverse ++ st.drop na := by rw [← has, List.reverse_reverse, List.take_append_drop]
        conv => lhs; rw [e1]
        rw [List.map_append, List.reverse_cons, List.map_append, List.map_reverse, List.append_assoc]
        rfl
      have hlas : as.length = na - 1 := by rw [← hlenA]; rfl
      refine mm_goes (rest := (st.drop na).map (mm_f ad)) (va_runV (As := as.map (mm_f ad)) (rest := (st.drop na).map (mm_f ad)) ⟨hx, hb, hml, hown, hts⟩ hM (cwV (C := Cn) (na - 1) hts (mm_good hTs (fun q hq => by
        simp only [wsV, mm_ws, List.cons_append, List.nil_append, List.mem_cons] at hq
        rcases hq with rfl | rfl | rfl | rfl | rfl | hq
        · exact hlink
        · exact hinst
        · exact hsel
        · rw [← hCn]; exact hini
        · exact hcode
        · exact hq)) rfl rfl rfl ⟨hCn, hnh.1, hnh.2, hpar⟩ (mm_room hrk hmx)) ⟨mm_blind, va_recv hK hP hcl hat, fun U hU hW => ⟨rfl, by rw [hU], by rw [hU]; exact hP, va_K.moved hW.alike hK, (hDA h).weaken (fun _ _ _ _ => trivial), mm_Nw_warm hW hNw⟩⟩ rfl (by rw [List.length_map]; exact hlas) (hL.1.trans hn) hstk (lv_room (mm_rest b2)) hd ⟨Nat.le_refl 0, Nat.le_refl 0⟩) hS (fun x _ z => mm_Amono hS.1 x z) (fun x z => mm_Amono hS.1 x z) (fun H1 locs1 hP1 hH1 hok1 hS1 => ?_)
      have fin := k _ _ _ _ h2 H1 locs1 jls hP1 hS1 hH1 hL hn hls (fun v hv => (List.mem_append.mp hv).elim (hok1 v) (fun z => hst v (List.mem_of_mem_drop z)))
      have e9 : (q.1.toList ++ st.drop na).map (mm_f ad) = (q.1.map (mm_f ad)).toList ++ (st.drop na).map (mm_f ad) := by
        rw [List.map_append]
        cases q.1 <;> rfl
      rw [e9] at fin
      exact fin
    · cases er
  · cases er
/-- the locals with which a method begins -/
theorem mm_args (ad : Nat → Nat) : ∀ (as : List mm_V) (i : Nat), as.all mm_c1 = true → ∀ (k : Nat) (v : mm_V), as[k]? = some v → (i + k, mm_f ad v) ∈ lv_args i (as.map (mm_f ad))
  | [], _, _, k, v, h => by simp at h
  | x :: as, i, hall, k, v, h => by
    rw [List.all_cons, Bool.and_eq_true] at hall
    have hc : (mm_f ad x).category ≠ 2 := by
      have h1 := hall.1
      revert h1
      unfold mm_c1 mm_f
      split <;> simp [Value.category]
    show _ ∈ (i, mm_f ad x) :: lv_args (if (mm_f ad x).category = 2 then i + 2 else i + 1) (as.map (mm_f ad))
    rw [if_neg hc]
    cases k with
    | zero =>
      rw [List.getElem?_cons_zero] at h
      rw [Option.some.inj h]
      exact List.mem_cons_self
    | succ k =>
      rw [List.getElem?_cons_succ] at h
      have := mm_args ad as (i + 1) hall.2 k v h
      rw [show i + 1 + k = i + (k + 1) by omega] at this
      exact List.mem_cons_of_mem _ this
theorem mm_slots (ad : Nat → Nat) : ∀ (as : List mm_V), as.all mm_c1 = true → (lg_sl (as.map (mm_f ad))).length = as.length
  | [], _ => rfl
  | x :: as, hall => by
    rw [List.all_cons, Bool.and_eq_true] at hall
    have hc : (mm_f ad x).category ≠ 2 := by
      have h1 := hall.1
      revert h1
      unfold mm_c1 mm_f
      split <;> simp [Value.category]
    have ih := mm_slots ad as hall.2
    unfold lg_sl at ih ⊢
    rw [List.map_cons, List.flatMap_cons, if_neg hc, List.length_append, ih]
    simp [Nat.add_comm]
/-- THE WHOLE: where every instruction is right, every method keeps its contract -/
theorem mm_sound (hOk : ∀ y pc, mm_Ok l D cl tys Ts Ns N w fsp cs ad inf tab (inf y) pc (tab y pc)) (hpl : ∀ y, plainName (inf y).1.cls = true) : ∀ (r y : Nat), (inf y).2.2.2.2 < r → mm_Sp l D cl tys Ts Ns N w fsp cs ad inf tab y
  | 0, _, h => absurd h (Nat.not_lt_zero _)
  | r + 1, y, hr => by
    intro as h res n er hok hH hall hlen sz
    refine Met.ofW (cc := (inf y).2.1) (maxL := (inf y).2.2.1) (ret := (inf y).2.2.2.1) (hpl y) rfl ?_
    intro p e s m args below meth c s₁ B hml hv
    obtain ⟨rfl, hsz, hP, hK, hD0, hNw⟩ := hv
    subst hsz
    have hcx : mm_Cx D cl tys Ts Ns N w fsp cs ad (inf y) p s m (as.map (mm_f ad)).toArray meth c := ⟨B.exec, B.bytes, hml, findClass_of_methodNamed B.named, atoms_spec (ws := mm_ws Ts (inf y)) B.pre, B.returns, B.notSynchronized, hK, fun h2 => mm_wd_D hD0 (fun i hi => mm_A_in hi), hNw⟩
    have hsub : ∀ y2, (inf y2).2.2.2.2 < (inf y).2.2.2.2 → mm_Sp l D cl tys Ts Ns N w fsp cs ad inf tab y2 := fun y2 h2 => mm_sound hOk hpl r y2 (by omega)
    have key : ∀ (n pc : Nat) (ls st : List mm_V) (h : mm_H), mm_run tab (mm_en inf) n y pc ls st h = some res → mm_G l D cl tys N w fsp cs ad (inf y) p e s m (as.map (mm_f ad)).toArray below meth c pc ls st h res := by
      intro n
      induction n with
      | zero => intro pc ls st h e0; cases e0
      | succ n ih =>
        intro pc ls st h e0
        exact (hOk y pc).2 p e s m _ below meth c hcx hsub _ _ (fun y2 as2 h2 r2 e2 => ⟨n, e2⟩) ls st h res e0 (fun pc' ls' st' h' e1 => ih pc' ls' st' h' e1)
    have hls := mm_slots ad as hall
    have hl := lv_entry (as.map (mm_f ad)) (n := (inf y).2.2.1) (by rw [hls]; exact hlen)
    rw [lg_entry_eq]
    have hlen2 : (mm_en inf y as).length = (inf y).2.2.1 := by
      show (as ++ List.replicate _ _).length = _
      rw [List.length_append, List.length_replicate]
      omega
    have hat : ∀ (k : Nat) (v : mm_V), (mm_en inf y as)[k]? = some v → v = mm_u ∨ as[k]? = some v := by
      intro k v e0
      have e0 : (as ++ List.replicate ((inf y).2.2.1 - as.length) mm_u)[k]? = some v := e0
      by_cases hk : k < as.length
      · rw [List.getElem?_append_left hk] at e0
        exact Or.inr e0
      · rw [List.getElem?_append_right (by omega)] at e0
        exact Or.inl (List.eq_of_mem_replicate (List.mem_of_getElem? e0))
    refine key n 0 _ [] h er s.heap [] _ hP va_S.rf hH (mm_LR_sub hl hlen2 ?_) hlen2 ?_ (fun _ z => absurd z List.not_mem_nil)
    · intro q hq
      obtain ⟨v, g1, g2, g3⟩ := mm_lp_mem.mp hq
      rcases hat _ _ g1 with rfl | g1
      · cases g2
      · have := mm_args ad as 0 hall q.1 v g1
        rw [Nat.zero_add, ← g3] at this
        exact this
    · intro v hv
      obtain ⟨k, hk⟩ := List.getElem?_of_mem hv
      rcases hat _ _ hk with rfl | hk
      · trivial
      · exact hok v (List.mem_of_getElem? hk)
end MMQ
