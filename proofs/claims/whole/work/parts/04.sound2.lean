section MMP
variable {l : Launch} {D : va_G} {cl : List vw_C} {tys : List (ClassId × FieldType)} {Ts : List Cond} {Ns : List (String × Nat × MethodName × String)} {N : Nat} {w : mm_W} {fsp : Nat → List Nat} {cs : ClassId × ClassId × ClassId × ClassId} {ad : Nat → Nat} {inf : Nat → mm_M} {tab : Nat → Nat → mm_I} {I : mm_M} {pc : Nat}
theorem mm_sw_at {a : Int} {dt : Nat} {J : Nat → mm_K} {ls st : List mm_V} {h : mm_H} : ∀ {ps : List (Int × Nat)} {x : Option mm_R}, mm_sw a (J dt ls st h) (ps.map fun q => (q.1, J q.2 ls st h)) = x → (∃ q ∈ ps, a = q.1 ∧ J q.2 ls st h = x ∧ (∀ r ∈ ps, a = r.1 → True)) ∨ ((∀ q ∈ ps, ¬ a = q.1) ∧ J dt ls st h = x)
  | [], _, e => Or.inr ⟨fun _ h => absurd h List.not_mem_nil, e⟩
  | (k, t) :: r, x, e => by
    by_cases e1 : a = k
    · refine Or.inl ⟨(k, t), List.mem_cons_self, e1, ?_, fun _ _ _ => trivial⟩
      simpa [mm_sw, e1] using e
    · have e2 : mm_sw a (J dt ls st h) (r.map fun q => (q.1, J q.2 ls st h)) = x := by simpa [mm_sw, e1] using e
      rcases mm_sw_at e2 with ⟨q, h1, h2, h3, -⟩ | ⟨h1, h2⟩
      · exact Or.inl ⟨q, List.mem_cons_of_mem _ h1, h2, h3, fun _ _ _ => trivial⟩
      · exact Or.inr ⟨fun q hq => (List.mem_cons.mp hq).elim (fun e3 => by rw [e3]; exact e1) (h1 q), h2⟩
theorem ok_lookup {df : Int} {prs : Array (Int × Int)} {len : Nat} {ps : List (Int × Nat)} {dt : Nat} (hd : decode I.2.1 pc = .ok (.lookupswitch df prs, len)) (hp : (prs.toList.zip (prs.toList.drop 1)).all (fun (a, next) => a.1 < next.1) = true) (h1 : ∀ q ∈ ps, ∃ off, Op.lookupswitch.offset prs.toList df q.1 = off ∧ (pc : Int) + off = (q.2 : Int)) (h2 : ∀ a : Int, (∀ q ∈ ps, ¬ a = q.1) → Op.lookupswitch.offset prs.toList df a = df) (h3 : (pc : Int) + df = (dt : Int)) : mm_Ok l D cl tys Ts Ns N w fsp cs ad inf tab I pc (mi_sw ps dt) := by
  refine ⟨sh_sw _ _, ?_⟩
  intro p e s m args below meth c hc hSp J C hC ls st h res er k H locs jls hP hS hH hL hn hls hst
  obtain ⟨hx, hb, hml, hown, hts, hr, hlk, hK, hDA, hNw⟩ := hc
  unfold mi_sw at er
  split at er
  · rename_i a st
    have ha1 : mm_in a := mm_okS_h hst
    rcases mm_sw_at er with ⟨q, g1, g2, g3, -⟩ | ⟨g1, g2⟩
    · obtain ⟨off, g4, g5⟩ := h1 q g1
      exact lv_lookup hx hb hd hp (by rw [mm_to ha1, g2]; exact g4) g5 (k _ _ _ _ g3 H locs jls hP hS hH hL hn hls (mm_okS_t hst))
    · exact lv_lookup hx hb hd hp (by rw [mm_to ha1]; exact h2 a g1) h3 (k _ _ _ _ g2 H locs jls hP hS hH hL hn hls (mm_okS_t hst))
  · cases er
theorem ok_table {df lo hi : Int} {offs : Array Int} {len : Nat} {ps : List (Int × Nat)} {dt : Nat} (hd : decode I.2.1 pc = .ok (.tableswitch df lo hi offs, len)) (h1 : ∀ q ∈ ps, (lo ≤ q.1 ∧ q.1 ≤ hi) ∧ ∃ off, offs[(q.1 - lo).toNat]? = some off ∧ (pc : Int) + off = (q.2 : Int)) (h2 : ∀ a : Int, (∀ q ∈ ps, ¬ a = q.1) → a < lo ∨ hi < a) (h3 : (pc : Int) + df = (dt : Int)) : mm_Ok l D cl tys Ts Ns N w fsp cs ad inf tab I pc (mi_sw ps dt) := by
  refine ⟨sh_sw _ _, ?_⟩
  intro p e s m args below meth c hc hSp J C hC ls st h res er k H locs jls hP hS hH hL hn hls hst
  obtain ⟨hx, hb, hml, hown, hts, hr, hlk, hK, hDA, hNw⟩ := hc
  unfold mi_sw at er
  split at er
  · rename_i a st
    have ha1 : mm_in a := mm_okS_h hst
    rcases mm_sw_at er with ⟨q, g1, g2, g3, -⟩ | ⟨g1, g2⟩
    · obtain ⟨g6, off, g4, g5⟩ := h1 q g1
      exact lv_tableIn hx hb hd (by rw [mm_to ha1, g2]; omega) (by rw [mm_to ha1, g2]; omega) (by rw [mm_to ha1, g2]; exact g4) g5 (k _ _ _ _ g3 H locs jls hP hS hH hL hn hls (mm_okS_t hst))
    · exact lv_tableOut hx hb hd (by rw [mm_to ha1]; exact h2 a g1) h3 (k _ _ _ _ g2 H locs jls hP hS hH hL hn hls (mm_okS_t hst))
  · cases er
theorem ok_getI {Cn : String} {T : u_T} {Nf ci ix kf : Nat} (hN : ∀ a, (w a).1 < 1000 → a < N) (hci : ci < 900) (hcl : cl[ci]? = some (Cn, T, Nf)) (hin : ∀ q ∈ u_ws Cn T Nf, q ∈ Ts) (hk : kf < Nf) (hw : Cond.fieldLink I.1.cls ix (T kf).1 (T kf).2.1 (T kf).2.2.1 ∈ Ts) (hsp : (fsp ci)[kf]? = some 0) (hd : decode I.2.1 pc = .ok (.getfield ix, 3)) : mm_Ok l D cl tys Ts Ns N w fsp cs ad inf tab I pc (mi_getI w ci kf (pc + 3)) := by
  refine ⟨sh_getI _ _ _ _, ?_⟩
  intro p e s m args below meth c hc hSp J C hC ls st h res er k H locs jls hP hS hH hL hn hls hst
  obtain ⟨hx, hb, hml, hown, hts, hr, hlk, hK, hDA, hNw⟩ := hc
  unfold mi_getI at er
  split at er
  · rename_i a st
    split at er
    · rename_i hwa
      have haN : a < N := hN a (by omega)
      have hat := mm_wd_at (N := N) (w := w) (fsp := fsp) (cs := cs) (ad := ad) (h := h) haN
      rw [mm_cell4 hwa] at hat
      refine va_get (v := .int (Int32.ofInt (h a kf))) hx hb hts (fun q hq => List.mem_cons_of_mem _ (hin q hq)) hown hK hP a hat hcl kf hk (hts _ (List.mem_cons_of_mem _ hw)) (fun _ q => q) (by rw [List.getElem?_mapIdx, hsp]; simp [mm_fv]) hd ?_
      exact k _ _ _ _ er H locs jls hP hS hH hL hn hls (mm_okS_c (v := mm_i (h a kf)) (hH a kf) (mm_okS_t hst))
    · cases er
  · cases er
theorem ok_getD {Cn : String} {T : u_T} {Nf ci ix kf : Nat} (hN : ∀ a, (w a).1 < 1000 → a < N) (hci : ci < 900) (hcl : cl[ci]? = some (Cn, T, Nf)) (hin : ∀ q ∈ u_ws Cn T Nf, q ∈ Ts) (hk : kf < Nf) (hw : Cond.fieldLink I.1.cls ix (T kf).1 (T kf).2.1 (T kf).2.2.1 ∈ Ts) (hsp : (fsp ci)[kf]? = some 1) (hd : decode I.2.1 pc = .ok (.getfield ix, 3)) : mm_Ok l D cl tys Ts Ns N w fsp cs ad inf tab I pc (mi_getD w ci kf (pc + 3)) := by
  refine ⟨sh_getD _ _ _ _, ?_⟩
  intro p e s m args below meth c hc hSp J C hC ls st h res er k H locs jls hP hS hH hL hn hls hst
  obtain ⟨hx, hb, hml, hown, hts, hr, hlk, hK, hDA, hNw⟩ := hc
  unfold mi_getD at er
  split at er
  · rename_i a st
    split at er
    · rename_i hwa
      have haN : a < N := hN a (by omega)
      have hat := mm_wd_at (N := N) (w := w) (fsp := fsp) (cs := cs) (ad := ad) (h := h) haN
      rw [mm_cell4 hwa] at hat
      refine va_get (v := .ref (ad (h a kf).toNat)) hx hb hts (fun q hq => List.mem_cons_of_mem _ (hin q hq)) hown hK hP a hat hcl kf hk (hts _ (List.mem_cons_of_mem _ hw)) (fun _ q => q) (by rw [List.getElem?_mapIdx, hsp]; simp [mm_fv]) hd ?_
      exact k _ _ _ _ er H locs jls hP hS hH hL hn hls (mm_okS_c (v := mm_r (h a kf).toNat) (trivial) (mm_okS_t hst))
    · cases er
  · cases er
theorem ok_getS {Cn : String} {T : u_T} {Nf ci ix kf : Nat} (hN : ∀ a, (w a).1 < 1000 → a < N) (hci : ci < 900) (hcl : cl[ci]? = some (Cn, T, Nf)) (hin : ∀ q ∈ u_ws Cn T Nf, q ∈ Ts) (hk : kf < Nf) (hw : Cond.fieldLink I.1.cls ix (T kf).1 (T kf).2.1 (T kf).2.2.1 ∈ Ts) {off : Nat} (hsp : (fsp ci)[kf]? = some (off + 2)) (hd : decode I.2.1 pc = .ok (.getfield ix, 3)) : mm_Ok l D cl tys Ts Ns N w fsp cs ad inf tab I pc (mi_getS w ci off (pc + 3)) := by
  refine ⟨sh_getS _ _ _ _, ?_⟩
  intro p e s m args below meth c hc hSp J C hC ls st h res er k H locs jls hP hS hH hL hn hls hst
  obtain ⟨hx, hb, hml, hown, hts, hr, hlk, hK, hDA, hNw⟩ := hc
  unfold mi_getS at er
  split at er
  · rename_i a st
    split at er
    · rename_i hwa
      have haN : a < N := hN a (by omega)
      have hat := mm_wd_at (N := N) (w := w) (fsp := fsp) (cs := cs) (ad := ad) (h := h) haN
      rw [mm_cell4 hwa] at hat
      refine va_get (v := .ref (ad (a + off))) hx hb hts (fun q hq => List.mem_cons_of_mem _ (hin q hq)) hown hK hP a hat hcl kf hk (hts _ (List.mem_cons_of_mem _ hw)) (fun _ q => q) (by rw [List.getElem?_mapIdx, hsp]; simp [mm_fv]) hd ?_
      exact k _ _ _ _ er H locs jls hP hS hH hL hn hls (mm_okS_c (v := mm_r (a + off)) (trivial) (mm_okS_t hst))
    · cases er
  · cases er
theorem ok_putI {Cn : String} {T : u_T} {Nf ci ix kf : Nat} (hN : ∀ a, (w a).1 < 1000 → a < N) (hci : ci < 900) (hcl : cl[ci]? = some (Cn, T, Nf)) (hin : ∀ q ∈ u_ws Cn T Nf, q ∈ Ts) (hk : kf < Nf) (hw : Cond.fieldLink I.1.cls ix (T kf).1 (T kf).2.1 (T kf).2.2.1 ∈ Ts) (ty0 : Nat → FieldType) (hty : ∀ k, k < Nf → parseFieldDescriptor (T k).2.2.1 = some (ty0 k)) (hnm : ∀ a, a < Nf → ∀ b, b < Nf → a ≠ b → (T a).2.1 ≠ (T b).2.1) (hfin : (T kf).2.2.2 = false) (hdt : parseFieldDescriptor (T kf).2.2.1 = some .int) (hsp : (fsp ci)[kf]? = some 0) (hd : decode I.2.1 pc = .ok (.putfield ix, 3)) : mm_Ok l D cl tys Ts Ns N w fsp cs ad inf tab I pc (mi_putI w ci kf (pc + 3)) := by
  refine ⟨sh_putI _ _ _ _, ?_⟩
  intro p e s m args below meth c hc hSp J C hC ls st h res er k H locs jls hP hS hH hL hn hls hst
  obtain ⟨hx, hb, hml, hown, hts, hr, hlk, hK, hDA, hNw⟩ := hc
  unfold mi_putI at er
  split at er
  · rename_i v a st
    split at er
    · rename_i hwa
      have haN : a < N := hN a (by omega)
      have hat := mm_wd_at (N := N) (w := w) (fsp := fsp) (cs := cs) (ad := ad) (h := h) haN
      rw [mm_cell4 hwa] at hat
      refine va_put (v := .int (Int32.ofInt v)) (ty := .int) hx hb hts (fun q hq => List.mem_cons_of_mem _ (hin q hq)) ty0 hty hnm hown hK hP (hDA h) hS a hat hcl kf hk (hts _ (List.mem_cons_of_mem _ hw)) (fun _ q => q) hfin hdt rfl rfl (by rw [List.length_mapIdx]; exact (List.getElem?_eq_some_iff.mp hsp).1) hd (fun H1 locs1 hP1 hD1 hS1 => ?_)
      have e1 := mm_fv_set (ad := ad) (f := h a) (a := a) (v := v) (x := .int (Int32.ofInt v)) hsp (by simp [mm_fv, mm_up])
      rw [e1, ← mm_cell4 (fsp := fsp) (cs := cs) (ad := ad) hwa, mm_wd_set haN] at hP1
      exact k _ _ _ _ er H1 locs1 jls hP1 hS1 (mm_okH_up hH (mm_okS_h hst)) hL hn hls (mm_okS_t (mm_okS_t hst))
    · cases er
  · cases er
theorem ok_putD {Cn : String} {T : u_T} {Nf ci ix kf : Nat} (hN : ∀ a, (w a).1 < 1000 → a < N) (hci : ci < 900) (hcl : cl[ci]? = some (Cn, T, Nf)) (hin : ∀ q ∈ u_ws Cn T Nf, q ∈ Ts) (hk : kf < Nf) (hw : Cond.fieldLink I.1.cls ix (T kf).1 (T kf).2.1 (T kf).2.2.1 ∈ Ts) (ty0 : Nat → FieldType) (hty : ∀ k, k < Nf → parseFieldDescriptor (T k).2.2.1 = some (ty0 k)) (hnm : ∀ a, a < Nf → ∀ b, b < Nf → a ≠ b → (T a).2.1 ≠ (T b).2.1) (hfin : (T kf).2.2.2 = false) {rt : FieldType} (hdt : parseFieldDescriptor (T kf).2.2.1 = some rt) (hrt : ∃ n, rt = .object n) (hsp : (fsp ci)[kf]? = some 1) (hd : decode I.2.1 pc = .ok (.putfield ix, 3)) : mm_Ok l D cl tys Ts Ns N w fsp cs ad inf tab I pc (mi_putD w ci kf (pc + 3)) := by
  refine ⟨sh_putD _ _ _ _, ?_⟩
  intro p e s m args below meth c hc hSp J C hC ls st h res er k H locs jls hP hS hH hL hn hls hst
  obtain ⟨hx, hb, hml, hown, hts, hr, hlk, hK, hDA, hNw⟩ := hc
  unfold mi_putD at er
  split at er
  · rename_i b a st
    split at er
    · rename_i hwa
      obtain ⟨hwa, hb9⟩ := hwa
      obtain ⟨n9, rfl⟩ := hrt
      have haN : a < N := hN a (by omega)
      have hat := mm_wd_at (N := N) (w := w) (fsp := fsp) (cs := cs) (ad := ad) (h := h) haN
      rw [mm_cell4 hwa] at hat
      refine va_put (v := .ref (ad b)) (ty := .object n9) hx hb hts (fun q hq => List.mem_cons_of_mem _ (hin q hq)) ty0 hty hnm hown hK hP (hDA h) hS a hat hcl kf hk (hts _ (List.mem_cons_of_mem _ hw)) (fun _ q => q) hfin hdt rfl rfl (by rw [List.length_mapIdx]; exact (List.getElem?_eq_some_iff.mp hsp).1) hd (fun H1 locs1 hP1 hD1 hS1 => ?_)
      have e1 := mm_fv_set (ad := ad) (f := h a) (a := a) (v := (b : Int)) (x := .ref (ad b)) hsp (by simp [mm_fv, mm_up])
      rw [e1, ← mm_cell4 (fsp := fsp) (cs := cs) (ad := ad) hwa, mm_wd_set haN] at hP1
      exact k _ _ _ _ er H1 locs1 jls hP1 hS1 (mm_okH_up hH (by unfold mm_in; omega)) hL hn hls (mm_okS_t (mm_okS_t hst))
    · cases er
  · cases er
theorem ok_iald (hN : ∀ a, (w a).1 < 1000 → a < N) (ht : tys[0]? = some (cs.1, .int)) (hd : decode I.2.1 pc = .ok (.iaload, 1)) : mm_Ok l D cl tys Ts Ns N w fsp cs ad inf tab I pc (mi_iald w (pc + 1)) := by
  refine ⟨sh_iald _ _, ?_⟩
  intro p e s m args below meth c hc hSp J C hC ls st h res er k H locs jls hP hS hH hL hn hls hst
  obtain ⟨hx, hb, hml, hown, hts, hr, hlk, hK, hDA, hNw⟩ := hc
  unfold mi_iald at er
  split at er
  · rename_i i a st
    split at er
    · rename_i hwa
      split at er
      · rename_i hix
        have haN : a < N := hN a (by omega)
        have hat := mm_wd_at (N := N) (w := w) (fsp := fsp) (cs := cs) (ad := ad) (h := h) haN
        rw [mm_cell0 hwa] at hat
        have hi1 : mm_in i := mm_okS_h hst
        refine va_iald hx hb hK hP a 0 hat ht (mm_ix hi1 hix) hd ?_
        rw [mm_ixn hi1]
        exact k _ _ _ _ er H locs jls hP hS hH hL hn hls (mm_okS_c (v := mm_i (h a i.toNat)) (hH a i.toNat) (mm_okS_t (mm_okS_t hst)))
      · cases er
    · cases er
  · cases er
theorem ok_cald (hN : ∀ a, (w a).1 < 1000 → a < N) (ht : tys[1]? = some (cs.2.1, .char)) (hd : decode I.2.1 pc = .ok (.caload, 1)) : mm_Ok l D cl tys Ts Ns N w fsp cs ad inf tab I pc (mi_cald w (pc + 1)) := by
  refine ⟨sh_cald _ _, ?_⟩
  intro p e s m args below meth c hc hSp J C hC ls st h res er k H locs jls hP hS hH hL hn hls hst
  obtain ⟨hx, hb, hml, hown, hts, hr, hlk, hK, hDA, hNw⟩ := hc
  unfold mi_cald at er
  split at er
  · rename_i i a st
    split at er
    · rename_i hwa
      split at er
      · rename_i hix
        have haN : a < N := hN a (by omega)
        have hat := mm_wd_at (N := N) (w := w) (fsp := fsp) (cs := cs) (ad := ad) (h := h) haN
        rw [mm_cell1 hwa] at hat
        have hi1 : mm_in i := mm_okS_h hst
        refine va_cald hx hb hK hP a 1 hat ht (mm_ix hi1 hix) hd ?_
        rw [mm_ixn hi1]
        exact k _ _ _ _ er H locs jls hP hS hH hL hn hls (mm_okS_c (v := mm_i (h a i.toNat)) (hH a i.toNat) (mm_okS_t (mm_okS_t hst)))
      · cases er
    · cases er
  · cases er
theorem ok_aald (hN : ∀ a, (w a).1 < 1000 → a < N) {Cn : String} (ht : tys[2]? = some (cs.2.2.1, .object Cn)) (hd : decode I.2.1 pc = .ok (.aaload, 1)) : mm_Ok l D cl tys Ts Ns N w fsp cs ad inf tab I pc (mi_aald w (pc + 1)) := by
  refine ⟨sh_aald _ _, ?_⟩
  intro p e s m args below meth c hc hSp J C hC ls st h res er k H locs jls hP hS hH hL hn hls hst
  obtain ⟨hx, hb, hml, hown, hts, hr, hlk, hK, hDA, hNw⟩ := hc
  unfold mi_aald at er
  split at er
  · rename_i i a st
    split at er
    · rename_i hwa
      split at er
      · rename_i hix
        have haN : a < N := hN a (by omega)
        have hat := mm_wd_at (N := N) (w := w) (fsp := fsp) (cs := cs) (ad := ad) (h := h) haN
        rw [mm_cell2 hwa] at hat
        have hi1 : mm_in i := mm_okS_h hst
        refine va_aldq hx hb hK hP a 2 hat ht (mm_ix hi1 hix) hd ?_
        rw [mm_ixn hi1]
        exact k _ _ _ _ er H locs jls hP hS hH hL hn hls (mm_okS_c (v := mm_r (h a i.toNat).toNat) trivial (mm_okS_t (mm_okS_t hst)))
      · cases er
    · cases er
  · cases er
theorem ok_bald (hN : ∀ a, (w a).1 < 1000 → a < N) {ty : FieldType} (ht : tys[3]? = some (cs.2.2.2, .array ty)) (hd : decode I.2.1 pc = .ok (.aaload, 1)) : mm_Ok l D cl tys Ts Ns N w fsp cs ad inf tab I pc (mi_bald w (pc + 1)) := by
  refine ⟨sh_bald _ _, ?_⟩
  intro p e s m args below meth c hc hSp J C hC ls st h res er k H locs jls hP hS hH hL hn hls hst
  obtain ⟨hx, hb, hml, hown, hts, hr, hlk, hK, hDA, hNw⟩ := hc
  unfold mi_bald at er
  split at er
  · rename_i i a st
    split at er
    · rename_i hwa
      split at er
      · rename_i hix
        have haN : a < N := hN a (by omega)
        have hat := mm_wd_at (N := N) (w := w) (fsp := fsp) (cs := cs) (ad := ad) (h := h) haN
        rw [mm_cell3 hwa] at hat
        have hi1 : mm_in i := mm_okS_h hst
        have hin := mm_ix hi1 hix
        have hlt : (Int32.ofInt i).toNatClampNeg < (w a).2 := Nat.not_le.mp fun q => hin (Or.inr q)
        refine W.aald (v := .ref (ad (a + 1 + i.toNat))) (ty := .array ty) hx hb (hP a _ hat) ((hK.2 3 _ ht).1 (w a).2 (fun j => va_rf (some (ad (a + 1 + j))))) rfl (fun q => by cases q) (by show ¬ (Int32.ofInt i < 0 ∨ (arrV _ _ _).slots.size ≤ _); rw [arrV_size]; exact hin) (by show (arrV _ _ _).slots[_]? = _; rw [arrV_read _ _ hlt, mm_ixn hi1]; rfl) rfl rfl hd ?_
        exact k _ _ _ _ er H locs jls hP hS hH hL hn hls (mm_okS_c (v := mm_r (a + 1 + i.toNat)) trivial (mm_okS_t (mm_okS_t hst)))
      · cases er
    · cases er
  · cases er
theorem ok_iast (hN : ∀ a, (w a).1 < 1000 → a < N) (ht : tys[0]? = some (cs.1, .int)) (hd : decode I.2.1 pc = .ok (.iastore, 1)) : mm_Ok l D cl tys Ts Ns N w fsp cs ad inf tab I pc (mi_iast w (pc + 1)) := by
  refine ⟨sh_iast _ _, ?_⟩
  intro p e s m args below meth c hc hSp J C hC ls st h res er k H locs jls hP hS hH hL hn hls hst
  obtain ⟨hx, hb, hml, hown, hts, hr, hlk, hK, hDA, hNw⟩ := hc
  unfold mi_iast at er
  split at er
  · rename_i v i a st
    split at er
    · rename_i hwa
      split at er
      · rename_i hix
        have haN : a < N := hN a (by omega)
        have hat := mm_wd_at (N := N) (w := w) (fsp := fsp) (cs := cs) (ad := ad) (h := h) haN
        rw [mm_cell0 hwa] at hat
        have hi1 : mm_in i := mm_okS_h (mm_okS_t hst)
        refine va_iast hx hb hK hP (hDA h) hS a 0 hat ht (mm_ix hi1 hix) hd (fun H1 locs1 hP1 hD1 hS1 => ?_)
        rw [mm_ixn hi1, mm_upd_of, ← mm_cell0 (fsp := fsp) (cs := cs) (ad := ad) hwa, mm_wd_set haN] at hP1
        exact k _ _ _ _ er H1 locs1 jls hP1 hS1 (mm_okH_up hH (mm_okS_h hst)) hL hn hls (mm_okS_t (mm_okS_t (mm_okS_t hst)))
      · cases er
    · cases er
  · cases er
theorem mm_narc {v : Int} (h : 0 ≤ v ∧ v < 65536) : vp_nar .char (Int32.ofInt v) = Int32.ofInt v := by
  have h1 : (Int32.ofInt v) = nI v.toNat := by
    show Int32.ofInt v = Int32.ofNat v.toNat
    rw [← Int32.ofInt_eq_ofNat]
    congr 1
    omega
  rw [h1]
  unfold vp_nar
  rw [(pk_charN (q := v.toNat) (by omega)).1]
theorem ok_cast (hN : ∀ a, (w a).1 < 1000 → a < N) (ht : tys[1]? = some (cs.2.1, .char)) (hd : decode I.2.1 pc = .ok (.castore, 1)) : mm_Ok l D cl tys Ts Ns N w fsp cs ad inf tab I pc (mi_cast w (pc + 1)) := by
  refine ⟨sh_cast _ _, ?_⟩
  intro p e s m args below meth c hc hSp J C hC ls st h res er k H locs jls hP hS hH hL hn hls hst
  obtain ⟨hx, hb, hml, hown, hts, hr, hlk, hK, hDA, hNw⟩ := hc
  unfold mi_cast at er
  split at er
  · rename_i v i a st
    split at er
    · rename_i hwa
      split at er
      · rename_i hix
        obtain ⟨hix, hv⟩ := hix
        have haN : a < N := hN a (by omega)
        have hat := mm_wd_at (N := N) (w := w) (fsp := fsp) (cs := cs) (ad := ad) (h := h) haN
        rw [mm_cell1 hwa] at hat
        have hi1 : mm_in i := mm_okS_h (mm_okS_t hst)
        refine va_cast hx hb hK hP (hDA h) hS a 1 hat ht (mm_ix hi1 hix) hd (fun H1 locs1 hP1 hD1 hS1 => ?_)
        rw [mm_ixn hi1, mm_narc hv, mm_upd_of, ← mm_cell1 (fsp := fsp) (cs := cs) (ad := ad) hwa, mm_wd_set haN] at hP1
        exact k _ _ _ _ er H1 locs1 jls hP1 hS1 (mm_okH_up hH (mm_okS_h hst)) hL hn hls (mm_okS_t (mm_okS_t (mm_okS_t hst)))
      · cases er
    · cases er
  · cases er
theorem ok_aast (hN : ∀ a, (w a).1 < 1000 → a < N) {r : vw_C} {ci : Nat} (hci : ci < 900) (hcl : cl[ci]? = some r) (ht : tys[2]? = some (cs.2.2.1, .object r.1)) (hd : decode I.2.1 pc = .ok (.aastore, 1)) : mm_Ok l D cl tys Ts Ns N w fsp cs ad inf tab I pc (mi_aast w ci (pc + 1)) := by
  refine ⟨sh_aast _ _ _, ?_⟩
  intro p e s m args below meth c hc hSp J C hC ls st h res er k H locs jls hP hS hH hL hn hls hst
  obtain ⟨hx, hb, hml, hown, hts, hr, hlk, hK, hDA, hNw⟩ := hc
  unfold mi_aast at er
  split at er
  · rename_i b i a st
    split at er
    · rename_i hwa
      obtain ⟨hwa, hwb, hb9⟩ := hwa
      split at er
      · rename_i hix
        have haN : a < N := hN a (by omega)
        have hbN : b < N := hN b (by omega)
        have hat := mm_wd_at (N := N) (w := w) (fsp := fsp) (cs := cs) (ad := ad) (h := h) haN
        rw [mm_cell2 hwa] at hat
        have hbt := mm_wd_at (N := N) (w := w) (fsp := fsp) (cs := cs) (ad := ad) (h := h) hbN
        rw [mm_cell4 hwb] at hbt
        have hi1 : mm_in i := mm_okS_h (mm_okS_t hst)
        refine va_astq hx hb hK hP (hDA h) hS a 2 b ci hat ht hbt hcl (mm_ix hi1 hix) hd (fun H1 locs1 hP1 hD1 hS1 => ?_)
        have e1 : va_up (fun j => some (ad (h a j).toNat)) i.toNat (some (ad b)) = fun j => some (ad (mm_up (h a) i.toNat (b : Int) j).toNat) := by
          funext j
          unfold va_up mm_up
          split <;> simp
        rw [mm_ixn hi1, e1, ← mm_cell2 (fsp := fsp) (cs := cs) (ad := ad) hwa, mm_wd_set haN] at hP1
        exact k _ _ _ _ er H1 locs1 jls hP1 hS1 (mm_okH_up hH (by unfold mm_in; omega)) hL hn hls (mm_okS_t (mm_okS_t (mm_okS_t hst)))
      · cases er
    · cases er
  · cases er
theorem ok_alen (hN : ∀ a, (w a).1 < 1000 → a < N) {x0 x1 x2 x3 : FieldType} (ht0 : tys[0]? = some (cs.1, x0)) (ht1 : tys[1]? = some (cs.2.1, x1)) (ht2 : tys[2]? = some (cs.2.2.1, x2)) (ht3 : tys[3]? = some (cs.2.2.2, x3)) (hd : decode I.2.1 pc = .ok (.arraylength, 1)) : mm_Ok l D cl tys Ts Ns N w fsp cs ad inf tab I pc (mi_alen w (pc + 1)) := by
  refine ⟨sh_alen _ _, ?_⟩
  intro p e s m args below meth c hc hSp J C hC ls st h res er k H locs jls hP hS hH hL hn hls hst
  obtain ⟨hx, hb, hml, hown, hts, hr, hlk, hK, hDA, hNw⟩ := hc
  unfold mi_alen at er
  split at er
  · rename_i a st
    split at er
    · rename_i hwa
      obtain ⟨hwa, hsz⟩ := hwa
      have haN : a < N := hN a (by omega)
      have hat := mm_wd_at (N := N) (w := w) (fsp := fsp) (cs := cs) (ad := ad) (h := h) haN
      have hv : Int32.ofNat (w a).2 = Int32.ofInt ((w a).2 : Int) := Int32.ofInt_eq_ofNat.symm
      have fin := k _ _ _ _ er H locs jls hP hS hH hL hn hls (mm_okS_c (v := mm_i ((w a).2 : Int)) (by show mm_in _; unfold mm_in; omega) (mm_okS_t hst))
      rcases (show (w a).1 = 0 ∨ (w a).1 = 1 ∨ (w a).1 = 2 ∨ (w a).1 = 3 by omega) with z | z | z | z
      · rw [mm_cell0 z] at hat; exact va_alen hx hb hK hP a 0 hat ht0 hv hd fin
      · rw [mm_cell1 z] at hat; exact va_alen hx hb hK hP a 1 hat ht1 hv hd fin
      · rw [mm_cell2 z] at hat; exact va_alen hx hb hK hP a 2 hat ht2 hv hd fin
      · rw [mm_cell3 z] at hat; exact va_alen hx hb hK hP a 3 hat ht3 hv hd fin
    · cases er
  · cases er
theorem ok_iret (hrt : I.2.2.2.1 = some .int) (hd : decode I.2.1 pc = .ok (.ireturn, 1)) : mm_Ok l D cl tys Ts Ns N w fsp cs ad inf tab I pc (mi_iret) := by
  refine ⟨sh_iret, ?_⟩
  intro p e s m args below meth c hc hSp J C hC ls st h res er k H locs jls hP hS hH hL hn hls hst
  obtain ⟨hx, hb, hml, hown, hts, hr, hlk, hK, hDA, hNw⟩ := hc
  unfold mi_iret at er
  split at er
  · rename_i v
    have e1 := Option.some.inj er
    subst e1
    exact W.iret hx hb (hr.trans hrt) (fun t ht hW => ⟨⟨rfl, by rw [ht]; exact hP, va_K.moved hW.alike hK, hH, hst⟩, hS.F ht⟩) hS.2.2 hd
  · cases er
theorem ok_zret (hrt : I.2.2.2.1 = some .boolean) (hd : decode I.2.1 pc = .ok (.ireturn, 1)) : mm_Ok l D cl tys Ts Ns N w fsp cs ad inf tab I pc (mi_zret) := by
  refine ⟨sh_zret, ?_⟩
  intro p e s m args below meth c hc hSp J C hC ls st h res er k H locs jls hP hS hH hL hn hls hst
  obtain ⟨hx, hb, hml, hown, hts, hr, hlk, hK, hDA, hNw⟩ := hc
  unfold mi_zret at er
  split at er
  · rename_i v
    split at er
    · rename_i hv
      have e1 := Option.some.inj er
      subst e1
      exact W.zret (ty := .boolean) hx hb (hr.trans hrt) (by rcases hv with rfl | rfl <;> rfl) (fun t ht hW => ⟨⟨rfl, by rw [ht]; exact hP, va_K.moved hW.alike hK, hH, hst⟩, hS.F ht⟩) hS.2.2 hd
    · cases er
  · cases er
theorem ok_vret (hrt : I.2.2.2.1 = none) (hd : decode I.2.1 pc = .ok (.return_, 1)) : mm_Ok l D cl tys Ts Ns N w fsp cs ad inf tab I pc (mi_vret) := by
  refine ⟨sh_vret, ?_⟩
  intro p e s m args below meth c hc hSp J C hC ls st h res er k H locs jls hP hS hH hL hn hls hst
  obtain ⟨hx, hb, hml, hown, hts, hr, hlk, hK, hDA, hNw⟩ := hc
  unfold mi_vret at er
  split at er
  · have e1 := Option.some.inj er
    subst e1
    exact W.vret hx hb (hr.trans hrt) (fun t ht hW => ⟨⟨rfl, by rw [ht]; exact hP, va_K.moved hW.alike hK, hH, hst⟩, hS.F ht⟩) hS.2.2 hd
  · cases er
theorem ok_aret {rt : FieldType} (hrt : I.2.2.2.1 = some rt) (hrr : (∃ n, rt = .object n) ∨ ∃ t, rt = .array t) (hd : decode I.2.1 pc = .ok (.areturn, 1)) : mm_Ok l D cl tys Ts Ns N w fsp cs ad inf tab I pc (mi_aret) := by
  refine ⟨sh_aret, ?_⟩
  intro p e s m args below meth c hc hSp J C hC ls st h res er k H locs jls hP hS hH hL hn hls hst
  obtain ⟨hx, hb, hml, hown, hts, hr, hlk, hK, hDA, hNw⟩ := hc
  unfold mi_aret at er
  split at er
  · rename_i a
    have e1 := Option.some.inj er
    subst e1
    exact W.aret hx hb (hr.trans hrt) hrr (Or.inr ⟨ad a, rfl⟩) (fun t ht hW => ⟨⟨rfl, by rw [ht]; exact hP, va_K.moved hW.alike hK, hH, hst⟩, hS.F ht⟩) hS.2.2 hd
  · cases er
end MMP
