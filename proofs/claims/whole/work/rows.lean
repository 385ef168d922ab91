section
/-! ===== THE MINI MACHINE: values, heap, instructions as combinators, runs ===== -/
abbrev mm_V : Type := (Int ⊕ Int) ⊕ (Nat ⊕ Unit)
abbrev mm_i (n : Int) : mm_V := .inl (.inl n)
abbrev mm_j (n : Int) : mm_V := .inl (.inr n)
abbrev mm_r (k : Nat) : mm_V := .inr (.inl k)
abbrev mm_u : mm_V := .inr (.inr ())
abbrev mm_H : Type := Nat → Nat → Int
abbrev mm_R : Type := Option mm_V × mm_H
abbrev mm_K : Type := List mm_V → List mm_V → mm_H → Option mm_R
abbrev mm_C : Type := Nat → List mm_V → mm_H → Option mm_R
abbrev mm_I : Type := (Nat → mm_K) → mm_C → mm_K
def mm_wr (x : Int) : Int := (x + 2147483648) % 4294967296 - 2147483648
def mm_wl (x : Int) : Int := (x + 9223372036854775808) % 18446744073709551616 - 9223372036854775808
def mm_up {α : Type} (f : Nat → α) (k : Nat) (v : α) : Nat → α := fun j => if j = k then v else f j
def mm_st (h : mm_H) (a k : Nat) (v : Int) : mm_H := mm_up h a (mm_up (h a) k v)
def mm_cp (f g : Nat → Int) (sp dp n : Nat) : Nat → Int := fun k => if dp ≤ k ∧ k < dp + n then f (sp + (k - dp)) else g k
def mm_and (a b : Int) : Int := (Int32.ofInt a &&& Int32.ofInt b).toInt
def mm_or (a b : Int) : Int := (Int32.ofInt a ||| Int32.ofInt b).toInt
def mm_xor (a b : Int) : Int := (Int32.ofInt a ^^^ Int32.ofInt b).toInt
def mm_shl (a b : Int) : Int := (Int32.ofInt a <<< (Int32.ofInt b &&& 31)).toInt
def mm_shr (a b : Int) : Int := (Int32.ofInt a >>> (Int32.ofInt b &&& 31)).toInt
def mm_ush (a b : Int) : Int := ((Int32.ofInt a).toUInt32 >>> ((Int32.ofInt b).toUInt32 &&& Int32.toUInt32 31)).toInt32.toInt
def mi_bad : mm_I := fun _ _ _ _ _ => none
def mi_const (v : Int) (nx : Nat) : mm_I := fun J _ ls st h => J nx ls (mm_i v :: st) h
def mi_lconst (v : Int) (nx : Nat) : mm_I := fun J _ ls st h => J nx ls (mm_j v :: st) h
def mi_iload (k nx : Nat) : mm_I := fun J _ ls st h => match ls[k]? with
  | some (.inl (.inl n)) => J nx ls (mm_i n :: st) h
  | _ => none
def mi_aload (k nx : Nat) : mm_I := fun J _ ls st h => match ls[k]? with
  | some (.inr (.inl n)) => J nx ls (mm_r n :: st) h
  | _ => none
def mi_lload (k nx : Nat) : mm_I := fun J _ ls st h => match ls[k]?, ls[k + 1]? with
  | some (.inl (.inr n)), some (.inr (.inr _)) => J nx ls (mm_j n :: st) h
  | _, _ => none
def mi_istore (k nx : Nat) : mm_I := fun J _ ls st h => match st with
  | .inl (.inl n) :: st => J nx (ls.set k (mm_i n)) st h
  | _ => none
def mi_astore (k nx : Nat) : mm_I := fun J _ ls st h => match st with
  | .inr (.inl n) :: st => J nx (ls.set k (mm_r n)) st h
  | _ => none
def mi_lstore (k nx : Nat) : mm_I := fun J _ ls st h => match st with
  | .inl (.inr n) :: st => J nx ((ls.set k (mm_j n)).set (k + 1) mm_u) st h
  | _ => none
def mi_iinc (k : Nat) (d : Int) (nx : Nat) : mm_I := fun J _ ls st h => match ls[k]? with
  | some (.inl (.inl n)) => J nx (ls.set k (mm_i (mm_wr (n + d)))) st h
  | _ => none
def mi_bin (f : Int → Int → Int) (nx : Nat) : mm_I := fun J _ ls st h => match st with
  | .inl (.inl b) :: .inl (.inl a) :: st => J nx ls (mm_i (f a b) :: st) h
  | _ => none
def mi_lbin (f : Int → Int → Int) (nx : Nat) : mm_I := fun J _ ls st h => match st with
  | .inl (.inr b) :: .inl (.inr a) :: st => J nx ls (mm_j (f a b) :: st) h
  | _ => none
def mm_add (a b : Int) : Int := mm_wr (a + b)
def mm_sub (a b : Int) : Int := mm_wr (a - b)
def mm_mul (a b : Int) : Int := mm_wr (a * b)
def mm_ladd (a b : Int) : Int := mm_wl (a + b)
def mm_lmul (a b : Int) : Int := mm_wl (a * b)
def mi_div (nx : Nat) : mm_I := fun J _ ls st h => match st with
  | .inl (.inl b) :: .inl (.inl a) :: st => if b = 0 then none else J nx ls (mm_i (mm_wr (Int.tdiv a b)) :: st) h
  | _ => none
def mi_rem (nx : Nat) : mm_I := fun J _ ls st h => match st with
  | .inl (.inl b) :: .inl (.inl a) :: st => if b = 0 then none else J nx ls (mm_i (Int.tmod a b) :: st) h
  | _ => none
def mi_lrem (nx : Nat) : mm_I := fun J _ ls st h => match st with
  | .inl (.inr b) :: .inl (.inr a) :: st => if b = 0 then none else J nx ls (mm_j (Int.tmod a b) :: st) h
  | _ => none
def mi_neg (nx : Nat) : mm_I := fun J _ ls st h => match st with
  | .inl (.inl a) :: st => J nx ls (mm_i (mm_wr (-a)) :: st) h
  | _ => none
def mi_i2l (nx : Nat) : mm_I := fun J _ ls st h => match st with
  | .inl (.inl a) :: st => J nx ls (mm_j a :: st) h
  | _ => none
def mi_l2i (nx : Nat) : mm_I := fun J _ ls st h => match st with
  | .inl (.inr a) :: st => J nx ls (mm_i (mm_wr a) :: st) h
  | _ => none
def mi_i2c (nx : Nat) : mm_I := fun J _ ls st h => match st with
  | .inl (.inl a) :: st => J nx ls (mm_i (a % 65536) :: st) h
  | _ => none
def mi_dup (nx : Nat) : mm_I := fun J _ ls st h => match st with
  | .inl (.inl a) :: st => J nx ls (mm_i a :: mm_i a :: st) h
  | .inr (.inl a) :: st => J nx ls (mm_r a :: mm_r a :: st) h
  | _ => none
def mi_dup2 (nx : Nat) : mm_I := fun J _ ls st h => match st with
  | .inl (.inl a) :: .inr (.inl b) :: st => J nx ls (mm_i a :: mm_r b :: mm_i a :: mm_r b :: st) h
  | _ => none
def mi_pop (nx : Nat) : mm_I := fun J _ ls st h => match st with
  | .inl (.inl _) :: st => J nx ls st h
  | .inr (.inl _) :: st => J nx ls st h
  | _ => none
def mi_goto (tg : Nat) : mm_I := fun J _ ls st h => J tg ls st h
def mi_ifeq (tg nx : Nat) : mm_I := fun J _ ls st h => match st with
  | .inl (.inl a) :: st => if a = 0 then J tg ls st h else J nx ls st h
  | _ => none
def mi_ifne (tg nx : Nat) : mm_I := fun J _ ls st h => match st with
  | .inl (.inl a) :: st => if a = 0 then J nx ls st h else J tg ls st h
  | _ => none
def mi_iflt (tg nx : Nat) : mm_I := fun J _ ls st h => match st with
  | .inl (.inl a) :: st => if a < 0 then J tg ls st h else J nx ls st h
  | _ => none
def mi_ifge (tg nx : Nat) : mm_I := fun J _ ls st h => match st with
  | .inl (.inl a) :: st => if a < 0 then J nx ls st h else J tg ls st h
  | _ => none
def mi_ifgt (tg nx : Nat) : mm_I := fun J _ ls st h => match st with
  | .inl (.inl a) :: st => if 0 < a then J tg ls st h else J nx ls st h
  | _ => none
def mi_ifle (tg nx : Nat) : mm_I := fun J _ ls st h => match st with
  | .inl (.inl a) :: st => if 0 < a then J nx ls st h else J tg ls st h
  | _ => none
def mi_cmpeq (tg nx : Nat) : mm_I := fun J _ ls st h => match st with
  | .inl (.inl b) :: .inl (.inl a) :: st => if a = b then J tg ls st h else J nx ls st h
  | _ => none
def mi_cmpne (tg nx : Nat) : mm_I := fun J _ ls st h => match st with
  | .inl (.inl b) :: .inl (.inl a) :: st => if a = b then J nx ls st h else J tg ls st h
  | _ => none
def mi_cmplt (tg nx : Nat) : mm_I := fun J _ ls st h => match st with
  | .inl (.inl b) :: .inl (.inl a) :: st => if a < b then J tg ls st h else J nx ls st h
  | _ => none
def mi_cmpge (tg nx : Nat) : mm_I := fun J _ ls st h => match st with
  | .inl (.inl b) :: .inl (.inl a) :: st => if a < b then J nx ls st h else J tg ls st h
  | _ => none
def mi_cmpgt (tg nx : Nat) : mm_I := fun J _ ls st h => match st with
  | .inl (.inl b) :: .inl (.inl a) :: st => if b < a then J tg ls st h else J nx ls st h
  | _ => none
def mi_cmple (tg nx : Nat) : mm_I := fun J _ ls st h => match st with
  | .inl (.inl b) :: .inl (.inl a) :: st => if b < a then J nx ls st h else J tg ls st h
  | _ => none
def mm_sw (x : Int) (d : Option mm_R) : List (Int × Option mm_R) → Option mm_R
  | [] => d
  | (k, o) :: r => if x = k then o else mm_sw x d r
def mi_sw (ps : List (Int × Nat)) (dt : Nat) : mm_I := fun J _ ls st h => match st with
  | .inl (.inl a) :: st => mm_sw a (J dt ls st h) (ps.map fun q => (q.1, J q.2 ls st h))
  | _ => none
/-! a world's table: w a = (kind, size); kinds: 0 int[], 1 char[], 2 an array of references, 3 an array of int[] (its rows stand behind it), 4 + c an object of kind c -/
abbrev mm_W : Type := Nat → Nat × Nat
def mi_getI (w : mm_W) (ci k nx : Nat) : mm_I := fun J _ ls st h => match st with
  | .inr (.inl a) :: st => if (w a).1 = ci + 4 then J nx ls (mm_i (h a k) :: st) h else none
  | _ => none
def mi_getS (w : mm_W) (ci off nx : Nat) : mm_I := fun J _ ls st h => match st with
  | .inr (.inl a) :: st => if (w a).1 = ci + 4 then J nx ls (mm_r (a + off) :: st) h else none
  | _ => none
def mi_getD (w : mm_W) (ci k nx : Nat) : mm_I := fun J _ ls st h => match st with
  | .inr (.inl a) :: st => if (w a).1 = ci + 4 then J nx ls (mm_r (h a k).toNat :: st) h else none
  | _ => none
def mi_putI (w : mm_W) (ci k nx : Nat) : mm_I := fun J _ ls st h => match st with
  | .inl (.inl v) :: .inr (.inl a) :: st => if (w a).1 = ci + 4 then J nx ls st (mm_st h a k v) else none
  | _ => none
def mi_putD (w : mm_W) (ci k nx : Nat) : mm_I := fun J _ ls st h => match st with
  | .inr (.inl b) :: .inr (.inl a) :: st => if (w a).1 = ci + 4 ∧ b < 2147483648 then J nx ls st (mm_st h a k b) else none
  | _ => none
def mi_iald (w : mm_W) (nx : Nat) : mm_I := fun J _ ls st h => match st with
  | .inl (.inl i) :: .inr (.inl a) :: st => if (w a).1 = 0 then (if 0 ≤ i ∧ i < (w a).2 then J nx ls (mm_i (h a i.toNat) :: st) h else none) else none
  | _ => none
def mi_cald (w : mm_W) (nx : Nat) : mm_I := fun J _ ls st h => match st with
  | .inl (.inl i) :: .inr (.inl a) :: st => if (w a).1 = 1 then (if 0 ≤ i ∧ i < (w a).2 then J nx ls (mm_i (h a i.toNat) :: st) h else none) else none
  | _ => none
def mi_aald (w : mm_W) (nx : Nat) : mm_I := fun J _ ls st h => match st with
  | .inl (.inl i) :: .inr (.inl a) :: st => if (w a).1 = 2 then (if 0 ≤ i ∧ i < (w a).2 then J nx ls (mm_r (h a i.toNat).toNat :: st) h else none) else none
  | _ => none
def mi_bald (w : mm_W) (nx : Nat) : mm_I := fun J _ ls st h => match st with
  | .inl (.inl i) :: .inr (.inl a) :: st => if (w a).1 = 3 then (if 0 ≤ i ∧ i < (w a).2 then J nx ls (mm_r (a + 1 + i.toNat) :: st) h else none) else none
  | _ => none
def mi_iast (w : mm_W) (nx : Nat) : mm_I := fun J _ ls st h => match st with
  | .inl (.inl v) :: .inl (.inl i) :: .inr (.inl a) :: st => if (w a).1 = 0 then (if 0 ≤ i ∧ i < (w a).2 then J nx ls st (mm_st h a i.toNat v) else none) else none
  | _ => none
def mi_cast (w : mm_W) (nx : Nat) : mm_I := fun J _ ls st h => match st with
  | .inl (.inl v) :: .inl (.inl i) :: .inr (.inl a) :: st => if (w a).1 = 1 then (if (0 ≤ i ∧ i < (w a).2) ∧ 0 ≤ v ∧ v < 65536 then J nx ls st (mm_st h a i.toNat v) else none) else none
  | _ => none
def mi_aast (w : mm_W) (ci nx : Nat) : mm_I := fun J _ ls st h => match st with
  | .inr (.inl b) :: .inl (.inl i) :: .inr (.inl a) :: st => if (w a).1 = 2 ∧ (w b).1 = ci + 4 ∧ b < 2147483648 then (if 0 ≤ i ∧ i < (w a).2 then J nx ls st (mm_st h a i.toNat b) else none) else none
  | _ => none
def mi_alen (w : mm_W) (nx : Nat) : mm_I := fun J _ ls st h => match st with
  | .inr (.inl a) :: st => if (w a).1 < 4 ∧ (w a).2 < 2147483648 then J nx ls (mm_i (w a).2 :: st) h else none
  | _ => none
def mi_max (nx : Nat) : mm_I := fun J _ ls st h => match st with
  | .inl (.inl b) :: .inl (.inl a) :: st => (match Nat.ble st.length 8 with
    | true => J nx ls (mm_i (if a < b then b else a) :: st) h
    | false => none)
  | _ => none
def mi_min (nx : Nat) : mm_I := fun J _ ls st h => match st with
  | .inl (.inl b) :: .inl (.inl a) :: st => (match Nat.ble st.length 8 with
    | true => J nx ls (mm_i (if b < a then b else a) :: st) h
    | false => none)
  | _ => none
def mi_abs (nx : Nat) : mm_I := fun J _ ls st h => match st with
  | .inl (.inl a) :: st => (match Nat.ble st.length 8 with
    | true => J nx ls (mm_i (mm_wr (if 0 ≤ a then a else 0 - a)) :: st) h
    | false => none)
  | _ => none
def mi_copy (w : mm_W) (nx : Nat) : mm_I := fun J _ ls st h => match st with
  | .inl (.inl n) :: .inl (.inl dp) :: .inr (.inl b) :: .inl (.inl sp) :: .inr (.inl a) :: st => (match Nat.ble st.length 8 with
    | true => if (w a).1 = 0 ∧ (w b).1 = 0 then (if (0 ≤ sp ∧ 0 ≤ dp ∧ 0 ≤ n) ∧ sp + n ≤ (w a).2 ∧ dp + n ≤ (w b).2 then J nx ls st (mm_up h b (mm_cp (h a) (h b) sp.toNat dp.toNat n.toNat)) else none) else none
    | false => none)
  | _ => none
/-- a call: na arguments (the receiver among them) -/
def mm_c1 (v : mm_V) : Bool := match v with
  | .inl (.inl _) => true
  | .inr (.inl _) => true
  | _ => false
def mm_cb (na : Nat) (st : List mm_V) : Bool := Nat.ble na st.length && (Nat.ble (st.drop na).length 4 && (st.take na).all mm_c1)
def mi_callS (y na nx : Nat) : mm_I := fun J C ls st h => match mm_cb na st with
  | true => (C y (st.take na).reverse h).bind fun q => J nx ls (q.1.toList ++ st.drop na) q.2
  | false => none
def mi_callV (w : mm_W) (ci y na nx : Nat) : mm_I := fun J C ls st h => match mm_cb na st, (st.take na).reverse with
  | true, .inr (.inl a) :: as => if (w a).1 = ci + 4 then (C y (mm_r a :: as) h).bind fun q => J nx ls (q.1.toList ++ st.drop na) q.2 else none
  | _, _ => none
def mi_iret : mm_I := fun _ _ _ st h => match st with
  | [.inl (.inl v)] => some (some (mm_i v), h)
  | _ => none
def mi_zret : mm_I := fun _ _ _ st h => match st with
  | [.inl (.inl v)] => if v = 0 ∨ v = 1 then some (some (mm_i v), h) else none
  | _ => none
def mi_vret : mm_I := fun _ _ _ st h => match st with
  | [] => some (none, h)
  | _ => none
def mi_aret : mm_I := fun _ _ _ st h => match st with
  | [.inr (.inl a)] => some (some (mm_r a), h)
  | _ => none
/-! code as a tree -/
def mm_nd (b : Nat) (l r : Nat → mm_I) : Nat → mm_I := fun pc => bif Nat.blt pc b then l pc else r pc
def mm_lf (k : Nat) (i : mm_I) : Nat → mm_I := fun pc => bif Nat.beq pc k then i else mi_bad
/-! runs -/
def mm_run (tab : Nat → Nat → mm_I) (ent : Nat → List mm_V → List mm_V) : Nat → Nat → Nat → mm_K
  | 0, _, _ => fun _ _ _ => none
  | n + 1, y, pc => tab y pc (fun pc' => mm_run tab ent n y pc') (fun y' as h => mm_run tab ent n y' 0 (ent y' as) [] h)
/-- what an instruction can do: answer, go on, or call and go on -/
def mm_sh (i : mm_I) : Prop := ∀ (ls st : List mm_V) (h : mm_H), (∃ r, ∀ J C, i J C ls st h = r) ∨ (∃ pc' ls' st' h', ∀ (J : Nat → mm_K) (C : mm_C), i J C ls st h = J pc' ls' st' h') ∨ (∃ y as h' pc' ls' st', ∀ (J : Nat → mm_K) (C : mm_C), i J C ls st h = (C y as h').bind fun q => J pc' ls' (q.1.toList ++ st') q.2)
theorem mm_sh_mono {i : mm_I} (hi : mm_sh i) {J J' : Nat → mm_K} {C C' : mm_C} (hJ : ∀ pc ls st h r, J pc ls st h = some r → J' pc ls st h = some r) (hC : ∀ y as h r, C y as h = some r → C' y as h = some r) {ls st : List mm_V} {h : mm_H} {r : mm_R} (e : i J C ls st h = some r) : i J' C' ls st h = some r := by
  rcases hi ls st h with ⟨q, hq⟩ | ⟨pc', ls', st', h', hq⟩ | ⟨y, as, h', pc', ls', st', hq⟩
  · rw [hq] at e ⊢; exact e
  · rw [hq] at e ⊢; exact hJ _ _ _ _ _ e
  · rw [hq] at e ⊢
    obtain ⟨a, h1, h2⟩ := Option.bind_eq_some_iff.mp e
    rw [hC _ _ _ _ h1]
    exact hJ _ _ _ _ _ h2
section MMR
variable {tab : Nat → Nat → mm_I} {ent : Nat → List mm_V → List mm_V}
theorem mm_run_step (ht : ∀ y pc, mm_sh (tab y pc)) : ∀ (n y pc : Nat) (ls st : List mm_V) (h : mm_H) (r : mm_R), mm_run tab ent n y pc ls st h = some r → mm_run tab ent (n + 1) y pc ls st h = some r
  | 0, _, _, _, _, _, _, e => by cases e
  | n + 1, y, pc, ls, st, h, r, e => by
    show tab y pc _ _ ls st h = some r
    exact mm_sh_mono (ht y pc) (fun pc' ls' st' h' r' e' => mm_run_step ht n y pc' ls' st' h' r' e') (fun y' as h' r' e' => mm_run_step ht n y' 0 _ _ h' r' e') e
theorem mm_run_le (ht : ∀ y pc, mm_sh (tab y pc)) {n k y pc : Nat} {ls st : List mm_V} {h : mm_H} {r : mm_R} (hk : n ≤ k) (e : mm_run tab ent n y pc ls st h = some r) : mm_run tab ent k y pc ls st h = some r := by
  induction hk with
  | refl => exact e
  | step _ ih => exact mm_run_step ht _ _ _ _ _ _ _ ih
noncomputable def mm_ev (tab : Nat → Nat → mm_I) (ent : Nat → List mm_V → List mm_V) (y pc : Nat) (ls st : List mm_V) (h : mm_H) : Option mm_R :=
  @dite (Option mm_R) (∃ r n, mm_run tab ent n y pc ls st h = some r) (Classical.propDecidable _) (fun q => some q.choose) (fun _ => none)
theorem mm_run_one (ht : ∀ y pc, mm_sh (tab y pc)) {n k y pc : Nat} {ls st : List mm_V} {h : mm_H} {r r' : mm_R} (e : mm_run tab ent n y pc ls st h = some r) (e' : mm_run tab ent k y pc ls st h = some r') : r = r' := by
  have h1 := mm_run_le ht (Nat.le_max_left n k) e
  have h2 := mm_run_le ht (Nat.le_max_right n k) e'
  exact Option.some.inj (h1.symm.trans h2)
theorem mm_ev_of (ht : ∀ y pc, mm_sh (tab y pc)) {n y pc : Nat} {ls st : List mm_V} {h : mm_H} {r : mm_R} (e : mm_run tab ent n y pc ls st h = some r) : mm_ev tab ent y pc ls st h = some r := by
  unfold mm_ev
  have q : ∃ r n, mm_run tab ent n y pc ls st h = some r := ⟨r, n, e⟩
  rw [dif_pos q]
  obtain ⟨k, hk⟩ := q.choose_spec
  rw [mm_run_one ht hk e]
theorem mm_ev_to {y pc : Nat} {ls st : List mm_V} {h : mm_H} {r : mm_R} (e : mm_ev tab ent y pc ls st h = some r) : ∃ n, mm_run tab ent n y pc ls st h = some r := by
  unfold mm_ev at e
  by_cases q : ∃ r n, mm_run tab ent n y pc ls st h = some r
  · rw [dif_pos q] at e
    obtain ⟨k, hk⟩ := q.choose_spec
    rw [Option.some.inj e] at hk
    exact ⟨k, hk⟩
  · rw [dif_neg q] at e
    cases e
theorem mm_opt_ext {α : Type} {a b : Option α} (h1 : ∀ r, a = some r → b = some r) (h2 : ∀ r, b = some r → a = some r) : a = b := by
  cases a with
  | some x => exact (h1 x rfl).symm
  | none =>
    cases b with
    | some x => exact h2 x rfl
    | none => rfl
theorem mm_ev_eq (ht : ∀ y pc, mm_sh (tab y pc)) (y pc : Nat) (ls st : List mm_V) (h : mm_H) : mm_ev tab ent y pc ls st h = tab y pc (fun pc' => mm_ev tab ent y pc') (fun y' as h => mm_ev tab ent y' 0 (ent y' as) [] h) ls st h := by
  apply mm_opt_ext
  · intro r e
    obtain ⟨n, e⟩ := mm_ev_to e
    cases n with
    | zero => cases e
    | succ n => exact mm_sh_mono (ht y pc) (fun _ _ _ _ _ e' => mm_ev_of ht e') (fun _ _ _ _ e' => mm_ev_of ht e') e
  · intro r e
    rcases ht y pc ls st h with ⟨q, hq⟩ | ⟨pc', ls', st', h', hq⟩ | ⟨y', as, h', pc', ls', st', hq⟩
    · rw [hq] at e
      exact mm_ev_of ht (n := 1) (by show tab y pc _ _ ls st h = some r; rw [hq]; exact e)
    · rw [hq] at e
      obtain ⟨n, e⟩ := mm_ev_to e
      exact mm_ev_of ht (n := n + 1) (by show tab y pc _ _ ls st h = some r; rw [hq]; exact e)
    · rw [hq] at e
      obtain ⟨a, h1, h2⟩ := Option.bind_eq_some_iff.mp e
      obtain ⟨n, h1⟩ := mm_ev_to h1
      obtain ⟨k, h2⟩ := mm_ev_to h2
      refine mm_ev_of ht (n := max n k + 1) ?_
      show tab y pc _ _ ls st h = some r
      rw [hq]
      rw [mm_run_le ht (Nat.le_max_left n k) h1]
      exact mm_run_le ht (Nat.le_max_right n k) h2
/-- some steps forward, up to a stop -/
def mm_fw (tab : Nat → Nat → mm_I) (E : Nat → Nat → mm_K) (C : mm_C) (stop : Nat → Bool) (y : Nat) (n : Nat) : Nat → mm_K := Nat.rec (fun pc => E y pc) (fun _ ih pc => tab y pc (fun pc' => bif stop pc' then E y pc' else ih pc') C) n
theorem mm_ev_fw (ht : ∀ y pc, mm_sh (tab y pc)) (stop : Nat → Bool) (y : Nat) : ∀ (n pc : Nat), mm_ev tab ent y pc = mm_fw tab (mm_ev tab ent) (fun y' as h => mm_ev tab ent y' 0 (ent y' as) [] h) stop y n pc
  | 0, pc => rfl
  | n + 1, pc => by
    funext ls st h
    rw [mm_ev_eq ht]
    show _ = tab y pc (fun pc' => bif stop pc' then mm_ev tab ent y pc' else mm_fw tab (mm_ev tab ent) (fun y' as h => mm_ev tab ent y' 0 (ent y' as) [] h) stop y n pc') _ ls st h
    congr 1
    funext pc'
    rw [← mm_ev_fw ht stop y n pc']
    cases stop pc' <;> rfl
/-- behind a call whose answer is known -/
theorem mm_bi {o : Option mm_R} {f : mm_R → Option mm_R} {q : mm_R} {R : Option mm_R} (e : o = some q) (k : f q = R) : o.bind f = R := by
  rw [e]; exact k
end MMR
/-! the instructions' shapes -/
theorem sh_bad : mm_sh mi_bad := fun _ _ _ => Or.inl ⟨none, fun _ _ => rfl⟩
theorem sh_nd {b : Nat} {l r : Nat → mm_I} (hl : ∀ pc, mm_sh (l pc)) (hr : ∀ pc, mm_sh (r pc)) (pc : Nat) : mm_sh (mm_nd b l r pc) := by
  unfold mm_nd
  cases Nat.blt pc b
  · exact hr pc
  · exact hl pc
theorem sh_lf {k : Nat} {i : mm_I} (hi : mm_sh i) (pc : Nat) : mm_sh (mm_lf k i pc) := by
  unfold mm_lf
  cases Nat.beq pc k
  · exact sh_bad
  · exact hi
theorem sh_const (v : Int) (nx : Nat) : mm_sh (mi_const v nx) := by
  intro ls st h
  unfold mi_const
  repeat' split
  all_goals first | exact Or.inl ⟨_, fun _ _ => rfl⟩ | exact Or.inr (Or.inl ⟨_, _, _, _, fun _ _ => rfl⟩)
theorem sh_lconst (v : Int) (nx : Nat) : mm_sh (mi_lconst v nx) := by
  intro ls st h
  unfold mi_lconst
  repeat' split
  all_goals first | exact Or.inl ⟨_, fun _ _ => rfl⟩ | exact Or.inr (Or.inl ⟨_, _, _, _, fun _ _ => rfl⟩)
theorem sh_iload (k nx : Nat) : mm_sh (mi_iload k nx) := by
  intro ls st h
  unfold mi_iload
  repeat' split
  all_goals first | exact Or.inl ⟨_, fun _ _ => rfl⟩ | exact Or.inr (Or.inl ⟨_, _, _, _, fun _ _ => rfl⟩)
theorem sh_aload (k nx : Nat) : mm_sh (mi_aload k nx) := by
  intro ls st h
  unfold mi_aload
  repeat' split
  all_goals first | exact Or.inl ⟨_, fun _ _ => rfl⟩ | exact Or.inr (Or.inl ⟨_, _, _, _, fun _ _ => rfl⟩)
theorem sh_lload (k nx : Nat) : mm_sh (mi_lload k nx) := by
  intro ls st h
  unfold mi_lload
  repeat' split
  all_goals first | exact Or.inl ⟨_, fun _ _ => rfl⟩ | exact Or.inr (Or.inl ⟨_, _, _, _, fun _ _ => rfl⟩)
theorem sh_istore (k nx : Nat) : mm_sh (mi_istore k nx) := by
  intro ls st h
  unfold mi_istore
  repeat' split
  all_goals first | exact Or.inl ⟨_, fun _ _ => rfl⟩ | exact Or.inr (Or.inl ⟨_, _, _, _, fun _ _ => rfl⟩)
theorem sh_astore (k nx : Nat) : mm_sh (mi_astore k nx) := by
  intro ls st h
  unfold mi_astore
  repeat' split
  all_goals first | exact Or.inl ⟨_, fun _ _ => rfl⟩ | exact Or.inr (Or.inl ⟨_, _, _, _, fun _ _ => rfl⟩)
theorem sh_lstore (k nx : Nat) : mm_sh (mi_lstore k nx) := by
  intro ls st h
  unfold mi_lstore
  repeat' split
  all_goals first | exact Or.inl ⟨_, fun _ _ => rfl⟩ | exact Or.inr (Or.inl ⟨_, _, _, _, fun _ _ => rfl⟩)
theorem sh_iinc (k : Nat) (d : Int) (nx : Nat) : mm_sh (mi_iinc k d nx) := by
  intro ls st h
  unfold mi_iinc
  repeat' split
  all_goals first | exact Or.inl ⟨_, fun _ _ => rfl⟩ | exact Or.inr (Or.inl ⟨_, _, _, _, fun _ _ => rfl⟩)
theorem sh_bin (f : Int → Int → Int) (nx : Nat) : mm_sh (mi_bin f nx) := by
  intro ls st h
  unfold mi_bin
  repeat' split
  all_goals first | exact Or.inl ⟨_, fun _ _ => rfl⟩ | exact Or.inr (Or.inl ⟨_, _, _, _, fun _ _ => rfl⟩)
theorem sh_lbin (f : Int → Int → Int) (nx : Nat) : mm_sh (mi_lbin f nx) := by
  intro ls st h
  unfold mi_lbin
  repeat' split
  all_goals first | exact Or.inl ⟨_, fun _ _ => rfl⟩ | exact Or.inr (Or.inl ⟨_, _, _, _, fun _ _ => rfl⟩)
theorem sh_div (nx : Nat) : mm_sh (mi_div nx) := by
  intro ls st h
  unfold mi_div
  repeat' split
  all_goals first | exact Or.inl ⟨_, fun _ _ => rfl⟩ | exact Or.inr (Or.inl ⟨_, _, _, _, fun _ _ => rfl⟩)
theorem sh_rem (nx : Nat) : mm_sh (mi_rem nx) := by
  intro ls st h
  unfold mi_rem
  repeat' split
  all_goals first | exact Or.inl ⟨_, fun _ _ => rfl⟩ | exact Or.inr (Or.inl ⟨_, _, _, _, fun _ _ => rfl⟩)
theorem sh_lrem (nx : Nat) : mm_sh (mi_lrem nx) := by
  intro ls st h
  unfold mi_lrem
  repeat' split
  all_goals first | exact Or.inl ⟨_, fun _ _ => rfl⟩ | exact Or.inr (Or.inl ⟨_, _, _, _, fun _ _ => rfl⟩)
theorem sh_neg (nx : Nat) : mm_sh (mi_neg nx) := by
  intro ls st h
  unfold mi_neg
  repeat' split
  all_goals first | exact Or.inl ⟨_, fun _ _ => rfl⟩ | exact Or.inr (Or.inl ⟨_, _, _, _, fun _ _ => rfl⟩)
theorem sh_i2l (nx : Nat) : mm_sh (mi_i2l nx) := by
  intro ls st h
  unfold mi_i2l
  repeat' split
  all_goals first | exact Or.inl ⟨_, fun _ _ => rfl⟩ | exact Or.inr (Or.inl ⟨_, _, _, _, fun _ _ => rfl⟩)
theorem sh_l2i (nx : Nat) : mm_sh (mi_l2i nx) := by
  intro ls st h
  unfold mi_l2i
  repeat' split
  all_goals first | exact Or.inl ⟨_, fun _ _ => rfl⟩ | exact Or.inr (Or.inl ⟨_, _, _, _, fun _ _ => rfl⟩)
theorem sh_i2c (nx : Nat) : mm_sh (mi_i2c nx) := by
  intro ls st h
  unfold mi_i2c
  repeat' split
  all_goals first | exact Or.inl ⟨_, fun _ _ => rfl⟩ | exact Or.inr (Or.inl ⟨_, _, _, _, fun _ _ => rfl⟩)
theorem sh_dup (nx : Nat) : mm_sh (mi_dup nx) := by
  intro ls st h
  unfold mi_dup
  repeat' split
  all_goals first | exact Or.inl ⟨_, fun _ _ => rfl⟩ | exact Or.inr (Or.inl ⟨_, _, _, _, fun _ _ => rfl⟩)
theorem sh_dup2 (nx : Nat) : mm_sh (mi_dup2 nx) := by
  intro ls st h
  unfold mi_dup2
  repeat' split
  all_goals first | exact Or.inl ⟨_, fun _ _ => rfl⟩ | exact Or.inr (Or.inl ⟨_, _, _, _, fun _ _ => rfl⟩)
theorem sh_pop (nx : Nat) : mm_sh (mi_pop nx) := by
  intro ls st h
  unfold mi_pop
  repeat' split
  all_goals first | exact Or.inl ⟨_, fun _ _ => rfl⟩ | exact Or.inr (Or.inl ⟨_, _, _, _, fun _ _ => rfl⟩)
theorem sh_goto (tg : Nat) : mm_sh (mi_goto tg) := by
  intro ls st h
  unfold mi_goto
  repeat' split
  all_goals first | exact Or.inl ⟨_, fun _ _ => rfl⟩ | exact Or.inr (Or.inl ⟨_, _, _, _, fun _ _ => rfl⟩)
theorem sh_ifeq (tg nx : Nat) : mm_sh (mi_ifeq tg nx) := by
  intro ls st h
  unfold mi_ifeq
  repeat' split
  all_goals first | exact Or.inl ⟨_, fun _ _ => rfl⟩ | exact Or.inr (Or.inl ⟨_, _, _, _, fun _ _ => rfl⟩)
theorem sh_ifne (tg nx : Nat) : mm_sh (mi_ifne tg nx) := by
  intro ls st h
  unfold mi_ifne
  repeat' split
  all_goals first | exact Or.inl ⟨_, fun _ _ => rfl⟩ | exact Or.inr (Or.inl ⟨_, _, _, _, fun _ _ => rfl⟩)
theorem sh_iflt (tg nx : Nat) : mm_sh (mi_iflt tg nx) := by
  intro ls st h
  unfold mi_iflt
  repeat' split
  all_goals first | exact Or.inl ⟨_, fun _ _ => rfl⟩ | exact Or.inr (Or.inl ⟨_, _, _, _, fun _ _ => rfl⟩)
theorem sh_ifge (tg nx : Nat) : mm_sh (mi_ifge tg nx) := by
  intro ls st h
  unfold mi_ifge
  repeat' split
  all_goals first | exact Or.inl ⟨_, fun _ _ => rfl⟩ | exact Or.inr (Or.inl ⟨_, _, _, _, fun _ _ => rfl⟩)
theorem sh_ifgt (tg nx : Nat) : mm_sh (mi_ifgt tg nx) := by
  intro ls st h
  unfold mi_ifgt
  repeat' split
  all_goals first | exact Or.inl ⟨_, fun _ _ => rfl⟩ | exact Or.inr (Or.inl ⟨_, _, _, _, fun _ _ => rfl⟩)
theorem sh_ifle (tg nx : Nat) : mm_sh (mi_ifle tg nx) := by
  intro ls st h
  unfold mi_ifle
  repeat' split
  all_goals first | exact Or.inl ⟨_, fun _ _ => rfl⟩ | exact Or.inr (Or.inl ⟨_, _, _, _, fun _ _ => rfl⟩)
theorem sh_cmpeq (tg nx : Nat) : mm_sh (mi_cmpeq tg nx) := by
  intro ls st h
  unfold mi_cmpeq
  repeat' split
  all_goals first | exact Or.inl ⟨_, fun _ _ => rfl⟩ | exact Or.inr (Or.inl ⟨_, _, _, _, fun _ _ => rfl⟩)
theorem sh_cmpne (tg nx : Nat) : mm_sh (mi_cmpne tg nx) := by
  intro ls st h
  unfold mi_cmpne
  repeat' split
  all_goals first | exact Or.inl ⟨_, fun _ _ => rfl⟩ | exact Or.inr (Or.inl ⟨_, _, _, _, fun _ _ => rfl⟩)
theorem sh_cmplt (tg nx : Nat) : mm_sh (mi_cmplt tg nx) := by
  intro ls st h
  unfold mi_cmplt
  repeat' split
  all_goals first | exact Or.inl ⟨_, fun _ _ => rfl⟩ | exact Or.inr (Or.inl ⟨_, _, _, _, fun _ _ => rfl⟩)
theorem sh_cmpge (tg nx : Nat) : mm_sh (mi_cmpge tg nx) := by
  intro ls st h
  unfold mi_cmpge
  repeat' split
  all_goals first | exact Or.inl ⟨_, fun _ _ => rfl⟩ | exact Or.inr (Or.inl ⟨_, _, _, _, fun _ _ => rfl⟩)
theorem sh_cmpgt (tg nx : Nat) : mm_sh (mi_cmpgt tg nx) := by
  intro ls st h
  unfold mi_cmpgt
  repeat' split
  all_goals first | exact Or.inl ⟨_, fun _ _ => rfl⟩ | exact Or.inr (Or.inl ⟨_, _, _, _, fun _ _ => rfl⟩)
theorem sh_cmple (tg nx : Nat) : mm_sh (mi_cmple tg nx) := by
  intro ls st h
  unfold mi_cmple
  repeat' split
  all_goals first | exact Or.inl ⟨_, fun _ _ => rfl⟩ | exact Or.inr (Or.inl ⟨_, _, _, _, fun _ _ => rfl⟩)
theorem sh_getI (w : mm_W) (ci k nx : Nat) : mm_sh (mi_getI w ci k nx) := by
  intro ls st h
  unfold mi_getI
  repeat' split
  all_goals first | exact Or.inl ⟨_, fun _ _ => rfl⟩ | exact Or.inr (Or.inl ⟨_, _, _, _, fun _ _ => rfl⟩)
theorem sh_getS (w : mm_W) (ci k nx : Nat) : mm_sh (mi_getS w ci k nx) := by
  intro ls st h
  unfold mi_getS
  repeat' split
  all_goals first | exact Or.inl ⟨_, fun _ _ => rfl⟩ | exact Or.inr (Or.inl ⟨_, _, _, _, fun _ _ => rfl⟩)
theorem sh_getD (w : mm_W) (ci k nx : Nat) : mm_sh (mi_getD w ci k nx) := by
  intro ls st h
  unfold mi_getD
  repeat' split
  all_goals first | exact Or.inl ⟨_, fun _ _ => rfl⟩ | exact Or.inr (Or.inl ⟨_, _, _, _, fun _ _ => rfl⟩)
theorem sh_putI (w : mm_W) (ci k nx : Nat) : mm_sh (mi_putI w ci k nx) := by
  intro ls st h
  unfold mi_putI
  repeat' split
  all_goals first | exact Or.inl ⟨_, fun _ _ => rfl⟩ | exact Or.inr (Or.inl ⟨_, _, _, _, fun _ _ => rfl⟩)
theorem sh_putD (w : mm_W) (ci k nx : Nat) : mm_sh (mi_putD w ci k nx) := by
  intro ls st h
  unfold mi_putD
  repeat' split
  all_goals first | exact Or.inl ⟨_, fun _ _ => rfl⟩ | exact Or.inr (Or.inl ⟨_, _, _, _, fun _ _ => rfl⟩)
theorem sh_iald (w : mm_W) (nx : Nat) : mm_sh (mi_iald w nx) := by
  intro ls st h
  unfold mi_iald
  repeat' split
  all_goals first | exact Or.inl ⟨_, fun _ _ => rfl⟩ | exact Or.inr (Or.inl ⟨_, _, _, _, fun _ _ => rfl⟩)
theorem sh_cald (w : mm_W) (nx : Nat) : mm_sh (mi_cald w nx) := by
  intro ls st h
  unfold mi_cald
  repeat' split
  all_goals first | exact Or.inl ⟨_, fun _ _ => rfl⟩ | exact Or.inr (Or.inl ⟨_, _, _, _, fun _ _ => rfl⟩)
theorem sh_aald (w : mm_W) (nx : Nat) : mm_sh (mi_aald w nx) := by
  intro ls st h
  unfold mi_aald
  repeat' split
  all_goals first | exact Or.inl ⟨_, fun _ _ => rfl⟩ | exact Or.inr (Or.inl ⟨_, _, _, _, fun _ _ => rfl⟩)
theorem sh_bald (w : mm_W) (nx : Nat) : mm_sh (mi_bald w nx) := by
  intro ls st h
  unfold mi_bald
  repeat' split
  all_goals first | exact Or.inl ⟨_, fun _ _ => rfl⟩ | exact Or.inr (Or.inl ⟨_, _, _, _, fun _ _ => rfl⟩)
theorem sh_iast (w : mm_W) (nx : Nat) : mm_sh (mi_iast w nx) := by
  intro ls st h
  unfold mi_iast
  repeat' split
  all_goals first | exact Or.inl ⟨_, fun _ _ => rfl⟩ | exact Or.inr (Or.inl ⟨_, _, _, _, fun _ _ => rfl⟩)
theorem sh_cast (w : mm_W) (nx : Nat) : mm_sh (mi_cast w nx) := by
  intro ls st h
  unfold mi_cast
  repeat' split
  all_goals first | exact Or.inl ⟨_, fun _ _ => rfl⟩ | exact Or.inr (Or.inl ⟨_, _, _, _, fun _ _ => rfl⟩)
theorem sh_alen (w : mm_W) (nx : Nat) : mm_sh (mi_alen w nx) := by
  intro ls st h
  unfold mi_alen
  repeat' split
  all_goals first | exact Or.inl ⟨_, fun _ _ => rfl⟩ | exact Or.inr (Or.inl ⟨_, _, _, _, fun _ _ => rfl⟩)
theorem sh_copy (w : mm_W) (nx : Nat) : mm_sh (mi_copy w nx) := by
  intro ls st h
  unfold mi_copy
  repeat' split
  all_goals first | exact Or.inl ⟨_, fun _ _ => rfl⟩ | exact Or.inr (Or.inl ⟨_, _, _, _, fun _ _ => rfl⟩)
theorem sh_aast (w : mm_W) (ci nx : Nat) : mm_sh (mi_aast w ci nx) := by
  intro ls st h
  unfold mi_aast
  repeat' split
  all_goals first | exact Or.inl ⟨_, fun _ _ => rfl⟩ | exact Or.inr (Or.inl ⟨_, _, _, _, fun _ _ => rfl⟩)
theorem sh_abs (nx : Nat) : mm_sh (mi_abs nx) := by
  intro ls st h
  unfold mi_abs
  repeat' split
  all_goals first | exact Or.inl ⟨_, fun _ _ => rfl⟩ | exact Or.inr (Or.inl ⟨_, _, _, _, fun _ _ => rfl⟩)
theorem sh_iret  : mm_sh (mi_iret ) := by
  intro ls st h
  unfold mi_iret
  repeat' split
  all_goals first | exact Or.inl ⟨_, fun _ _ => rfl⟩ | exact Or.inr (Or.inl ⟨_, _, _, _, fun _ _ => rfl⟩)
theorem sh_zret  : mm_sh (mi_zret ) := by
  intro ls st h
  unfold mi_zret
  repeat' split
  all_goals first | exact Or.inl ⟨_, fun _ _ => rfl⟩ | exact Or.inr (Or.inl ⟨_, _, _, _, fun _ _ => rfl⟩)
theorem sh_vret  : mm_sh (mi_vret ) := by
  intro ls st h
  unfold mi_vret
  repeat' split
  all_goals first | exact Or.inl ⟨_, fun _ _ => rfl⟩ | exact Or.inr (Or.inl ⟨_, _, _, _, fun _ _ => rfl⟩)
theorem sh_aret  : mm_sh (mi_aret ) := by
  intro ls st h
  unfold mi_aret
  repeat' split
  all_goals first | exact Or.inl ⟨_, fun _ _ => rfl⟩ | exact Or.inr (Or.inl ⟨_, _, _, _, fun _ _ => rfl⟩)
theorem sh_max (nx : Nat) : mm_sh (mi_max nx) := by
  intro ls st h
  unfold mi_max
  repeat' split
  all_goals first | exact Or.inl ⟨_, fun _ _ => rfl⟩ | exact Or.inr (Or.inl ⟨_, _, _, _, fun _ _ => rfl⟩)
theorem sh_min (nx : Nat) : mm_sh (mi_min nx) := by
  intro ls st h
  unfold mi_min
  repeat' split
  all_goals first | exact Or.inl ⟨_, fun _ _ => rfl⟩ | exact Or.inr (Or.inl ⟨_, _, _, _, fun _ _ => rfl⟩)
theorem sh_swl (a : Int) (ls st : List mm_V) (h : mm_H) (dt : Nat) : ∀ ps : List (Int × Nat), ∃ pc' : Nat, ∀ (J : Nat → mm_K), mm_sw a (J dt ls st h) (ps.map fun q => (q.1, J q.2 ls st h)) = J pc' ls st h
  | [] => ⟨dt, fun _ => rfl⟩
  | (k, t) :: r => by
    by_cases e : a = k
    · exact ⟨t, fun J => by simp [mm_sw, e]⟩
    · obtain ⟨pc', hp⟩ := sh_swl a ls st h dt r
      exact ⟨pc', fun J => by rw [← hp J]; simp [mm_sw, e]⟩
theorem sh_sw (ps : List (Int × Nat)) (dt : Nat) : mm_sh (mi_sw ps dt) := by
  intro ls st h
  unfold mi_sw
  split
  · rename_i a st
    obtain ⟨pc', hp⟩ := sh_swl a ls st h dt ps
    exact Or.inr (Or.inl ⟨pc', ls, st, h, fun J _ => hp J⟩)
  · exact Or.inl ⟨_, fun _ _ => rfl⟩
theorem sh_callS (y na nx : Nat) : mm_sh (mi_callS y na nx) := by
  intro ls st h
  unfold mi_callS
  split
  · exact Or.inr (Or.inr ⟨_, _, _, _, _, _, fun _ _ => rfl⟩)
  · exact Or.inl ⟨_, fun _ _ => rfl⟩
theorem sh_callV (w : mm_W) (ci y na nx : Nat) : mm_sh (mi_callV w ci y na nx) := by
  intro ls st h
  unfold mi_callV
  split
  · split
    · exact Or.inr (Or.inr ⟨_, _, _, _, _, _, fun _ _ => rfl⟩)
    · exact Or.inl ⟨_, fun _ _ => rfl⟩
  · exact Or.inl ⟨_, fun _ _ => rfl⟩
end
section
/-! ===== numbers of the mini machine and the machine's ===== -/
def mm_in (x : Int) : Prop := -2147483648 ≤ x ∧ x < 2147483648
def mm_il (x : Int) : Prop := -9223372036854775808 ≤ x ∧ x < 9223372036854775808
theorem mm_wr_in (x : Int) : mm_in (mm_wr x) := by unfold mm_in mm_wr; omega
theorem mm_wl_in (x : Int) : mm_il (mm_wl x) := by unfold mm_il mm_wl; omega
theorem mm_wr_id {x : Int} (h : mm_in x) : mm_wr x = x := by unfold mm_in at h; unfold mm_wr; omega
theorem mm_wl_id {x : Int} (h : mm_il x) : mm_wl x = x := by unfold mm_il at h; unfold mm_wl; omega
theorem mm_wr_of (x : Int) : mm_wr x = (Int32.ofInt x).toInt := by
  rw [Int32.toInt_ofInt]
  unfold mm_wr
  have h : Int32.size = 4294967296 := rfl
  rw [h, Int.bmod_def]
  split <;> omega
theorem mm_wl_of (x : Int) : mm_wl x = (Int64.ofInt x).toInt := by
  rw [Int64.toInt_ofInt]
  unfold mm_wl
  have h : Int64.size = 18446744073709551616 := rfl
  rw [h, Int.bmod_def]
  split <;> omega
theorem mm_ofwr (x : Int) : Int32.ofInt (mm_wr x) = Int32.ofInt x := by rw [mm_wr_of, Int32.ofInt_toInt]
theorem mm_ofwl (x : Int) : Int64.ofInt (mm_wl x) = Int64.ofInt x := by rw [mm_wl_of, Int64.ofInt_toInt]
theorem mm_to {x : Int} (h : mm_in x) : (Int32.ofInt x).toInt = x := by rw [← mm_wr_of, mm_wr_id h]
theorem mm_tol {x : Int} (h : mm_il x) : (Int64.ofInt x).toInt = x := by rw [← mm_wl_of, mm_wl_id h]
theorem mm_toI (x : Int32) : mm_in x.toInt := by
  have h := mm_wr_in x.toInt
  rw [mm_wr_of, Int32.ofInt_toInt] at h
  exact h
theorem mm_toL (x : Int64) : mm_il x.toInt := by
  have h := mm_wl_in x.toInt
  rw [mm_wl_of, Int64.ofInt_toInt] at h
  exact h
theorem mm_in_l {x : Int} (h : mm_in x) : mm_il x := by unfold mm_in at h; unfold mm_il; omega
theorem mm_lt {a b : Int} (ha : mm_in a) (hb : mm_in b) : Int32.ofInt a < Int32.ofInt b ↔ a < b := by rw [Int32.lt_iff_toInt_lt, mm_to ha, mm_to hb]
theorem mm_le {a b : Int} (ha : mm_in a) (hb : mm_in b) : Int32.ofInt a ≤ Int32.ofInt b ↔ a ≤ b := by rw [Int32.le_iff_toInt_le, mm_to ha, mm_to hb]
theorem mm_eq {a b : Int} (ha : mm_in a) (hb : mm_in b) : Int32.ofInt a = Int32.ofInt b ↔ a = b := by rw [← Int32.toInt_inj, mm_to ha, mm_to hb]
theorem mm_eql {a b : Int} (ha : mm_il a) (hb : mm_il b) : Int64.ofInt a = Int64.ofInt b ↔ a = b := by rw [← Int64.toInt_inj, mm_tol ha, mm_tol hb]
theorem mm_z : (0 : Int32) = Int32.ofInt 0 := by decide
theorem mm_zl : (0 : Int64) = Int64.ofInt 0 := by decide
theorem mm_z_in : mm_in 0 := by unfold mm_in; omega
theorem mm_z_il : mm_il 0 := by unfold mm_il; omega
theorem mm_ix {i : Int} (h : mm_in i) {n : Nat} (hi : 0 ≤ i ∧ i < n) : vp_in (Int32.ofInt i) n := by rw [vp_in_iff, mm_to h]; exact hi
theorem mm_ixn {i : Int} (h : mm_in i) : (Int32.ofInt i).toNatClampNeg = i.toNat := by
  show (Int32.ofInt i).toInt.toNat = i.toNat
  rw [mm_to h]
theorem mm_e_add (a b : Int) : Int32.ofInt a + Int32.ofInt b = Int32.ofInt (mm_add a b) := by unfold mm_add; rw [mm_ofwr, Int32.ofInt_add]
theorem mm_e_sub (a b : Int) : Int32.ofInt a - Int32.ofInt b = Int32.ofInt (mm_sub a b) := by unfold mm_sub; rw [mm_ofwr, Int32.ofInt_sub]
theorem mm_e_mul (a b : Int) : Int32.ofInt a * Int32.ofInt b = Int32.ofInt (mm_mul a b) := by unfold mm_mul; rw [mm_ofwr, Int32.ofInt_mul]
theorem mm_e_neg (a : Int) : -Int32.ofInt a = Int32.ofInt (mm_wr (-a)) := by rw [mm_ofwr, Int32.ofInt_neg]
theorem mm_e_ladd (a b : Int) : Int64.ofInt a + Int64.ofInt b = Int64.ofInt (mm_ladd a b) := by unfold mm_ladd; rw [mm_ofwl, Int64.ofInt_add]
theorem mm_e_lmul (a b : Int) : Int64.ofInt a * Int64.ofInt b = Int64.ofInt (mm_lmul a b) := by unfold mm_lmul; rw [mm_ofwl, Int64.ofInt_mul]
theorem mm_e_and (a b : Int) : Int32.ofInt a &&& Int32.ofInt b = Int32.ofInt (mm_and a b) := by unfold mm_and; rw [Int32.ofInt_toInt]
theorem mm_e_or (a b : Int) : Int32.ofInt a ||| Int32.ofInt b = Int32.ofInt (mm_or a b) := by unfold mm_or; rw [Int32.ofInt_toInt]
theorem mm_e_xor (a b : Int) : Int32.ofInt a ^^^ Int32.ofInt b = Int32.ofInt (mm_xor a b) := by unfold mm_xor; rw [Int32.ofInt_toInt]
theorem mm_e_shl (a b : Int) : Int32.ofInt a <<< (Int32.ofInt b &&& 31) = Int32.ofInt (mm_shl a b) := by unfold mm_shl; rw [Int32.ofInt_toInt]
theorem mm_e_shr (a b : Int) : Int32.ofInt a >>> (Int32.ofInt b &&& 31) = Int32.ofInt (mm_shr a b) := by unfold mm_shr; rw [Int32.ofInt_toInt]
theorem mm_e_ush (a b : Int) : ((Int32.ofInt a).toUInt32 >>> ((Int32.ofInt b).toUInt32 &&& Int32.toUInt32 31)).toInt32 = Int32.ofInt (mm_ush a b) := by unfold mm_ush; rw [Int32.ofInt_toInt]
theorem mm_e_div {a b : Int} (ha : mm_in a) (hb : mm_in b) : Int32.ofInt a / Int32.ofInt b = Int32.ofInt (mm_wr (Int.tdiv a b)) := by
  rw [mm_ofwr, ← Int32.toInt_inj, Int32.toInt_div, mm_to ha, mm_to hb, Int32.toInt_ofInt]
theorem mm_e_rem {a b : Int} (ha : mm_in a) (hb : mm_in b) : Int32.ofInt a - Int32.ofInt a / Int32.ofInt b * Int32.ofInt b = Int32.ofInt (Int.tmod a b) := by
  rw [mm_e_div ha hb, mm_ofwr, ← Int32.ofInt_mul, ← Int32.ofInt_sub, Int.tmod_def, Int.mul_comm]
theorem mm_e_lrem {a b : Int} (ha : mm_il a) (hb : mm_il b) : Int64.ofInt a - Int64.ofInt a / Int64.ofInt b * Int64.ofInt b = Int64.ofInt (Int.tmod a b) := by
  have e : Int64.ofInt a / Int64.ofInt b = Int64.ofInt (Int.tdiv a b) := by
    rw [← Int64.toInt_inj, Int64.toInt_div, mm_tol ha, mm_tol hb, Int64.toInt_ofInt]
  rw [e, ← Int64.ofInt_mul, ← Int64.ofInt_sub, Int.tmod_def, Int.mul_comm]
theorem mm_tmod_b (a b : Int) : (0 ≤ a → 0 ≤ Int.tmod a b ∧ Int.tmod a b ≤ a) ∧ (a ≤ 0 → a ≤ Int.tmod a b ∧ Int.tmod a b ≤ 0) := by
  have key : ∀ x y : Int, 0 ≤ x → 0 ≤ Int.tmod x y ∧ Int.tmod x y ≤ x := by
    intro x y hx
    refine ⟨Int.tmod_nonneg y hx, ?_⟩
    have h1 : (Int.tmod x y).natAbs = x.natAbs % y.natAbs := Int.natAbs_tmod x y
    have h2 := Nat.mod_le x.natAbs y.natAbs
    omega
  refine ⟨key a b, fun h => ?_⟩
  have h1 := key (-a) b (by omega)
  rw [Int.neg_tmod] at h1
  omega
theorem mm_rem_in {a b : Int} (ha : mm_in a) : mm_in (Int.tmod a b) := by
  have h := mm_tmod_b a b
  unfold mm_in at ha ⊢
  rcases Int.le_total 0 a with q | q
  · have := h.1 q; omega
  · have := h.2 q; omega
theorem mm_lrem_il {a b : Int} (ha : mm_il a) : mm_il (Int.tmod a b) := by
  have h := mm_tmod_b a b
  unfold mm_il at ha ⊢
  rcases Int.le_total 0 a with q | q
  · have := h.1 q; omega
  · have := h.2 q; omega
theorem mm_e_i2l {a : Int} (ha : mm_in a) : (Int32.ofInt a).toInt64 = Int64.ofInt a := by
  rw [← Int64.toInt_inj, Int32.toInt_toInt64, mm_to ha, mm_tol (mm_in_l ha)]
theorem mm_e_l2i (a : Int) : (Int64.ofInt a).toInt32 = Int32.ofInt (mm_wr a) := by
  rw [mm_ofwr]
  first | exact Int64.toInt32_ofInt | (rw [Int64.toInt32_ofInt])
theorem mm_e_i2c {a : Int} (ha : mm_in a) : ((Int32.ofInt a).toUInt32 % 65536).toInt32 = Int32.ofInt (a % 65536) := by
  rw [pk_char]
  have h0 : mm_in (a % 65536) := by unfold mm_in; omega
  rw [← Int32.toInt_inj, mm_to h0]
  have h1 : ((Int32.ofInt a).toBitVec.toNat : Int) = a % 4294967296 := by
    have h2 : (Int32.ofInt a).toInt = a := mm_to ha
    have h3 : (Int32.ofInt a).toInt = (Int32.ofInt a).toBitVec.toInt := rfl
    rw [h3, BitVec.toInt_eq_toNat_bmod, Int.bmod_def] at h2
    have h4 := (Int32.ofInt a).toBitVec.isLt
    split at h2 <;> omega
  rw [nI_toInt (by omega)]
  omega
theorem mm_i2c_in (a : Int) : mm_in (a % 65536) := by unfold mm_in; omega
end
section
/-! ===== THE MINI MACHINE AGAINST THE KIT'S ROWS ===== -/
/-- a method: name, bytes, locals, answer, rank -/
abbrev mm_M : Type := MethodName × ByteArray × Nat × Option FieldType × Nat
def mm_ok (v : mm_V) : Prop := match v with
  | .inl (.inl n) => mm_in n
  | .inl (.inr n) => mm_il n
  | _ => True
def mm_f (ad : Nat → Nat) (v : mm_V) : Value := match v with
  | .inl (.inl n) => .int (Int32.ofInt n)
  | .inl (.inr n) => .long (Int64.ofInt n)
  | .inr (.inl k) => .ref (ad k)
  | .inr (.inr _) => .null
def mm_okH (h : mm_H) : Prop := ∀ a k, mm_in (h a k)
def mm_okS (st : List mm_V) : Prop := ∀ v ∈ st, mm_ok v
theorem mm_okS_c {v : mm_V} {st : List mm_V} (hv : mm_ok v) (h : mm_okS st) : mm_okS (v :: st) := fun x hx => (List.mem_cons.mp hx).elim (fun e => e ▸ hv) (h x)
theorem mm_okS_t {v : mm_V} {st : List mm_V} (h : mm_okS (v :: st)) : mm_okS st := fun x hx => h x (List.mem_cons_of_mem _ hx)
theorem mm_okS_h {v : mm_V} {st : List mm_V} (h : mm_okS (v :: st)) : mm_ok v := h v List.mem_cons_self
theorem mm_okS_set {ls : List mm_V} {k : Nat} {v : mm_V} (hv : mm_ok v) (h : mm_okS ls) : mm_okS (ls.set k v) := fun x hx => (List.mem_or_eq_of_mem_set hx).elim (h x) (fun e => e ▸ hv)
theorem mm_okS_at {ls : List mm_V} {k : Nat} {v : mm_V} (h : mm_okS ls) (e : ls[k]? = some v) : mm_ok v := h v (List.mem_of_getElem? e)
/-! locals -/
def mm_vis (ls : List mm_V) (k : Nat) (v : mm_V) : Bool := match v with
  | .inl (.inl _) => true
  | .inl (.inr _) => (match ls[k + 1]? with
    | some (.inr (.inr _)) => true
    | _ => false)
  | .inr (.inl _) => true
  | .inr (.inr _) => false
def mm_lp (ad : Nat → Nat) (ls : List mm_V) : List (Nat × Value) := (List.range ls.length).filterMap fun k => (ls[k]?).bind fun v => if mm_vis ls k v = true then some (k, mm_f ad v) else none
theorem mm_lp_mem {ad : Nat → Nat} {ls : List mm_V} {q : Nat × Value} : q ∈ mm_lp ad ls ↔ ∃ v, ls[q.1]? = some v ∧ mm_vis ls q.1 v = true ∧ q.2 = mm_f ad v := by
  unfold mm_lp
  rw [List.mem_filterMap]
  constructor
  · rintro ⟨k, -, hk⟩
    obtain ⟨v, h1, h2⟩ := Option.bind_eq_some_iff.mp hk
    split at h2
    · rename_i hv
      have e := Option.some.inj h2
      subst e
      exact ⟨v, h1, hv, rfl⟩
    · cases h2
  · rintro ⟨v, h1, h2, h3⟩
    refine ⟨q.1, List.mem_range.mpr (List.getElem?_eq_some_iff.mp h1).1, ?_⟩
    rw [h1, Option.bind_some, if_pos h2, ← h3]
def mm_LR (ad : Nat → Nat) (ls : List mm_V) (jls : Array Slot) : Prop := lv_has jls ls.length (mm_lp ad ls)
theorem mm_LR_at {ad : Nat → Nat} {ls : List mm_V} {jls : Array Slot} (h : mm_LR ad ls jls) {k : Nat} {v : mm_V} (e : ls[k]? = some v) (hv : mm_vis ls k v = true) : jls[k]? = some (.val (mm_f ad v)) := h.2.2 (k, mm_f ad v) (mm_lp_mem.mpr ⟨v, e, hv, rfl⟩)
theorem mm_LR_sub {ad : Nat → Nat} {ls : List mm_V} {jls : Array Slot} {n : Nat} {L : List (Nat × Value)} (h : lv_has jls n L) (hn : ls.length = n) (hs : ∀ q ∈ mm_lp ad ls, q ∈ L) : mm_LR ad ls jls := ⟨h.1.trans hn.symm, h.2.1, fun q hq => h.2.2 q (hs q hq)⟩
/-- a value of one slot is stored -/
theorem mm_LR_set {ad : Nat → Nat} {ls : List mm_V} {jls : Array Slot} {i : Nat} {v : mm_V} (hv : mm_c1 v = true) (h : lv_has jls ls.length ((i, mm_f ad v) :: (mm_lp ad ls).filter (fun q => !(q.1 == i) && !(q.1 + 1 == i && q.2.category == 2)))) (hi : i < ls.length) : mm_LR ad (ls.set i v) jls := by
  refine mm_LR_sub h (by rw [List.length_set]) ?_
  intro q hq
  obtain ⟨x, h1, h2, h3⟩ := mm_lp_mem.mp hq
  by_cases e : q.1 = i
  · rw [e, List.getElem?_set_self hi] at h1
    have := Option.some.inj h1
    subst this
    exact List.mem_cons.mpr (Or.inl (Prod.ext e h3))
  · rw [List.getElem?_set_ne (Ne.symm e)] at h1
    refine List.mem_cons.mpr (Or.inr (List.mem_filter.mpr ⟨mm_lp_mem.mpr ⟨x, h1, ?_, h3⟩, ?_⟩))
    · revert h2
      unfold mm_vis
      split
      · exact id
      · by_cases e2 : q.1 + 1 = i
        · rw [e2, List.getElem?_set_self hi]
          revert hv
          unfold mm_c1
          split <;> simp_all
        · rw [List.getElem?_set_ne (Ne.symm e2)]; exact id
      · exact id
      · exact id
    · have hc : ¬ (q.1 + 1 = i ∧ q.2.category = 2) := by
        rintro ⟨e2, e3⟩
        rw [h3] at e3
        revert h2 e3
        unfold mm_vis mm_f
        split
        · intro _ q; simp [Value.category] at q
        · intro h2 _
          rw [e2, List.getElem?_set_self hi] at h2
          revert hv h2
          unfold mm_c1
          split <;> simp
        · intro _ q; simp [Value.category] at q
        · intro h2; cases h2
      have h4 : (q.1 == i) = false := by simpa using e
      rw [h4]
      by_cases e5 : q.1 + 1 = i
      · have e6 : ¬ q.2.category = 2 := fun z => hc ⟨e5, z⟩
        have h6 : (q.2.category == 2) = false := by simpa using e6
        rw [h6]; simp
      · have h6 : (q.1 + 1 == i) = false := by simpa using e5
        rw [h6]; simp
/-- a long is stored -/
theorem mm_LR_set2 {ad : Nat → Nat} {ls : List mm_V} {jls : Array Slot} {i : Nat} {n : Int} (h : lv_has jls ls.length ((i, mm_f ad (mm_j n)) :: (mm_lp ad ls).filter (fun q => !(q.1 == i) && (!(q.1 == i + 1) && !(q.1 + 1 == i && q.2.category == 2))))) (hi : i + 1 < ls.length) : mm_LR ad ((ls.set i (mm_j n)).set (i + 1) mm_u) jls := by
  refine mm_LR_sub h (by rw [List.length_set, List.length_set]) ?_
  intro q hq
  obtain ⟨x, h1, h2, h3⟩ := mm_lp_mem.mp hq
  have hi1 : i + 1 < (ls.set i (mm_j n)).length := by rw [List.length_set]; exact hi
  by_cases e1 : q.1 = i + 1
  · rw [e1, List.getElem?_set_self hi1] at h1
    have := Option.some.inj h1
    subst this
    cases h2
  · rw [List.getElem?_set_ne (Ne.symm e1)] at h1
    by_cases e : q.1 = i
    · rw [e, List.getElem?_set_self (by omega)] at h1
      have := Option.some.inj h1
      subst this
      exact List.mem_cons.mpr (Or.inl (Prod.ext e h3))
    · rw [List.getElem?_set_ne (Ne.symm e)] at h1
      refine List.mem_cons.mpr (Or.inr (List.mem_filter.mpr ⟨mm_lp_mem.mpr ⟨x, h1, ?_, h3⟩, ?_⟩))
      · revert h2
        unfold mm_vis
        split
        · exact id
        · by_cases e2 : q.1 + 1 = i
          · rw [List.getElem?_set_ne (by omega), e2, List.getElem?_set_self (by omega)]
            intro z; cases z
          · rw [List.getElem?_set_ne (by omega), List.getElem?_set_ne (by omega)]; exact id
        · exact id
        · exact id
      · have hc : ¬ (q.1 + 1 = i ∧ q.2.category = 2) := by
          rintro ⟨e2, e3⟩
          rw [h3] at e3
          revert h2 e3
          unfold mm_vis mm_f
          split
          · intro _ q; simp [Value.category] at q
          · intro h2 _
            rw [List.getElem?_set_ne (by omega), e2, List.getElem?_set_self (by omega)] at h2
            cases h2
          · intro _ q; simp [Value.category] at q
          · intro h2; cases h2
        have h4 : (q.1 == i) = false := by simpa using e
        have h5 : (q.1 == i + 1) = false := by simpa using e1
        rw [h4, h5]
        by_cases e5 : q.1 + 1 = i
        · have e6 : ¬ q.2.category = 2 := fun z => hc ⟨e5, z⟩
          have h6 : (q.2.category == 2) = false := by simpa using e6
          rw [h6]; simp
        · have h6 : (q.1 + 1 == i) = false := by simpa using e5
          rw [h6]; simp
/-! the world -/
def mm_fv (ad : Nat → Nat) (f : Nat → Int) (a : Nat) (k sp : Nat) : Value := if sp = 0 then .int (Int32.ofInt (f k)) else if sp = 1 then .ref (ad (f k).toNat) else .ref (ad (a + (sp - 2)))
def mm_cell (w : mm_W) (fsp : Nat → List Nat) (cs : ClassId × ClassId × ClassId × ClassId) (ad : Nat → Nat) (f : Nat → Int) (i : Nat) : va_E :=
  if (w i).1 = 0 then .inl (cs.1, (w i).2, .inl (fun j => Int32.ofInt (f j)))
  else if (w i).1 = 1 then .inl (cs.2.1, (w i).2, .inl (fun j => Int32.ofInt (f j)))
  else if (w i).1 = 2 then .inl (cs.2.2.1, (w i).2, .inr (.inr (.inr (.inr (fun j => some (ad (f j).toNat))))))
  else if (w i).1 = 3 then .inl (cs.2.2.2, (w i).2, .inr (.inr (.inr (.inr (fun j => some (ad (i + 1 + j)))))))
  else .inr ((w i).1 - 4, (fsp ((w i).1 - 4)).mapIdx (mm_fv ad f i))
def mm_wd (N : Nat) (w : mm_W) (fsp : Nat → List Nat) (cs : ClassId × ClassId × ClassId × ClassId) (ad : Nat → Nat) (h : mm_H) : va_W := (List.range N).map fun i => (ad i, mm_cell w fsp cs ad (h i) i)
section MMW
variable {N : Nat} {w : mm_W} {fsp : Nat → List Nat} {cs : ClassId × ClassId × ClassId × ClassId} {ad : Nat → Nat}
theorem mm_wd_at {h : mm_H} {i : Nat} (hi : i < N) : (mm_wd N w fsp cs ad h)[i]? = some (ad i, mm_cell w fsp cs ad (h i) i) := by
  unfold mm_wd
  rw [List.getElem?_map, List.getElem?_range hi]
  rfl
theorem mm_wd_of {h : mm_H} {i : Nat} {q : Nat × va_E} (e : (mm_wd N w fsp cs ad h)[i]? = some q) : i < N ∧ q = (ad i, mm_cell w fsp cs ad (h i) i) := by
  have hl := (List.getElem?_eq_some_iff.mp e).1
  have hi : i < N := by unfold mm_wd at hl; rw [List.length_map, List.length_range] at hl; exact hl
  rw [mm_wd_at hi] at e
  exact ⟨hi, (Option.some.inj e).symm⟩
theorem mm_wd_set {h : mm_H} {i : Nat} {g : Nat → Int} (hi : i < N) : (mm_wd N w fsp cs ad h).set i (ad i, mm_cell w fsp cs ad g i) = mm_wd N w fsp cs ad (mm_up h i g) := by
  apply List.ext_getElem?
  intro j
  by_cases e : j = i
  · subst e
    rw [List.getElem?_set_self (by unfold mm_wd; rw [List.length_map, List.length_range]; exact hi), mm_wd_at hi]
    simp [mm_up]
  · rw [List.getElem?_set_ne (Ne.symm e)]
    by_cases hj : j < N
    · rw [mm_wd_at hj, mm_wd_at hj]
      simp [mm_up, e]
    · have : ∀ h : mm_H, (mm_wd N w fsp cs ad h)[j]? = none := fun h => List.getElem?_eq_none (by unfold mm_wd; rw [List.length_map, List.length_range]; omega)
      rw [this, this]
theorem mm_wd_D {h h2 : mm_H} {A B : Nat → Prop} (hD : va_D B (mm_wd N w fsp cs ad h)) (hA : ∀ i, i < N → A (ad i)) : va_D A (mm_wd N w fsp cs ad h2) := by
  refine ⟨fun i j p q hi hj e => ?_, fun k q hk => ?_⟩
  · obtain ⟨h1, e1⟩ := mm_wd_of hi
    obtain ⟨h3, e3⟩ := mm_wd_of hj
    rw [e1, e3] at e
    exact hD.1 i j _ _ (mm_wd_at h1) (mm_wd_at h3) e
  · obtain ⟨h1, e1⟩ := mm_wd_of hk
    rw [e1]
    exact hA k h1
def mm_A (N : Nat) (ad : Nat → Nat) (sz : Nat) : Nat → Prop := fun q => (∃ i, i < N ∧ q = ad i) ∨ sz ≤ q
theorem mm_A_in {sz i : Nat} (hi : i < N) : mm_A N ad sz (ad i) := Or.inl ⟨i, hi, rfl⟩
theorem mm_cell0 {f : Nat → Int} {i : Nat} (e : (w i).1 = 0) : mm_cell w fsp cs ad f i = .inl (cs.1, (w i).2, .inl (fun j => Int32.ofInt (f j))) := if_pos e
theorem mm_cell1 {f : Nat → Int} {i : Nat} (e : (w i).1 = 1) : mm_cell w fsp cs ad f i = .inl (cs.2.1, (w i).2, .inl (fun j => Int32.ofInt (f j))) := by unfold mm_cell; rw [if_neg (by omega), if_pos e]
theorem mm_cell2 {f : Nat → Int} {i : Nat} (e : (w i).1 = 2) : mm_cell w fsp cs ad f i = .inl (cs.2.2.1, (w i).2, .inr (.inr (.inr (.inr (fun j => some (ad (f j).toNat)))))) := by unfold mm_cell; rw [if_neg (by omega), if_neg (by omega), if_pos e]
theorem mm_cell3 {f : Nat → Int} {i : Nat} (e : (w i).1 = 3) : mm_cell w fsp cs ad f i = .inl (cs.2.2.2, (w i).2, .inr (.inr (.inr (.inr (fun j => some (ad (i + 1 + j))))))) := by unfold mm_cell; rw [if_neg (by omega), if_neg (by omega), if_neg (by omega), if_pos e]
theorem mm_cell4 {f : Nat → Int} {i ci : Nat} (e : (w i).1 = ci + 4) : mm_cell w fsp cs ad f i = .inr (ci, (fsp ci).mapIdx (mm_fv ad f i)) := by
  unfold mm_cell
  rw [if_neg (by omega), if_neg (by omega), if_neg (by omega), if_neg (by omega), show (w i).1 - 4 = ci by omega]
theorem mm_fv_set {l : List Nat} {f : Nat → Int} {a k : Nat} {sp : Nat} {v : Int} {x : Value} (hk : l[k]? = some sp) (hx : mm_fv ad (mm_up f k v) a k sp = x) : (l.mapIdx (mm_fv ad f a)).set k x = l.mapIdx (mm_fv ad (mm_up f k v) a) := by
  have hl := (List.getElem?_eq_some_iff.mp hk).1
  apply List.ext_getElem?
  intro j
  by_cases e : j = k
  · subst e
    rw [List.getElem?_set_self (by rw [List.length_mapIdx]; exact hl), List.getElem?_mapIdx, hk, ← hx]
    rfl
  · rw [List.getElem?_set_ne (Ne.symm e), List.getElem?_mapIdx, List.getElem?_mapIdx]
    cases l[j]? with
    | none => rfl
    | some y => simp [mm_fv, mm_up, e]
theorem mm_upd_of (f : Nat → Int) (k : Nat) (v : Int) : upd (fun j => Int32.ofInt (f j)) k (Int32.ofInt v) = fun j => Int32.ofInt (mm_up f k v j) := by
  funext j
  unfold upd mm_up
  split <;> rfl
theorem mm_cpy_of (f g : Nat → Int) (sp dp n : Nat) : va_cpy (fun j => Int32.ofInt (f j)) (fun j => Int32.ofInt (g j)) sp dp n = fun j => Int32.ofInt (mm_cp f g sp dp n j) := by
  funext j
  unfold va_cpy mm_cp
  split <;> rfl
theorem mm_okH_up {h : mm_H} {a k : Nat} {v : Int} (hh : mm_okH h) (hv : mm_in v) : mm_okH (mm_st h a k v) := by
  intro b j
  unfold mm_st mm_up
  split
  · dsimp only
    split
    · exact hv
    · exact hh _ _
  · exact hh _ _
end MMW
def mm_ent (n : Nat) (as : List mm_V) : List mm_V := as ++ List.replicate (n - as.length) mm_u
abbrev mm_en (inf : Nat → mm_M) : Nat → List mm_V → List mm_V := fun y as => mm_ent (inf y).2.2.1 as
def mm_rm (r : Nat) : Room := { frames := r + 1, cells := 0, slots := 0, locals := 100 * (r + 1) }
def mm_ws (Ts : List Cond) (I : mm_M) : List Cond := .code I.1 I.2.1 I.2.2.1 I.2.2.2.1 :: Ts
def mm_Qc (D : va_G) (cl : List vw_C) (tys : List (ClassId × FieldType)) (N : Nat) (w : mm_W) (fsp : Nat → List Nat) (cs : ClassId × ClassId × ClassId × ClassId) (ad : Nat → Nat) (res : mm_R) (A : Nat → Prop) : Array Value → State → Outcome → State → Prop := fun _ st oc t => (oc = .returned (res.1.map (mm_f ad)) ∧ va_P D cl (mm_wd N w fsp cs ad res.2) t.heap ∧ va_K D cl tys t ∧ mm_okH res.2 ∧ mm_okS res.1.toList) ∧ va_F A st t
/-- a method's contract, for every run of it in the mini machine -/
def mm_Sp (l : Launch) (D : va_G) (cl : List vw_C) (tys : List (ClassId × FieldType)) (Ts : List Cond) (N : Nat) (w : mm_W) (fsp : Nat → List Nat) (cs : ClassId × ClassId × ClassId × ClassId) (ad : Nat → Nat) (inf : Nat → mm_M) (tab : Nat → Nat → mm_I) (y : Nat) : Prop := ∀ (as : List mm_V) (h : mm_H) (res : mm_R) (n : Nat), mm_run tab (mm_en inf) n y 0 (mm_en inf y as) [] h = some res → mm_okS as → mm_okH h → as.all mm_c1 = true → as.length ≤ (inf y).2.2.1 → ∀ sz : Nat, Met l (inf y).1 (mm_ws Ts (inf y)) (mm_rm (inf y).2.2.2.2) (va_Pc (as.map (mm_f ad)) (fun U => U.heap.size = sz ∧ va_P D cl (mm_wd N w fsp cs ad h) U.heap ∧ va_K D cl tys U ∧ va_D (fun _ => True) (mm_wd N w fsp cs ad h))) (mm_Qc D cl tys N w fsp cs ad res (mm_A N ad sz)) 0 0 (mm_A N ad sz)
/-- what holds in a method's body -/
def mm_Cx (D : va_G) (cl : List vw_C) (tys : List (ClassId × FieldType)) (Ts : List Cond) (N : Nat) (w : mm_W) (fsp : Nat → List Nat) (cs : ClassId × ClassId × ClassId × ClassId) (ad : Nat → Nat) (I : mm_M) (p : Program) (s : State) (m : MethodId) (args : Array Value) (meth : Method) (c : Code) : Prop :=
  p.tables.exec = Jvm.exec ∧ c.code = I.2.1 ∧ c.maxLocals = I.2.2.1 ∧ s.vm.findClass I.1.cls = some m.cls ∧ (∀ w ∈ mm_ws Ts I, w.before args s = true) ∧ meth.sig.returnType = I.2.2.2.1 ∧ meth.locks = false ∧ va_K D cl tys s ∧ (∀ h, va_D (mm_A N ad s.heap.size) (mm_wd N w fsp cs ad h))
/-- the goal at a place of the body -/
def mm_G (l : Launch) (D : va_G) (cl : List vw_C) (tys : List (ClassId × FieldType)) (N : Nat) (w : mm_W) (fsp : Nat → List Nat) (cs : ClassId × ClassId × ClassId × ClassId) (ad : Nat → Nat) (I : mm_M) (p : Program) (e : Env) (s : State) (m : MethodId) (args : Array Value) (below : List Frame) (meth : Method) (c : Code) (pc : Nat) (ls st : List mm_V) (h : mm_H) (res : mm_R) : Prop := ∀ (H : Heap) (locs : List Loc) (jls : Array Slot), va_P D cl (mm_wd N w fsp cs ad h) H → va_S (mm_A N ad s.heap.size) s.heap H locs → mm_okH h → mm_LR ad ls jls → ls.length = I.2.2.1 → mm_okS ls → mm_okS st → W p l e (mm_rm I.2.2.2.2) s m args below meth c H locs 0 0 (MQ below (mm_Qc D cl tys N w fsp cs ad res (mm_A N ad s.heap.size)) args s 0 0 (mm_A N ad s.heap.size)) (F0 m pc jls (st.map (mm_f ad)))
/-- an instruction is right -/
def mm_Ok (l : Launch) (D : va_G) (cl : List vw_C) (tys : List (ClassId × FieldType)) (Ts : List Cond) (N : Nat) (w : mm_W) (fsp : Nat → List Nat) (cs : ClassId × ClassId × ClassId × ClassId) (ad : Nat → Nat) (inf : Nat → mm_M) (tab : Nat → Nat → mm_I) (I : mm_M) (pc : Nat) (i : mm_I) : Prop := mm_sh i ∧ ∀ (p : Program) (e : Env) (s : State) (m : MethodId) (args : Array Value) (below : List Frame) (meth : Method) (c : Code), mm_Cx D cl tys Ts N w fsp cs ad I p s m args meth c → (∀ y, (inf y).2.2.2.2 < I.2.2.2.2 → mm_Sp l D cl tys Ts N w fsp cs ad inf tab y) → ∀ (J : Nat → mm_K) (C : mm_C), (∀ y as h r, C y as h = some r → ∃ n, mm_run tab (mm_en inf) n y 0 (mm_en inf y as) [] h = some r) → ∀ (ls st : List mm_V) (h : mm_H) (res : mm_R), i J C ls st h = some res → (∀ pc' ls' st' h', J pc' ls' st' h' = some res → mm_G l D cl tys N w fsp cs ad I p e s m args below meth c pc' ls' st' h' res) → mm_G l D cl tys N w fsp cs ad I p e s m args below meth c pc ls st h res
section MMO
variable {l : Launch} {D : va_G} {cl : List vw_C} {tys : List (ClassId × FieldType)} {Ts : List Cond} {N : Nat} {w : mm_W} {fsp : Nat → List Nat} {cs : ClassId × ClassId × ClassId × ClassId} {ad : Nat → Nat} {inf : Nat → mm_M} {tab : Nat → Nat → mm_I} {I : mm_M} {pc : Nat}
theorem ok_bad  : mm_Ok l D cl tys Ts N w fsp cs ad inf tab I pc (mi_bad) := by
  refine ⟨sh_bad, ?_⟩
  intro p e s m args below meth c hc hSp J C hC ls st h res er k H locs jls hP hS hH hL hn hls hst
  obtain ⟨hx, hb, hml, hown, hts, hr, hlk, hK, hDA⟩ := hc
  cases er
theorem ok_nd {b : Nat} {f g : Nat → mm_I} (hl : ∀ pc, mm_Ok l D cl tys Ts N w fsp cs ad inf tab I pc (f pc)) (hr : ∀ pc, mm_Ok l D cl tys Ts N w fsp cs ad inf tab I pc (g pc)) (pc : Nat) : mm_Ok l D cl tys Ts N w fsp cs ad inf tab I pc (mm_nd b f g pc) := by
  unfold mm_nd
  cases Nat.blt pc b
  · exact hr pc
  · exact hl pc
theorem ok_lf {k : Nat} {i : mm_I} (hi : mm_Ok l D cl tys Ts N w fsp cs ad inf tab I k i) (pc : Nat) : mm_Ok l D cl tys Ts N w fsp cs ad inf tab I pc (mm_lf k i pc) := by
  unfold mm_lf
  cases e : Nat.beq pc k
  · exact ok_bad
  · have := Nat.eq_of_beq_eq_true e
    subst this
    exact hi
theorem ok_iconst {n v : Int} (hd : decode I.2.1 pc = .ok (.iconst n, 1)) (hv : Int32.ofInt n = Int32.ofInt v) (hi : mm_in v) : mm_Ok l D cl tys Ts N w fsp cs ad inf tab I pc (mi_const v (pc + 1)) := by
  refine ⟨sh_const _ _, ?_⟩
  intro p e s m args below meth c hc hSp J C hC ls st h res er k H locs jls hP hS hH hL hn hls hst
  obtain ⟨hx, hb, hml, hown, hts, hr, hlk, hK, hDA⟩ := hc
  exact lv_iconst hx hb hd hv (k _ _ _ _ er H locs jls hP hS hH hL hn hls (mm_okS_c hi hst))
theorem ok_bipush {n v : Int} (hd : decode I.2.1 pc = .ok (.bipush n, 2)) (hv : (Int8.ofInt n).toInt32 = Int32.ofInt v) (hi : mm_in v) : mm_Ok l D cl tys Ts N w fsp cs ad inf tab I pc (mi_const v (pc + 2)) := by
  refine ⟨sh_const _ _, ?_⟩
  intro p e s m args below meth c hc hSp J C hC ls st h res er k H locs jls hP hS hH hL hn hls hst
  obtain ⟨hx, hb, hml, hown, hts, hr, hlk, hK, hDA⟩ := hc
  exact lv_bipush hx hb hd hv (k _ _ _ _ er H locs jls hP hS hH hL hn hls (mm_okS_c hi hst))
theorem ok_sipush {n v : Int} (hd : decode I.2.1 pc = .ok (.sipush n, 3)) (hv : (Int16.ofInt n).toInt32 = Int32.ofInt v) (hi : mm_in v) : mm_Ok l D cl tys Ts N w fsp cs ad inf tab I pc (mi_const v (pc + 3)) := by
  refine ⟨sh_const _ _, ?_⟩
  intro p e s m args below meth c hc hSp J C hC ls st h res er k H locs jls hP hS hH hL hn hls hst
  obtain ⟨hx, hb, hml, hown, hts, hr, hlk, hK, hDA⟩ := hc
  exact lv_sipush hx hb hd hv (k _ _ _ _ er H locs jls hP hS hH hL hn hls (mm_okS_c hi hst))
theorem ok_lconst {n : Fin 2} {v : Int} (hd : decode I.2.1 pc = .ok (.lconst n, 1)) (hv : Int64.ofNat (n : Nat) = Int64.ofInt v) (hi : mm_il v) : mm_Ok l D cl tys Ts N w fsp cs ad inf tab I pc (mi_lconst v (pc + 1)) := by
  refine ⟨sh_lconst _ _, ?_⟩
  intro p e s m args below meth c hc hSp J C hC ls st h res er k H locs jls hP hS hH hL hn hls hst
  obtain ⟨hx, hb, hml, hown, hts, hr, hlk, hK, hDA⟩ := hc
  exact lv_lconst hx hb hd hv (k _ _ _ _ er H locs jls hP hS hH hL hn hls (mm_okS_c hi hst))
theorem ok_ldc {ix : Nat} {v : Int} (hw : Cond.constant I.1.cls ix (Int32.ofInt v) ∈ Ts) (hd : decode I.2.1 pc = .ok (.ldc ix, 2)) (hi : mm_in v) : mm_Ok l D cl tys Ts N w fsp cs ad inf tab I pc (mi_const v (pc + 2)) := by
  refine ⟨sh_const _ _, ?_⟩
  intro p e s m args below meth c hc hSp J C hC ls st h res er k H locs jls hP hS hH hL hn hls hst
  obtain ⟨hx, hb, hml, hown, hts, hr, hlk, hK, hDA⟩ := hc
  exact lv_ldc hx hb hown (hts _ (List.mem_cons_of_mem _ hw)) hd (k _ _ _ _ er H locs jls hP hS hH hL hn hls (mm_okS_c hi hst))
theorem ok_ldcw {ix : Nat} {v : Int} (hw : Cond.constant I.1.cls ix (Int32.ofInt v) ∈ Ts) (hd : decode I.2.1 pc = .ok (.ldc_w ix, 3)) (hi : mm_in v) : mm_Ok l D cl tys Ts N w fsp cs ad inf tab I pc (mi_const v (pc + 3)) := by
  refine ⟨sh_const _ _, ?_⟩
  intro p e s m args below meth c hc hSp J C hC ls st h res er k H locs jls hP hS hH hL hn hls hst
  obtain ⟨hx, hb, hml, hown, hts, hr, hlk, hK, hDA⟩ := hc
  exact lv_ldcw hx hb hown (hts _ (List.mem_cons_of_mem _ hw)) hd (k _ _ _ _ er H locs jls hP hS hH hL hn hls (mm_okS_c hi hst))
theorem ok_ldc2 {ix : Nat} {v : Int} (hw : Cond.constantLong I.1.cls ix (Int64.ofInt v) ∈ Ts) (hd : decode I.2.1 pc = .ok (.ldc2_w ix, 3)) (hi : mm_il v) : mm_Ok l D cl tys Ts N w fsp cs ad inf tab I pc (mi_lconst v (pc + 3)) := by
  refine ⟨sh_lconst _ _, ?_⟩
  intro p e s m args below meth c hc hSp J C hC ls st h res er k H locs jls hP hS hH hL hn hls hst
  obtain ⟨hx, hb, hml, hown, hts, hr, hlk, hK, hDA⟩ := hc
  exact lv_ldc2 hx hb hown (hts _ (List.mem_cons_of_mem _ hw)) hd (k _ _ _ _ er H locs jls hP hS hH hL hn hls (mm_okS_c hi hst))
theorem ok_iload {i : Nat} (hd : decode I.2.1 pc = .ok (.iload i, 2)) : mm_Ok l D cl tys Ts N w fsp cs ad inf tab I pc (mi_iload i (pc + 2)) := by
  refine ⟨sh_iload _ _, ?_⟩
  intro p e s m args below meth c hc hSp J C hC ls st h res er k H locs jls hP hS hH hL hn hls hst
  obtain ⟨hx, hb, hml, hown, hts, hr, hlk, hK, hDA⟩ := hc
  unfold mi_iload at er
  split at er
  · rename_i n0 he
    refine lv_iload hx hb hd (mm_LR_at hL he rfl) ?_
    exact k _ _ _ _ er H locs jls hP hS hH hL hn hls (mm_okS_c (mm_okS_at (v := mm_i n0) hls he) hst)
  · cases er
theorem ok_iload_n {k0 : Fin 4} {i : Nat} (hd : decode I.2.1 pc = .ok (.iload_n k0, 1)) (hi : (k0 : Nat) = i) : mm_Ok l D cl tys Ts N w fsp cs ad inf tab I pc (mi_iload i (pc + 1)) := by
  refine ⟨sh_iload _ _, ?_⟩
  intro p e s m args below meth c hc hSp J C hC ls st h res er k H locs jls hP hS hH hL hn hls hst
  obtain ⟨hx, hb, hml, hown, hts, hr, hlk, hK, hDA⟩ := hc
  unfold mi_iload at er
  split at er
  · rename_i n0 he
    refine lv_iload_n hx hb hd hi (mm_LR_at hL he rfl) ?_
    exact k _ _ _ _ er H locs jls hP hS hH hL hn hls (mm_okS_c (mm_okS_at (v := mm_i n0) hls he) hst)
  · cases er
theorem ok_aload {i : Nat} (hd : decode I.2.1 pc = .ok (.aload i, 2)) : mm_Ok l D cl tys Ts N w fsp cs ad inf tab I pc (mi_aload i (pc + 2)) := by
  refine ⟨sh_aload _ _, ?_⟩
  intro p e s m args below meth c hc hSp J C hC ls st h res er k H locs jls hP hS hH hL hn hls hst
  obtain ⟨hx, hb, hml, hown, hts, hr, hlk, hK, hDA⟩ := hc
  unfold mi_aload at er
  split at er
  · rename_i n0 he
    refine lv_aload hx hb hd (mm_LR_at hL he rfl) ?_
    exact k _ _ _ _ er H locs jls hP hS hH hL hn hls (mm_okS_c (mm_okS_at (v := mm_r n0) hls he) hst)
  · cases er
theorem ok_aload_n {k0 : Fin 4} {i : Nat} (hd : decode I.2.1 pc = .ok (.aload_n k0, 1)) (hi : (k0 : Nat) = i) : mm_Ok l D cl tys Ts N w fsp cs ad inf tab I pc (mi_aload i (pc + 1)) := by
  refine ⟨sh_aload _ _, ?_⟩
  intro p e s m args below meth c hc hSp J C hC ls st h res er k H locs jls hP hS hH hL hn hls hst
  obtain ⟨hx, hb, hml, hown, hts, hr, hlk, hK, hDA⟩ := hc
  unfold mi_aload at er
  split at er
  · rename_i n0 he
    refine lv_aload_n hx hb hd hi (mm_LR_at hL he rfl) ?_
    exact k _ _ _ _ er H locs jls hP hS hH hL hn hls (mm_okS_c (mm_okS_at (v := mm_r n0) hls he) hst)
  · cases er
theorem ok_lload {i : Nat} (hd : decode I.2.1 pc = .ok (.lload i, 2)) : mm_Ok l D cl tys Ts N w fsp cs ad inf tab I pc (mi_lload i (pc + 2)) := by
  refine ⟨sh_lload _ _, ?_⟩
  intro p e s m args below meth c hc hSp J C hC ls st h res er k H locs jls hP hS hH hL hn hls hst
  obtain ⟨hx, hb, hml, hown, hts, hr, hlk, hK, hDA⟩ := hc
  unfold mi_lload at er
  split at er
  · rename_i n0 u0 he he2
    refine lv_lload hx hb hd (mm_LR_at hL he (by simp [mm_vis, he2])) ?_
    exact k _ _ _ _ er H locs jls hP hS hH hL hn hls (mm_okS_c (mm_okS_at (v := mm_j n0) hls he) hst)
  · cases er
theorem ok_lload_n {k0 : Fin 4} {i : Nat} (hd : decode I.2.1 pc = .ok (.lload_n k0, 1)) (hi : (k0 : Nat) = i) : mm_Ok l D cl tys Ts N w fsp cs ad inf tab I pc (mi_lload i (pc + 1)) := by
  refine ⟨sh_lload _ _, ?_⟩
  intro p e s m args below meth c hc hSp J C hC ls st h res er k H locs jls hP hS hH hL hn hls hst
  obtain ⟨hx, hb, hml, hown, hts, hr, hlk, hK, hDA⟩ := hc
  unfold mi_lload at er
  split at er
  · rename_i n0 u0 he he2
    refine lv_lload_n hx hb hd hi (mm_LR_at hL he (by simp [mm_vis, he2])) ?_
    exact k _ _ _ _ er H locs jls hP hS hH hL hn hls (mm_okS_c (mm_okS_at (v := mm_j n0) hls he) hst)
  · cases er
theorem ok_istore {i : Nat} (hd : decode I.2.1 pc = .ok (.istore i, 2)) (hb0 : i < I.2.2.1) : mm_Ok l D cl tys Ts N w fsp cs ad inf tab I pc (mi_istore i (pc + 2)) := by
  refine ⟨sh_istore _ _, ?_⟩
  intro p e s m args below meth c hc hSp J C hC ls st h res er k H locs jls hP hS hH hL hn hls hst
  obtain ⟨hx, hb, hml, hown, hts, hr, hlk, hK, hDA⟩ := hc
  unfold mi_istore at er
  split at er
  · rename_i n0 st
    refine lv_istore hx hb hd hL (by omega) rfl (fun jls2 hL2 => ?_)
    exact k _ _ _ _ er H locs jls2 hP hS hH (mm_LR_set (v := mm_i n0) rfl hL2 (by omega)) (by rw [List.length_set]; exact hn) (mm_okS_set (mm_okS_h hst) hls) (mm_okS_t hst)
  · cases er
theorem ok_istore_n {k0 : Fin 4} {i : Nat} (hd : decode I.2.1 pc = .ok (.istore_n k0, 1)) (hi : (k0 : Nat) = i) (hb0 : i < I.2.2.1) : mm_Ok l D cl tys Ts N w fsp cs ad inf tab I pc (mi_istore i (pc + 1)) := by
  refine ⟨sh_istore _ _, ?_⟩
  intro p e s m args below meth c hc hSp J C hC ls st h res er k H locs jls hP hS hH hL hn hls hst
  obtain ⟨hx, hb, hml, hown, hts, hr, hlk, hK, hDA⟩ := hc
  unfold mi_istore at er
  split at er
  · rename_i n0 st
    refine lv_istore_n hx hb hd hi hL (by omega) rfl (fun jls2 hL2 => ?_)
    exact k _ _ _ _ er H locs jls2 hP hS hH (mm_LR_set (v := mm_i n0) rfl hL2 (by omega)) (by rw [List.length_set]; exact hn) (mm_okS_set (mm_okS_h hst) hls) (mm_okS_t hst)
  · cases er
theorem ok_astore {i : Nat} (hd : decode I.2.1 pc = .ok (.astore i, 2)) (hb0 : i < I.2.2.1) : mm_Ok l D cl tys Ts N w fsp cs ad inf tab I pc (mi_astore i (pc + 2)) := by
  refine ⟨sh_astore _ _, ?_⟩
  intro p e s m args below meth c hc hSp J C hC ls st h res er k H locs jls hP hS hH hL hn hls hst
  obtain ⟨hx, hb, hml, hown, hts, hr, hlk, hK, hDA⟩ := hc
  unfold mi_astore at er
  split at er
  · rename_i n0 st
    refine lv_astore hx hb hd hL (by omega) rfl (fun jls2 hL2 => ?_)
    exact k _ _ _ _ er H locs jls2 hP hS hH (mm_LR_set (v := mm_r n0) rfl hL2 (by omega)) (by rw [List.length_set]; exact hn) (mm_okS_set (mm_okS_h hst) hls) (mm_okS_t hst)
  · cases er
theorem ok_astore_n {k0 : Fin 4} {i : Nat} (hd : decode I.2.1 pc = .ok (.astore_n k0, 1)) (hi : (k0 : Nat) = i) (hb0 : i < I.2.2.1) : mm_Ok l D cl tys Ts N w fsp cs ad inf tab I pc (mi_astore i (pc + 1)) := by
  refine ⟨sh_astore _ _, ?_⟩
  intro p e s m args below meth c hc hSp J C hC ls st h res er k H locs jls hP hS hH hL hn hls hst
  obtain ⟨hx, hb, hml, hown, hts, hr, hlk, hK, hDA⟩ := hc
  unfold mi_astore at er
  split at er
  · rename_i n0 st
    refine lv_astore_n hx hb hd hi hL (by omega) rfl (fun jls2 hL2 => ?_)
    exact k _ _ _ _ er H locs jls2 hP hS hH (mm_LR_set (v := mm_r n0) rfl hL2 (by omega)) (by rw [List.length_set]; exact hn) (mm_okS_set (mm_okS_h hst) hls) (mm_okS_t hst)
  · cases er
theorem ok_lstore {i : Nat} (hd : decode I.2.1 pc = .ok (.lstore i, 2)) (hb0 : i + 1 < I.2.2.1) : mm_Ok l D cl tys Ts N w fsp cs ad inf tab I pc (mi_lstore i (pc + 2)) := by
  refine ⟨sh_lstore _ _, ?_⟩
  intro p e s m args below meth c hc hSp J C hC ls st h res er k H locs jls hP hS hH hL hn hls hst
  obtain ⟨hx, hb, hml, hown, hts, hr, hlk, hK, hDA⟩ := hc
  unfold mi_lstore at er
  split at er
  · rename_i n0 st
    refine lv_lstore hx hb hd hL (by omega) rfl (fun jls2 hL2 => ?_)
    exact k _ _ _ _ er H locs jls2 hP hS hH (mm_LR_set2 hL2 (by omega)) (by rw [List.length_set, List.length_set]; exact hn) (mm_okS_set trivial (mm_okS_set (mm_okS_h hst) hls)) (mm_okS_t hst)
  · cases er
theorem ok_lstore_n {k0 : Fin 4} {i : Nat} (hd : decode I.2.1 pc = .ok (.lstore_n k0, 1)) (hi : (k0 : Nat) = i) (hb0 : i + 1 < I.2.2.1) : mm_Ok l D cl tys Ts N w fsp cs ad inf tab I pc (mi_lstore i (pc + 1)) := by
  refine ⟨sh_lstore _ _, ?_⟩
  intro p e s m args below meth c hc hSp J C hC ls st h res er k H locs jls hP hS hH hL hn hls hst
  obtain ⟨hx, hb, hml, hown, hts, hr, hlk, hK, hDA⟩ := hc
  unfold mi_lstore at er
  split at er
  · rename_i n0 st
    refine lv_lstore_n hx hb hd hi hL (by omega) rfl (fun jls2 hL2 => ?_)
    exact k _ _ _ _ er H locs jls2 hP hS hH (mm_LR_set2 hL2 (by omega)) (by rw [List.length_set, List.length_set]; exact hn) (mm_okS_set trivial (mm_okS_set (mm_okS_h hst) hls)) (mm_okS_t hst)
  · cases er
theorem ok_iinc {i : Nat} {n v : Int} (hd : decode I.2.1 pc = .ok (.iinc i n, 3)) (hv : Int32.ofInt n = Int32.ofInt v) (hb0 : i < I.2.2.1) : mm_Ok l D cl tys Ts N w fsp cs ad inf tab I pc (mi_iinc i v (pc + 3)) := by
  refine ⟨sh_iinc _ _ _, ?_⟩
  intro p e s m args below meth c hc hSp J C hC ls st h res er k H locs jls hP hS hH hL hn hls hst
  obtain ⟨hx, hb, hml, hown, hts, hr, hlk, hK, hDA⟩ := hc
  unfold mi_iinc at er
  split at er
  · rename_i n0 he
    obtain ⟨k1, hk1⟩ := List.getElem?_of_mem (mm_lp_mem (ad := ad) (q := (i, mm_f ad (mm_i n0))) |>.mpr ⟨_, he, rfl, rfl⟩)
    refine lv_iinc (v := Int32.ofInt (mm_wr (n0 + v))) hx hb hd hL hk1 (by rw [hv]; exact mm_e_add n0 v) (by omega) rfl (fun jls2 hL2 => ?_)
    exact k _ _ _ _ er H locs jls2 hP hS hH (mm_LR_set (v := mm_i (mm_wr (n0 + v))) rfl hL2 (by omega)) (by rw [List.length_set]; exact hn) (mm_okS_set (mm_wr_in _) hls) hst
  · cases er
theorem ok_iadd (hd : decode I.2.1 pc = .ok (.iadd, 1)) : mm_Ok l D cl tys Ts N w fsp cs ad inf tab I pc (mi_bin mm_add (pc + 1)) := by
  refine ⟨sh_bin _ _, ?_⟩
  intro p e s m args below meth c hc hSp J C hC ls st h res er k H locs jls hP hS hH hL hn hls hst
  obtain ⟨hx, hb, hml, hown, hts, hr, hlk, hK, hDA⟩ := hc
  unfold mi_bin at er
  split at er
  · rename_i b a st
    have hb1 : mm_in b := mm_okS_h hst
    have ha1 : mm_in a := mm_okS_h (mm_okS_t hst)
    refine lv_iadd hx hb hd ?_
    rw [mm_e_add]
    exact k _ _ _ _ er H locs jls hP hS hH hL hn hls (mm_okS_c (v := mm_i _) (mm_wr_in _) (mm_okS_t (mm_okS_t hst)))
  · cases er
theorem ok_isub (hd : decode I.2.1 pc = .ok (.isub, 1)) : mm_Ok l D cl tys Ts N w fsp cs ad inf tab I pc (mi_bin mm_sub (pc + 1)) := by
  refine ⟨sh_bin _ _, ?_⟩
  intro p e s m args below meth c hc hSp J C hC ls st h res er k H locs jls hP hS hH hL hn hls hst
  obtain ⟨hx, hb, hml, hown, hts, hr, hlk, hK, hDA⟩ := hc
  unfold mi_bin at er
  split at er
  · rename_i b a st
    have hb1 : mm_in b := mm_okS_h hst
    have ha1 : mm_in a := mm_okS_h (mm_okS_t hst)
    refine lv_isub hx hb hd ?_
    rw [mm_e_sub]
    exact k _ _ _ _ er H locs jls hP hS hH hL hn hls (mm_okS_c (v := mm_i _) (mm_wr_in _) (mm_okS_t (mm_okS_t hst)))
  · cases er
theorem ok_imul (hd : decode I.2.1 pc = .ok (.imul, 1)) : mm_Ok l D cl tys Ts N w fsp cs ad inf tab I pc (mi_bin mm_mul (pc + 1)) := by
  refine ⟨sh_bin _ _, ?_⟩
  intro p e s m args below meth c hc hSp J C hC ls st h res er k H locs jls hP hS hH hL hn hls hst
  obtain ⟨hx, hb, hml, hown, hts, hr, hlk, hK, hDA⟩ := hc
  unfold mi_bin at er
  split at er
  · rename_i b a st
    have hb1 : mm_in b := mm_okS_h hst
    have ha1 : mm_in a := mm_okS_h (mm_okS_t hst)
    refine lv_imul hx hb hd ?_
    rw [mm_e_mul]
    exact k _ _ _ _ er H locs jls hP hS hH hL hn hls (mm_okS_c (v := mm_i _) (mm_wr_in _) (mm_okS_t (mm_okS_t hst)))
  · cases er
theorem ok_iand (hd : decode I.2.1 pc = .ok (.iand, 1)) : mm_Ok l D cl tys Ts N w fsp cs ad inf tab I pc (mi_bin mm_and (pc + 1)) := by
  refine ⟨sh_bin _ _, ?_⟩
  intro p e s m args below meth c hc hSp J C hC ls st h res er k H locs jls hP hS hH hL hn hls hst
  obtain ⟨hx, hb, hml, hown, hts, hr, hlk, hK, hDA⟩ := hc
  unfold mi_bin at er
  split at er
  · rename_i b a st
    have hb1 : mm_in b := mm_okS_h hst
    have ha1 : mm_in a := mm_okS_h (mm_okS_t hst)
    refine lv_iand hx hb hd ?_
    rw [mm_e_and]
    exact k _ _ _ _ er H locs jls hP hS hH hL hn hls (mm_okS_c (v := mm_i _) (mm_toI _) (mm_okS_t (mm_okS_t hst)))
  · cases er
theorem ok_ior (hd : decode I.2.1 pc = .ok (.ior, 1)) : mm_Ok l D cl tys Ts N w fsp cs ad inf tab I pc (mi_bin mm_or (pc + 1)) := by
  refine ⟨sh_bin _ _, ?_⟩
  intro p e s m args below meth c hc hSp J C hC ls st h res er k H locs jls hP hS hH hL hn hls hst
  obtain ⟨hx, hb, hml, hown, hts, hr, hlk, hK, hDA⟩ := hc
  unfold mi_bin at er
  split at er
  · rename_i b a st
    have hb1 : mm_in b := mm_okS_h hst
    have ha1 : mm_in a := mm_okS_h (mm_okS_t hst)
    refine lv_ior hx hb hd ?_
    rw [mm_e_or]
    exact k _ _ _ _ er H locs jls hP hS hH hL hn hls (mm_okS_c (v := mm_i _) (mm_toI _) (mm_okS_t (mm_okS_t hst)))
  · cases er
theorem ok_ixor (hd : decode I.2.1 pc = .ok (.ixor, 1)) : mm_Ok l D cl tys Ts N w fsp cs ad inf tab I pc (mi_bin mm_xor (pc + 1)) := by
  refine ⟨sh_bin _ _, ?_⟩
  intro p e s m args below meth c hc hSp J C hC ls st h res er k H locs jls hP hS hH hL hn hls hst
  obtain ⟨hx, hb, hml, hown, hts, hr, hlk, hK, hDA⟩ := hc
  unfold mi_bin at er
  split at er
  · rename_i b a st
    have hb1 : mm_in b := mm_okS_h hst
    have ha1 : mm_in a := mm_okS_h (mm_okS_t hst)
    refine lv_ixor hx hb hd ?_
    rw [mm_e_xor]
    exact k _ _ _ _ er H locs jls hP hS hH hL hn hls (mm_okS_c (v := mm_i _) (mm_toI _) (mm_okS_t (mm_okS_t hst)))
  · cases er
theorem ok_ishl (hd : decode I.2.1 pc = .ok (.ishl, 1)) : mm_Ok l D cl tys Ts N w fsp cs ad inf tab I pc (mi_bin mm_shl (pc + 1)) := by
  refine ⟨sh_bin _ _, ?_⟩
  intro p e s m args below meth c hc hSp J C hC ls st h res er k H locs jls hP hS hH hL hn hls hst
  obtain ⟨hx, hb, hml, hown, hts, hr, hlk, hK, hDA⟩ := hc
  unfold mi_bin at er
  split at er
  · rename_i b a st
    have hb1 : mm_in b := mm_okS_h hst
    have ha1 : mm_in a := mm_okS_h (mm_okS_t hst)
    refine lv_ishl hx hb hd ?_
    rw [mm_e_shl]
    exact k _ _ _ _ er H locs jls hP hS hH hL hn hls (mm_okS_c (v := mm_i _) (mm_toI _) (mm_okS_t (mm_okS_t hst)))
  · cases er
theorem ok_ishr (hd : decode I.2.1 pc = .ok (.ishr, 1)) : mm_Ok l D cl tys Ts N w fsp cs ad inf tab I pc (mi_bin mm_shr (pc + 1)) := by
  refine ⟨sh_bin _ _, ?_⟩
  intro p e s m args below meth c hc hSp J C hC ls st h res er k H locs jls hP hS hH hL hn hls hst
  obtain ⟨hx, hb, hml, hown, hts, hr, hlk, hK, hDA⟩ := hc
  unfold mi_bin at er
  split at er
  · rename_i b a st
    have hb1 : mm_in b := mm_okS_h hst
    have ha1 : mm_in a := mm_okS_h (mm_okS_t hst)
    refine lv_ishr hx hb hd ?_
    rw [mm_e_shr]
    exact k _ _ _ _ er H locs jls hP hS hH hL hn hls (mm_okS_c (v := mm_i _) (mm_toI _) (mm_okS_t (mm_okS_t hst)))
  · cases er
theorem ok_iushr (hd : decode I.2.1 pc = .ok (.iushr, 1)) : mm_Ok l D cl tys Ts N w fsp cs ad inf tab I pc (mi_bin mm_ush (pc + 1)) := by
  refine ⟨sh_bin _ _, ?_⟩
  intro p e s m args below meth c hc hSp J C hC ls st h res er k H locs jls hP hS hH hL hn hls hst
  obtain ⟨hx, hb, hml, hown, hts, hr, hlk, hK, hDA⟩ := hc
  unfold mi_bin at er
  split at er
  · rename_i b a st
    refine lv_iushr hx hb hd (mm_e_ush a b) ?_
    exact k _ _ _ _ er H locs jls hP hS hH hL hn hls (mm_okS_c (v := mm_i _) (mm_toI _) (mm_okS_t (mm_okS_t hst)))
  · cases er
theorem ok_ladd (hd : decode I.2.1 pc = .ok (.ladd, 1)) : mm_Ok l D cl tys Ts N w fsp cs ad inf tab I pc (mi_lbin mm_ladd (pc + 1)) := by
  refine ⟨sh_lbin _ _, ?_⟩
  intro p e s m args below meth c hc hSp J C hC ls st h res er k H locs jls hP hS hH hL hn hls hst
  obtain ⟨hx, hb, hml, hown, hts, hr, hlk, hK, hDA⟩ := hc
  unfold mi_lbin at er
  split at er
  · rename_i b a st
    refine lv_ladd hx hb hd ?_
    rw [mm_e_ladd]
    exact k _ _ _ _ er H locs jls hP hS hH hL hn hls (mm_okS_c (v := mm_j _) (mm_wl_in _) (mm_okS_t (mm_okS_t hst)))
  · cases er
theorem ok_lmul (hd : decode I.2.1 pc = .ok (.lmul, 1)) : mm_Ok l D cl tys Ts N w fsp cs ad inf tab I pc (mi_lbin mm_lmul (pc + 1)) := by
  refine ⟨sh_lbin _ _, ?_⟩
  intro p e s m args below meth c hc hSp J C hC ls st h res er k H locs jls hP hS hH hL hn hls hst
  obtain ⟨hx, hb, hml, hown, hts, hr, hlk, hK, hDA⟩ := hc
  unfold mi_lbin at er
  split at er
  · rename_i b a st
    refine lv_lmul hx hb hd ?_
    rw [mm_e_lmul]
    exact k _ _ _ _ er H locs jls hP hS hH hL hn hls (mm_okS_c (v := mm_j _) (mm_wl_in _) (mm_okS_t (mm_okS_t hst)))
  · cases er
theorem ok_idiv (hd : decode I.2.1 pc = .ok (.idiv, 1)) : mm_Ok l D cl tys Ts N w fsp cs ad inf tab I pc (mi_div (pc + 1)) := by
  refine ⟨sh_div _, ?_⟩
  intro p e s m args below meth c hc hSp J C hC ls st h res er k H locs jls hP hS hH hL hn hls hst
  obtain ⟨hx, hb, hml, hown, hts, hr, hlk, hK, hDA⟩ := hc
  unfold mi_div at er
  split at er
  · rename_i b a st
    split at er
    · cases er
    · rename_i hz
      have hb1 : mm_in b := mm_okS_h hst
      have ha1 : mm_in a := mm_okS_h (mm_okS_t hst)
      refine lv_idiv hx hb hd (fun q => hz ((mm_eq hb1 mm_z_in).mp (q.trans mm_z))) ?_
      rw [mm_e_div ha1 hb1]
      exact k _ _ _ _ er H locs jls hP hS hH hL hn hls (mm_okS_c (v := mm_i _) (mm_wr_in _) (mm_okS_t (mm_okS_t hst)))
  · cases er
theorem ok_irem (hd : decode I.2.1 pc = .ok (.irem, 1)) : mm_Ok l D cl tys Ts N w fsp cs ad inf tab I pc (mi_rem (pc + 1)) := by
  refine ⟨sh_rem _, ?_⟩
  intro p e s m args below meth c hc hSp J C hC ls st h res er k H locs jls hP hS hH hL hn hls hst
  obtain ⟨hx, hb, hml, hown, hts, hr, hlk, hK, hDA⟩ := hc
  unfold mi_rem at er
  split at er
  · rename_i b a st
    split at er
    · cases er
    · rename_i hz
      have hb1 : mm_in b := mm_okS_h hst
      have ha1 : mm_in a := mm_okS_h (mm_okS_t hst)
      refine lv_irem hx hb hd (fun q => hz ((mm_eq hb1 mm_z_in).mp (q.trans mm_z))) ?_
      rw [mm_e_rem ha1 hb1]
      exact k _ _ _ _ er H locs jls hP hS hH hL hn hls (mm_okS_c (v := mm_i _) (mm_rem_in ha1) (mm_okS_t (mm_okS_t hst)))
  · cases er
theorem ok_lrem (hd : decode I.2.1 pc = .ok (.lrem, 1)) : mm_Ok l D cl tys Ts N w fsp cs ad inf tab I pc (mi_lrem (pc + 1)) := by
  refine ⟨sh_lrem _, ?_⟩
  intro p e s m args below meth c hc hSp J C hC ls st h res er k H locs jls hP hS hH hL hn hls hst
  obtain ⟨hx, hb, hml, hown, hts, hr, hlk, hK, hDA⟩ := hc
  unfold mi_lrem at er
  split at er
  · rename_i b a st
    split at er
    · cases er
    · rename_i hz
      have hb1 : mm_il b := mm_okS_h hst
      have ha1 : mm_il a := mm_okS_h (mm_okS_t hst)
      refine lv_lrem hx hb hd (fun q => hz ((mm_eql hb1 mm_z_il).mp (q.trans mm_zl))) ?_
      rw [mm_e_lrem ha1 hb1]
      exact k _ _ _ _ er H locs jls hP hS hH hL hn hls (mm_okS_c (v := mm_j _) (mm_lrem_il ha1) (mm_okS_t (mm_okS_t hst)))
  · cases er
theorem ok_ineg (hd : decode I.2.1 pc = .ok (.ineg, 1)) : mm_Ok l D cl tys Ts N w fsp cs ad inf tab I pc (mi_neg (pc + 1)) := by
  refine ⟨sh_neg _, ?_⟩
  intro p e s m args below meth c hc hSp J C hC ls st h res er k H locs jls hP hS hH hL hn hls hst
  obtain ⟨hx, hb, hml, hown, hts, hr, hlk, hK, hDA⟩ := hc
  unfold mi_neg at er
  split at er
  · rename_i a st
    refine lv_ineg hx hb hd ?_
    rw [mm_e_neg]
    exact k _ _ _ _ er H locs jls hP hS hH hL hn hls (mm_okS_c (v := mm_i _) (mm_wr_in _) (mm_okS_t hst))
  · cases er
theorem ok_i2l (hd : decode I.2.1 pc = .ok (.i2l, 1)) : mm_Ok l D cl tys Ts N w fsp cs ad inf tab I pc (mi_i2l (pc + 1)) := by
  refine ⟨sh_i2l _, ?_⟩
  intro p e s m args below meth c hc hSp J C hC ls st h res er k H locs jls hP hS hH hL hn hls hst
  obtain ⟨hx, hb, hml, hown, hts, hr, hlk, hK, hDA⟩ := hc
  unfold mi_i2l at er
  split at er
  · rename_i a st
    refine lv_i2l hx hb hd (mm_e_i2l (mm_okS_h hst)) ?_
    exact k _ _ _ _ er H locs jls hP hS hH hL hn hls (mm_okS_c (v := mm_j _) (mm_in_l (mm_okS_h hst)) (mm_okS_t hst))
  · cases er
theorem ok_l2i (hd : decode I.2.1 pc = .ok (.l2i, 1)) : mm_Ok l D cl tys Ts N w fsp cs ad inf tab I pc (mi_l2i (pc + 1)) := by
  refine ⟨sh_l2i _, ?_⟩
  intro p e s m args below meth c hc hSp J C hC ls st h res er k H locs jls hP hS hH hL hn hls hst
  obtain ⟨hx, hb, hml, hown, hts, hr, hlk, hK, hDA⟩ := hc
  unfold mi_l2i at er
  split at er
  · rename_i a st
    refine lv_l2i hx hb hd (mm_e_l2i _) ?_
    exact k _ _ _ _ er H locs jls hP hS hH hL hn hls (mm_okS_c (v := mm_i _) (mm_wr_in _) (mm_okS_t hst))
  · cases er
theorem ok_i2c (hd : decode I.2.1 pc = .ok (.i2c, 1)) : mm_Ok l D cl tys Ts N w fsp cs ad inf tab I pc (mi_i2c (pc + 1)) := by
  refine ⟨sh_i2c _, ?_⟩
  intro p e s m args below meth c hc hSp J C hC ls st h res er k H locs jls hP hS hH hL hn hls hst
  obtain ⟨hx, hb, hml, hown, hts, hr, hlk, hK, hDA⟩ := hc
  unfold mi_i2c at er
  split at er
  · rename_i a st
    refine lv_i2c hx hb hd (mm_e_i2c (mm_okS_h hst)) ?_
    exact k _ _ _ _ er H locs jls hP hS hH hL hn hls (mm_okS_c (v := mm_i _) (mm_i2c_in _) (mm_okS_t hst))
  · cases er
theorem ok_dup (hd : decode I.2.1 pc = .ok (.dup, 1)) : mm_Ok l D cl tys Ts N w fsp cs ad inf tab I pc (mi_dup (pc + 1)) := by
  refine ⟨sh_dup _, ?_⟩
  intro p e s m args below meth c hc hSp J C hC ls st h res er k H locs jls hP hS hH hL hn hls hst
  obtain ⟨hx, hb, hml, hown, hts, hr, hlk, hK, hDA⟩ := hc
  unfold mi_dup at er
  split at er
  · rename_i a st
    refine lv_dup hx hb hd rfl ?_
    exact k _ _ _ _ er H locs jls hP hS hH hL hn hls (mm_okS_c (mm_okS_h hst) hst)
  · rename_i a st
    refine lv_dup hx hb hd rfl ?_
    exact k _ _ _ _ er H locs jls hP hS hH hL hn hls (mm_okS_c (mm_okS_h hst) hst)
  · cases er
theorem ok_dup2 (hd : decode I.2.1 pc = .ok (.dup2, 1)) : mm_Ok l D cl tys Ts N w fsp cs ad inf tab I pc (mi_dup2 (pc + 1)) := by
  refine ⟨sh_dup2 _, ?_⟩
  intro p e s m args below meth c hc hSp J C hC ls st h res er k H locs jls hP hS hH hL hn hls hst
  obtain ⟨hx, hb, hml, hown, hts, hr, hlk, hK, hDA⟩ := hc
  unfold mi_dup2 at er
  split at er
  · rename_i a b st
    refine lv_dup2_11 hx hb hd rfl rfl ?_
    exact k _ _ _ _ er H locs jls hP hS hH hL hn hls (mm_okS_c (mm_okS_h hst) (mm_okS_c (mm_okS_h (mm_okS_t hst)) hst))
  · cases er
theorem ok_pop (hd : decode I.2.1 pc = .ok (.pop, 1)) : mm_Ok l D cl tys Ts N w fsp cs ad inf tab I pc (mi_pop (pc + 1)) := by
  refine ⟨sh_pop _, ?_⟩
  intro p e s m args below meth c hc hSp J C hC ls st h res er k H locs jls hP hS hH hL hn hls hst
  obtain ⟨hx, hb, hml, hown, hts, hr, hlk, hK, hDA⟩ := hc
  unfold mi_pop at er
  split at er
  · rename_i a st
    refine lv_pop hx hb hd rfl ?_
    exact k _ _ _ _ er H locs jls hP hS hH hL hn hls (mm_okS_t hst)
  · rename_i a st
    refine lv_pop hx hb hd rfl ?_
    exact k _ _ _ _ er H locs jls hP hS hH hL hn hls (mm_okS_t hst)
  · cases er
theorem ok_goto {off : Int} {tg : Nat} (hd : decode I.2.1 pc = .ok (.goto off, 3)) (ht : (pc : Int) + off = (tg : Int)) : mm_Ok l D cl tys Ts N w fsp cs ad inf tab I pc (mi_goto tg) := by
  refine ⟨sh_goto _, ?_⟩
  intro p e s m args below meth c hc hSp J C hC ls st h res er k H locs jls hP hS hH hL hn hls hst
  obtain ⟨hx, hb, hml, hown, hts, hr, hlk, hK, hDA⟩ := hc
  exact lv_goto hx hb hd ht (k _ _ _ _ er H locs jls hP hS hH hL hn hls hst)
theorem ok_ifeq {off : Int} {tg : Nat} (hd : decode I.2.1 pc = .ok (.ifCond .eq off, 3)) (ht : (pc : Int) + off = (tg : Int)) : mm_Ok l D cl tys Ts N w fsp cs ad inf tab I pc (mi_ifeq tg (pc + 3)) := by
  refine ⟨sh_ifeq _ _, ?_⟩
  intro p e s m args below meth c hc hSp J C hC ls st h res er k H locs jls hP hS hH hL hn hls hst
  obtain ⟨hx, hb, hml, hown, hts, hr, hlk, hK, hDA⟩ := hc
  unfold mi_ifeq at er
  split at er
  · rename_i a st
    have ha1 : mm_in a := mm_okS_h hst
    have E0 : (Int32.ofInt a = 0) = (a = 0) := propext (by rw [mm_z]; exact mm_eq ha1 mm_z_in)
    have E1 : (Int32.ofInt a < 0) = (a < 0) := propext (by rw [mm_z]; exact mm_lt ha1 mm_z_in)
    have E2 : (0 ≤ Int32.ofInt a) = (0 ≤ a) := propext (by rw [mm_z]; exact mm_le mm_z_in ha1)
    have E3 : (0 < Int32.ofInt a) = (0 < a) := propext (by rw [mm_z]; exact mm_lt mm_z_in ha1)
    have E4 : (Int32.ofInt a ≤ 0) = (a ≤ 0) := propext (by rw [mm_z]; exact mm_le ha1 mm_z_in)
    refine lv_if_eq hx hb hd ht (fun q => ?_) (fun q => ?_)
    all_goals
      simp only [E0, E1, E2, E3, E4, ne_eq] at q
      split at er
      all_goals first | (exfalso; omega) | exact k _ _ _ _ er H locs jls hP hS hH hL hn hls (mm_okS_t hst)
  · cases er
theorem ok_cmpeq {off : Int} {tg : Nat} (hd : decode I.2.1 pc = .ok (.if_icmp .eq off, 3)) (ht : (pc : Int) + off = (tg : Int)) : mm_Ok l D cl tys Ts N w fsp cs ad inf tab I pc (mi_cmpeq tg (pc + 3)) := by
  refine ⟨sh_cmpeq _ _, ?_⟩
  intro p e s m args below meth c hc hSp J C hC ls st h res er k H locs jls hP hS hH hL hn hls hst
  obtain ⟨hx, hb, hml, hown, hts, hr, hlk, hK, hDA⟩ := hc
  unfold mi_cmpeq at er
  split at er
  · rename_i b a st
    have hb1 : mm_in b := mm_okS_h hst
    have ha1 : mm_in a := mm_okS_h (mm_okS_t hst)
    have E0 : (Int32.ofInt a = Int32.ofInt b) = (a = b) := propext (mm_eq ha1 hb1)
    have E1 : (Int32.ofInt a < Int32.ofInt b) = (a < b) := propext (mm_lt ha1 hb1)
    have E2 : (Int32.ofInt b ≤ Int32.ofInt a) = (b ≤ a) := propext (mm_le hb1 ha1)
    have E3 : (Int32.ofInt b < Int32.ofInt a) = (b < a) := propext (mm_lt hb1 ha1)
    have E4 : (Int32.ofInt a ≤ Int32.ofInt b) = (a ≤ b) := propext (mm_le ha1 hb1)
    refine lv_icmp_eq hx hb hd ht (fun q => ?_) (fun q => ?_)
    all_goals
      simp only [E0, E1, E2, E3, E4, ne_eq] at q
      split at er
      all_goals first | (exfalso; omega) | exact k _ _ _ _ er H locs jls hP hS hH hL hn hls (mm_okS_t (mm_okS_t hst))
  · cases er
theorem ok_ifne {off : Int} {tg : Nat} (hd : decode I.2.1 pc = .ok (.ifCond .ne off, 3)) (ht : (pc : Int) + off = (tg : Int)) : mm_Ok l D cl tys Ts N w fsp cs ad inf tab I pc (mi_ifne tg (pc + 3)) := by
  refine ⟨sh_ifne _ _, ?_⟩
  intro p e s m args below meth c hc hSp J C hC ls st h res er k H locs jls hP hS hH hL hn hls hst
  obtain ⟨hx, hb, hml, hown, hts, hr, hlk, hK, hDA⟩ := hc
  unfold mi_ifne at er
  split at er
  · rename_i a st
    have ha1 : mm_in a := mm_okS_h hst
    have E0 : (Int32.ofInt a = 0) = (a = 0) := propext (by rw [mm_z]; exact mm_eq ha1 mm_z_in)
    have E1 : (Int32.ofInt a < 0) = (a < 0) := propext (by rw [mm_z]; exact mm_lt ha1 mm_z_in)
    have E2 : (0 ≤ Int32.ofInt a) = (0 ≤ a) := propext (by rw [mm_z]; exact mm_le mm_z_in ha1)
    have E3 : (0 < Int32.ofInt a) = (0 < a) := propext (by rw [mm_z]; exact mm_lt mm_z_in ha1)
    have E4 : (Int32.ofInt a ≤ 0) = (a ≤ 0) := propext (by rw [mm_z]; exact mm_le ha1 mm_z_in)
    refine lv_if_ne hx hb hd ht (fun q => ?_) (fun q => ?_)
    all_goals
      simp only [E0, E1, E2, E3, E4, ne_eq] at q
      split at er
      all_goals first | (exfalso; omega) | exact k _ _ _ _ er H locs jls hP hS hH hL hn hls (mm_okS_t hst)
  · cases er
theorem ok_cmpne {off : Int} {tg : Nat} (hd : decode I.2.1 pc = .ok (.if_icmp .ne off, 3)) (ht : (pc : Int) + off = (tg : Int)) : mm_Ok l D cl tys Ts N w fsp cs ad inf tab I pc (mi_cmpne tg (pc + 3)) := by
  refine ⟨sh_cmpne _ _, ?_⟩
  intro p e s m args below meth c hc hSp J C hC ls st h res er k H locs jls hP hS hH hL hn hls hst
  obtain ⟨hx, hb, hml, hown, hts, hr, hlk, hK, hDA⟩ := hc
  unfold mi_cmpne at er
  split at er
  · rename_i b a st
    have hb1 : mm_in b := mm_okS_h hst
    have ha1 : mm_in a := mm_okS_h (mm_okS_t hst)
    have E0 : (Int32.ofInt a = Int32.ofInt b) = (a = b) := propext (mm_eq ha1 hb1)
    have E1 : (Int32.ofInt a < Int32.ofInt b) = (a < b) := propext (mm_lt ha1 hb1)
    have E2 : (Int32.ofInt b ≤ Int32.ofInt a) = (b ≤ a) := propext (mm_le hb1 ha1)
    have E3 : (Int32.ofInt b < Int32.ofInt a) = (b < a) := propext (mm_lt hb1 ha1)
    have E4 : (Int32.ofInt a ≤ Int32.ofInt b) = (a ≤ b) := propext (mm_le ha1 hb1)
    refine lv_icmp_ne hx hb hd ht (fun q => ?_) (fun q => ?_)
    all_goals
      simp only [E0, E1, E2, E3, E4, ne_eq] at q
      split at er
      all_goals first | (exfalso; omega) | exact k _ _ _ _ er H locs jls hP hS hH hL hn hls (mm_okS_t (mm_okS_t hst))
  · cases er
theorem ok_iflt {off : Int} {tg : Nat} (hd : decode I.2.1 pc = .ok (.ifCond .lt off, 3)) (ht : (pc : Int) + off = (tg : Int)) : mm_Ok l D cl tys Ts N w fsp cs ad inf tab I pc (mi_iflt tg (pc + 3)) := by
  refine ⟨sh_iflt _ _, ?_⟩
  intro p e s m args below meth c hc hSp J C hC ls st h res er k H locs jls hP hS hH hL hn hls hst
  obtain ⟨hx, hb, hml, hown, hts, hr, hlk, hK, hDA⟩ := hc
  unfold mi_iflt at er
  split at er
  · rename_i a st
    have ha1 : mm_in a := mm_okS_h hst
    have E0 : (Int32.ofInt a = 0) = (a = 0) := propext (by rw [mm_z]; exact mm_eq ha1 mm_z_in)
    have E1 : (Int32.ofInt a < 0) = (a < 0) := propext (by rw [mm_z]; exact mm_lt ha1 mm_z_in)
    have E2 : (0 ≤ Int32.ofInt a) = (0 ≤ a) := propext (by rw [mm_z]; exact mm_le mm_z_in ha1)
    have E3 : (0 < Int32.ofInt a) = (0 < a) := propext (by rw [mm_z]; exact mm_lt mm_z_in ha1)
    have E4 : (Int32.ofInt a ≤ 0) = (a ≤ 0) := propext (by rw [mm_z]; exact mm_le ha1 mm_z_in)
    refine lv_if_lt hx hb hd ht (fun q => ?_) (fun q => ?_)
    all_goals
      simp only [E0, E1, E2, E3, E4, ne_eq] at q
      split at er
      all_goals first | (exfalso; omega) | exact k _ _ _ _ er H locs jls hP hS hH hL hn hls (mm_okS_t hst)
  · cases er
theorem ok_cmplt {off : Int} {tg : Nat} (hd : decode I.2.1 pc = .ok (.if_icmp .lt off, 3)) (ht : (pc : Int) + off = (tg : Int)) : mm_Ok l D cl tys Ts N w fsp cs ad inf tab I pc (mi_cmplt tg (pc + 3)) := by
  refine ⟨sh_cmplt _ _, ?_⟩
  intro p e s m args below meth c hc hSp J C hC ls st h res er k H locs jls hP hS hH hL hn hls hst
  obtain ⟨hx, hb, hml, hown, hts, hr, hlk, hK, hDA⟩ := hc
  unfold mi_cmplt at er
  split at er
  · rename_i b a st
    have hb1 : mm_in b := mm_okS_h hst
    have ha1 : mm_in a := mm_okS_h (mm_okS_t hst)
    have E0 : (Int32.ofInt a = Int32.ofInt b) = (a = b) := propext (mm_eq ha1 hb1)
    have E1 : (Int32.ofInt a < Int32.ofInt b) = (a < b) := propext (mm_lt ha1 hb1)
    have E2 : (Int32.ofInt b ≤ Int32.ofInt a) = (b ≤ a) := propext (mm_le hb1 ha1)
    have E3 : (Int32.ofInt b < Int32.ofInt a) = (b < a) := propext (mm_lt hb1 ha1)
    have E4 : (Int32.ofInt a ≤ Int32.ofInt b) = (a ≤ b) := propext (mm_le ha1 hb1)
    refine lv_icmp_lt hx hb hd ht (fun q => ?_) (fun q => ?_)
    all_goals
      simp only [E0, E1, E2, E3, E4, ne_eq] at q
      split at er
      all_goals first | (exfalso; omega) | exact k _ _ _ _ er H locs jls hP hS hH hL hn hls (mm_okS_t (mm_okS_t hst))
  · cases er
theorem ok_ifge {off : Int} {tg : Nat} (hd : decode I.2.1 pc = .ok (.ifCond .ge off, 3)) (ht : (pc : Int) + off = (tg : Int)) : mm_Ok l D cl tys Ts N w fsp cs ad inf tab I pc (mi_ifge tg (pc + 3)) := by
  refine ⟨sh_ifge _ _, ?_⟩
  intro p e s m args below meth c hc hSp J C hC ls st h res er k H locs jls hP hS hH hL hn hls hst
  obtain ⟨hx, hb, hml, hown, hts, hr, hlk, hK, hDA⟩ := hc
  unfold mi_ifge at er
  split at er
  · rename_i a st
    have ha1 : mm_in a := mm_okS_h hst
    have E0 : (Int32.ofInt a = 0) = (a = 0) := propext (by rw [mm_z]; exact mm_eq ha1 mm_z_in)
    have E1 : (Int32.ofInt a < 0) = (a < 0) := propext (by rw [mm_z]; exact mm_lt ha1 mm_z_in)
    have E2 : (0 ≤ Int32.ofInt a) = (0 ≤ a) := propext (by rw [mm_z]; exact mm_le mm_z_in ha1)
    have E3 : (0 < Int32.ofInt a) = (0 < a) := propext (by rw [mm_z]; exact mm_lt mm_z_in ha1)
    have E4 : (Int32.ofInt a ≤ 0) = (a ≤ 0) := propext (by rw [mm_z]; exact mm_le ha1 mm_z_in)
    refine lv_if_ge hx hb hd ht (fun q => ?_) (fun q => ?_)
    all_goals
      simp only [E0, E1, E2, E3, E4, ne_eq] at q
      split at er
      all_goals first | (exfalso; omega) | exact k _ _ _ _ er H locs jls hP hS hH hL hn hls (mm_okS_t hst)
  · cases er
theorem ok_cmpge {off : Int} {tg : Nat} (hd : decode I.2.1 pc = .ok (.if_icmp .ge off, 3)) (ht : (pc : Int) + off = (tg : Int)) : mm_Ok l D cl tys Ts N w fsp cs ad inf tab I pc (mi_cmpge tg (pc + 3)) := by
  refine ⟨sh_cmpge _ _, ?_⟩
  intro p e s m args below meth c hc hSp J C hC ls st h res er k H locs jls hP hS hH hL hn hls hst
  obtain ⟨hx, hb, hml, hown, hts, hr, hlk, hK, hDA⟩ := hc
  unfold mi_cmpge at er
  split at er
  · rename_i b a st
    have hb1 : mm_in b := mm_okS_h hst
    have ha1 : mm_in a := mm_okS_h (mm_okS_t hst)
    have E0 : (Int32.ofInt a = Int32.ofInt b) = (a = b) := propext (mm_eq ha1 hb1)
    have E1 : (Int32.ofInt a < Int32.ofInt b) = (a < b) := propext (mm_lt ha1 hb1)
    have E2 : (Int32.ofInt b ≤ Int32.ofInt a) = (b ≤ a) := propext (mm_le hb1 ha1)
    have E3 : (Int32.ofInt b < Int32.ofInt a) = (b < a) := propext (mm_lt hb1 ha1)
    have E4 : (Int32.ofInt a ≤ Int32.ofInt b) = (a ≤ b) := propext (mm_le ha1 hb1)
    refine lv_icmp_ge hx hb hd ht (fun q => ?_) (fun q => ?_)
    all_goals
      simp only [E0, E1, E2, E3, E4, ne_eq] at q
      split at er
      all_goals first | (exfalso; omega) | exact k _ _ _ _ er H locs jls hP hS hH hL hn hls (mm_okS_t (mm_okS_t hst))
  · cases er
theorem ok_ifgt {off : Int} {tg : Nat} (hd : decode I.2.1 pc = .ok (.ifCond .gt off, 3)) (ht : (pc : Int) + off = (tg : Int)) : mm_Ok l D cl tys Ts N w fsp cs ad inf tab I pc (mi_ifgt tg (pc + 3)) := by
  refine ⟨sh_ifgt _ _, ?_⟩
  intro p e s m args below meth c hc hSp J C hC ls st h res er k H locs jls hP hS hH hL hn hls hst
  obtain ⟨hx, hb, hml, hown, hts, hr, hlk, hK, hDA⟩ := hc
  unfold mi_ifgt at er
  split at er
  · rename_i a st
    have ha1 : mm_in a := mm_okS_h hst
    have E0 : (Int32.ofInt a = 0) = (a = 0) := propext (by rw [mm_z]; exact mm_eq ha1 mm_z_in)
    have E1 : (Int32.ofInt a < 0) = (a < 0) := propext (by rw [mm_z]; exact mm_lt ha1 mm_z_in)
    have E2 : (0 ≤ Int32.ofInt a) = (0 ≤ a) := propext (by rw [mm_z]; exact mm_le mm_z_in ha1)
    have E3 : (0 < Int32.ofInt a) = (0 < a) := propext (by rw [mm_z]; exact mm_lt mm_z_in ha1)
    have E4 : (Int32.ofInt a ≤ 0) = (a ≤ 0) := propext (by rw [mm_z]; exact mm_le ha1 mm_z_in)
    refine lv_if_gt hx hb hd ht (fun q => ?_) (fun q => ?_)
    all_goals
      simp only [E0, E1, E2, E3, E4, ne_eq] at q
      split at er
      all_goals first | (exfalso; omega) | exact k _ _ _ _ er H locs jls hP hS hH hL hn hls (mm_okS_t hst)
  · cases er
theorem ok_cmpgt {off : Int} {tg : Nat} (hd : decode I.2.1 pc = .ok (.if_icmp .gt off, 3)) (ht : (pc : Int) + off = (tg : Int)) : mm_Ok l D cl tys Ts N w fsp cs ad inf tab I pc (mi_cmpgt tg (pc + 3)) := by
  refine ⟨sh_cmpgt _ _, ?_⟩
  intro p e s m args below meth c hc hSp J C hC ls st h res er k H locs jls hP hS hH hL hn hls hst
  obtain ⟨hx, hb, hml, hown, hts, hr, hlk, hK, hDA⟩ := hc
  unfold mi_cmpgt at er
  split at er
  · rename_i b a st
    have hb1 : mm_in b := mm_okS_h hst
    have ha1 : mm_in a := mm_okS_h (mm_okS_t hst)
    have E0 : (Int32.ofInt a = Int32.ofInt b) = (a = b) := propext (mm_eq ha1 hb1)
    have E1 : (Int32.ofInt a < Int32.ofInt b) = (a < b) := propext (mm_lt ha1 hb1)
    have E2 : (Int32.ofInt b ≤ Int32.ofInt a) = (b ≤ a) := propext (mm_le hb1 ha1)
    have E3 : (Int32.ofInt b < Int32.ofInt a) = (b < a) := propext (mm_lt hb1 ha1)
    have E4 : (Int32.ofInt a ≤ Int32.ofInt b) = (a ≤ b) := propext (mm_le ha1 hb1)
    refine lv_icmp_gt hx hb hd ht (fun q => ?_) (fun q => ?_)
    all_goals
      simp only [E0, E1, E2, E3, E4, ne_eq] at q
      split at er
      all_goals first | (exfalso; omega) | exact k _ _ _ _ er H locs jls hP hS hH hL hn hls (mm_okS_t (mm_okS_t hst))
  · cases er
theorem ok_ifle {off : Int} {tg : Nat} (hd : decode I.2.1 pc = .ok (.ifCond .le off, 3)) (ht : (pc : Int) + off = (tg : Int)) : mm_Ok l D cl tys Ts N w fsp cs ad inf tab I pc (mi_ifle tg (pc + 3)) := by
  refine ⟨sh_ifle _ _, ?_⟩
  intro p e s m args below meth c hc hSp J C hC ls st h res er k H locs jls hP hS hH hL hn hls hst
  obtain ⟨hx, hb, hml, hown, hts, hr, hlk, hK, hDA⟩ := hc
  unfold mi_ifle at er
  split at er
  · rename_i a st
    have ha1 : mm_in a := mm_okS_h hst
    have E0 : (Int32.ofInt a = 0) = (a = 0) := propext (by rw [mm_z]; exact mm_eq ha1 mm_z_in)
    have E1 : (Int32.ofInt a < 0) = (a < 0) := propext (by rw [mm_z]; exact mm_lt ha1 mm_z_in)
    have E2 : (0 ≤ Int32.ofInt a) = (0 ≤ a) := propext (by rw [mm_z]; exact mm_le mm_z_in ha1)
    have E3 : (0 < Int32.ofInt a) = (0 < a) := propext (by rw [mm_z]; exact mm_lt mm_z_in ha1)
    have E4 : (Int32.ofInt a ≤ 0) = (a ≤ 0) := propext (by rw [mm_z]; exact mm_le ha1 mm_z_in)
    refine lv_if_le hx hb hd ht (fun q => ?_) (fun q => ?_)
    all_goals
      simp only [E0, E1, E2, E3, E4, ne_eq] at q
      split at er
      all_goals first | (exfalso; omega) | exact k _ _ _ _ er H locs jls hP hS hH hL hn hls (mm_okS_t hst)
  · cases er
theorem ok_cmple {off : Int} {tg : Nat} (hd : decode I.2.1 pc = .ok (.if_icmp .le off, 3)) (ht : (pc : Int) + off = (tg : Int)) : mm_Ok l D cl tys Ts N w fsp cs ad inf tab I pc (mi_cmple tg (pc + 3)) := by
  refine ⟨sh_cmple _ _, ?_⟩
  intro p e s m args below meth c hc hSp J C hC ls st h res er k H locs jls hP hS hH hL hn hls hst
  obtain ⟨hx, hb, hml, hown, hts, hr, hlk, hK, hDA⟩ := hc
  unfold mi_cmple at er
  split at er
  · rename_i b a st
    have hb1 : mm_in b := mm_okS_h hst
    have ha1 : mm_in a := mm_okS_h (mm_okS_t hst)
    have E0 : (Int32.ofInt a = Int32.ofInt b) = (a = b) := propext (mm_eq ha1 hb1)
    have E1 : (Int32.ofInt a < Int32.ofInt b) = (a < b) := propext (mm_lt ha1 hb1)
    have E2 : (Int32.ofInt b ≤ Int32.ofInt a) = (b ≤ a) := propext (mm_le hb1 ha1)
    have E3 : (Int32.ofInt b < Int32.ofInt a) = (b < a) := propext (mm_lt hb1 ha1)
    have E4 : (Int32.ofInt a ≤ Int32.ofInt b) = (a ≤ b) := propext (mm_le ha1 hb1)
    refine lv_icmp_le hx hb hd ht (fun q => ?_) (fun q => ?_)
    all_goals
      simp only [E0, E1, E2, E3, E4, ne_eq] at q
      split at er
      all_goals first | (exfalso; omega) | exact k _ _ _ _ er H locs jls hP hS hH hL hn hls (mm_okS_t (mm_okS_t hst))
  · cases er
end MMO
end
section
section MMP
variable {l : Launch} {D : va_G} {cl : List vw_C} {tys : List (ClassId × FieldType)} {Ts : List Cond} {N : Nat} {w : mm_W} {fsp : Nat → List Nat} {cs : ClassId × ClassId × ClassId × ClassId} {ad : Nat → Nat} {inf : Nat → mm_M} {tab : Nat → Nat → mm_I} {I : mm_M} {pc : Nat}
theorem mm_sw_at {a : Int} {dt : Nat} {J : Nat → mm_K} {ls st : List mm_V} {h : mm_H} : ∀ {ps : List (Int × Nat)} {x : Option mm_R}, mm_sw a (J dt ls st h) (ps.map fun q => (q.1, J q.2 ls st h)) = x → (∃ q ∈ ps, a = q.1 ∧ J q.2 ls st h = x ∧ (∀ r ∈ ps, a = r.1 → True)) ∨ ((∀ q ∈ ps, ¬ a = q.1) ∧ J dt ls st h = x)
  | [], _, e => Or.inr ⟨fun _ h => absurd h List.not_mem_nil, e⟩
  | (k, t) :: r, x, e => by
    by_cases e1 : a = k
    · refine Or.inl ⟨(k, t), List.mem_cons_self, e1, ?_, fun _ _ _ => trivial⟩
      simpa [mm_sw, e1] using e
    · have e2 : mm_sw a (J dt ls st h) (r.map fun q => (q.1, J q.2 ls st h)) = x := by simpa [mm_sw, e1] using e
      rcases mm_sw_at e2 with ⟨q, h1, h2, h3, -⟩ | ⟨h1, h2⟩
      · exact Or.inl ⟨q, List.mem_cons_of_mem _ h1, h2, h3, fun _ _ _ => trivial⟩
      · exact Or.inr ⟨fun q hq => (List.mem_cons.mp hq).elim (fun e3 => by rw [e3]; exact e1) (h1 q), h2⟩
theorem ok_lookup {df : Int} {prs : Array (Int × Int)} {len : Nat} {ps : List (Int × Nat)} {dt : Nat} (hd : decode I.2.1 pc = .ok (.lookupswitch df prs, len)) (hp : (prs.toList.zip (prs.toList.drop 1)).all (fun (a, next) => a.1 < next.1) = true) (h1 : ∀ q ∈ ps, ∃ off, Op.lookupswitch.offset prs.toList df q.1 = off ∧ (pc : Int) + off = (q.2 : Int)) (h2 : ∀ a : Int, (∀ q ∈ ps, ¬ a = q.1) → Op.lookupswitch.offset prs.toList df a = df) (h3 : (pc : Int) + df = (dt : Int)) : mm_Ok l D cl tys Ts N w fsp cs ad inf tab I pc (mi_sw ps dt) := by
  refine ⟨sh_sw _ _, ?_⟩
  intro p e s m args below meth c hc hSp J C hC ls st h res er k H locs jls hP hS hH hL hn hls hst
  obtain ⟨hx, hb, hml, hown, hts, hr, hlk, hK, hDA⟩ := hc
  unfold mi_sw at er
  split at er
  · rename_i a st
    have ha1 : mm_in a := mm_okS_h hst
    rcases mm_sw_at er with ⟨q, g1, g2, g3, -⟩ | ⟨g1, g2⟩
    · obtain ⟨off, g4, g5⟩ := h1 q g1
      exact lv_lookup hx hb hd hp (by rw [mm_to ha1, g2]; exact g4) g5 (k _ _ _ _ g3 H locs jls hP hS hH hL hn hls (mm_okS_t hst))
    · exact lv_lookup hx hb hd hp (by rw [mm_to ha1]; exact h2 a g1) h3 (k _ _ _ _ g2 H locs jls hP hS hH hL hn hls (mm_okS_t hst))
  · cases er
theorem ok_table {df lo hi : Int} {offs : Array Int} {len : Nat} {ps : List (Int × Nat)} {dt : Nat} (hd : decode I.2.1 pc = .ok (.tableswitch df lo hi offs, len)) (h1 : ∀ q ∈ ps, (lo ≤ q.1 ∧ q.1 ≤ hi) ∧ ∃ off, offs[(q.1 - lo).toNat]? = some off ∧ (pc : Int) + off = (q.2 : Int)) (h2 : ∀ a : Int, (∀ q ∈ ps, ¬ a = q.1) → a < lo ∨ hi < a) (h3 : (pc : Int) + df = (dt : Int)) : mm_Ok l D cl tys Ts N w fsp cs ad inf tab I pc (mi_sw ps dt) := by
  refine ⟨sh_sw _ _, ?_⟩
  intro p e s m args below meth c hc hSp J C hC ls st h res er k H locs jls hP hS hH hL hn hls hst
  obtain ⟨hx, hb, hml, hown, hts, hr, hlk, hK, hDA⟩ := hc
  unfold mi_sw at er
  split at er
  · rename_i a st
    have ha1 : mm_in a := mm_okS_h hst
    rcases mm_sw_at er with ⟨q, g1, g2, g3, -⟩ | ⟨g1, g2⟩
    · obtain ⟨g6, off, g4, g5⟩ := h1 q g1
      exact lv_tableIn hx hb hd (by rw [mm_to ha1, g2]; omega) (by rw [mm_to ha1, g2]; omega) (by rw [mm_to ha1, g2]; exact g4) g5 (k _ _ _ _ g3 H locs jls hP hS hH hL hn hls (mm_okS_t hst))
    · exact lv_tableOut hx hb hd (by rw [mm_to ha1]; exact h2 a g1) h3 (k _ _ _ _ g2 H locs jls hP hS hH hL hn hls (mm_okS_t hst))
  · cases er
theorem ok_getI {Cn : String} {T : u_T} {Nf ci ix kf : Nat} (hN : ∀ a, (w a).1 < 1000 → a < N) (hci : ci < 900) (hcl : cl[ci]? = some (Cn, T, Nf)) (hin : ∀ q ∈ u_ws Cn T Nf, q ∈ Ts) (hk : kf < Nf) (hw : Cond.fieldLink I.1.cls ix (T kf).1 (T kf).2.1 (T kf).2.2.1 ∈ Ts) (hsp : (fsp ci)[kf]? = some 0) (hd : decode I.2.1 pc = .ok (.getfield ix, 3)) : mm_Ok l D cl tys Ts N w fsp cs ad inf tab I pc (mi_getI w ci kf (pc + 3)) := by
  refine ⟨sh_getI _ _ _ _, ?_⟩
  intro p e s m args below meth c hc hSp J C hC ls st h res er k H locs jls hP hS hH hL hn hls hst
  obtain ⟨hx, hb, hml, hown, hts, hr, hlk, hK, hDA⟩ := hc
  unfold mi_getI at er
  split at er
  · rename_i a st
    split at er
    · rename_i hwa
      have haN : a < N := hN a (by omega)
      have hat := mm_wd_at (N := N) (w := w) (fsp := fsp) (cs := cs) (ad := ad) (h := h) haN
      rw [mm_cell4 hwa] at hat
      refine va_get (v := .int (Int32.ofInt (h a kf))) hx hb hts (fun q hq => List.mem_cons_of_mem _ (hin q hq)) hown hK hP a hat hcl kf hk (hts _ (List.mem_cons_of_mem _ hw)) (fun _ q => q) (by rw [List.getElem?_mapIdx, hsp]; simp [mm_fv]) hd ?_
      exact k _ _ _ _ er H locs jls hP hS hH hL hn hls (mm_okS_c (v := mm_i (h a kf)) (hH a kf) (mm_okS_t hst))
    · cases er
  · cases er
theorem ok_getD {Cn : String} {T : u_T} {Nf ci ix kf : Nat} (hN : ∀ a, (w a).1 < 1000 → a < N) (hci : ci < 900) (hcl : cl[ci]? = some (Cn, T, Nf)) (hin : ∀ q ∈ u_ws Cn T Nf, q ∈ Ts) (hk : kf < Nf) (hw : Cond.fieldLink I.1.cls ix (T kf).1 (T kf).2.1 (T kf).2.2.1 ∈ Ts) (hsp : (fsp ci)[kf]? = some 1) (hd : decode I.2.1 pc = .ok (.getfield ix, 3)) : mm_Ok l D cl tys Ts N w fsp cs ad inf tab I pc (mi_getD w ci kf (pc + 3)) := by
  refine ⟨sh_getD _ _ _ _, ?_⟩
  intro p e s m args below meth c hc hSp J C hC ls st h res er k H locs jls hP hS hH hL hn hls hst
  obtain ⟨hx, hb, hml, hown, hts, hr, hlk, hK, hDA⟩ := hc
  unfold mi_getD at er
  split at er
  · rename_i a st
    split at er
    · rename_i hwa
      have haN : a < N := hN a (by omega)
      have hat := mm_wd_at (N := N) (w := w) (fsp := fsp) (cs := cs) (ad := ad) (h := h) haN
      rw [mm_cell4 hwa] at hat
      refine va_get (v := .ref (ad (h a kf).toNat)) hx hb hts (fun q hq => List.mem_cons_of_mem _ (hin q hq)) hown hK hP a hat hcl kf hk (hts _ (List.mem_cons_of_mem _ hw)) (fun _ q => q) (by rw [List.getElem?_mapIdx, hsp]; simp [mm_fv]) hd ?_
      exact k _ _ _ _ er H locs jls hP hS hH hL hn hls (mm_okS_c (v := mm_r (h a kf).toNat) (trivial) (mm_okS_t hst))
    · cases er
  · cases er
theorem ok_getS {Cn : String} {T : u_T} {Nf ci ix kf : Nat} (hN : ∀ a, (w a).1 < 1000 → a < N) (hci : ci < 900) (hcl : cl[ci]? = some (Cn, T, Nf)) (hin : ∀ q ∈ u_ws Cn T Nf, q ∈ Ts) (hk : kf < Nf) (hw : Cond.fieldLink I.1.cls ix (T kf).1 (T kf).2.1 (T kf).2.2.1 ∈ Ts) {off : Nat} (hsp : (fsp ci)[kf]? = some (off + 2)) (hd : decode I.2.1 pc = .ok (.getfield ix, 3)) : mm_Ok l D cl tys Ts N w fsp cs ad inf tab I pc (mi_getS w ci off (pc + 3)) := by
  refine ⟨sh_getS _ _ _ _, ?_⟩
  intro p e s m args below meth c hc hSp J C hC ls st h res er k H locs jls hP hS hH hL hn hls hst
  obtain ⟨hx, hb, hml, hown, hts, hr, hlk, hK, hDA⟩ := hc
  unfold mi_getS at er
  split at er
  · rename_i a st
    split at er
    · rename_i hwa
      have haN : a < N := hN a (by omega)
      have hat := mm_wd_at (N := N) (w := w) (fsp := fsp) (cs := cs) (ad := ad) (h := h) haN
      rw [mm_cell4 hwa] at hat
      refine va_get (v := .ref (ad (a + off))) hx hb hts (fun q hq => List.mem_cons_of_mem _ (hin q hq)) hown hK hP a hat hcl kf hk (hts _ (List.mem_cons_of_mem _ hw)) (fun _ q => q) (by rw [List.getElem?_mapIdx, hsp]; simp [mm_fv]) hd ?_
      exact k _ _ _ _ er H locs jls hP hS hH hL hn hls (mm_okS_c (v := mm_r (a + off)) (trivial) (mm_okS_t hst))
    · cases er
  · cases er
theorem ok_putI {Cn : String} {T : u_T} {Nf ci ix kf : Nat} (hN : ∀ a, (w a).1 < 1000 → a < N) (hci : ci < 900) (hcl : cl[ci]? = some (Cn, T, Nf)) (hin : ∀ q ∈ u_ws Cn T Nf, q ∈ Ts) (hk : kf < Nf) (hw : Cond.fieldLink I.1.cls ix (T kf).1 (T kf).2.1 (T kf).2.2.1 ∈ Ts) (ty0 : Nat → FieldType) (hty : ∀ k, k < Nf → parseFieldDescriptor (T k).2.2.1 = some (ty0 k)) (hnm : ∀ a, a < Nf → ∀ b, b < Nf → a ≠ b → (T a).2.1 ≠ (T b).2.1) (hfin : (T kf).2.2.2 = false) (hdt : parseFieldDescriptor (T kf).2.2.1 = some .int) (hsp : (fsp ci)[kf]? = some 0) (hd : decode I.2.1 pc = .ok (.putfield ix, 3)) : mm_Ok l D cl tys Ts N w fsp cs ad inf tab I pc (mi_putI w ci kf (pc + 3)) := by
  refine ⟨sh_putI _ _ _ _, ?_⟩
  intro p e s m args below meth c hc hSp J C hC ls st h res er k H locs jls hP hS hH hL hn hls hst
  obtain ⟨hx, hb, hml, hown, hts, hr, hlk, hK, hDA⟩ := hc
  unfold mi_putI at er
  split at er
  · rename_i v a st
    split at er
    · rename_i hwa
      have haN : a < N := hN a (by omega)
      have hat := mm_wd_at (N := N) (w := w) (fsp := fsp) (cs := cs) (ad := ad) (h := h) haN
      rw [mm_cell4 hwa] at hat
      refine va_put (v := .int (Int32.ofInt v)) (ty := .int) hx hb hts (fun q hq => List.mem_cons_of_mem _ (hin q hq)) ty0 hty hnm hown hK hP (hDA h) hS a hat hcl kf hk (hts _ (List.mem_cons_of_mem _ hw)) (fun _ q => q) hfin hdt rfl rfl (by rw [List.length_mapIdx]; exact (List.getElem?_eq_some_iff.mp hsp).1) hd (fun H1 locs1 hP1 hD1 hS1 => ?_)
      have e1 := mm_fv_set (ad := ad) (f := h a) (a := a) (v := v) (x := .int (Int32.ofInt v)) hsp (by simp [mm_fv, mm_up])
      rw [e1, ← mm_cell4 (fsp := fsp) (cs := cs) (ad := ad) hwa, mm_wd_set haN] at hP1
      exact k _ _ _ _ er H1 locs1 jls hP1 hS1 (mm_okH_up hH (mm_okS_h hst)) hL hn hls (mm_okS_t (mm_okS_t hst))
    · cases er
  · cases er
theorem ok_putD {Cn : String} {T : u_T} {Nf ci ix kf : Nat} (hN : ∀ a, (w a).1 < 1000 → a < N) (hci : ci < 900) (hcl : cl[ci]? = some (Cn, T, Nf)) (hin : ∀ q ∈ u_ws Cn T Nf, q ∈ Ts) (hk : kf < Nf) (hw : Cond.fieldLink I.1.cls ix (T kf).1 (T kf).2.1 (T kf).2.2.1 ∈ Ts) (ty0 : Nat → FieldType) (hty : ∀ k, k < Nf → parseFieldDescriptor (T k).2.2.1 = some (ty0 k)) (hnm : ∀ a, a < Nf → ∀ b, b < Nf → a ≠ b → (T a).2.1 ≠ (T b).2.1) (hfin : (T kf).2.2.2 = false) {rt : FieldType} (hdt : parseFieldDescriptor (T kf).2.2.1 = some rt) (hrt : ∃ n, rt = .object n) (hsp : (fsp ci)[kf]? = some 1) (hd : decode I.2.1 pc = .ok (.putfield ix, 3)) : mm_Ok l D cl tys Ts N w fsp cs ad inf tab I pc (mi_putD w ci kf (pc + 3)) := by
  refine ⟨sh_putD _ _ _ _, ?_⟩
  intro p e s m args below meth c hc hSp J C hC ls st h res er k H locs jls hP hS hH hL hn hls hst
  obtain ⟨hx, hb, hml, hown, hts, hr, hlk, hK, hDA⟩ := hc
  unfold mi_putD at er
  split at er
  · rename_i b a st
    split at er
    · rename_i hwa
      obtain ⟨hwa, hb9⟩ := hwa
      obtain ⟨n9, rfl⟩ := hrt
      have haN : a < N := hN a (by omega)
      have hat := mm_wd_at (N := N) (w := w) (fsp := fsp) (cs := cs) (ad := ad) (h := h) haN
      rw [mm_cell4 hwa] at hat
      refine va_put (v := .ref (ad b)) (ty := .object n9) hx hb hts (fun q hq => List.mem_cons_of_mem _ (hin q hq)) ty0 hty hnm hown hK hP (hDA h) hS a hat hcl kf hk (hts _ (List.mem_cons_of_mem _ hw)) (fun _ q => q) hfin hdt rfl rfl (by rw [List.length_mapIdx]; exact (List.getElem?_eq_some_iff.mp hsp).1) hd (fun H1 locs1 hP1 hD1 hS1 => ?_)
      have e1 := mm_fv_set (ad := ad) (f := h a) (a := a) (v := (b : Int)) (x := .ref (ad b)) hsp (by simp [mm_fv, mm_up])
      rw [e1, ← mm_cell4 (fsp := fsp) (cs := cs) (ad := ad) hwa, mm_wd_set haN] at hP1
      exact k _ _ _ _ er H1 locs1 jls hP1 hS1 (mm_okH_up hH (by unfold mm_in; omega)) hL hn hls (mm_okS_t (mm_okS_t hst))
    · cases er
  · cases er
theorem ok_iald (hN : ∀ a, (w a).1 < 1000 → a < N) (ht : tys[0]? = some (cs.1, .int)) (hd : decode I.2.1 pc = .ok (.iaload, 1)) : mm_Ok l D cl tys Ts N w fsp cs ad inf tab I pc (mi_iald w (pc + 1)) := by
  refine ⟨sh_iald _ _, ?_⟩
  intro p e s m args below meth c hc hSp J C hC ls st h res er k H locs jls hP hS hH hL hn hls hst
  obtain ⟨hx, hb, hml, hown, hts, hr, hlk, hK, hDA⟩ := hc
  unfold mi_iald at er
  split at er
  · rename_i i a st
    split at er
    · rename_i hwa
      split at er
      · rename_i hix
        have haN : a < N := hN a (by omega)
        have hat := mm_wd_at (N := N) (w := w) (fsp := fsp) (cs := cs) (ad := ad) (h := h) haN
        rw [mm_cell0 hwa] at hat
        have hi1 : mm_in i := mm_okS_h hst
        refine va_iald hx hb hK hP a 0 hat ht (mm_ix hi1 hix) hd ?_
        rw [mm_ixn hi1]
        exact k _ _ _ _ er H locs jls hP hS hH hL hn hls (mm_okS_c (v := mm_i (h a i.toNat)) (hH a i.toNat) (mm_okS_t (mm_okS_t hst)))
      · cases er
    · cases er
  · cases er
theorem ok_cald (hN : ∀ a, (w a).1 < 1000 → a < N) (ht : tys[1]? = some (cs.2.1, .char)) (hd : decode I.2.1 pc = .ok (.caload, 1)) : mm_Ok l D cl tys Ts N w fsp cs ad inf tab I pc (mi_cald w (pc + 1)) := by
  refine ⟨sh_cald _ _, ?_⟩
  intro p e s m args below meth c hc hSp J C hC ls st h res er k H locs jls hP hS hH hL hn hls hst
  obtain ⟨hx, hb, hml, hown, hts, hr, hlk, hK, hDA⟩ := hc
  unfold mi_cald at er
  split at er
  · rename_i i a st
    split at er
    · rename_i hwa
      split at er
      · rename_i hix
        have haN : a < N := hN a (by omega)
        have hat := mm_wd_at (N := N) (w := w) (fsp := fsp) (cs := cs) (ad := ad) (h := h) haN
        rw [mm_cell1 hwa] at hat
        have hi1 : mm_in i := mm_okS_h hst
        refine va_cald hx hb hK hP a 1 hat ht (mm_ix hi1 hix) hd ?_
        rw [mm_ixn hi1]
        exact k _ _ _ _ er H locs jls hP hS hH hL hn hls (mm_okS_c (v := mm_i (h a i.toNat)) (hH a i.toNat) (mm_okS_t (mm_okS_t hst)))
      · cases er
    · cases er
  · cases er
theorem ok_aald (hN : ∀ a, (w a).1 < 1000 → a < N) {Cn : String} (ht : tys[2]? = some (cs.2.2.1, .object Cn)) (hd : decode I.2.1 pc = .ok (.aaload, 1)) : mm_Ok l D cl tys Ts N w fsp cs ad inf tab I pc (mi_aald w (pc + 1)) := by
  refine ⟨sh_aald _ _, ?_⟩
  intro p e s m args below meth c hc hSp J C hC ls st h res er k H locs jls hP hS hH hL hn hls hst
  obtain ⟨hx, hb, hml, hown, hts, hr, hlk, hK, hDA⟩ := hc
  unfold mi_aald at er
  split at er
  · rename_i i a st
    split at er
    · rename_i hwa
      split at er
      · rename_i hix
        have haN : a < N := hN a (by omega)
        have hat := mm_wd_at (N := N) (w := w) (fsp := fsp) (cs := cs) (ad := ad) (h := h) haN
        rw [mm_cell2 hwa] at hat
        have hi1 : mm_in i := mm_okS_h hst
        refine va_aldq hx hb hK hP a 2 hat ht (mm_ix hi1 hix) hd ?_
        rw [mm_ixn hi1]
        exact k _ _ _ _ er H locs jls hP hS hH hL hn hls (mm_okS_c (v := mm_r (h a i.toNat).toNat) trivial (mm_okS_t (mm_okS_t hst)))
      · cases er
    · cases er
  · cases er
theorem ok_bald (hN : ∀ a, (w a).1 < 1000 → a < N) {ty : FieldType} (ht : tys[3]? = some (cs.2.2.2, .array ty)) (hd : decode I.2.1 pc = .ok (.aaload, 1)) : mm_Ok l D cl tys Ts N w fsp cs ad inf tab I pc (mi_bald w (pc + 1)) := by
  refine ⟨sh_bald _ _, ?_⟩
  intro p e s m args below meth c hc hSp J C hC ls st h res er k H locs jls hP hS hH hL hn hls hst
  obtain ⟨hx, hb, hml, hown, hts, hr, hlk, hK, hDA⟩ := hc
  unfold mi_bald at er
  split at er
  · rename_i i a st
    split at er
    · rename_i hwa
      split at er
      · rename_i hix
        have haN : a < N := hN a (by omega)
        have hat := mm_wd_at (N := N) (w := w) (fsp := fsp) (cs := cs) (ad := ad) (h := h) haN
        rw [mm_cell3 hwa] at hat
        have hi1 : mm_in i := mm_okS_h hst
        have hin := mm_ix hi1 hix
        have hlt : (Int32.ofInt i).toNatClampNeg < (w a).2 := Nat.not_le.mp fun q => hin (Or.inr q)
        refine W.aald (v := .ref (ad (a + 1 + i.toNat))) (ty := .array ty) hx hb (hP a _ hat) ((hK.2 3 _ ht).1 (w a).2 (fun j => va_rf (some (ad (a + 1 + j))))) rfl (fun q => by cases q) (by show ¬ (Int32.ofInt i < 0 ∨ (arrV _ _ _).slots.size ≤ _); rw [arrV_size]; exact hin) (by show (arrV _ _ _).slots[_]? = _; rw [arrV_read _ _ hlt, mm_ixn hi1]; rfl) rfl rfl hd ?_
        exact k _ _ _ _ er H locs jls hP hS hH hL hn hls (mm_okS_c (v := mm_r (a + 1 + i.toNat)) trivial (mm_okS_t (mm_okS_t hst)))
      · cases er
    · cases er
  · cases er
theorem ok_iast (hN : ∀ a, (w a).1 < 1000 → a < N) (ht : tys[0]? = some (cs.1, .int)) (hd : decode I.2.1 pc = .ok (.iastore, 1)) : mm_Ok l D cl tys Ts N w fsp cs ad inf tab I pc (mi_iast w (pc + 1)) := by
  refine ⟨sh_iast _ _, ?_⟩
  intro p e s m args below meth c hc hSp J C hC ls st h res er k H locs jls hP hS hH hL hn hls hst
  obtain ⟨hx, hb, hml, hown, hts, hr, hlk, hK, hDA⟩ := hc
  unfold mi_iast at er
  split at er
  · rename_i v i a st
    split at er
    · rename_i hwa
      split at er
      · rename_i hix
        have haN : a < N := hN a (by omega)
        have hat := mm_wd_at (N := N) (w := w) (fsp := fsp) (cs := cs) (ad := ad) (h := h) haN
        rw [mm_cell0 hwa] at hat
        have hi1 : mm_in i := mm_okS_h (mm_okS_t hst)
        refine va_iast hx hb hK hP (hDA h) hS a 0 hat ht (mm_ix hi1 hix) hd (fun H1 locs1 hP1 hD1 hS1 => ?_)
        rw [mm_ixn hi1, mm_upd_of, ← mm_cell0 (fsp := fsp) (cs := cs) (ad := ad) hwa, mm_wd_set haN] at hP1
        exact k _ _ _ _ er H1 locs1 jls hP1 hS1 (mm_okH_up hH (mm_okS_h hst)) hL hn hls (mm_okS_t (mm_okS_t (mm_okS_t hst)))
      · cases er
    · cases er
  · cases er
theorem mm_narc {v : Int} (h : 0 ≤ v ∧ v < 65536) : vp_nar .char (Int32.ofInt v) = Int32.ofInt v := by
  have h1 : (Int32.ofInt v) = nI v.toNat := by
    show Int32.ofInt v = Int32.ofNat v.toNat
    rw [← Int32.ofInt_eq_ofNat]
    congr 1
    omega
  rw [h1]
  unfold vp_nar
  rw [(pk_charN (q := v.toNat) (by omega)).1]
theorem ok_cast (hN : ∀ a, (w a).1 < 1000 → a < N) (ht : tys[1]? = some (cs.2.1, .char)) (hd : decode I.2.1 pc = .ok (.castore, 1)) : mm_Ok l D cl tys Ts N w fsp cs ad inf tab I pc (mi_cast w (pc + 1)) := by
  refine ⟨sh_cast _ _, ?_⟩
  intro p e s m args below meth c hc hSp J C hC ls st h res er k H locs jls hP hS hH hL hn hls hst
  obtain ⟨hx, hb, hml, hown, hts, hr, hlk, hK, hDA⟩ := hc
  unfold mi_cast at er
  split at er
  · rename_i v i a st
    split at er
    · rename_i hwa
      split at er
      · rename_i hix
        obtain ⟨hix, hv⟩ := hix
        have haN : a < N := hN a (by omega)
        have hat := mm_wd_at (N := N) (w := w) (fsp := fsp) (cs := cs) (ad := ad) (h := h) haN
        rw [mm_cell1 hwa] at hat
        have hi1 : mm_in i := mm_okS_h (mm_okS_t hst)
        refine va_cast hx hb hK hP (hDA h) hS a 1 hat ht (mm_ix hi1 hix) hd (fun H1 locs1 hP1 hD1 hS1 => ?_)
        rw [mm_ixn hi1, mm_narc hv, mm_upd_of, ← mm_cell1 (fsp := fsp) (cs := cs) (ad := ad) hwa, mm_wd_set haN] at hP1
        exact k _ _ _ _ er H1 locs1 jls hP1 hS1 (mm_okH_up hH (mm_okS_h hst)) hL hn hls (mm_okS_t (mm_okS_t (mm_okS_t hst)))
      · cases er
    · cases er
  · cases er
theorem ok_aast (hN : ∀ a, (w a).1 < 1000 → a < N) {r : vw_C} {ci : Nat} (hci : ci < 900) (hcl : cl[ci]? = some r) (ht : tys[2]? = some (cs.2.2.1, .object r.1)) (hd : decode I.2.1 pc = .ok (.aastore, 1)) : mm_Ok l D cl tys Ts N w fsp cs ad inf tab I pc (mi_aast w ci (pc + 1)) := by
  refine ⟨sh_aast _ _ _, ?_⟩
  intro p e s m args below meth c hc hSp J C hC ls st h res er k H locs jls hP hS hH hL hn hls hst
  obtain ⟨hx, hb, hml, hown, hts, hr, hlk, hK, hDA⟩ := hc
  unfold mi_aast at er
  split at er
  · rename_i b i a st
    split at er
    · rename_i hwa
      obtain ⟨hwa, hwb, hb9⟩ := hwa
      split at er
      · rename_i hix
        have haN : a < N := hN a (by omega)
        have hbN : b < N := hN b (by omega)
        have hat := mm_wd_at (N := N) (w := w) (fsp := fsp) (cs := cs) (ad := ad) (h := h) haN
        rw [mm_cell2 hwa] at hat
        have hbt := mm_wd_at (N := N) (w := w) (fsp := fsp) (cs := cs) (ad := ad) (h := h) hbN
        rw [mm_cell4 hwb] at hbt
        have hi1 : mm_in i := mm_okS_h (mm_okS_t hst)
        refine va_astq hx hb hK hP (hDA h) hS a 2 b ci hat ht hbt hcl (mm_ix hi1 hix) hd (fun H1 locs1 hP1 hD1 hS1 => ?_)
        have e1 : va_up (fun j => some (ad (h a j).toNat)) i.toNat (some (ad b)) = fun j => some (ad (mm_up (h a) i.toNat (b : Int) j).toNat) := by
          funext j
          unfold va_up mm_up
          split <;> simp
        rw [mm_ixn hi1, e1, ← mm_cell2 (fsp := fsp) (cs := cs) (ad := ad) hwa, mm_wd_set haN] at hP1
        exact k _ _ _ _ er H1 locs1 jls hP1 hS1 (mm_okH_up hH (by unfold mm_in; omega)) hL hn hls (mm_okS_t (mm_okS_t (mm_okS_t hst)))
      · cases er
    · cases er
  · cases er
theorem ok_alen (hN : ∀ a, (w a).1 < 1000 → a < N) {x0 x1 x2 x3 : FieldType} (ht0 : tys[0]? = some (cs.1, x0)) (ht1 : tys[1]? = some (cs.2.1, x1)) (ht2 : tys[2]? = some (cs.2.2.1, x2)) (ht3 : tys[3]? = some (cs.2.2.2, x3)) (hd : decode I.2.1 pc = .ok (.arraylength, 1)) : mm_Ok l D cl tys Ts N w fsp cs ad inf tab I pc (mi_alen w (pc + 1)) := by
  refine ⟨sh_alen _ _, ?_⟩
  intro p e s m args below meth c hc hSp J C hC ls st h res er k H locs jls hP hS hH hL hn hls hst
  obtain ⟨hx, hb, hml, hown, hts, hr, hlk, hK, hDA⟩ := hc
  unfold mi_alen at er
  split at er
  · rename_i a st
    split at er
    · rename_i hwa
      obtain ⟨hwa, hsz⟩ := hwa
      have haN : a < N := hN a (by omega)
      have hat := mm_wd_at (N := N) (w := w) (fsp := fsp) (cs := cs) (ad := ad) (h := h) haN
      have hv : Int32.ofNat (w a).2 = Int32.ofInt ((w a).2 : Int) := Int32.ofInt_eq_ofNat.symm
      have fin := k _ _ _ _ er H locs jls hP hS hH hL hn hls (mm_okS_c (v := mm_i ((w a).2 : Int)) (by show mm_in _; unfold mm_in; omega) (mm_okS_t hst))
      rcases (show (w a).1 = 0 ∨ (w a).1 = 1 ∨ (w a).1 = 2 ∨ (w a).1 = 3 by omega) with z | z | z | z
      · rw [mm_cell0 z] at hat; exact va_alen hx hb hK hP a 0 hat ht0 hv hd fin
      · rw [mm_cell1 z] at hat; exact va_alen hx hb hK hP a 1 hat ht1 hv hd fin
      · rw [mm_cell2 z] at hat; exact va_alen hx hb hK hP a 2 hat ht2 hv hd fin
      · rw [mm_cell3 z] at hat; exact va_alen hx hb hK hP a 3 hat ht3 hv hd fin
    · cases er
  · cases er
theorem ok_iret (hrt : I.2.2.2.1 = some .int) (hd : decode I.2.1 pc = .ok (.ireturn, 1)) : mm_Ok l D cl tys Ts N w fsp cs ad inf tab I pc (mi_iret) := by
  refine ⟨sh_iret, ?_⟩
  intro p e s m args below meth c hc hSp J C hC ls st h res er k H locs jls hP hS hH hL hn hls hst
  obtain ⟨hx, hb, hml, hown, hts, hr, hlk, hK, hDA⟩ := hc
  unfold mi_iret at er
  split at er
  · rename_i v
    have e1 := Option.some.inj er
    subst e1
    exact W.iret hx hb (hr.trans hrt) (fun t ht hW => ⟨⟨rfl, by rw [ht]; exact hP, va_K.moved hW.alike hK, hH, hst⟩, hS.F ht⟩) hS.2.2 hd
  · cases er
theorem ok_zret (hrt : I.2.2.2.1 = some .boolean) (hd : decode I.2.1 pc = .ok (.ireturn, 1)) : mm_Ok l D cl tys Ts N w fsp cs ad inf tab I pc (mi_zret) := by
  refine ⟨sh_zret, ?_⟩
  intro p e s m args below meth c hc hSp J C hC ls st h res er k H locs jls hP hS hH hL hn hls hst
  obtain ⟨hx, hb, hml, hown, hts, hr, hlk, hK, hDA⟩ := hc
  unfold mi_zret at er
  split at er
  · rename_i v
    split at er
    · rename_i hv
      have e1 := Option.some.inj er
      subst e1
      exact W.zret (ty := .boolean) hx hb (hr.trans hrt) (by rcases hv with rfl | rfl <;> rfl) (fun t ht hW => ⟨⟨rfl, by rw [ht]; exact hP, va_K.moved hW.alike hK, hH, hst⟩, hS.F ht⟩) hS.2.2 hd
    · cases er
  · cases er
theorem ok_vret (hrt : I.2.2.2.1 = none) (hd : decode I.2.1 pc = .ok (.return_, 1)) : mm_Ok l D cl tys Ts N w fsp cs ad inf tab I pc (mi_vret) := by
  refine ⟨sh_vret, ?_⟩
  intro p e s m args below meth c hc hSp J C hC ls st h res er k H locs jls hP hS hH hL hn hls hst
  obtain ⟨hx, hb, hml, hown, hts, hr, hlk, hK, hDA⟩ := hc
  unfold mi_vret at er
  split at er
  · have e1 := Option.some.inj er
    subst e1
    exact W.vret hx hb (hr.trans hrt) (fun t ht hW => ⟨⟨rfl, by rw [ht]; exact hP, va_K.moved hW.alike hK, hH, hst⟩, hS.F ht⟩) hS.2.2 hd
  · cases er
theorem ok_aret {rt : FieldType} (hrt : I.2.2.2.1 = some rt) (hrr : (∃ n, rt = .object n) ∨ ∃ t, rt = .array t) (hd : decode I.2.1 pc = .ok (.areturn, 1)) : mm_Ok l D cl tys Ts N w fsp cs ad inf tab I pc (mi_aret) := by
  refine ⟨sh_aret, ?_⟩
  intro p e s m args below meth c hc hSp J C hC ls st h res er k H locs jls hP hS hH hL hn hls hst
  obtain ⟨hx, hb, hml, hown, hts, hr, hlk, hK, hDA⟩ := hc
  unfold mi_aret at er
  split at er
  · rename_i a
    have e1 := Option.some.inj er
    subst e1
    exact W.aret hx hb (hr.trans hrt) hrr (Or.inr ⟨ad a, rfl⟩) (fun t ht hW => ⟨⟨rfl, by rw [ht]; exact hP, va_K.moved hW.alike hK, hH, hst⟩, hS.F ht⟩) hS.2.2 hd
  · cases er
end MMP
end
section
theorem mm_cat (ad : Nat → Nat) : ∀ st : List mm_V, ((st.map (mm_f ad)).map fun v => v.category).sum ≤ 2 * st.length
  | [] => Nat.zero_le _
  | v :: st => by
    have h := mm_cat ad st
    have h2 : (mm_f ad v).category ≤ 2 := by unfold mm_f; split <;> simp [Value.category]
    simp only [List.map_cons, List.sum_cons, List.length_cons]
    omega
section MMQ
variable {l : Launch} {D : va_G} {cl : List vw_C} {tys : List (ClassId × FieldType)} {Ts : List Cond} {N : Nat} {w : mm_W} {fsp : Nat → List Nat} {cs : ClassId × ClassId × ClassId × ClassId} {ad : Nat → Nat} {inf : Nat → mm_M} {tab : Nat → Nat → mm_I} {I : mm_M} {pc : Nat}
theorem ok_max {ix : Nat} (hw1 : Cond.methodLink I.1.cls ix Lib.Math.max.name ∈ Ts) (hw2 : Cond.static Lib.Math.max.name ∈ Ts) (hw3 : Cond.initialized "java/lang/Math" ∈ Ts) (hw4 : Cond.code Lib.Math.max.name Lib.Math.max.code 2 (some .int) ∈ Ts) (hd : decode I.2.1 pc = .ok (.invokestatic ix, 3)) : mm_Ok l D cl tys Ts N w fsp cs ad inf tab I pc (mi_max (pc + 3)) := by
  refine ⟨sh_max _, ?_⟩
  intro p e s m args below meth c hc hSp J C hC ls st h res er k H locs jls hP hS hH hL hn hls hst
  obtain ⟨hx, hb, hml, hown, hts, hr, hlk, hK, hDA⟩ := hc
  unfold mi_max at er
  split at er
  · rename_i b a st
    split at er
    · rename_i hlen
      have hlen := Nat.le_of_ble_eq_true hlen
      have hb1 : mm_in b := mm_okS_h hst
      have ha1 : mm_in a := mm_okS_h (mm_okS_t hst)
      have hcat := mm_cat ad st
      refine va_mmax hx hb (by rw [hml, ← hn]; exact hL.1.symm) hown (hts _ (List.mem_cons_of_mem _ hw1)) (hts _ (List.mem_cons_of_mem _ hw2)) (hts _ (List.mem_cons_of_mem _ hw3)) (hts _ (List.mem_cons_of_mem _ hw4)) (by show 1 ≤ _ + 1; omega) (by show _ ≤ 100 * (_ + 1); omega) (Nat.zero_le _) (Nat.zero_le _) hd ?_
      have e1 : (if Int32.ofInt a < Int32.ofInt b then Int32.ofInt b else Int32.ofInt a) = Int32.ofInt (if a < b then b else a) := by
        have := mm_lt ha1 hb1
        split <;> split <;> simp_all
      rw [e1]
      exact k _ _ _ _ er H locs jls hP hS hH hL hn hls (mm_okS_c (v := mm_i _) (by show mm_in _; split <;> assumption) (mm_okS_t (mm_okS_t hst)))
    · cases er
  · cases er
theorem ok_min {ix : Nat} (hw1 : Cond.methodLink I.1.cls ix Lib.Math.min.name ∈ Ts) (hw2 : Cond.static Lib.Math.min.name ∈ Ts) (hw3 : Cond.initialized "java/lang/Math" ∈ Ts) (hw4 : Cond.code Lib.Math.min.name Lib.Math.min.code 2 (some .int) ∈ Ts) (hd : decode I.2.1 pc = .ok (.invokestatic ix, 3)) : mm_Ok l D cl tys Ts N w fsp cs ad inf tab I pc (mi_min (pc + 3)) := by
  refine ⟨sh_min _, ?_⟩
  intro p e s m args below meth c hc hSp J C hC ls st h res er k H locs jls hP hS hH hL hn hls hst
  obtain ⟨hx, hb, hml, hown, hts, hr, hlk, hK, hDA⟩ := hc
  unfold mi_min at er
  split at er
  · rename_i b a st
    split at er
    · rename_i hlen
      have hlen := Nat.le_of_ble_eq_true hlen
      have hb1 : mm_in b := mm_okS_h hst
      have ha1 : mm_in a := mm_okS_h (mm_okS_t hst)
      have hcat := mm_cat ad st
      refine va_mmin hx hb (by rw [hml, ← hn]; exact hL.1.symm) hown (hts _ (List.mem_cons_of_mem _ hw1)) (hts _ (List.mem_cons_of_mem _ hw2)) (hts _ (List.mem_cons_of_mem _ hw3)) (hts _ (List.mem_cons_of_mem _ hw4)) (by show 1 ≤ _ + 1; omega) (by show _ ≤ 100 * (_ + 1); omega) (Nat.zero_le _) (Nat.zero_le _) hd ?_
      have e1 : (if Int32.ofInt b < Int32.ofInt a then Int32.ofInt b else Int32.ofInt a) = Int32.ofInt (if b < a then b else a) := by
        have := mm_lt hb1 ha1
        split <;> split <;> simp_all
      rw [e1]
      exact k _ _ _ _ er H locs jls hP hS hH hL hn hls (mm_okS_c (v := mm_i _) (by show mm_in _; split <;> assumption) (mm_okS_t (mm_okS_t hst)))
    · cases er
  · cases er
theorem ok_abs {ix : Nat} (hw1 : Cond.methodLink I.1.cls ix Lib.Math.abs.name ∈ Ts) (hw2 : Cond.static Lib.Math.abs.name ∈ Ts) (hw3 : Cond.initialized "java/lang/Math" ∈ Ts) (hw4 : Cond.code Lib.Math.abs.name Lib.Math.abs.code 1 (some .int) ∈ Ts) (hd : decode I.2.1 pc = .ok (.invokestatic ix, 3)) : mm_Ok l D cl tys Ts N w fsp cs ad inf tab I pc (mi_abs (pc + 3)) := by
  refine ⟨sh_abs _, ?_⟩
  intro p e s m args below meth c hc hSp J C hC ls st h res er k H locs jls hP hS hH hL hn hls hst
  obtain ⟨hx, hb, hml, hown, hts, hr, hlk, hK, hDA⟩ := hc
  unfold mi_abs at er
  split at er
  · rename_i a st
    split at er
    · rename_i hlen
      have hlen := Nat.le_of_ble_eq_true hlen
      have ha1 : mm_in a := mm_okS_h hst
      have hcat := mm_cat ad st
      refine va_mabs hx hb (by rw [hml, ← hn]; exact hL.1.symm) hown (hts _ (List.mem_cons_of_mem _ hw1)) (hts _ (List.mem_cons_of_mem _ hw2)) (hts _ (List.mem_cons_of_mem _ hw3)) (hts _ (List.mem_cons_of_mem _ hw4)) (by show 1 ≤ _ + 1; omega) (by show _ ≤ 100 * (_ + 1); omega) (Nat.zero_le _) (Nat.zero_le _) hd ?_
      have e1 : (if 0 ≤ Int32.ofInt a then Int32.ofInt a else 0 - Int32.ofInt a) = Int32.ofInt (mm_wr (if 0 ≤ a then a else 0 - a)) := by
        have e2 : (0 ≤ Int32.ofInt a) = (0 ≤ a) := propext (by rw [mm_z]; exact mm_le mm_z_in ha1)
        simp only [e2]
        rw [mm_ofwr]
        split
        · rfl
        · rw [Int32.ofInt_sub]; rfl
      rw [e1]
      exact k _ _ _ _ er H locs jls hP hS hH hL hn hls (mm_okS_c (v := mm_i _) (mm_wr_in _) (mm_okS_t hst))
    · cases er
  · cases er
theorem ok_copy {ix : Nat} (hN : ∀ a, (w a).1 < 1000 → a < N) (ht : tys[0]? = some (cs.1, .int)) (hw1 : Cond.methodLink I.1.cls ix arraycopyName ∈ Ts) (hw2 : Cond.native arraycopyName ∈ Ts) (hw3 : Cond.static arraycopyName ∈ Ts) (hw4 : Cond.initialized "java/lang/System" ∈ Ts) (hd : decode I.2.1 pc = .ok (.invokestatic ix, 3)) : mm_Ok l D cl tys Ts N w fsp cs ad inf tab I pc (mi_copy w (pc + 3)) := by
  refine ⟨sh_copy _ _, ?_⟩
  intro p e s m args below meth c hc hSp J C hC ls st h res er k H locs jls hP hS hH hL hn hls hst
  obtain ⟨hx, hb, hml, hown, hts, hr, hlk, hK, hDA⟩ := hc
  unfold mi_copy at er
  split at er
  · rename_i n dp b sp a st
    split at er
    · rename_i hlen
      have hlen := Nat.le_of_ble_eq_true hlen
      split at er
      · rename_i hw0
        obtain ⟨hwa, hwb⟩ := hw0
        split at er
        · rename_i hix
          obtain ⟨⟨g1, g2, g3⟩, g4, g5⟩ := hix
          have haN : a < N := hN a (by omega)
          have hbN : b < N := hN b (by omega)
          have hat := mm_wd_at (N := N) (w := w) (fsp := fsp) (cs := cs) (ad := ad) (h := h) haN
          rw [mm_cell0 hwa] at hat
          have hbt := mm_wd_at (N := N) (w := w) (fsp := fsp) (cs := cs) (ad := ad) (h := h) hbN
          rw [mm_cell0 hwb] at hbt
          have q1 : mm_in n := mm_okS_h hst
          have q2 : mm_in dp := mm_okS_h (mm_okS_t hst)
          have q3 : mm_in sp := mm_okS_h (mm_okS_t (mm_okS_t (mm_okS_t hst)))
          have hcat := mm_cat ad st
          have neg : ∀ x : Int, mm_in x → 0 ≤ x → ¬ Int32.ofInt x < 0 := fun x hx0 h0 q => by
            rw [mm_z, mm_lt hx0 mm_z_in] at q
            omega
          refine va_copyi (ty := .int) hx hb (by rw [hml, ← hn]; exact hL.1.symm) hown (hts _ (List.mem_cons_of_mem _ hw1)) (hts _ (List.mem_cons_of_mem _ hw2)) (hts _ (List.mem_cons_of_mem _ hw3)) (hts _ (List.mem_cons_of_mem _ hw4)) hK hP (hDA h) hS a b 0 0 hat hbt ht ht rfl (neg sp q3 g1) (neg dp q2 g2) (neg n q1 g3) (by rw [mm_ixn q3, mm_ixn q1]; omega) (by rw [mm_ixn q2, mm_ixn q1]; omega) (fun _ _ => rfl) (by show 1 ≤ _ + 1; omega) (by show _ + (5 + 2 + 11) ≤ 100 * (_ + 1); omega) hd (fun H1 locs1 hP1 hD1 hS1 => ?_)
          rw [mm_ixn q1, mm_ixn q2, mm_ixn q3, mm_cpy_of, ← mm_cell0 (fsp := fsp) (cs := cs) (ad := ad) hwb, mm_wd_set hbN] at hP1
          refine k _ _ _ _ er H1 locs1 jls hP1 hS1 ?_ hL hn hls (mm_okS_t (mm_okS_t (mm_okS_t (mm_okS_t (mm_okS_t hst)))))
          intro x y
          unfold mm_up
          split
          · unfold mm_cp
            split <;> exact hH _ _
          · exact hH _ _
        · cases er
      · cases er
    · cases er
  · cases er
theorem mm_goes {p : Program} {e : Env} {R : Room} {s : State} {m : MethodId} {args : Array Value} {below : List Frame} {meth : Method} {c : Code} {H : Heap} {locs : List Loc} {Q : State → Prop} {ls : Array Slot} {rest st0 : List Value} {a : Array Value} {A0 A1 : Nat → Prop} {H0 : Heap} {free : Addr → Prop} {res : mm_R} (hr : va_Run p l e R s m args below meth c H locs 0 0 0 0 (F0 m pc ls st0) rest (mm_Qc D cl tys N w fsp cs ad res A1 a) free) (hS : va_S A0 H0 H locs) (hA : ∀ q, q < H.size → A1 q → A0 q) (hf : ∀ q, free q → A0 q)
    (kk : ∀ (H1 : Heap) (locs1 : List Loc), va_P D cl (mm_wd N w fsp cs ad res.2) H1 → mm_okH res.2 → mm_okS res.1.toList → va_S A0 H0 H1 locs1 → W p l e R s m args below meth c H1 locs1 0 0 Q (F0 m (pc + 3) ls ((res.1.map (mm_f ad)).toList ++ rest))) : W p l e R s m args below meth c H locs 0 0 Q (F0 m pc ls st0) := by
  intro T hT X
  obtain ⟨v, st₀, t, T', L, h0, X', hL, e1, e2, ⟨⟨hv, hP1, hK1, hok1, hok2⟩, hz, hk⟩, st⟩ := hr T hT X
  have hv := (Outcome.returned.inj hv)
  subst hv
  rw [h0] at hz hk
  obtain ⟨t2, a1, b1⟩ := kk T'.heap (locs ++ L) (by rw [e1]; exact hP1) hok1 hok2
    ⟨Nat.le_trans hS.1 (by rw [e1]; exact hz), fun q h1 h2 => by rw [e1, hk q (Nat.lt_of_lt_of_le h1 hS.1) (fun z => h2 (hA q (Nat.lt_of_lt_of_le h1 hS.1) z))]; exact hS.2.1 q h1 h2, fun q hq => by
      rcases List.mem_append.mp hq with h | h
      · exact hS.2.2 q h
      · exact hf _ (hL q h)⟩ T' rfl X'
  exact ⟨t2, st t2 a1, b1⟩
theorem mm_blind {as : List mm_V} {h : mm_H} {sz : Nat} : FrameBlind (va_Pc (as.map (mm_f ad)) (fun U => U.heap.size = sz ∧ va_P D cl (mm_wd N w fsp cs ad h) U.heap ∧ va_K D cl tys U ∧ va_D (fun _ => True) (mm_wd N w fsp cs ad h))) := fun a U g mk q => by
  obtain ⟨q0, q1, qP, qK, qD⟩ := q
  exact ⟨q0, q1, qP, va_K.moved (u := U) (U := U.calling g mk a) (Vm.Alike.refl U.vm) qK, qD⟩
theorem mm_good {ws : List Cond} (hTs : ∀ q ∈ Ts, goodWord q = true) (h : ∀ q ∈ ws, q ∈ Ts) : GoodIn (mm_ws Ts I) ws := fun q hq => ⟨List.mem_cons_of_mem _ (h q hq), good_of_word (hTs q (h q hq))⟩
theorem mm_room {r q n : Nat} (h : r < q) (hn : n ≤ 60) : (mm_rm r).frames + 1 ≤ (mm_rm q).frames ∧ 8 + (n + 11) + (mm_rm r).locals ≤ (mm_rm q).locals := by
  refine ⟨?_, ?_⟩
  · show r + 1 + 1 ≤ q + 1; omega
  · show 8 + (n + 11) + 100 * (r + 1) ≤ 100 * (q + 1); omega
theorem mm_cb_of {na : Nat} {st : List mm_V} (h : mm_cb na st = true) : na ≤ st.length ∧ (st.drop na).length ≤ 4 ∧ (st.take na).all mm_c1 = true := by
  unfold mm_cb at h
  rw [Bool.and_eq_true, Bool.and_eq_true] at h
  exact ⟨Nat.le_of_ble_eq_true h.1, Nat.le_of_ble_eq_true h.2.1, h.2.2⟩
theorem mm_rest {na : Nat} {st : List mm_V} (h : (st.drop na).length ≤ 4) : (((st.drop na).map (mm_f ad)).map fun v => v.category).sum ≤ 8 := Nat.le_trans (mm_cat ad _) (by omega)
theorem mm_Amono {sz sz2 : Nat} (h : sz ≤ sz2) : ∀ q, mm_A N ad sz2 q → mm_A N ad sz q := fun q z => z.elim Or.inl (fun z => Or.inr (Nat.le_trans h z))
theorem ok_callS {y na ix : Nat} (hTs : ∀ q ∈ Ts, goodWord q = true) (hrk : (inf y).2.2.2.2 < I.2.2.2.2) (hmx : (inf y).2.2.1 ≤ 60) (hna : na ≤ (inf y).2.2.1) (hcode : Cond.code (inf y).1 (inf y).2.1 (inf y).2.2.1 (inf y).2.2.2.1 ∈ Ts) (hini : Cond.initialized (inf y).1.cls ∈ Ts) (hnh : (inf y).1.cls ≠ "java/lang/invoke/MethodHandle" ∧ (inf y).1.cls ≠ "java/lang/invoke/VarHandle") (hpar : (parseMethodDescriptor (inf y).1.desc).map (fun d => d.parameters.length) = some na) (hlink : Cond.methodLink I.1.cls ix (inf y).1 ∈ Ts) (hstat : Cond.static (inf y).1 ∈ Ts) (hd : decode I.2.1 pc = .ok (.invokestatic ix, 3)) : mm_Ok l D cl tys Ts N w fsp cs ad inf tab I pc (mi_callS y na (pc + 3)) := by
  refine ⟨sh_callS _ _ _, ?_⟩
  intro p e s m args below meth c hc hSp J C hC ls st h res er k H locs jls hP hS hH hL hn hls hst
  obtain ⟨hx, hb, hml, hown, hts, hr, hlk, hK, hDA⟩ := hc
  unfold mi_callS at er
  split at er
  · rename_i hcb
    obtain ⟨b1, b2, b3⟩ := mm_cb_of hcb
    obtain ⟨q, h1, h2⟩ := Option.bind_eq_some_iff.mp er
    obtain ⟨n0, h1⟩ := hC _ _ _ _ h1
    have hokA : mm_okS (st.take na).reverse := fun v hv => hst v (List.mem_of_mem_take (List.mem_reverse.mp hv))
    have hall : (st.take na).reverse.all mm_c1 = true := by rw [List.all_reverse]; exact b3
    have hlenA : (st.take na).reverse.length = na := by rw [List.length_reverse, List.length_take]; omega
    have hM := hSp y hrk (st.take na).reverse h q n0 h1 hokA hH hall (by rw [hlenA]; exact hna) H.size
    refine mm_goes (rest := (st.drop na).map (mm_f ad)) (va_runS (As := ((st.take na).reverse).map (mm_f ad)) (rest := (st.drop na).map (mm_f ad)) ⟨hx, hb, hml, hown, hts⟩ hM (va_cwS na hts (mm_good hTs (fun q hq => by
      simp only [va_wsS, mm_ws, List.cons_append, List.nil_append, List.mem_cons] at hq
      rcases hq with rfl | rfl | rfl | rfl | hq
      · exact hlink
      · exact hstat
      · exact hini
      · exact hcode
      · exact hq)) rfl rfl rfl ⟨hnh.1, hnh.2, hpar⟩ (mm_room hrk hmx)) ⟨mm_blind, fun U hU hW => ⟨rfl, by rw [hU], by rw [hU]; exact hP, va_K.moved hW.alike hK, (hDA h).weaken (fun _ _ _ _ => trivial)⟩⟩ rfl (by rw [List.length_map]; exact hlenA) (hL.1.trans hn) (by show st.map (mm_f ad) = _; rw [← List.map_reverse, List.reverse_reverse, ← List.map_append, List.take_append_drop]) (lv_room (mm_rest b2)) hd ⟨Nat.le_refl 0, Nat.le_refl 0⟩) hS (fun x _ z => mm_Amono hS.1 x z) (fun x z => mm_Amono hS.1 x z) (fun H1 locs1 hP1 hH1 hok1 hS1 => ?_)
    have fin := k _ _ _ _ h2 H1 locs1 jls hP1 hS1 hH1 hL hn hls (fun v hv => (List.mem_append.mp hv).elim (hok1 v) (fun z => hst v (List.mem_of_mem_drop z)))
    have e9 : (q.1.toList ++ st.drop na).map (mm_f ad) = (q.1.map (mm_f ad)).toList ++ (st.drop na).map (mm_f ad) := by
      rw [List.map_append]
      cases q.1 <;> rfl
    rw [e9] at fin
    exact fin
  · cases er
theorem ok_callN {y na ix : Nat} (hTs : ∀ q ∈ Ts, goodWord q = true) (hrk : (inf y).2.2.2.2 < I.2.2.2.2) (hmx : (inf y).2.2.1 ≤ 60) (hna : na ≤ (inf y).2.2.1) (hcode : Cond.code (inf y).1 (inf y).2.1 (inf y).2.2.1 (inf y).2.2.2.1 ∈ Ts) (hini : Cond.initialized (inf y).1.cls ∈ Ts) (hnh : (inf y).1.cls ≠ "java/lang/invoke/MethodHandle" ∧ (inf y).1.cls ≠ "java/lang/invoke/VarHandle") {host : String} (hpar : (parseMethodDescriptor (inf y).1.desc).map (fun d => d.parameters.length) = some na) (hlink : Cond.methodLinkNest I.1.cls ix (inf y).1 host ∈ Ts) (hstat : Cond.static (inf y).1 ∈ Ts) (hd : decode I.2.1 pc = .ok (.invokestatic ix, 3)) : mm_Ok l D cl tys Ts N w fsp cs ad inf tab I pc (mi_callS y na (pc + 3)) := by
  refine ⟨sh_callS _ _ _, ?_⟩
  intro p e s m args below meth c hc hSp J C hC ls st h res er k H locs jls hP hS hH hL hn hls hst
  obtain ⟨hx, hb, hml, hown, hts, hr, hlk, hK, hDA⟩ := hc
  unfold mi_callS at er
  split at er
  · rename_i hcb
    obtain ⟨b1, b2, b3⟩ := mm_cb_of hcb
    obtain ⟨q, h1, h2⟩ := Option.bind_eq_some_iff.mp er
    obtain ⟨n0, h1⟩ := hC _ _ _ _ h1
    have hokA : mm_okS (st.take na).reverse := fun v hv => hst v (List.mem_of_mem_take (List.mem_reverse.mp hv))
    have hall : (st.take na).reverse.all mm_c1 = true := by rw [List.all_reverse]; exact b3
    have hlenA : (st.take na).reverse.length = na := by rw [List.length_reverse, List.length_take]; omega
    have hM := hSp y hrk (st.take na).reverse h q n0 h1 hokA hH hall (by rw [hlenA]; exact hna) H.size
    refine mm_goes (rest := (st.drop na).map (mm_f ad)) (va_runSN (As := ((st.take na).reverse).map (mm_f ad)) (rest := (st.drop na).map (mm_f ad)) (host := host) ⟨hx, hb, hml, hown, hts⟩ hM ⟨va_cnB na hts (mm_good hTs (fun q hq => by
      simp only [mm_ws, List.mem_cons] at hq
      rcases hq with rfl | hq
      · exact hcode
      · exact hq)) rfl rfl rfl (va_tabs rfl rfl (hts _ (List.mem_cons_of_mem _ hlink))) (hts _ (List.mem_cons_of_mem _ hini)) ⟨hnh.1, hnh.2, hpar⟩ (mm_room hrk hmx), hts _ (List.mem_cons_of_mem _ hstat), trivial⟩ ⟨mm_blind, fun U hU hW => ⟨rfl, by rw [hU], by rw [hU]; exact hP, va_K.moved hW.alike hK, (hDA h).weaken (fun _ _ _ _ => trivial)⟩⟩ rfl (by rw [List.length_map]; exact hlenA) (hL.1.trans hn) (by show st.map (mm_f ad) = _; rw [← List.map_reverse, List.reverse_reverse, ← List.map_append, List.take_append_drop]) (lv_room (mm_rest b2)) hd ⟨Nat.le_refl 0, Nat.le_refl 0⟩) hS (fun x _ z => mm_Amono hS.1 x z) (fun x z => mm_Amono hS.1 x z) (fun H1 locs1 hP1 hH1 hok1 hS1 => ?_)
    have fin := k _ _ _ _ h2 H1 locs1 jls hP1 hS1 hH1 hL hn hls (fun v hv => (List.mem_append.mp hv).elim (hok1 v) (fun z => hst v (List.mem_of_mem_drop z)))
    have e9 : (q.1.toList ++ st.drop na).map (mm_f ad) = (q.1.map (mm_f ad)).toList ++ (st.drop na).map (mm_f ad) := by
      rw [List.map_append]
      cases q.1 <;> rfl
    rw [e9] at fin
    exact fin
  · cases er
theorem ok_callV {y na ix : Nat} (hTs : ∀ q ∈ Ts, goodWord q = true) (hrk : (inf y).2.2.2.2 < I.2.2.2.2) (hmx : (inf y).2.2.1 ≤ 60) (hna : na ≤ (inf y).2.2.1) (hcode : Cond.code (inf y).1 (inf y).2.1 (inf y).2.2.1 (inf y).2.2.2.1 ∈ Ts) (hini : Cond.initialized (inf y).1.cls ∈ Ts) (hnh : (inf y).1.cls ≠ "java/lang/invoke/MethodHandle" ∧ (inf y).1.cls ≠ "java/lang/invoke/VarHandle") {Cn : String} {T : u_T} {Nf ci : Nat} (hN : ∀ a, (w a).1 < 1000 → a < N) (hci : ci < 900) (hcl : cl[ci]? = some (Cn, T, Nf)) (hCn : (inf y).1.cls = Cn) (hpar : (parseMethodDescriptor (inf y).1.desc).map (fun d => d.parameters.length) = some (na - 1)) (hlink : Cond.methodLink I.1.cls ix (inf y).1 ∈ Ts) (hinst : Cond.instanceMethod (inf y).1 ∈ Ts) (hsel : Cond.selects Cn (inf y).1 (inf y).1 ∈ Ts) (hd : decode I.2.1 pc = .ok (.invokevirtual ix, 3)) : mm_Ok l D cl tys Ts N w fsp cs ad inf tab I pc (mi_callV w ci y na (pc + 3)) := by
  refine ⟨sh_callV _ _ _ _ _, ?_⟩
  intro p e s m args below meth c hc hSp J C hC ls st h res er k H locs jls hP hS hH hL hn hls hst
  obtain ⟨hx, hb, hml, hown, hts, hr, hlk, hK, hDA⟩ := hc
  unfold mi_callV at er
  split at er
  · rename_i _ _ a as hcb has
    split at er
    · rename_i hwa
      obtain ⟨b1, b2, b3⟩ := mm_cb_of hcb
      obtain ⟨q, h1, h2⟩ := Option.bind_eq_some_iff.mp er
      obtain ⟨n0, h1⟩ := hC _ _ _ _ h1
      have hokA : mm_okS (st.take na).reverse := fun v hv => hst v (List.mem_of_mem_take (List.mem_reverse.mp hv))
      have hall : (st.take na).reverse.all mm_c1 = true := by rw [List.all_reverse]; exact b3
      have hlenA : (st.take na).reverse.length = na := by rw [List.length_reverse, List.length_take]; omega
      rw [has] at hokA hall hlenA
      have hM := hSp y hrk (mm_r a :: as) h q n0 h1 hokA hH hall (by rw [hlenA]; exact hna) H.size
      have haN : a < N := hN a (by omega)
      have hat := mm_wd_at (N := N) (w := w) (fsp := fsp) (cs := cs) (ad := ad) (h := h) haN
      rw [mm_cell4 hwa] at hat
      have hstk : st.map (mm_f ad) = (as.map (mm_f ad)).reverse ++ .ref (ad a) :: (st.drop na).map (mm_f ad) := by
        have e1 : st = (mm_r a :: as).reverse ++ st.drop na := by rw [← has, List.reverse_reverse, List.take_append_drop]
        conv => lhs; rw [e1]
        rw [List.map_append, List.reverse_cons, List.map_append, List.map_reverse, List.append_assoc]
        rfl
      have hlas : as.length = na - 1 := by rw [← hlenA]; rfl
      refine mm_goes (rest := (st.drop na).map (mm_f ad)) (va_runV (As := as.map (mm_f ad)) (rest := (st.drop na).map (mm_f ad)) ⟨hx, hb, hml, hown, hts⟩ hM (cwV (C := Cn) (na - 1) hts (mm_good hTs (fun q hq => by
        simp only [wsV, mm_ws, List.cons_append, List.nil_append, List.mem_cons] at hq
        rcases hq with rfl | rfl | rfl | rfl | rfl | hq
        · exact hlink
        · exact hinst
        · exact hsel
        · rw [← hCn]; exact hini
        · exact hcode
        · exact hq)) rfl rfl rfl ⟨hCn, hnh.1, hnh.2, hpar⟩ (mm_room hrk hmx)) ⟨mm_blind, va_recv hK hP hcl hat, fun U hU hW => ⟨rfl, by rw [hU], by rw [hU]; exact hP, va_K.moved hW.alike hK, (hDA h).weaken (fun _ _ _ _ => trivial)⟩⟩ rfl (by rw [List.length_map]; exact hlas) (hL.1.trans hn) hstk (lv_room (mm_rest b2)) hd ⟨Nat.le_refl 0, Nat.le_refl 0⟩) hS (fun x _ z => mm_Amono hS.1 x z) (fun x z => mm_Amono hS.1 x z) (fun H1 locs1 hP1 hH1 hok1 hS1 => ?_)
      have fin := k _ _ _ _ h2 H1 locs1 jls hP1 hS1 hH1 hL hn hls (fun v hv => (List.mem_append.mp hv).elim (hok1 v) (fun z => hst v (List.mem_of_mem_drop z)))
      have e9 : (q.1.toList ++ st.drop na).map (mm_f ad) = (q.1.map (mm_f ad)).toList ++ (st.drop na).map (mm_f ad) := by
        rw [List.map_append]
        cases q.1 <;> rfl
      rw [e9] at fin
      exact fin
    · cases er
  · cases er
/-- the locals with which a method begins -/
theorem mm_args (ad : Nat → Nat) : ∀ (as : List mm_V) (i : Nat), as.all mm_c1 = true → ∀ (k : Nat) (v : mm_V), as[k]? = some v → (i + k, mm_f ad v) ∈ lv_args i (as.map (mm_f ad))
  | [], _, _, k, v, h => by simp at h
  | x :: as, i, hall, k, v, h => by
    rw [List.all_cons, Bool.and_eq_true] at hall
    have hc : (mm_f ad x).category ≠ 2 := by
      have h1 := hall.1
      revert h1
      unfold mm_c1 mm_f
      split <;> simp [Value.category]
    show _ ∈ (i, mm_f ad x) :: lv_args (if (mm_f ad x).category = 2 then i + 2 else i + 1) (as.map (mm_f ad))
    rw [if_neg hc]
    cases k with
    | zero =>
      rw [List.getElem?_cons_zero] at h
      rw [Option.some.inj h]
      exact List.mem_cons_self
    | succ k =>
      rw [List.getElem?_cons_succ] at h
      have := mm_args ad as (i + 1) hall.2 k v h
      rw [show i + 1 + k = i + (k + 1) by omega] at this
      exact List.mem_cons_of_mem _ this
theorem mm_slots (ad : Nat → Nat) : ∀ (as : List mm_V), as.all mm_c1 = true → (lg_sl (as.map (mm_f ad))).length = as.length
  | [], _ => rfl
  | x :: as, hall => by
    rw [List.all_cons, Bool.and_eq_true] at hall
    have hc : (mm_f ad x).category ≠ 2 := by
      have h1 := hall.1
      revert h1
      unfold mm_c1 mm_f
      split <;> simp [Value.category]
    have ih := mm_slots ad as hall.2
    unfold lg_sl at ih ⊢
    rw [List.map_cons, List.flatMap_cons, if_neg hc, List.length_append, ih]
    simp [Nat.add_comm]
/-- THE WHOLE: where every instruction is right, every method keeps its contract -/
theorem mm_sound (hOk : ∀ y pc, mm_Ok l D cl tys Ts N w fsp cs ad inf tab (inf y) pc (tab y pc)) (hpl : ∀ y, plainName (inf y).1.cls = true) : ∀ (r y : Nat), (inf y).2.2.2.2 < r → mm_Sp l D cl tys Ts N w fsp cs ad inf tab y
  | 0, _, h => absurd h (Nat.not_lt_zero _)
  | r + 1, y, hr => by
    intro as h res n er hok hH hall hlen sz
    refine Met.ofW (cc := (inf y).2.1) (maxL := (inf y).2.2.1) (ret := (inf y).2.2.2.1) (hpl y) rfl ?_
    intro p e s m args below meth c s₁ B hml hv
    obtain ⟨rfl, hsz, hP, hK, hD0⟩ := hv
    subst hsz
    have hcx : mm_Cx D cl tys Ts N w fsp cs ad (inf y) p s m (as.map (mm_f ad)).toArray meth c := ⟨B.exec, B.bytes, hml, findClass_of_methodNamed B.named, atoms_spec (ws := mm_ws Ts (inf y)) B.pre, B.returns, B.notSynchronized, hK, fun h2 => mm_wd_D hD0 (fun i hi => mm_A_in hi)⟩
    have hsub : ∀ y2, (inf y2).2.2.2.2 < (inf y).2.2.2.2 → mm_Sp l D cl tys Ts N w fsp cs ad inf tab y2 := fun y2 h2 => mm_sound hOk hpl r y2 (by omega)
    have key : ∀ (n pc : Nat) (ls st : List mm_V) (h : mm_H), mm_run tab (mm_en inf) n y pc ls st h = some res → mm_G l D cl tys N w fsp cs ad (inf y) p e s m (as.map (mm_f ad)).toArray below meth c pc ls st h res := by
      intro n
      induction n with
      | zero => intro pc ls st h e0; cases e0
      | succ n ih =>
        intro pc ls st h e0
        exact (hOk y pc).2 p e s m _ below meth c hcx hsub _ _ (fun y2 as2 h2 r2 e2 => ⟨n, e2⟩) ls st h res e0 (fun pc' ls' st' h' e1 => ih pc' ls' st' h' e1)
    have hls := mm_slots ad as hall
    have hl := lv_entry (as.map (mm_f ad)) (n := (inf y).2.2.1) (by rw [hls]; exact hlen)
    rw [lg_entry_eq]
    have hlen2 : (mm_en inf y as).length = (inf y).2.2.1 := by
      show (as ++ List.replicate _ _).length = _
      rw [List.length_append, List.length_replicate]
      omega
    have hat : ∀ (k : Nat) (v : mm_V), (mm_en inf y as)[k]? = some v → v = mm_u ∨ as[k]? = some v := by
      intro k v e0
      have e0 : (as ++ List.replicate ((inf y).2.2.1 - as.length) mm_u)[k]? = some v := e0
      by_cases hk : k < as.length
      · rw [List.getElem?_append_left hk] at e0
        exact Or.inr e0
      · rw [List.getElem?_append_right (by omega)] at e0
        exact Or.inl (List.eq_of_mem_replicate (List.mem_of_getElem? e0))
    refine key n 0 _ [] h er s.heap [] _ hP va_S.rf hH (mm_LR_sub hl hlen2 ?_) hlen2 ?_ (fun _ z => absurd z List.not_mem_nil)
    · intro q hq
      obtain ⟨v, g1, g2, g3⟩ := mm_lp_mem.mp hq
      rcases hat _ _ g1 with rfl | g1
      · cases g2
      · have := mm_args ad as 0 hall q.1 v g1
        rw [Nat.zero_add, ← g3] at this
        exact this
    · intro v hv
      obtain ⟨k, hk⟩ := List.getElem?_of_mem hv
      rcases hat _ _ hk with rfl | hk
      · trivial
      · exact hok v (List.mem_of_getElem? hk)
end MMQ
end
