/-! ===== THE MINI MACHINE: values, heap, instructions as combinators, runs ===== -/
abbrev mm_V : Type := (Int ⊕ Int) ⊕ (Nat ⊕ Unit)
abbrev mm_i (n : Int) : mm_V := .inl (.inl n)
abbrev mm_j (n : Int) : mm_V := .inl (.inr n)
abbrev mm_r (k : Nat) : mm_V := .inr (.inl k)
abbrev mm_u : mm_V := .inr (.inr ())
abbrev mm_H : Type := Nat → Nat → Int
abbrev mm_R : Type := Option mm_V × mm_H
abbrev mm_K : Type := List mm_V → List mm_V → mm_H → Option mm_R
abbrev mm_C : Type := Nat → List mm_V → mm_H → Option mm_R
abbrev mm_I : Type := (Nat → mm_K) → mm_C → mm_K
def mm_wr (x : Int) : Int := (x + 2147483648) % 4294967296 - 2147483648
def mm_wl (x : Int) : Int := (x + 9223372036854775808) % 18446744073709551616 - 9223372036854775808
def mm_up {α : Type} (f : Nat → α) (k : Nat) (v : α) : Nat → α := fun j => if j = k then v else f j
def mm_st (h : mm_H) (a k : Nat) (v : Int) : mm_H := mm_up h a (mm_up (h a) k v)
def mm_cp (f g : Nat → Int) (sp dp n : Nat) : Nat → Int := fun k => if dp ≤ k ∧ k < dp + n then f (sp + (k - dp)) else g k
def mm_and (a b : Int) : Int := (Int32.ofInt a &&& Int32.ofInt b).toInt
def mm_or (a b : Int) : Int := (Int32.ofInt a ||| Int32.ofInt b).toInt
def mm_xor (a b : Int) : Int := (Int32.ofInt a ^^^ Int32.ofInt b).toInt
def mm_shl (a b : Int) : Int := (Int32.ofInt a <<< (Int32.ofInt b &&& 31)).toInt
def mm_shr (a b : Int) : Int := (Int32.ofInt a >>> (Int32.ofInt b &&& 31)).toInt
def mm_ush (a b : Int) : Int := ((Int32.ofInt a).toUInt32 >>> ((Int32.ofInt b).toUInt32 &&& Int32.toUInt32 31)).toInt32.toInt
def mi_bad : mm_I := fun _ _ _ _ _ => none
def mi_const (v : Int) (nx : Nat) : mm_I := fun J _ ls st h => J nx ls (mm_i v :: st) h
def mi_lconst (v : Int) (nx : Nat) : mm_I := fun J _ ls st h => J nx ls (mm_j v :: st) h
def mi_iload (k nx : Nat) : mm_I := fun J _ ls st h => match ls[k]? with
  | some (.inl (.inl n)) => J nx ls (mm_i n :: st) h
  | _ => none
def mi_aload (k nx : Nat) : mm_I := fun J _ ls st h => match ls[k]? with
  | some (.inr (.inl n)) => J nx ls (mm_r n :: st) h
  | _ => none
def mi_lload (k nx : Nat) : mm_I := fun J _ ls st h => match ls[k]?, ls[k + 1]? with
  | some (.inl (.inr n)), some (.inr (.inr _)) => J nx ls (mm_j n :: st) h
  | _, _ => none
def mi_istore (k nx : Nat) : mm_I := fun J _ ls st h => match st with
  | .inl (.inl n) :: st => J nx (ls.set k (mm_i n)) st h
  | _ => none
def mi_astore (k nx : Nat) : mm_I := fun J _ ls st h => match st with
  | .inr (.inl n) :: st => J nx (ls.set k (mm_r n)) st h
  | _ => none
def mi_lstore (k nx : Nat) : mm_I := fun J _ ls st h => match st with
  | .inl (.inr n) :: st => J nx ((ls.set k (mm_j n)).set (k + 1) mm_u) st h
  | _ => none
def mi_iinc (k : Nat) (d : Int) (nx : Nat) : mm_I := fun J _ ls st h => match ls[k]? with
  | some (.inl (.inl n)) => J nx (ls.set k (mm_i (mm_wr (n + d)))) st h
  | _ => none
def mi_bin (f : Int → Int → Int) (nx : Nat) : mm_I := fun J _ ls st h => match st with
  | .inl (.inl b) :: .inl (.inl a) :: st => J nx ls (mm_i (f a b) :: st) h
  | _ => none
def mi_lbin (f : Int → Int → Int) (nx : Nat) : mm_I := fun J _ ls st h => match st with
  | .inl (.inr b) :: .inl (.inr a) :: st => J nx ls (mm_j (f a b) :: st) h
  | _ => none
def mm_add (a b : Int) : Int := mm_wr (a + b)
def mm_sub (a b : Int) : Int := mm_wr (a - b)
def mm_mul (a b : Int) : Int := mm_wr (a * b)
def mm_ladd (a b : Int) : Int := mm_wl (a + b)
def mm_lmul (a b : Int) : Int := mm_wl (a * b)
def mi_div (nx : Nat) : mm_I := fun J _ ls st h => match st with
  | .inl (.inl b) :: .inl (.inl a) :: st => if b = 0 then none else J nx ls (mm_i (mm_wr (Int.tdiv a b)) :: st) h
  | _ => none
def mi_rem (nx : Nat) : mm_I := fun J _ ls st h => match st with
  | .inl (.inl b) :: .inl (.inl a) :: st => if b = 0 then none else J nx ls (mm_i (Int.tmod a b) :: st) h
  | _ => none
def mi_lrem (nx : Nat) : mm_I := fun J _ ls st h => match st with
  | .inl (.inr b) :: .inl (.inr a) :: st => if b = 0 then none else J nx ls (mm_j (Int.tmod a b) :: st) h
  | _ => none
def mi_neg (nx : Nat) : mm_I := fun J _ ls st h => match st with
  | .inl (.inl a) :: st => J nx ls (mm_i (mm_wr (-a)) :: st) h
  | _ => none
def mi_i2l (nx : Nat) : mm_I := fun J _ ls st h => match st with
  | .inl (.inl a) :: st => J nx ls (mm_j a :: st) h
  | _ => none
def mi_l2i (nx : Nat) : mm_I := fun J _ ls st h => match st with
  | .inl (.inr a) :: st => J nx ls (mm_i (mm_wr a) :: st) h
  | _ => none
def mi_i2c (nx : Nat) : mm_I := fun J _ ls st h => match st with
  | .inl (.inl a) :: st => J nx ls (mm_i (a % 65536) :: st) h
  | _ => none
def mi_dup (nx : Nat) : mm_I := fun J _ ls st h => match st with
  | .inl (.inl a) :: st => J nx ls (mm_i a :: mm_i a :: st) h
  | .inr (.inl a) :: st => J nx ls (mm_r a :: mm_r a :: st) h
  | _ => none
def mi_dup2 (nx : Nat) : mm_I := fun J _ ls st h => match st with
  | .inl (.inl a) :: .inr (.inl b) :: st => J nx ls (mm_i a :: mm_r b :: mm_i a :: mm_r b :: st) h
  | _ => none
def mi_pop (nx : Nat) : mm_I := fun J _ ls st h => match st with
  | .inl (.inl _) :: st => J nx ls st h
  | .inr (.inl _) :: st => J nx ls st h
  | _ => none
def mi_goto (tg : Nat) : mm_I := fun J _ ls st h => J tg ls st h
def mi_ifeq (tg nx : Nat) : mm_I := fun J _ ls st h => match st with
  | .inl (.inl a) :: st => if a = 0 then J tg ls st h else J nx ls st h
  | _ => none
def mi_ifne (tg nx : Nat) : mm_I := fun J _ ls st h => match st with
  | .inl (.inl a) :: st => if a = 0 then J nx ls st h else J tg ls st h
  | _ => none
def mi_iflt (tg nx : Nat) : mm_I := fun J _ ls st h => match st with
  | .inl (.inl a) :: st => if a < 0 then J tg ls st h else J nx ls st h
  | _ => none
def mi_ifge (tg nx : Nat) : mm_I := fun J _ ls st h => match st with
  | .inl (.inl a) :: st => if a < 0 then J nx ls st h else J tg ls st h
  | _ => none
def mi_ifgt (tg nx : Nat) : mm_I := fun J _ ls st h => match st with
  | .inl (.inl a) :: st => if 0 < a then J tg ls st h else J nx ls st h
  | _ => none
def mi_ifle (tg nx : Nat) : mm_I := fun J _ ls st h => match st with
  | .inl (.inl a) :: st => if 0 < a then J nx ls st h else J tg ls st h
  | _ => none
def mi_cmpeq (tg nx : Nat) : mm_I := fun J _ ls st h => match st with
  | .inl (.inl b) :: .inl (.inl a) :: st => if a = b then J tg ls st h else J nx ls st h
  | _ => none
def mi_cmpne (tg nx : Nat) : mm_I := fun J _ ls st h => match st with
  | .inl (.inl b) :: .inl (.inl a) :: st => if a = b then J nx ls st h else J tg ls st h
  | _ => none
def mi_cmplt (tg nx : Nat) : mm_I := fun J _ ls st h => match st with
  | .inl (.inl b) :: .inl (.inl a) :: st => if a < b then J tg ls st h else J nx ls st h
  | _ => none
def mi_cmpge (tg nx : Nat) : mm_I := fun J _ ls st h => match st with
  | .inl (.inl b) :: .inl (.inl a) :: st => if a < b then J nx ls st h else J tg ls st h
  | _ => none
def mi_cmpgt (tg nx : Nat) : mm_I := fun J _ ls st h => match st with
  | .inl (.inl b) :: .inl (.inl a) :: st => if b < a then J tg ls st h else J nx ls st h
  | _ => none
def mi_cmple (tg nx : Nat) : mm_I := fun J _ ls st h => match st with
  | .inl (.inl b) :: .inl (.inl a) :: st => if b < a then J nx ls st h else J tg ls st h
  | _ => none
def mm_sw (x : Int) (d : Option mm_R) : List (Int × Option mm_R) → Option mm_R
  | [] => d
  | (k, o) :: r => if x = k then o else mm_sw x d r
def mi_sw (ps : List (Int × Nat)) (dt : Nat) : mm_I := fun J _ ls st h => match st with
  | .inl (.inl a) :: st => mm_sw a (J dt ls st h) (ps.map fun q => (q.1, J q.2 ls st h))
  | _ => none
/-! a world's table: w a = (kind, size); kinds: 0 int[], 1 char[], 2 an array of references, 3 an array of int[] (its rows stand behind it), 4 + c an object of kind c -/
abbrev mm_W : Type := Nat → Nat × Nat
def mi_getI (w : mm_W) (ci k nx : Nat) : mm_I := fun J _ ls st h => match st with
  | .inr (.inl a) :: st => if (w a).1 = ci + 4 then J nx ls (mm_i (h a k) :: st) h else none
  | _ => none
def mi_getS (w : mm_W) (ci off nx : Nat) : mm_I := fun J _ ls st h => match st with
  | .inr (.inl a) :: st => if (w a).1 = ci + 4 then J nx ls (mm_r (a + off) :: st) h else none
  | _ => none
def mi_getD (w : mm_W) (ci k nx : Nat) : mm_I := fun J _ ls st h => match st with
  | .inr (.inl a) :: st => if (w a).1 = ci + 4 then J nx ls (mm_r (h a k).toNat :: st) h else none
  | _ => none
def mi_putI (w : mm_W) (ci k nx : Nat) : mm_I := fun J _ ls st h => match st with
  | .inl (.inl v) :: .inr (.inl a) :: st => if (w a).1 = ci + 4 then J nx ls st (mm_st h a k v) else none
  | _ => none
def mi_putD (w : mm_W) (ci k nx : Nat) : mm_I := fun J _ ls st h => match st with
  | .inr (.inl b) :: .inr (.inl a) :: st => if (w a).1 = ci + 4 ∧ b < 2147483648 then J nx ls st (mm_st h a k b) else none
  | _ => none
def mi_iald (w : mm_W) (nx : Nat) : mm_I := fun J _ ls st h => match st with
  | .inl (.inl i) :: .inr (.inl a) :: st => if (w a).1 = 0 then (if 0 ≤ i ∧ i < (w a).2 then J nx ls (mm_i (h a i.toNat) :: st) h else none) else none
  | _ => none
def mi_cald (w : mm_W) (nx : Nat) : mm_I := fun J _ ls st h => match st with
  | .inl (.inl i) :: .inr (.inl a) :: st => if (w a).1 = 1 then (if 0 ≤ i ∧ i < (w a).2 then J nx ls (mm_i (h a i.toNat) :: st) h else none) else none
  | _ => none
def mi_aald (w : mm_W) (nx : Nat) : mm_I := fun J _ ls st h => match st with
  | .inl (.inl i) :: .inr (.inl a) :: st => if (w a).1 = 2 then (if 0 ≤ i ∧ i < (w a).2 then J nx ls (mm_r (h a i.toNat).toNat :: st) h else none) else none
  | _ => none
def mi_bald (w : mm_W) (nx : Nat) : mm_I := fun J _ ls st h => match st with
  | .inl (.inl i) :: .inr (.inl a) :: st => if (w a).1 = 3 then (if 0 ≤ i ∧ i < (w a).2 then J nx ls (mm_r (a + 1 + i.toNat) :: st) h else none) else none
  | _ => none
def mi_iast (w : mm_W) (nx : Nat) : mm_I := fun J _ ls st h => match st with
  | .inl (.inl v) :: .inl (.inl i) :: .inr (.inl a) :: st => if (w a).1 = 0 then (if 0 ≤ i ∧ i < (w a).2 then J nx ls st (mm_st h a i.toNat v) else none) else none
  | _ => none
def mi_cast (w : mm_W) (nx : Nat) : mm_I := fun J _ ls st h => match st with
  | .inl (.inl v) :: .inl (.inl i) :: .inr (.inl a) :: st => if (w a).1 = 1 then (if (0 ≤ i ∧ i < (w a).2) ∧ 0 ≤ v ∧ v < 65536 then J nx ls st (mm_st h a i.toNat v) else none) else none
  | _ => none
def mi_aast (w : mm_W) (ci nx : Nat) : mm_I := fun J _ ls st h => match st with
  | .inr (.inl b) :: .inl (.inl i) :: .inr (.inl a) :: st => if (w a).1 = 2 ∧ (w b).1 = ci + 4 ∧ b < 2147483648 then (if 0 ≤ i ∧ i < (w a).2 then J nx ls st (mm_st h a i.toNat b) else none) else none
  | _ => none
def mi_alen (w : mm_W) (nx : Nat) : mm_I := fun J _ ls st h => match st with
  | .inr (.inl a) :: st => if (w a).1 < 4 ∧ (w a).2 < 2147483648 then J nx ls (mm_i (w a).2 :: st) h else none
  | _ => none
def mi_max (nx : Nat) : mm_I := fun J _ ls st h => match st with
  | .inl (.inl b) :: .inl (.inl a) :: st => (match Nat.ble st.length 8 with
    | true => J nx ls (mm_i (if a < b then b else a) :: st) h
    | false => none)
  | _ => none
def mi_min (nx : Nat) : mm_I := fun J _ ls st h => match st with
  | .inl (.inl b) :: .inl (.inl a) :: st => (match Nat.ble st.length 8 with
    | true => J nx ls (mm_i (if b < a then b else a) :: st) h
    | false => none)
  | _ => none
def mi_abs (nx : Nat) : mm_I := fun J _ ls st h => match st with
  | .inl (.inl a) :: st => (match Nat.ble st.length 8 with
    | true => J nx ls (mm_i (mm_wr (if 0 ≤ a then a else 0 - a)) :: st) h
    | false => none)
  | _ => none
def mi_copy (w : mm_W) (nx : Nat) : mm_I := fun J _ ls st h => match st with
  | .inl (.inl n) :: .inl (.inl dp) :: .inr (.inl b) :: .inl (.inl sp) :: .inr (.inl a) :: st => (match Nat.ble st.length 8 with
    | true => if (w a).1 = 0 ∧ (w b).1 = 0 then (if (0 ≤ sp ∧ 0 ≤ dp ∧ 0 ≤ n) ∧ sp + n ≤ (w a).2 ∧ dp + n ≤ (w b).2 then J nx ls st (mm_up h b (mm_cp (h a) (h b) sp.toNat dp.toNat n.toNat)) else none) else none
    | false => none)
  | _ => none
/-- a call: na arguments (the receiver among them) -/
def mm_c1 (v : mm_V) : Bool := match v with
  | .inl (.inl _) => true
  | .inr (.inl _) => true
  | _ => false
def mm_cb (na : Nat) (st : List mm_V) : Bool := Nat.ble na st.length && (Nat.ble (st.drop na).length 4 && (st.take na).all mm_c1)
def mi_callS (y na nx : Nat) : mm_I := fun J C ls st h => match mm_cb na st with
  | true => (C y (st.take na).reverse h).bind fun q => J nx ls (q.1.toList ++ st.drop na) q.2
  | false => none
def mi_callV (w : mm_W) (ci y na nx : Nat) : mm_I := fun J C ls st h => match mm_cb na st, (st.take na).reverse with
  | true, .inr (.inl a) :: as => if (w a).1 = ci + 4 then (C y (mm_r a :: as) h).bind fun q => J nx ls (q.1.toList ++ st.drop na) q.2 else none
  | _, _ => none
def mi_iret : mm_I := fun _ _ _ st h => match st with
  | [.inl (.inl v)] => some (some (mm_i v), h)
  | _ => none
def mi_zret : mm_I := fun _ _ _ st h => match st with
  | [.inl (.inl v)] => if v = 0 ∨ v = 1 then some (some (mm_i v), h) else none
  | _ => none
def mi_vret : mm_I := fun _ _ _ st h => match st with
  | [] => some (none, h)
  | _ => none
def mi_aret : mm_I := fun _ _ _ st h => match st with
  | [.inr (.inl a)] => some (some (mm_r a), h)
  | _ => none
/-! code as a tree -/
def mm_nd (b : Nat) (l r : Nat → mm_I) : Nat → mm_I := fun pc => bif Nat.blt pc b then l pc else r pc
def mm_lf (k : Nat) (i : mm_I) : Nat → mm_I := fun pc => bif Nat.beq pc k then i else mi_bad
/-! runs -/
def mm_run (tab : Nat → Nat → mm_I) (ent : Nat → List mm_V → List mm_V) : Nat → Nat → Nat → mm_K
  | 0, _, _ => fun _ _ _ => none
  | n + 1, y, pc => tab y pc (fun pc' => mm_run tab ent n y pc') (fun y' as h => mm_run tab ent n y' 0 (ent y' as) [] h)
/-- what an instruction can do: answer, go on, or call and go on -/
def mm_sh (i : mm_I) : Prop := ∀ (ls st : List mm_V) (h : mm_H), (∃ r, ∀ J C, i J C ls st h = r) ∨ (∃ pc' ls' st' h', ∀ (J : Nat → mm_K) (C : mm_C), i J C ls st h = J pc' ls' st' h') ∨ (∃ y as h' pc' ls' st', ∀ (J : Nat → mm_K) (C : mm_C), i J C ls st h = (C y as h').bind fun q => J pc' ls' (q.1.toList ++ st') q.2)
theorem mm_sh_mono {i : mm_I} (hi : mm_sh i) {J J' : Nat → mm_K} {C C' : mm_C} (hJ : ∀ pc ls st h r, J pc ls st h = some r → J' pc ls st h = some r) (hC : ∀ y as h r, C y as h = some r → C' y as h = some r) {ls st : List mm_V} {h : mm_H} {r : mm_R} (e : i J C ls st h = some r) : i J' C' ls st h = some r := by
  rcases hi ls st h with ⟨q, hq⟩ | ⟨pc', ls', st', h', hq⟩ | ⟨y, as, h', pc', ls', st', hq⟩
  · rw [hq] at e ⊢; exact e
  · rw [hq] at e ⊢; exact hJ _ _ _ _ _ e
  · rw [hq] at e ⊢
    obtain ⟨a, h1, h2⟩ := Option.bind_eq_some_iff.mp e
    rw [hC _ _ _ _ h1]
    exact hJ _ _ _ _ _ h2
section MMR
variable {tab : Nat → Nat → mm_I} {ent : Nat → List mm_V → List mm_V}
theorem mm_run_step (ht : ∀ y pc, mm_sh (tab y pc)) : ∀ (n y pc : Nat) (ls st : List mm_V) (h : mm_H) (r : mm_R), mm_run tab ent n y pc ls st h = some r → mm_run tab ent (n + 1) y pc ls st h = some r
  | 0, _, _, _, _, _, _, e => by cases e
  | n + 1, y, pc, ls, st, h, r, e => by
    show tab y pc _ _ ls st h = some r
    exact mm_sh_mono (ht y pc) (fun pc' ls' st' h' r' e' => mm_run_step ht n y pc' ls' st' h' r' e') (fun y' as h' r' e' => mm_run_step ht n y' 0 _ _ h' r' e') e
theorem mm_run_le (ht : ∀ y pc, mm_sh (tab y pc)) {n k y pc : Nat} {ls st : List mm_V} {h : mm_H} {r : mm_R} (hk : n ≤ k) (e : mm_run tab ent n y pc ls st h = some r) : mm_run tab ent k y pc ls st h = some r := by
  induction hk with
  | refl => exact e
  | step _ ih => exact mm_run_step ht _ _ _ _ _ _ _ ih
noncomputable def mm_ev (tab : Nat → Nat → mm_I) (ent : Nat → List mm_V → List mm_V) (y pc : Nat) (ls st : List mm_V) (h : mm_H) : Option mm_R :=
  @dite (Option mm_R) (∃ r n, mm_run tab ent n y pc ls st h = some r) (Classical.propDecidable _) (fun q => some q.choose) (fun _ => none)
theorem mm_run_one (ht : ∀ y pc, mm_sh (tab y pc)) {n k y pc : Nat} {ls st : List mm_V} {h : mm_H} {r r' : mm_R} (e : mm_run tab ent n y pc ls st h = some r) (e' : mm_run tab ent k y pc ls st h = some r') : r = r' := by
  have h1 := mm_run_le ht (Nat.le_max_left n k) e
  have h2 := mm_run_le ht (Nat.le_max_right n k) e'
  exact Option.some.inj (h1.symm.trans h2)
theorem mm_ev_of (ht : ∀ y pc, mm_sh (tab y pc)) {n y pc : Nat} {ls st : List mm_V} {h : mm_H} {r : mm_R} (e : mm_run tab ent n y pc ls st h = some r) : mm_ev tab ent y pc ls st h = some r := by
  unfold mm_ev
  have q : ∃ r n, mm_run tab ent n y pc ls st h = some r := ⟨r, n, e⟩
  rw [dif_pos q]
  obtain ⟨k, hk⟩ := q.choose_spec
  rw [mm_run_one ht hk e]
theorem mm_ev_to {y pc : Nat} {ls st : List mm_V} {h : mm_H} {r : mm_R} (e : mm_ev tab ent y pc ls st h = some r) : ∃ n, mm_run tab ent n y pc ls st h = some r := by
  unfold mm_ev at e
  by_cases q : ∃ r n, mm_run tab ent n y pc ls st h = some r
  · rw [dif_pos q] at e
    obtain ⟨k, hk⟩ := q.choose_spec
    rw [Option.some.inj e] at hk
    exact ⟨k, hk⟩
  · rw [dif_neg q] at e
    cases e
theorem mm_opt_ext {α : Type} {a b : Option α} (h1 : ∀ r, a = some r → b = some r) (h2 : ∀ r, b = some r → a = some r) : a = b := by
  cases a with
  | some x => exact (h1 x rfl).symm
  | none =>
    cases b with
    | some x => exact h2 x rfl
    | none => rfl
theorem mm_ev_eq (ht : ∀ y pc, mm_sh (tab y pc)) (y pc : Nat) (ls st : List mm_V) (h : mm_H) : mm_ev tab ent y pc ls st h = tab y pc (fun pc' => mm_ev tab ent y pc') (fun y' as h => mm_ev tab ent y' 0 (ent y' as) [] h) ls st h := by
  apply mm_opt_ext
  · intro r e
    obtain ⟨n, e⟩ := mm_ev_to e
    cases n with
    | zero => cases e
    | succ n => exact mm_sh_mono (ht y pc) (fun _ _ _ _ _ e' => mm_ev_of ht e') (fun _ _ _ _ e' => mm_ev_of ht e') e
  · intro r e
    rcases ht y pc ls st h with ⟨q, hq⟩ | ⟨pc', ls', st', h', hq⟩ | ⟨y', as, h', pc', ls', st', hq⟩
    · rw [hq] at e
      exact mm_ev_of ht (n := 1) (by show tab y pc _ _ ls st h = some r; rw [hq]; exact e)
    · rw [hq] at e
      obtain ⟨n, e⟩ := mm_ev_to e
      exact mm_ev_of ht (n := n + 1) (by show tab y pc _ _ ls st h = some r; rw [hq]; exact e)
    · rw [hq] at e
      obtain ⟨a, h1, h2⟩ := Option.bind_eq_some_iff.mp e
      obtain ⟨n, h1⟩ := mm_ev_to h1
      obtain ⟨k, h2⟩ := mm_ev_to h2
      refine mm_ev_of ht (n := max n k + 1) ?_
      show tab y pc _ _ ls st h = some r
      rw [hq]
      rw [mm_run_le ht (Nat.le_max_left n k) h1]
      exact mm_run_le ht (Nat.le_max_right n k) h2
/-- some steps forward, up to a stop -/
def mm_fw (tab : Nat → Nat → mm_I) (E : Nat → Nat → mm_K) (C : mm_C) (stop : Nat → Bool) (y : Nat) (n : Nat) : Nat → mm_K := Nat.rec (fun pc => E y pc) (fun _ ih pc => tab y pc (fun pc' => bif stop pc' then E y pc' else ih pc') C) n
theorem mm_ev_fw (ht : ∀ y pc, mm_sh (tab y pc)) (stop : Nat → Bool) (y : Nat) : ∀ (n pc : Nat), mm_ev tab ent y pc = mm_fw tab (mm_ev tab ent) (fun y' as h => mm_ev tab ent y' 0 (ent y' as) [] h) stop y n pc
  | 0, pc => rfl
  | n + 1, pc => by
    funext ls st h
    rw [mm_ev_eq ht]
    show _ = tab y pc (fun pc' => bif stop pc' then mm_ev tab ent y pc' else mm_fw tab (mm_ev tab ent) (fun y' as h => mm_ev tab ent y' 0 (ent y' as) [] h) stop y n pc') _ ls st h
    congr 1
    funext pc'
    rw [← mm_ev_fw ht stop y n pc']
    cases stop pc' <;> rfl
/-- behind a call whose answer is known -/
theorem mm_bi {o : Option mm_R} {f : mm_R → Option mm_R} {q : mm_R} {R : Option mm_R} (e : o = some q) (k : f q = R) : o.bind f = R := by
  rw [e]; exact k
end MMR
/-! the instructions' shapes -/
theorem sh_bad : mm_sh mi_bad := fun _ _ _ => Or.inl ⟨none, fun _ _ => rfl⟩
theorem sh_nd {b : Nat} {l r : Nat → mm_I} (hl : ∀ pc, mm_sh (l pc)) (hr : ∀ pc, mm_sh (r pc)) (pc : Nat) : mm_sh (mm_nd b l r pc) := by
  unfold mm_nd
  cases Nat.blt pc b
  · exact hr pc
  · exact hl pc
theorem sh_lf {k : Nat} {i : mm_I} (hi : mm_sh i) (pc : Nat) : mm_sh (mm_lf k i pc) := by
  unfold mm_lf
  cases Nat.beq pc k
  · exact sh_bad
  · exact hi
theorem sh_const (v : Int) (nx : Nat) : mm_sh (mi_const v nx) := by
  intro ls st h
  unfold mi_const
  repeat' split
  all_goals first | exact Or.inl ⟨_, fun _ _ => rfl⟩ | exact Or.inr (Or.inl ⟨_, _, _, _, fun _ _ => rfl⟩)
theorem sh_lconst (v : Int) (nx : Nat) : mm_sh (mi_lconst v nx) := by
  intro ls st h
  unfold mi_lconst
  repeat' split
  all_goals first | exact Or.inl ⟨_, fun _ _ => rfl⟩ | exact Or.inr (Or.inl ⟨_, _, _, _, fun _ _ => rfl⟩)
theorem sh_iload (k nx : Nat) : mm_sh (mi_iload k nx) := by
  intro ls st h
  unfold mi_iload
  repeat' split
  all_goals first | exact Or.inl ⟨_, fun _ _ => rfl⟩ | exact Or.inr (Or.inl ⟨_, _, _, _, fun _ _ => rfl⟩)
theorem sh_aload (k nx : Nat) : mm_sh (mi_aload k nx) := by
  intro ls st h
  unfold mi_aload
  repeat' split
  all_goals first | exact Or.inl ⟨_, fun _ _ => rfl⟩ | exact Or.inr (Or.inl ⟨_, _, _, _, fun _ _ => rfl⟩)
theorem sh_lload (k nx : Nat) : mm_sh (mi_lload k nx) := by
  intro ls st h
  unfold mi_lload
  repeat' split
  all_goals first | exact Or.inl ⟨_, fun _ _ => rfl⟩ | exact Or.inr (Or.inl ⟨_, _, _, _, fun _ _ => rfl⟩)
theorem sh_istore (k nx : Nat) : mm_sh (mi_istore k nx) := by
  intro ls st h
  unfold mi_istore
  repeat' split
  all_goals first | exact Or.inl ⟨_, fun _ _ => rfl⟩ | exact Or.inr (Or.inl ⟨_, _, _, _, fun _ _ => rfl⟩)
theorem sh_astore (k nx : Nat) : mm_sh (mi_astore k nx) := by
  intro ls st h
  unfold mi_astore
  repeat' split
  all_goals first | exact Or.inl ⟨_, fun _ _ => rfl⟩ | exact Or.inr (Or.inl ⟨_, _, _, _, fun _ _ => rfl⟩)
theorem sh_lstore (k nx : Nat) : mm_sh (mi_lstore k nx) := by
  intro ls st h
  unfold mi_lstore
  repeat' split
  all_goals first | exact Or.inl ⟨_, fun _ _ => rfl⟩ | exact Or.inr (Or.inl ⟨_, _, _, _, fun _ _ => rfl⟩)
theorem sh_iinc (k : Nat) (d : Int) (nx : Nat) : mm_sh (mi_iinc k d nx) := by
  intro ls st h
  unfold mi_iinc
  repeat' split
  all_goals first | exact Or.inl ⟨_, fun _ _ => rfl⟩ | exact Or.inr (Or.inl ⟨_, _, _, _, fun _ _ => rfl⟩)
theorem sh_bin (f : Int → Int → Int) (nx : Nat) : mm_sh (mi_bin f nx) := by
  intro ls st h
  unfold mi_bin
  repeat' split
  all_goals first | exact Or.inl ⟨_, fun _ _ => rfl⟩ | exact Or.inr (Or.inl ⟨_, _, _, _, fun _ _ => rfl⟩)
theorem sh_lbin (f : Int → Int → Int) (nx : Nat) : mm_sh (mi_lbin f nx) := by
  intro ls st h
  unfold mi_lbin
  repeat' split
  all_goals first | exact Or.inl ⟨_, fun _ _ => rfl⟩ | exact Or.inr (Or.inl ⟨_, _, _, _, fun _ _ => rfl⟩)
theorem sh_div (nx : Nat) : mm_sh (mi_div nx) := by
  intro ls st h
  unfold mi_div
  repeat' split
  all_goals first | exact Or.inl ⟨_, fun _ _ => rfl⟩ | exact Or.inr (Or.inl ⟨_, _, _, _, fun _ _ => rfl⟩)
theorem sh_rem (nx : Nat) : mm_sh (mi_rem nx) := by
  intro ls st h
  unfold mi_rem
  repeat' split
  all_goals first | exact Or.inl ⟨_, fun _ _ => rfl⟩ | exact Or.inr (Or.inl ⟨_, _, _, _, fun _ _ => rfl⟩)
theorem sh_lrem (nx : Nat) : mm_sh (mi_lrem nx) := by
  intro ls st h
  unfold mi_lrem
  repeat' split
  all_goals first | exact Or.inl ⟨_, fun _ _ => rfl⟩ | exact Or.inr (Or.inl ⟨_, _, _, _, fun _ _ => rfl⟩)
theorem sh_neg (nx : Nat) : mm_sh (mi_neg nx) := by
  intro ls st h
  unfold mi_neg
  repeat' split
  all_goals first | exact Or.inl ⟨_, fun _ _ => rfl⟩ | exact Or.inr (Or.inl ⟨_, _, _, _, fun _ _ => rfl⟩)
theorem sh_i2l (nx : Nat) : mm_sh (mi_i2l nx) := by
  intro ls st h
  unfold mi_i2l
  repeat' split
  all_goals first | exact Or.inl ⟨_, fun _ _ => rfl⟩ | exact Or.inr (Or.inl ⟨_, _, _, _, fun _ _ => rfl⟩)
theorem sh_l2i (nx : Nat) : mm_sh (mi_l2i nx) := by
  intro ls st h
  unfold mi_l2i
  repeat' split
  all_goals first | exact Or.inl ⟨_, fun _ _ => rfl⟩ | exact Or.inr (Or.inl ⟨_, _, _, _, fun _ _ => rfl⟩)
theorem sh_i2c (nx : Nat) : mm_sh (mi_i2c nx) := by
  intro ls st h
  unfold mi_i2c
  repeat' split
  all_goals first | exact Or.inl ⟨_, fun _ _ => rfl⟩ | exact Or.inr (Or.inl ⟨_, _, _, _, fun _ _ => rfl⟩)
theorem sh_dup (nx : Nat) : mm_sh (mi_dup nx) := by
  intro ls st h
  unfold mi_dup
  repeat' split
  all_goals first | exact Or.inl ⟨_, fun _ _ => rfl⟩ | exact Or.inr (Or.inl ⟨_, _, _, _, fun _ _ => rfl⟩)
theorem sh_dup2 (nx : Nat) : mm_sh (mi_dup2 nx) := by
  intro ls st h
  unfold mi_dup2
  repeat' split
  all_goals first | exact Or.inl ⟨_, fun _ _ => rfl⟩ | exact Or.inr (Or.inl ⟨_, _, _, _, fun _ _ => rfl⟩)
theorem sh_pop (nx : Nat) : mm_sh (mi_pop nx) := by
  intro ls st h
  unfold mi_pop
  repeat' split
  all_goals first | exact Or.inl ⟨_, fun _ _ => rfl⟩ | exact Or.inr (Or.inl ⟨_, _, _, _, fun _ _ => rfl⟩)
theorem sh_goto (tg : Nat) : mm_sh (mi_goto tg) := by
  intro ls st h
  unfold mi_goto
  repeat' split
  all_goals first | exact Or.inl ⟨_, fun _ _ => rfl⟩ | exact Or.inr (Or.inl ⟨_, _, _, _, fun _ _ => rfl⟩)
theorem sh_ifeq (tg nx : Nat) : mm_sh (mi_ifeq tg nx) := by
  intro ls st h
  unfold mi_ifeq
  repeat' split
  all_goals first | exact Or.inl ⟨_, fun _ _ => rfl⟩ | exact Or.inr (Or.inl ⟨_, _, _, _, fun _ _ => rfl⟩)
theorem sh_ifne (tg nx : Nat) : mm_sh (mi_ifne tg nx) := by
  intro ls st h
  unfold mi_ifne
  repeat' split
  all_goals first | exact Or.inl ⟨_, fun _ _ => rfl⟩ | exact Or.inr (Or.inl ⟨_, _, _, _, fun _ _ => rfl⟩)
theorem sh_iflt (tg nx : Nat) : mm_sh (mi_iflt tg nx) := by
  intro ls st h
  unfold mi_iflt
  repeat' split
  all_goals first | exact Or.inl ⟨_, fun _ _ => rfl⟩ | exact Or.inr (Or.inl ⟨_, _, _, _, fun _ _ => rfl⟩)
theorem sh_ifge (tg nx : Nat) : mm_sh (mi_ifge tg nx) := by
  intro ls st h
  unfold mi_ifge
  repeat' split
  all_goals first | exact Or.inl ⟨_, fun _ _ => rfl⟩ | exact Or.inr (Or.inl ⟨_, _, _, _, fun _ _ => rfl⟩)
theorem sh_ifgt (tg nx : Nat) : mm_sh (mi_ifgt tg nx) := by
  intro ls st h
  unfold mi_ifgt
  repeat' split
  all_goals first | exact Or.inl ⟨_, fun _ _ => rfl⟩ | exact Or.inr (Or.inl ⟨_, _, _, _, fun _ _ => rfl⟩)
theorem sh_ifle (tg nx : Nat) : mm_sh (mi_ifle tg nx) := by
  intro ls st h
  unfold mi_ifle
  repeat' split
  all_goals first | exact Or.inl ⟨_, fun _ _ => rfl⟩ | exact Or.inr (Or.inl ⟨_, _, _, _, fun _ _ => rfl⟩)
theorem sh_cmpeq (tg nx : Nat) : mm_sh (mi_cmpeq tg nx) := by
  intro ls st h
  unfold mi_cmpeq
  repeat' split
  all_goals first | exact Or.inl ⟨_, fun _ _ => rfl⟩ | exact Or.inr (Or.inl ⟨_, _, _, _, fun _ _ => rfl⟩)
theorem sh_cmpne (tg nx : Nat) : mm_sh (mi_cmpne tg nx) := by
  intro ls st h
  unfold mi_cmpne
  repeat' split
  all_goals first | exact Or.inl ⟨_, fun _ _ => rfl⟩ | exact Or.inr (Or.inl ⟨_, _, _, _, fun _ _ => rfl⟩)
theorem sh_cmplt (tg nx : Nat) : mm_sh (mi_cmplt tg nx) := by
  intro ls st h
  unfold mi_cmplt
  repeat' split
  all_goals first | exact Or.inl ⟨_, fun _ _ => rfl⟩ | exact Or.inr (Or.inl ⟨_, _, _, _, fun _ _ => rfl⟩)
theorem sh_cmpge (tg nx : Nat) : mm_sh (mi_cmpge tg nx) := by
  intro ls st h
  unfold mi_cmpge
  repeat' split
  all_goals first | exact Or.inl ⟨_, fun _ _ => rfl⟩ | exact Or.inr (Or.inl ⟨_, _, _, _, fun _ _ => rfl⟩)
theorem sh_cmpgt (tg nx : Nat) : mm_sh (mi_cmpgt tg nx) := by
  intro ls st h
  unfold mi_cmpgt
  repeat' split
  all_goals first | exact Or.inl ⟨_, fun _ _ => rfl⟩ | exact Or.inr (Or.inl ⟨_, _, _, _, fun _ _ => rfl⟩)
theorem sh_cmple (tg nx : Nat) : mm_sh (mi_cmple tg nx) := by
  intro ls st h
  unfold mi_cmple
  repeat' split
  all_goals first | exact Or.inl ⟨_, fun _ _ => rfl⟩ | exact Or.inr (Or.inl ⟨_, _, _, _, fun _ _ => rfl⟩)
theorem sh_getI (w : mm_W) (ci k nx : Nat) : mm_sh (mi_getI w ci k nx) := by
  intro ls st h
  unfold mi_getI
  repeat' split
  all_goals first | exact Or.inl ⟨_, fun _ _ => rfl⟩ | exact Or.inr (Or.inl ⟨_, _, _, _, fun _ _ => rfl⟩)
theorem sh_getS (w : mm_W) (ci k nx : Nat) : mm_sh (mi_getS w ci k nx) := by
  intro ls st h
  unfold mi_getS
  repeat' split
  all_goals first | exact Or.inl ⟨_, fun _ _ => rfl⟩ | exact Or.inr (Or.inl ⟨_, _, _, _, fun _ _ => rfl⟩)
theorem sh_getD (w : mm_W) (ci k nx : Nat) : mm_sh (mi_getD w ci k nx) := by
  intro ls st h
  unfold mi_getD
  repeat' split
  all_goals first | exact Or.inl ⟨_, fun _ _ => rfl⟩ | exact Or.inr (Or.inl ⟨_, _, _, _, fun _ _ => rfl⟩)
theorem sh_putI (w : mm_W) (ci k nx : Nat) : mm_sh (mi_putI w ci k nx) := by
  intro ls st h
  unfold mi_putI
  repeat' split
  all_goals first | exact Or.inl ⟨_, fun _ _ => rfl⟩ | exact Or.inr (Or.inl ⟨_, _, _, _, fun _ _ => rfl⟩)
theorem sh_putD (w : mm_W) (ci k nx : Nat) : mm_sh (mi_putD w ci k nx) := by
  intro ls st h
  unfold mi_putD
  repeat' split
  all_goals first | exact Or.inl ⟨_, fun _ _ => rfl⟩ | exact Or.inr (Or.inl ⟨_, _, _, _, fun _ _ => rfl⟩)
theorem sh_iald (w : mm_W) (nx : Nat) : mm_sh (mi_iald w nx) := by
  intro ls st h
  unfold mi_iald
  repeat' split
  all_goals first | exact Or.inl ⟨_, fun _ _ => rfl⟩ | exact Or.inr (Or.inl ⟨_, _, _, _, fun _ _ => rfl⟩)
theorem sh_cald (w : mm_W) (nx : Nat) : mm_sh (mi_cald w nx) := by
  intro ls st h
  unfold mi_cald
  repeat' split
  all_goals first | exact Or.inl ⟨_, fun _ _ => rfl⟩ | exact Or.inr (Or.inl ⟨_, _, _, _, fun _ _ => rfl⟩)
theorem sh_aald (w : mm_W) (nx : Nat) : mm_sh (mi_aald w nx) := by
  intro ls st h
  unfold mi_aald
  repeat' split
  all_goals first | exact Or.inl ⟨_, fun _ _ => rfl⟩ | exact Or.inr (Or.inl ⟨_, _, _, _, fun _ _ => rfl⟩)
theorem sh_bald (w : mm_W) (nx : Nat) : mm_sh (mi_bald w nx) := by
  intro ls st h
  unfold mi_bald
  repeat' split
  all_goals first | exact Or.inl ⟨_, fun _ _ => rfl⟩ | exact Or.inr (Or.inl ⟨_, _, _, _, fun _ _ => rfl⟩)
theorem sh_iast (w : mm_W) (nx : Nat) : mm_sh (mi_iast w nx) := by
  intro ls st h
  unfold mi_iast
  repeat' split
  all_goals first | exact Or.inl ⟨_, fun _ _ => rfl⟩ | exact Or.inr (Or.inl ⟨_, _, _, _, fun _ _ => rfl⟩)
theorem sh_cast (w : mm_W) (nx : Nat) : mm_sh (mi_cast w nx) := by
  intro ls st h
  unfold mi_cast
  repeat' split
  all_goals first | exact Or.inl ⟨_, fun _ _ => rfl⟩ | exact Or.inr (Or.inl ⟨_, _, _, _, fun _ _ => rfl⟩)
theorem sh_alen (w : mm_W) (nx : Nat) : mm_sh (mi_alen w nx) := by
  intro ls st h
  unfold mi_alen
  repeat' split
  all_goals first | exact Or.inl ⟨_, fun _ _ => rfl⟩ | exact Or.inr (Or.inl ⟨_, _, _, _, fun _ _ => rfl⟩)
theorem sh_copy (w : mm_W) (nx : Nat) : mm_sh (mi_copy w nx) := by
  intro ls st h
  unfold mi_copy
  repeat' split
  all_goals first | exact Or.inl ⟨_, fun _ _ => rfl⟩ | exact Or.inr (Or.inl ⟨_, _, _, _, fun _ _ => rfl⟩)
theorem sh_aast (w : mm_W) (ci nx : Nat) : mm_sh (mi_aast w ci nx) := by
  intro ls st h
  unfold mi_aast
  repeat' split
  all_goals first | exact Or.inl ⟨_, fun _ _ => rfl⟩ | exact Or.inr (Or.inl ⟨_, _, _, _, fun _ _ => rfl⟩)
theorem sh_abs (nx : Nat) : mm_sh (mi_abs nx) := by
  intro ls st h
  unfold mi_abs
  repeat' split
  all_goals first | exact Or.inl ⟨_, fun _ _ => rfl⟩ | exact Or.inr (Or.inl ⟨_, _, _, _, fun _ _ => rfl⟩)
theorem sh_iret  : mm_sh (mi_iret ) := by
  intro ls st h
  unfold mi_iret
  repeat' split
  all_goals first | exact Or.inl ⟨_, fun _ _ => rfl⟩ | exact Or.inr (Or.inl ⟨_, _, _, _, fun _ _ => rfl⟩)
theorem sh_zret  : mm_sh (mi_zret ) := by
  intro ls st h
  unfold mi_zret
  repeat' split
  all_goals first | exact Or.inl ⟨_, fun _ _ => rfl⟩ | exact Or.inr (Or.inl ⟨_, _, _, _, fun _ _ => rfl⟩)
theorem sh_vret  : mm_sh (mi_vret ) := by
  intro ls st h
  unfold mi_vret
  repeat' split
  all_goals first | exact Or.inl ⟨_, fun _ _ => rfl⟩ | exact Or.inr (Or.inl ⟨_, _, _, _, fun _ _ => rfl⟩)
theorem sh_aret  : mm_sh (mi_aret ) := by
  intro ls st h
  unfold mi_aret
  repeat' split
  all_goals first | exact Or.inl ⟨_, fun _ _ => rfl⟩ | exact Or.inr (Or.inl ⟨_, _, _, _, fun _ _ => rfl⟩)
theorem sh_max (nx : Nat) : mm_sh (mi_max nx) := by
  intro ls st h
  unfold mi_max
  repeat' split
  all_goals first | exact Or.inl ⟨_, fun _ _ => rfl⟩ | exact Or.inr (Or.inl ⟨_, _, _, _, fun _ _ => rfl⟩)
theorem sh_min (nx : Nat) : mm_sh (mi_min nx) := by
  intro ls st h
  unfold mi_min
  repeat' split
  all_goals first | exact Or.inl ⟨_, fun _ _ => rfl⟩ | exact Or.inr (Or.inl ⟨_, _, _, _, fun _ _ => rfl⟩)
theorem sh_swl (a : Int) (ls st : List mm_V) (h : mm_H) (dt : Nat) : ∀ ps : List (Int × Nat), ∃ pc' : Nat, ∀ (J : Nat → mm_K), mm_sw a (J dt ls st h) (ps.map fun q => (q.1, J q.2 ls st h)) = J pc' ls st h
  | [] => ⟨dt, fun _ => rfl⟩
  | (k, t) :: r => by
    by_cases e : a = k
    · exact ⟨t, fun J => by simp [mm_sw, e]⟩
    · obtain ⟨pc', hp⟩ := sh_swl a ls st h dt r
      exact ⟨pc', fun J => by rw [← hp J]; simp [mm_sw, e]⟩
theorem sh_sw (ps : List (Int × Nat)) (dt : Nat) : mm_sh (mi_sw ps dt) := by
  intro ls st h
  unfold mi_sw
  split
  · rename_i a st
    obtain ⟨pc', hp⟩ := sh_swl a ls st h dt ps
    exact Or.inr (Or.inl ⟨pc', ls, st, h, fun J _ => hp J⟩)
  · exact Or.inl ⟨_, fun _ _ => rfl⟩
theorem sh_callS (y na nx : Nat) : mm_sh (mi_callS y na nx) := by
  intro ls st h
  unfold mi_callS
  split
  · exact Or.inr (Or.inr ⟨_, _, _, _, _, _, fun _ _ => rfl⟩)
  · exact Or.inl ⟨_, fun _ _ => rfl⟩
theorem sh_callV (w : mm_W) (ci y na nx : Nat) : mm_sh (mi_callV w ci y na nx) := by
  intro ls st h
  unfold mi_callV
  split
  · split
    · exact Or.inr (Or.inr ⟨_, _, _, _, _, _, fun _ _ => rfl⟩)
    · exact Or.inl ⟨_, fun _ _ => rfl⟩
  · exact Or.inl ⟨_, fun _ _ => rfl⟩
