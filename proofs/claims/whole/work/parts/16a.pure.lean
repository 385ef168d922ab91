/-! ===== pure rows: numbers, heap, and the small methods ===== -/
theorem z_wr {x : Int} (h1 : -2147483648 ≤ x) (h2 : x < 2147483648) : mm_wr x = x := mm_wr_id ⟨h1, h2⟩
theorem z_wl {x : Int} (h1 : -9223372036854775808 ≤ x) (h2 : x < 9223372036854775808) : mm_wl x = x := mm_wl_id ⟨h1, h2⟩
theorem z_add {a b : Int} (h1 : -2147483648 ≤ a + b) (h2 : a + b < 2147483648) : mm_add a b = a + b := z_wr h1 h2
theorem z_sub {a b : Int} (h1 : -2147483648 ≤ a - b) (h2 : a - b < 2147483648) : mm_sub a b = a - b := z_wr h1 h2
theorem z_mul {a b : Int} (h1 : -2147483648 ≤ a * b) (h2 : a * b < 2147483648) : mm_mul a b = a * b := z_wr h1 h2
theorem z_ladd {a b : Int} (h1 : -9223372036854775808 ≤ a + b) (h2 : a + b < 9223372036854775808) : mm_ladd a b = a + b := z_wl h1 h2
theorem z_lmul {a b : Int} (h1 : -9223372036854775808 ≤ a * b) (h2 : a * b < 9223372036854775808) : mm_lmul a b = a * b := z_wl h1 h2
theorem z_up {α : Type} (f : Nat → α) (k : Nat) (v : α) : mm_up f k v k = v := if_pos rfl
theorem z_un {α : Type} (f : Nat → α) {k j : Nat} (v : α) (e : j ≠ k) : mm_up f k v j = f j := if_neg e
theorem z_se (h : mm_H) (a k : Nat) (v : Int) : mm_st h a k v a k = v := by simp [mm_st, mm_up]
theorem z_ss (h : mm_H) {a k j : Nat} (v : Int) (e : j ≠ k) : mm_st h a k v a j = h a j := by simp [mm_st, mm_up, e]
theorem z_sc (h : mm_H) {a b k : Nat} (v : Int) (e : b ≠ a) : mm_st h a k v b = h b := by funext j; simp [mm_st, mm_up, e]
theorem z_sr (h : mm_H) (a k : Nat) (v : Int) : mm_st h a k v a = mm_up (h a) k v := by funext j; simp [mm_st, mm_up]
/-! the model's small methods -/
theorem M_in_t {a b c : Int} (q : b ≤ a ∧ a ≤ c) (h : mm_H) : em 0 0 [mm_i a, mm_i b, mm_i c] [] h = some (some (mm_i 1), h) := by
  rw [sg_X11_in_0, if_neg (by omega), if_neg (by omega), sg_X11_in_15, if_pos (Or.inr rfl)]
theorem M_in_f {a b c : Int} (q : ¬ (b ≤ a ∧ a ≤ c)) (h : mm_H) : em 0 0 [mm_i a, mm_i b, mm_i c] [] h = some (some (mm_i 0), h) := by
  rw [sg_X11_in_0]
  split
  · rw [sg_X11_in_14, sg_X11_in_15, if_pos (Or.inl rfl)]
  · rw [if_pos (by omega), sg_X11_in_14, sg_X11_in_15, if_pos (Or.inl rfl)]
theorem M_isYard_t {y : Int} (q : 0 ≤ y ∧ y < 24) (h : mm_H) : em 2 0 [mm_i y] [] h = some (some (mm_i 1), h) := by
  rw [sg_X11_isYard_0]
  refine mm_bi (M_in_t (by omega) h) ?_
  exact (sg_X11_isYard_7 y 1 h).trans (if_pos (Or.inr rfl))
theorem M_isYard_f {y : Int} (q : ¬ (0 ≤ y ∧ y < 24)) (h : mm_H) : em 2 0 [mm_i y] [] h = some (some (mm_i 0), h) := by
  rw [sg_X11_isYard_0]
  refine mm_bi (M_in_f (by omega) h) ?_
  exact (sg_X11_isYard_7 y 0 h).trans (if_pos (Or.inl rfl))
theorem M_isRope_t {k : Int} {h : mm_H} (b : 0 ≤ h 2 0 ∧ h 2 0 ≤ 5) (q : 0 ≤ k ∧ k < h 2 0) : em 1 0 [mm_r 0, mm_i k] [] h = some (some (mm_i 1), h) := by
  rw [sg_X11_isRope_0, z_sub (by omega) (by omega)]
  refine mm_bi (M_in_t (by omega) h) ?_
  exact (sg_X11_isRope_13 k 1 h).trans (if_pos (Or.inr rfl))
theorem M_isRope_f {k : Int} {h : mm_H} (b : 0 ≤ h 2 0 ∧ h 2 0 ≤ 5) (q : ¬ (0 ≤ k ∧ k < h 2 0)) : em 1 0 [mm_r 0, mm_i k] [] h = some (some (mm_i 0), h) := by
  rw [sg_X11_isRope_0, z_sub (by omega) (by omega)]
  refine mm_bi (M_in_f (by omega) h) ?_
  exact (sg_X11_isRope_13 k 0 h).trans (if_pos (Or.inl rfl))
/-- the next rope at a yard or beside it, among the first k -/
def nt_f (R : Nat → Int) (y sg : Int) : Nat → Int
  | 0 => -1
  | k + 1 => if 0 ≤ (R (5 + k) - y) * sg ∧ (nt_f R y sg k < 0 ∨ (R (5 + k) - y) * sg < (R (5 + (nt_f R y sg k).toNat) - y) * sg) then (k : Int) else nt_f R y sg k
theorem nt_b (R : Nat → Int) (y sg : Int) : ∀ k : Nat, -1 ≤ nt_f R y sg k ∧ nt_f R y sg k < k ∨ (k = 0 ∧ nt_f R y sg k = -1)
  | 0 => Or.inr ⟨rfl, rfl⟩
  | k + 1 => by
    have h := nt_b R y sg k
    left
    unfold nt_f
    split <;> omega
/-- what a valley's row of numbers keeps to -/
def VM (R : Nat → Int) : Prop := (0 ≤ R 0 ∧ R 0 ≤ 5) ∧ (0 ≤ R 1 ∧ R 1 ≤ 8) ∧ (0 ≤ R 2 ∧ R 2 ≤ 6) ∧ ((0 ≤ R 3 ∧ R 3 ≤ 9) ∧ (0 ≤ R 4 ∧ R 4 ≤ 9)) ∧ (∀ k : Nat, (k : Int) < R 0 → (0 ≤ R (5 + k) ∧ R (5 + k) < 24) ∧ (1 ≤ R (10 + k) ∧ R (10 + k) ≤ 5) ∧ (0 ≤ R (15 + k) ∧ R (15 + k) ≤ 3) ∧ (0 ≤ R (20 + k) ∧ R (20 + k) ≤ 40)) ∧ (∀ i j : Nat, i < j → (j : Int) < R 0 → R (5 + i) ≠ R (5 + j)) ∧ (∀ j : Nat, (j : Int) < R 1 → (0 ≤ R (25 + j) ∧ R (25 + j) < 24) ∧ (0 ≤ R (33 + j) ∧ R (33 + j) ≤ 3)) ∧ (∀ j : Nat, (j : Int) < R 2 → 0 ≤ R (41 + j) ∧ R (41 + j) < 24)
theorem VM.n {R : Nat → Int} (h : VM R) : 0 ≤ R 0 ∧ R 0 ≤ 5 := h.1
theorem VM.w {R : Nat → Int} (h : VM R) : 0 ≤ R 1 ∧ R 1 ≤ 8 := h.2.1
theorem VM.m {R : Nat → Int} (h : VM R) : 0 ≤ R 2 ∧ R 2 ≤ 6 := h.2.2.1
theorem VM.pr {R : Nat → Int} (h : VM R) : (0 ≤ R 3 ∧ R 3 ≤ 9) ∧ (0 ≤ R 4 ∧ R 4 ≤ 9) := h.2.2.2.1
theorem VM.r {R : Nat → Int} (h : VM R) {k : Nat} (q : (k : Int) < R 0) : (0 ≤ R (5 + k) ∧ R (5 + k) < 24) ∧ (1 ≤ R (10 + k) ∧ R (10 + k) ≤ 5) ∧ (0 ≤ R (15 + k) ∧ R (15 + k) ≤ 3) ∧ (0 ≤ R (20 + k) ∧ R (20 + k) ≤ 40) := h.2.2.2.2.1 k q
theorem VM.ne {R : Nat → Int} (h : VM R) {i j : Nat} (q : i < j) (q2 : (j : Int) < R 0) : R (5 + i) ≠ R (5 + j) := h.2.2.2.2.2.1 i j q q2
theorem VM.wt {R : Nat → Int} (h : VM R) {j : Nat} (q : (j : Int) < R 1) : (0 ≤ R (25 + j) ∧ R (25 + j) < 24) ∧ (0 ≤ R (33 + j) ∧ R (33 + j) ≤ 3) := h.2.2.2.2.2.2.1 j q
theorem VM.mn {R : Nat → Int} (h : VM R) {j : Nat} (q : (j : Int) < R 2) : 0 ≤ R (41 + j) ∧ R (41 + j) < 24 := h.2.2.2.2.2.2.2 j q
theorem M_nextTo_l {h : mm_H} {y sg : Int} (hR : VM (h 2)) (hy : 0 ≤ y ∧ y < 24) (hs : sg = 1 ∨ sg = -1) : ∀ (m : Nat) (i : Int) (l5 : mm_V), 0 ≤ i → i + m = h 2 0 → em 21 5 [mm_r 0, mm_i y, mm_i sg, mm_i (nt_f (h 2) y sg i.toNat), mm_i i, l5] [] h = some (some (mm_i (nt_f (h 2) y sg (h 2 0).toNat)), h)
  | 0, i, l5, h0, hi => by
    rw [sg_X11_nextTo_5, if_neg (by omega), show (h 2 0).toNat = i.toNat by omega]
  | m + 1, i, l5, h0, hi => by
    have hn := hR.n
    have hb := nt_b (h 2) y sg i.toNat
    have hr := (hR.r (k := i.toNat) (by omega)).1
    have e1 : (5 + i).toNat = 5 + i.toNat := by omega
    have e2 : (i + 1).toNat = i.toNat + 1 := by omega
    rw [sg_X11_nextTo_5, if_pos (by omega)]
    simp only [sg_X11_nextTo_57, sg_X11_nextTo_62, sg_X11_nextTo_63]
    rw [z_add (by omega) (by omega), if_pos (by omega), e1, z_sub (by omega) (by omega)]
    have em1 : mm_mul (h 2 (5 + i.toNat) - y) sg = (h 2 (5 + i.toNat) - y) * sg := by rcases hs with rfl | rfl <;> exact z_mul (by omega) (by omega)
    rw [em1, z_wr (by omega) (by omega)]
    have ih : ∀ l5, em 21 5 [mm_r 0, mm_i y, mm_i sg, mm_i (nt_f (h 2) y sg (i.toNat + 1)), mm_i (i + 1), l5] [] h = some (some (mm_i (nt_f (h 2) y sg (h 2 0).toNat)), h) := fun l5 => by
      have := M_nextTo_l hR hy hs m (i + 1) l5 (by omega) (by omega)
      rw [e2] at this
      exact this
    split
    · rename_i c1
      have e3 : nt_f (h 2) y sg (i.toNat + 1) = nt_f (h 2) y sg i.toNat := if_neg (by omega)
      rw [← e3]; exact ih _
    · rename_i c1
      split
      · rename_i c2
        have e3 : nt_f (h 2) y sg (i.toNat + 1) = (i.toNat : Int) := if_pos ⟨by omega, Or.inl c2⟩
        have e4 : (i.toNat : Int) = i := by omega
        rw [e4] at e3
        rw [← e3]
        have := ih (mm_i ((h 2 (5 + i.toNat) - y) * sg))
        rw [e3] at this ⊢
        exact this
      · rename_i c2
        have hr2 := (hR.r (k := (nt_f (h 2) y sg i.toNat).toNat) (by omega)).1
        have e5 : (5 + nt_f (h 2) y sg i.toNat).toNat = 5 + (nt_f (h 2) y sg i.toNat).toNat := by omega
        rw [z_add (by omega) (by omega), if_pos (by omega), e5, z_sub (by omega) (by omega)]
        have em2 : mm_mul (h 2 (5 + (nt_f (h 2) y sg i.toNat).toNat) - y) sg = (h 2 (5 + (nt_f (h 2) y sg i.toNat).toNat) - y) * sg := by rcases hs with rfl | rfl <;> exact z_mul (by omega) (by omega)
        rw [em2]
        split
        · rename_i c3
          have e3 : nt_f (h 2) y sg (i.toNat + 1) = (i.toNat : Int) := if_pos ⟨by omega, Or.inr c3⟩
          have e4 : (i.toNat : Int) = i := by omega
          rw [e4] at e3
          have := ih (mm_i ((h 2 (5 + i.toNat) - y) * sg))
          rw [e3] at this
          exact this
        · rename_i c3
          have e3 : nt_f (h 2) y sg (i.toNat + 1) = nt_f (h 2) y sg i.toNat := if_neg (fun q => q.2.elim c2 c3)
          rw [← e3]; exact ih _
