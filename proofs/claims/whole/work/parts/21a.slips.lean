/-! ===== chances: in how many ways a rope slips ===== -/
def wy_f (x : Int) : Nat → Nat → Int
  | 0, 0 => 1
  | 0, _ + 1 => 0
  | n + 1, 0 => wy_f x n 0 * (10 - x)
  | n + 1, s + 1 => wy_f x n (s + 1) * (10 - x) + wy_f x n s * x
def pr_f (x m : Int) : Nat → Int
  | 0 => 1
  | j + 1 => pr_f x m j * (if bt_f m j = 1 then x else 10 - x)
theorem pr_s (x m : Int) (j : Nat) : pr_f x m (j + 1) = pr_f x m j * (if bt_f m j = 1 then x else 10 - x) := rfl
def wm_f (x : Int) (n : Nat) : Nat → Nat → Int
  | 0, _ => 0
  | m + 1, s => wm_f x n m s + if on_f m 8 = s then pr_f x m n else 0
theorem wm_s (x : Int) (n m s : Nat) : wm_f x n (m + 1) s = wm_f x n m s + if on_f m 8 = s then pr_f x m n else 0 := rfl
set_option maxRecDepth 100000 in
theorem wm_wy : ∀ n : Fin 7, ∀ x : Fin 11, ∀ s : Fin 7, wm_f (x.val : Int) n.val (2 ^ n.val) s.val = wy_f (x.val : Int) n.val s.val := by decide +kernel
set_option maxRecDepth 100000 in
theorem wy_b' : ∀ n : Fin 7, ∀ x : Fin 11, ∀ s : Fin 7, 0 ≤ wy_f (x.val : Int) n.val s.val ∧ wy_f (x.val : Int) n.val s.val ≤ 1000000 ∧ (n.val < s.val → wy_f (x.val : Int) n.val s.val = 0) := by decide +kernel
set_option maxRecDepth 100000 in
theorem on_6 : ∀ m : Fin 64, 0 ≤ on_f (m.val : Int) 8 ∧ on_f (m.val : Int) 8 ≤ 6 := by decide +kernel
