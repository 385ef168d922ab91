/-! ===== plan: hours as codes of base 5 ===== -/
def oh_f (R S : Nat → Int) (k n : Nat) : Nat → Int
  | 0 => S k
  | i + 1 => bh_f (oh_f R S k n i) (S (5 + k)) (R (10 + k)) (if i < n then 1 else 0) (S 10 + i)
theorem oh_s (R S : Nat → Int) (k n i : Nat) : oh_f R S k n (i + 1) = bh_f (oh_f R S k n i) (S (5 + k)) (R (10 + k)) (if i < n then 1 else 0) (S 10 + i) := rfl
theorem oh_b {R S : Nat → Int} {k : Nat} (h : 0 ≤ S k ∧ S k ≤ 40) (n : Nat) : ∀ i, 0 ≤ oh_f R S k n i ∧ oh_f R S k n i ≤ 40
  | 0 => h
  | i + 1 => by rw [oh_s]; exact bh_b _ _ _ _ _
def oc_f (R S : Nat → Int) (k n : Nat) : Int := oh_f R S k n 4
def dh_f : Nat → Nat → Nat → Nat
  | 0, _, _ => 0
  | k + 1, c, i => if i = k then c % 5 else dh_f k (c / 5) i
theorem dh_s (k c i : Nat) : dh_f (k + 1) c i = if i = k then c % 5 else dh_f k (c / 5) i := rfl
def tv_f (O : Nat → Nat → Int) : Nat → Nat → Nat → Int
  | 0, _, _ => 0
  | k + 1, c, i => if i = k then O k (c % 5) else tv_f O k (c / 5) i
theorem tv_s (O : Nat → Nat → Int) (k c i : Nat) : tv_f O (k + 1) c i = if i = k then O k (c % 5) else tv_f O k (c / 5) i := rfl
theorem tv_SK {R : Nat → Int} {O : Nat → Nat → Int} (hO : ∀ i m : Nat, (i : Int) < R 0 → 0 ≤ O i m ∧ O i m ≤ 40) : ∀ k c : Nat, SK R (tv_f O k c)
  | 0, c => fun i _ => ⟨Int.le_refl 0, (by decide : (0 : Int) ≤ 40)⟩
  | k + 1, c => fun i hi => by
    rw [tv_s]
    split
    · rename_i e; subst e; exact hO _ _ hi
    · exact tv_SK hO k (c / 5) i hi
def sd_f : Nat → Nat → Int
  | 0, _ => 0
  | k + 1, c => sd_f k (c / 5) + ((c % 5 : Nat) : Int)
theorem sd_s (k c : Nat) : sd_f (k + 1) c = sd_f k (c / 5) + ((c % 5 : Nat) : Int) := rfl
theorem sd_b : ∀ k c : Nat, 0 ≤ sd_f k c ∧ sd_f k c ≤ 4 * k
  | 0, _ => ⟨Int.le_refl 0, Int.le_refl 0⟩
  | k + 1, c => by
    have := sd_b k (c / 5)
    rw [sd_s]
    omega
def vq_f (R : Nat → Int) (O : Nat → Nat → Int) : Nat → Nat → Bool
  | 0, _ => true
  | k + 1, c => vq_f R O k (c / 5) && decide (me_f R (tv_f O (k + 1) c) k (R 1).toNat = 1)
theorem vq_s (R : Nat → Int) (O : Nat → Nat → Int) (k c : Nat) : vq_f R O (k + 1) c = (vq_f R O k (c / 5) && decide (me_f R (tv_f O (k + 1) c) k (R 1).toNat = 1)) := rfl
theorem z_d5 {p j : Nat} (h : j < 5) : (5 * p + j) / 5 = p ∧ (5 * p + j) % 5 = j := by omega
def qs_f (R : Nat → Int) (O : Nat → Nat → Int) (n c : Nat) (b : Int × Int) : Int × Int := if vq_f R O n c = true ∧ (b.1 = -4 ∨ sd_f n c < b.2) then ((c : Int), sd_f n c) else b
def qf_f (R : Nat → Int) (O : Nat → Nat → Int) (n a : Nat) : Nat → Int × Int → Int × Int
  | 0, b => b
  | L + 1, b => qs_f R O n (a + L) (qf_f R O n a L b)
theorem qf_s (R : Nat → Int) (O : Nat → Nat → Int) (n a L : Nat) (b : Int × Int) : qf_f R O n a (L + 1) b = qs_f R O n (a + L) (qf_f R O n a L b) := rfl
def qq_f (F : Nat → Int × Int → Int × Int) (p : Nat) : Nat → Int × Int → Int × Int
  | 0, b => b
  | j + 1, b => F (5 * p + j) (qq_f F p j b)
theorem qq_s (F : Nat → Int × Int → Int × Int) (p j : Nat) (b : Int × Int) : qq_f F p (j + 1) b = F (5 * p + j) (qq_f F p j b) := rfl
def qb_f (R : Nat → Int) (O : Nat → Nat → Int) (n : Nat) : Nat → Nat → Int × Int → Int × Int
  | 0 => fun p b => qs_f R O n p b
  | d + 1 => fun p b => qq_f (qb_f R O n d) p 5 b
theorem qb_s (R : Nat → Int) (O : Nat → Nat → Int) (n d p : Nat) (b : Int × Int) : qb_f R O n (d + 1) p b = qq_f (qb_f R O n d) p 5 b := rfl
theorem qf_a (R : Nat → Int) (O : Nat → Nat → Int) (n a L : Nat) (b : Int × Int) : ∀ K, qf_f R O n a (L + K) b = qf_f R O n (a + L) K (qf_f R O n a L b)
  | 0 => rfl
  | K + 1 => by rw [← Nat.add_assoc, qf_s, qf_s, qf_a R O n a L b K, Nat.add_assoc]
theorem qb_qf (R : Nat → Int) (O : Nat → Nat → Int) (n : Nat) : ∀ (d p : Nat) (b : Int × Int), qb_f R O n d p b = qf_f R O n (p * 5 ^ d) (5 ^ d) b
  | 0, p, b => by
    show qs_f R O n p b = qs_f R O n (p * 1 + 0) b
    rw [Nat.mul_one, Nat.add_zero]
  | d + 1, p, b => by
    have hq : ∀ j, qq_f (qb_f R O n d) p j b = qf_f R O n (p * 5 ^ (d + 1)) (j * 5 ^ d) b := by
      intro j
      induction j with
      | zero => rw [Nat.zero_mul]; rfl
      | succ j ih =>
        rw [qq_s, ih, qb_qf R O n d, show (j + 1) * 5 ^ d = j * 5 ^ d + 5 ^ d from Nat.succ_mul j (5 ^ d), qf_a]
        congr 1
        rw [Nat.pow_succ, Nat.add_mul, Nat.mul_comm 5 p, Nat.mul_assoc, Nat.mul_comm 5 (5 ^ d)]
    rw [qb_s, hq 5, Nat.pow_succ, Nat.mul_comm 5 (5 ^ d)]
theorem qb_n {R : Nat → Int} {O : Nat → Nat → Int} {n : Nat} : ∀ (d k p : Nat) (b : Int × Int), k + d = n → vq_f R O k p = false → qb_f R O n d p b = b
  | 0, k, p, b, hk, hv => by
    have e : k = n := by omega
    subst e
    show qs_f R O k p b = b
    unfold qs_f
    rw [if_neg (fun q => by rw [hv] at q; exact absurd q.1 (by decide))]
  | d + 1, k, p, b, hk, hv => by
    have hq : ∀ j, j ≤ 5 → qq_f (qb_f R O n d) p j b = b := by
      intro j
      induction j with
      | zero => intro _; rfl
      | succ j ih =>
        intro hj
        rw [qq_s, ih (by omega)]
        refine qb_n d (k + 1) _ b (by omega) ?_
        rw [vq_s, (z_d5 (p := p) (j := j) (by omega)).1, hv]
        rfl
    rw [qb_s]
    exact hq 5 (Nat.le_refl 5)
theorem qb_p {R : Nat → Int} {O : Nat → Nat → Int} {n : Nat} : ∀ (d k p : Nat) (b : Int × Int), k + d = n → b.1 ≠ -4 → b.2 ≤ sd_f k p → qb_f R O n d p b = b
  | 0, k, p, b, hk, h1, h2 => by
    have e : k = n := by omega
    subst e
    show qs_f R O k p b = b
    unfold qs_f
    rw [if_neg (fun q => by rcases q.2 with q | q; exact h1 q; omega)]
  | d + 1, k, p, b, hk, h1, h2 => by
    have hq : ∀ j, j ≤ 5 → qq_f (qb_f R O n d) p j b = b := by
      intro j
      induction j with
      | zero => intro _; rfl
      | succ j ih =>
        intro hj
        rw [qq_s, ih (by omega)]
        refine qb_p d (k + 1) _ b (by omega) h1 ?_
        rw [sd_s, (z_d5 (p := p) (j := j) (by omega)).1]
        omega
    rw [qb_s]
    exact hq 5 (Nat.le_refl 5)
