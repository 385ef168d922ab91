/-! ===== posts: ways as codes of base 6 ===== -/
def dg_f : Nat → Nat → Nat → Nat
  | 0, _, _ => 0
  | k + 1, c, i => if i = k then c % 6 else dg_f k (c / 6) i
theorem dg_s (k c i : Nat) : dg_f (k + 1) c i = if i = k then c % 6 else dg_f k (c / 6) i := rfl
def nd_f : Nat → Nat → Nat → Bool
  | 0, _, _ => true
  | k + 1, p, m => nd_f k (p / 6) m && !(Nat.beq (p % 6) m)
theorem nd_s (k p m : Nat) : nd_f (k + 1) p m = (nd_f k (p / 6) m && !(Nat.beq (p % 6) m)) := rfl
def vb_f (R : Nat → Int) : Nat → Nat → Bool
  | 0, _ => true
  | k + 1, c => vb_f R k (c / 6) && decide (((c % 6 : Nat) : Int) < R 2) && nd_f k (c / 6) (c % 6)
theorem vb_s (R : Nat → Int) (k c : Nat) : vb_f R (k + 1) c = (vb_f R k (c / 6) && decide (((c % 6 : Nat) : Int) < R 2) && nd_f k (c / 6) (c % 6)) := rfl
def wk_f (R : Nat → Int) (k m : Nat) : Int := if 0 ≤ R (41 + m) - R (5 + k) then R (41 + m) - R (5 + k) else 0 - (R (41 + m) - R (5 + k))
theorem wk_0 (R : Nat → Int) (k m : Nat) : 0 ≤ wk_f R k m := by unfold wk_f; split <;> omega
def sm_f (R : Nat → Int) : Nat → Nat → Int
  | 0, _ => 0
  | k + 1, c => sm_f R k (c / 6) + wk_f R k (c % 6)
theorem sm_s (R : Nat → Int) (k c : Nat) : sm_f R (k + 1) c = sm_f R k (c / 6) + wk_f R k (c % 6) := rfl
theorem z_d6 {p j : Nat} (h : j < 6) : (6 * p + j) / 6 = p ∧ (6 * p + j) % 6 = j := by omega
theorem wk_b {R : Nat → Int} (hR : VM R) {k m : Nat} (hk : (k : Int) < R 0) (hm : (m : Int) < R 2) : 0 ≤ wk_f R k m ∧ wk_f R k m ≤ 23 := by
  have h1 := (hR.r hk).1
  have h2 := hR.mn hm
  unfold wk_f
  split <;> omega
theorem sm_b {R : Nat → Int} (hR : VM R) : ∀ k c : Nat, (k : Int) ≤ R 0 → vb_f R k c = true → 0 ≤ sm_f R k c ∧ sm_f R k c ≤ 23 * k
  | 0, _, _, _ => ⟨Int.le_refl 0, Int.le_refl 0⟩
  | k + 1, c, hk, hv => by
    rw [vb_s, Bool.and_eq_true, Bool.and_eq_true, decide_eq_true_eq] at hv
    have ih := sm_b hR k (c / 6) (by omega) hv.1.1
    have := wk_b hR (k := k) (m := c % 6) (by omega) hv.1.2
    rw [sm_s]
    omega
def ps_f (R : Nat → Int) (n c : Nat) (b : Int × Int) : Int × Int := if vb_f R n c = true ∧ (b.1 = -4 ∨ sm_f R n c < b.2) then ((c : Int), sm_f R n c) else b
def pf_f (R : Nat → Int) (n a : Nat) : Nat → Int × Int → Int × Int
  | 0, b => b
  | L + 1, b => ps_f R n (a + L) (pf_f R n a L b)
theorem pf_s (R : Nat → Int) (n a L : Nat) (b : Int × Int) : pf_f R n a (L + 1) b = ps_f R n (a + L) (pf_f R n a L b) := rfl
def pq_f (F : Nat → Int × Int → Int × Int) (p : Nat) : Nat → Int × Int → Int × Int
  | 0, b => b
  | j + 1, b => F (6 * p + j) (pq_f F p j b)
theorem pq_s (F : Nat → Int × Int → Int × Int) (p j : Nat) (b : Int × Int) : pq_f F p (j + 1) b = F (6 * p + j) (pq_f F p j b) := rfl
def pb_f (R : Nat → Int) (n : Nat) : Nat → Nat → Int × Int → Int × Int
  | 0 => fun p b => ps_f R n p b
  | d + 1 => fun p b => pq_f (pb_f R n d) p 6 b
theorem pb_s (R : Nat → Int) (n d p : Nat) (b : Int × Int) : pb_f R n (d + 1) p b = pq_f (pb_f R n d) p 6 b := rfl
theorem pf_a (R : Nat → Int) (n a L : Nat) (b : Int × Int) : ∀ K, pf_f R n a (L + K) b = pf_f R n (a + L) K (pf_f R n a L b)
  | 0 => rfl
  | K + 1 => by rw [← Nat.add_assoc, pf_s, pf_s, pf_a R n a L b K, Nat.add_assoc]
theorem pb_pf (R : Nat → Int) (n : Nat) : ∀ (d p : Nat) (b : Int × Int), pb_f R n d p b = pf_f R n (p * 6 ^ d) (6 ^ d) b
  | 0, p, b => by
    show ps_f R n p b = ps_f R n (p * 1 + 0) b
    rw [Nat.mul_one, Nat.add_zero]
  | d + 1, p, b => by
    have hq : ∀ j, pq_f (pb_f R n d) p j b = pf_f R n (p * 6 ^ (d + 1)) (j * 6 ^ d) b := by
      intro j
      induction j with
      | zero => rw [Nat.zero_mul]; rfl
      | succ j ih =>
        rw [pq_s, ih, pb_pf R n d, show (j + 1) * 6 ^ d = j * 6 ^ d + 6 ^ d from Nat.succ_mul j (6 ^ d), pf_a]
        congr 1
        rw [Nat.pow_succ, Nat.add_mul, Nat.mul_comm 6 p, Nat.mul_assoc, Nat.mul_comm 6 (6 ^ d)]
    rw [pb_s, hq 6, Nat.pow_succ, Nat.mul_comm 6 (6 ^ d)]
theorem pb_n {R : Nat → Int} {n : Nat} : ∀ (d k p : Nat) (b : Int × Int), k + d = n → vb_f R k p = false → pb_f R n d p b = b
  | 0, k, p, b, hk, hv => by
    have e : k = n := by omega
    subst e
    show ps_f R k p b = b
    unfold ps_f
    rw [if_neg (fun q => by rw [hv] at q; exact absurd q.1 (by decide))]
  | d + 1, k, p, b, hk, hv => by
    have hq : ∀ j, j ≤ 6 → pq_f (pb_f R n d) p j b = b := by
      intro j
      induction j with
      | zero => intro _; rfl
      | succ j ih =>
        intro hj
        rw [pq_s, ih (by omega)]
        refine pb_n d (k + 1) _ b (by omega) ?_
        rw [vb_s, (z_d6 (p := p) (j := j) (by omega)).1, hv]
        rfl
    rw [pb_s]
    exact hq 6 (Nat.le_refl 6)
theorem pb_p {R : Nat → Int} {n : Nat} : ∀ (d k p : Nat) (b : Int × Int), k + d = n → b.1 ≠ -4 → b.2 ≤ sm_f R k p → pb_f R n d p b = b
  | 0, k, p, b, hk, h1, h2 => by
    have e : k = n := by omega
    subst e
    show ps_f R k p b = b
    unfold ps_f
    rw [if_neg (fun q => by rcases q.2 with q | q; exact h1 q; omega)]
  | d + 1, k, p, b, hk, h1, h2 => by
    have hq : ∀ j, j ≤ 6 → pq_f (pb_f R n d) p j b = b := by
      intro j
      induction j with
      | zero => intro _; rfl
      | succ j ih =>
        intro hj
        rw [pq_s, ih (by omega)]
        refine pb_p d (k + 1) _ b (by omega) h1 ?_
        have := wk_0 R k ((6 * p + j) % 6)
        rw [sm_s, (z_d6 (p := p) (j := j) (by omega)).1]
        omega
    rw [pb_s]
    exact hq 6 (Nat.le_refl 6)
set_option maxRecDepth 100000 in
theorem tb_or' : ∀ t : Fin 64, ∀ m : Fin 6, (0 ≤ mm_or (t.val : Int) (mm_shl 1 (m.val : Int)) ∧ mm_or (t.val : Int) (mm_shl 1 (m.val : Int)) < 64) ∧ ∀ j : Fin 6, bt_f (mm_or (t.val : Int) (mm_shl 1 (m.val : Int))) (j.val : Int) = if j.val = m.val then 1 else bt_f (t.val : Int) (j.val : Int) := by decide +kernel
theorem tb_or {t : Int} {m : Nat} (ht : 0 ≤ t ∧ t < 64) (hm : m < 6) : (0 ≤ mm_or t (mm_shl 1 m) ∧ mm_or t (mm_shl 1 m) < 64) ∧ ∀ j : Nat, j < 6 → bt_f (mm_or t (mm_shl 1 m)) j = if j = m then 1 else bt_f t j := by
  have := tb_or' ⟨t.toNat, by omega⟩ ⟨m, hm⟩
  dsimp only at this
  rw [show ((t.toNat : Nat) : Int) = t by omega] at this
  exact ⟨this.1, fun j hj => this.2 ⟨j, hj⟩⟩
def dj_f (t : Int) : Nat → Nat → Bool
  | 0, _ => true
  | k + 1, p => dj_f t k (p / 6) && decide (bt_f t ((p % 6 : Nat) : Int) = 0)
theorem dj_s (t : Int) (k p : Nat) : dj_f t (k + 1) p = (dj_f t k (p / 6) && decide (bt_f t ((p % 6 : Nat) : Int) = 0)) := rfl
theorem dj_or {t : Int} {m : Nat} (ht : 0 ≤ t ∧ t < 64) (hm : m < 6) : ∀ k p : Nat, dj_f (mm_or t (mm_shl 1 m)) k p = (dj_f t k p && nd_f k p m)
  | 0, p => rfl
  | k + 1, p => by
    rw [dj_s, dj_s, nd_s, dj_or ht hm k (p / 6), (tb_or ht hm).2 (p % 6) (by omega)]
    have e : Nat.beq (p % 6) m = decide (p % 6 = m) := by
      by_cases c : p % 6 = m
      · rw [c, decide_eq_true rfl]; exact Nat.beq_refl m
      · rw [decide_eq_false c]; exact Bool.eq_false_iff.mpr (fun q => c (Nat.eq_of_beq_eq_true q))
    rw [e]
    by_cases c : p % 6 = m
    · rw [if_pos c, decide_eq_true c]
      simp
    · rw [if_neg c, decide_eq_false c]
      cases dj_f t k (p / 6) <;> cases nd_f k (p / 6) m <;> simp
