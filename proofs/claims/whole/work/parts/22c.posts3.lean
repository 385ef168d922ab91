/-! ===== posts: the model ===== -/
def cn_f (k p : Nat) : Nat → Nat
  | 0 => 0
  | m + 1 => cn_f k p m + if nd_f k p m = true then 0 else 1
theorem cn_s (k p m : Nat) : cn_f k p (m + 1) = cn_f k p m + if nd_f k p m = true then 0 else 1 := rfl
theorem cn_k {k c : Nat} (h : nd_f k (c / 6) (c % 6) = true) : ∀ m, cn_f (k + 1) c m = cn_f k (c / 6) m + if c % 6 < m then 1 else 0
  | 0 => rfl
  | m + 1 => by
    rw [cn_s, cn_s, cn_k h m, nd_s]
    by_cases e : c % 6 = m
    · subst e
      have : Nat.beq (c % 6) (c % 6) = true := Nat.beq_refl _
      rw [h, this, if_neg (Nat.lt_irrefl _), if_pos (Nat.lt_succ_self _)]
      rfl
    · have : Nat.beq (c % 6) m = false := Bool.eq_false_iff.mpr (fun q => e (Nat.eq_of_beq_eq_true q))
      rw [this, Bool.not_false, Bool.and_true]
      by_cases e2 : c % 6 < m
      · have e3 : c % 6 < m + 1 := by omega
        rw [if_pos e2, if_pos e3]; omega
      · have e3 : ¬ c % 6 < m + 1 := by omega
        rw [if_neg e2, if_neg e3]; omega
theorem cn_b (k p : Nat) : ∀ m, cn_f k p m ≤ m
  | 0 => Nat.le_refl 0
  | m + 1 => by
    have := cn_b k p m
    rw [cn_s]
    split <;> omega
theorem cn_v {R : Nat → Int} (h2 : 0 ≤ R 2) : ∀ k p : Nat, vb_f R k p = true → cn_f k p (R 2).toNat = k
  | 0, p, _ => by
    have : ∀ m, cn_f 0 p m = 0 := by
      intro m
      induction m with
      | zero => rfl
      | succ m ih => rw [cn_s, ih]; rfl
    exact this _
  | k + 1, c, hv => by
    rw [vb_s, Bool.and_eq_true, Bool.and_eq_true, decide_eq_true_eq] at hv
    rw [cn_k hv.2, cn_v h2 k _ hv.1.1, if_pos (by omega)]
theorem pf_n {R : Nat → Int} {n : Nat} (h : ∀ c, vb_f R n c = false) (a : Nat) (b : Int × Int) : ∀ L, pf_f R n a L b = b
  | 0 => rfl
  | L + 1 => by
    rw [pf_s, pf_n h a b L]
    unfold ps_f
    rw [if_neg (fun q => by rw [h] at q; exact absurd q.1 (by decide))]
theorem pf_b {R : Nat → Int} (hR : VM R) {n : Nat} (hn : R 0 = n) : ∀ L : Nat, ((pf_f R n 0 L (-4, -4)).1 = -4 ∧ (pf_f R n 0 L (-4, -4)).2 = -4) ∨ ((0 ≤ (pf_f R n 0 L (-4, -4)).1 ∧ (pf_f R n 0 L (-4, -4)).1 < L) ∧ (0 ≤ (pf_f R n 0 L (-4, -4)).2 ∧ (pf_f R n 0 L (-4, -4)).2 ≤ 23 * n))
  | 0 => Or.inl ⟨rfl, rfl⟩
  | L + 1 => by
    have ih := pf_b hR hn L
    rw [pf_s]
    unfold ps_f
    split
    · rename_i c
      have := sm_b hR n (0 + L) (by omega) c.1
      refine Or.inr ⟨⟨?_, ?_⟩, this⟩
      · dsimp only; omega
      · dsimp only; omega
    · omega
theorem M_post_s {g : mm_H} {l1 l2 l3 l4 l5 : Int} {t s ok : Int} {k c : Nat} (hk : k < 5) (hc : c < 100000) (l11 l12 : mm_V) : ∃ x, em 40 79 [mm_r 0, mm_i l1, mm_i l2, mm_i l3, mm_i l4, mm_i l5, mm_i t, mm_i s, mm_i ok, mm_i c, mm_i k, l11, l12] [] g = em 40 79 [mm_r 0, mm_i l1, mm_i l2, mm_i l3, mm_i l4, mm_i l5, mm_i (mm_or t (mm_shl 1 ((c % 6 : Nat) : Int))), mm_i (mm_add s (if mm_sub (g 2 (41 + c % 6)) (g 2 (5 + k)) < 0 then mm_wr (-(mm_sub (g 2 (41 + c % 6)) (g 2 (5 + k)))) else mm_sub (g 2 (41 + c % 6)) (g 2 (5 + k)))), mm_i (if ok = 0 then 0 else if ((c % 6 : Nat) : Int) < g 2 2 then (if bt_f t ((c % 6 : Nat) : Int) = 0 then 1 else 0) else 0), mm_i ((c / 6 : Nat) : Int), mm_i ((k : Int) - 1), mm_i ((c % 6 : Nat) : Int), x] [] g := by
  refine ⟨mm_i (mm_sub (g 2 (41 + c % 6)) (g 2 (5 + k))), ?_⟩
  have e1 : mm_wr (Int.tdiv (c : Int) 6) = ((c / 6 : Nat) : Int) := by rw [Int.tdiv_eq_ediv_of_nonneg (by omega), z_wr (by omega) (by omega)]; omega
  have e2 : Int.tmod (c : Int) 6 = ((c % 6 : Nat) : Int) := by rw [Int.tmod_eq_emod_of_nonneg (by omega)]; omega
  have e3 : (mm_add 41 ((c % 6 : Nat) : Int)) = ((41 + c % 6 : Nat) : Int) := by rw [z_add (by omega) (by omega)]; omega
  have e4 : (mm_add 5 (k : Int)) = ((5 + k : Nat) : Int) := by rw [z_add (by omega) (by omega)]; omega
  have fin : ∀ o : Int, em 40 129 [mm_r 0, mm_i l1, mm_i l2, mm_i l3, mm_i l4, mm_i l5, mm_i t, mm_i s, mm_i ok, mm_i ((c / 6 : Nat) : Int), mm_i k, mm_i ((c % 6 : Nat) : Int), l12] [mm_i o] g = em 40 79 [mm_r 0, mm_i l1, mm_i l2, mm_i l3, mm_i l4, mm_i l5, mm_i (mm_or t (mm_shl 1 ((c % 6 : Nat) : Int))), mm_i (mm_add s (if mm_sub (g 2 (41 + c % 6)) (g 2 (5 + k)) < 0 then mm_wr (-(mm_sub (g 2 (41 + c % 6)) (g 2 (5 + k)))) else mm_sub (g 2 (41 + c % 6)) (g 2 (5 + k)))), mm_i o, mm_i ((c / 6 : Nat) : Int), mm_i ((k : Int) - 1), mm_i ((c % 6 : Nat) : Int), mm_i (mm_sub (g 2 (41 + c % 6)) (g 2 (5 + k)))] [] g := by
    intro o
    rw [sg_X11_posts_129, e3, e4, if_pos (by omega), if_pos (by omega), Int.toNat_natCast, Int.toNat_natCast, sg_X11_posts_177, sg_X11_posts_177, z_wr (x := (k : Int) + -1) (by omega) (by omega), show (k : Int) + -1 = k - 1 by omega]
    split <;> rfl
  rw [sg_X11_posts_79, if_neg (by omega), e1, e2, sg_X11_posts_128, fin, fin]
  change (if ok = 0 then _ else if _ then (if bt_f t ((c % 6 : Nat) : Int) = 0 then _ else _) else _) = _
  split
  · rfl
  · split
    · split <;> rfl
    · rfl
theorem M_post_i {g : mm_H} (hR : VM (g 2)) {l1 l2 l3 l4 l5 : Int} : ∀ (k c : Nat) (t s ok : Int) (l11 l12 : mm_V), (k : Int) ≤ g 2 0 → c < 100000 → (0 ≤ t ∧ t < 64) → (ok = 0 ∨ (ok = 1 ∧ 0 ≤ s ∧ s ≤ 1000 - 30 * k)) → ∃ t' s' ok' c' x y, em 40 79 [mm_r 0, mm_i l1, mm_i l2, mm_i l3, mm_i l4, mm_i l5, mm_i t, mm_i s, mm_i ok, mm_i c, mm_i ((k : Int) - 1), l11, l12] [] g = em 40 79 [mm_r 0, mm_i l1, mm_i l2, mm_i l3, mm_i l4, mm_i l5, mm_i t', mm_i s', mm_i ok', mm_i c', mm_i (-1), x, y] [] g ∧ ok' = (if ok = 1 ∧ vb_f (g 2) k c = true ∧ dj_f t k c = true then 1 else 0) ∧ (ok' = 1 → s' = s + sm_f (g 2) k c)
  | 0, c, t, s, ok, l11, l12, hk, hc, ht, ho => by
    refine ⟨t, s, ok, c, l11, l12, rfl, ?_, fun _ => (Int.add_zero s).symm⟩
    rcases ho with ho | ho
    · rw [if_neg (by omega)]; exact ho
    · rw [if_pos ⟨ho.1, rfl, rfl⟩]; exact ho.1
  | k + 1, c, t, s, ok, l11, l12, hk, hc, ht, ho => by
    have hn := hR.n
    obtain ⟨x, e⟩ := M_post_s (g := g) (l1 := l1) (l2 := l2) (l3 := l3) (l4 := l4) (l5 := l5) (t := t) (s := s) (ok := ok) (k := k) (c := c) (by omega) hc l11 l12
    have hor := tb_or ht (m := c % 6) (by omega)
    rw [show ((k + 1 : Nat) : Int) - 1 = k by omega, e]
    by_cases q : ok = 1 ∧ ((c % 6 : Nat) : Int) < g 2 2 ∧ bt_f t ((c % 6 : Nat) : Int) = 0
    · have hw := wk_b hR (k := k) (m := c % 6) (by omega) q.2.1
      have h1 := (hR.r (k := k) (by omega)).1
      have h2 := hR.mn q.2.1
      have ew : (if mm_sub (g 2 (41 + c % 6)) (g 2 (5 + k)) < 0 then mm_wr (-(mm_sub (g 2 (41 + c % 6)) (g 2 (5 + k)))) else mm_sub (g 2 (41 + c % 6)) (g 2 (5 + k))) = wk_f (g 2) k (c % 6) := by
        rw [z_sub (by omega) (by omega)]
        unfold wk_f
        by_cases z : g 2 (41 + c % 6) - g 2 (5 + k) < 0
        · rw [if_pos z, if_neg (by omega), z_wr (by omega) (by omega)]; omega
        · rw [if_neg z, if_pos (by omega)]
      rw [ew, if_neg (by omega), if_pos q.2.1, if_pos q.2.2, z_add (by omega) (by omega)]
      obtain ⟨t', s', ok', c', x', y', a1, a2, a3⟩ := M_post_i hR (l1 := l1) (l2 := l2) (l3 := l3) (l4 := l4) (l5 := l5) k (c / 6) (mm_or t (mm_shl 1 ((c % 6 : Nat) : Int))) (s + wk_f (g 2) k (c % 6)) 1 (mm_i ((c % 6 : Nat) : Int)) x (by omega) (by omega) hor.1 (Or.inr ⟨rfl, by omega, by omega⟩)
      refine ⟨t', s', ok', c', x', y', a1, ?_, fun h => by rw [a3 h, sm_s]; omega⟩
      rw [a2, dj_or ht (by omega), vb_s, dj_s, decide_eq_true q.2.1, decide_eq_true q.2.2, q.1]
      cases vb_f (g 2) k (c / 6) <;> cases dj_f t k (c / 6) <;> cases nd_f k (c / 6) (c % 6) <;> rfl
    · have e0 : (if ok = 0 then (0 : Int) else if ((c % 6 : Nat) : Int) < g 2 2 then (if bt_f t ((c % 6 : Nat) : Int) = 0 then 1 else 0) else 0) = 0 := by
        split
        · rfl
        · split
          · split
            · rename_i z1 z2 z3
              exact absurd ⟨by omega, z2, z3⟩ q
            · rfl
          · rfl
      rw [e0]
      obtain ⟨t', s', ok', c', x', y', a1, a2, a3⟩ := M_post_i hR (l1 := l1) (l2 := l2) (l3 := l3) (l4 := l4) (l5 := l5) k (c / 6) (mm_or t (mm_shl 1 ((c % 6 : Nat) : Int))) (mm_add s (if mm_sub (g 2 (41 + c % 6)) (g 2 (5 + k)) < 0 then mm_wr (-(mm_sub (g 2 (41 + c % 6)) (g 2 (5 + k)))) else mm_sub (g 2 (41 + c % 6)) (g 2 (5 + k)))) 0 (mm_i ((c % 6 : Nat) : Int)) x (by omega) (by omega) hor.1 (Or.inl rfl)
      rw [if_neg (fun z => absurd z.1 (by decide))] at a2
      refine ⟨t', s', ok', c', x', y', a1, ?_, fun h => by omega⟩
      rw [a2, if_neg]
      intro z
      rw [vb_s, dj_s, Bool.and_eq_true, Bool.and_eq_true, Bool.and_eq_true, decide_eq_true_eq, decide_eq_true_eq] at z
      exact q ⟨z.1, z.2.1.1.2, z.2.2.2⟩
theorem M_post_c {g : mm_H} (hR : VM (g 2)) {n : Nat} (hn : g 2 0 = n) {w : Int} {L c : Nat} (hL : L ≤ 7776) (hc : c < L) (b : Int × Int) (l6 l7 l8 l9 l10 l11 l12 : mm_V) : ∃ m6 m7 m8 m9 m10 m11 m12, em 40 50 [mm_r 0, mm_i w, mm_i L, mm_i b.1, mm_i b.2, mm_i c, l6, l7, l8, l9, l10, l11, l12] [] g = em 40 50 [mm_r 0, mm_i w, mm_i L, mm_i (ps_f (g 2) n c b).1, mm_i (ps_f (g 2) n c b).2, mm_i ((c : Int) + 1), m6, m7, m8, m9, m10, m11, m12] [] g := by
  have hn2 := hR.n
  obtain ⟨t', s', ok', c', x, y, a1, a2, a3⟩ := M_post_i hR (l1 := w) (l2 := L) (l3 := b.1) (l4 := b.2) (l5 := c) n c 0 0 1 l11 l12 (by omega) (by omega) (by omega) (Or.inr ⟨rfl, by omega, by omega⟩)
  have dj0 : ∀ k p, dj_f 0 k p = true := by
    intro k
    induction k with
    | zero => intro p; rfl
    | succ k ih =>
      intro p
      rw [dj_s, ih]
      have : ∀ j : Fin 6, bt_f 0 (j.val : Int) = 0 := by decide
      rw [decide_eq_true (this ⟨p % 6, by omega⟩)]; rfl
  rw [dj0] at a2
  have e0 : em 40 50 [mm_r 0, mm_i w, mm_i L, mm_i b.1, mm_i b.2, mm_i c, l6, l7, l8, l9, l10, l11, l12] [] g = em 40 79 [mm_r 0, mm_i w, mm_i L, mm_i b.1, mm_i b.2, mm_i c, mm_i t', mm_i s', mm_i ok', mm_i c', mm_i (-1), x, y] [] g := by
    rw [sg_X11_posts_50, if_pos (by omega), hn, z_sub (by omega) (by omega)]
    exact a1
  have f0 : em 40 208 [mm_r 0, mm_i w, mm_i L, mm_i b.1, mm_i b.2, mm_i c, mm_i t', mm_i s', mm_i ok', mm_i c', mm_i (-1), x, y] [] g = em 40 50 [mm_r 0, mm_i w, mm_i L, mm_i b.1, mm_i b.2, mm_i ((c : Int) + 1), mm_i t', mm_i s', mm_i ok', mm_i c', mm_i 0, x, y] [] g := by
    rw [sg_X11_posts_208, sg_X11_posts_209, if_pos rfl, sg_X11_posts_222, if_pos rfl, sg_X11_posts_235, z_wr (by omega) (by omega)]
  have f1 : em 40 204 [mm_r 0, mm_i w, mm_i L, mm_i b.1, mm_i b.2, mm_i c, mm_i t', mm_i s', mm_i ok', mm_i c', mm_i (-1), x, y] [] g = em 40 50 [mm_r 0, mm_i w, mm_i L, mm_i c, mm_i s', mm_i ((c : Int) + 1), mm_i t', mm_i s', mm_i ok', mm_i c', mm_i 1, x, y] [] g := by
    rw [sg_X11_posts_204, sg_X11_posts_209, if_neg (by decide), sg_X11_posts_222, if_neg (by decide), sg_X11_posts_235, z_wr (by omega) (by omega)]
  rw [e0, sg_X11_posts_79, if_pos (by omega), f0, f1]
  by_cases v : vb_f (g 2) n c = true
  · rw [if_pos ⟨rfl, v, rfl⟩] at a2
    have a4 := a3 a2
    rw [Int.zero_add] at a4
    rw [if_neg (by omega), a4]
    by_cases q : b.1 = -4 ∨ sm_f (g 2) n c < b.2
    · have ep : ps_f (g 2) n c b = ((c : Int), sm_f (g 2) n c) := if_pos ⟨v, q⟩
      rw [ep]
      refine ⟨mm_i t', mm_i (sm_f (g 2) n c), mm_i ok', mm_i c', mm_i 1, x, y, ?_⟩
      by_cases q1 : b.1 = -4
      · rw [if_pos q1]
      · rw [if_neg q1, if_pos (by omega)]
    · have ep : ps_f (g 2) n c b = b := if_neg (fun z => q z.2)
      rw [ep]
      refine ⟨mm_i t', mm_i (sm_f (g 2) n c), mm_i ok', mm_i c', mm_i 0, x, y, ?_⟩
      rw [if_neg (by omega), if_neg (by omega)]
  · rw [if_neg (fun z => v z.2.1)] at a2
    have ep : ps_f (g 2) n c b = b := if_neg (fun z => v z.1)
    rw [ep, if_pos a2]
    exact ⟨mm_i t', mm_i s', mm_i ok', mm_i c', mm_i 0, x, y, rfl⟩
theorem M_post_l {g : mm_H} (hR : VM (g 2)) {n : Nat} (hn : g 2 0 = n) {w : Int} {L : Nat} (hL : L ≤ 7776) : ∀ (d c : Nat) (l6 l7 l8 l9 l10 l11 l12 : mm_V), c + d = L → ∃ m6 m7 m8 m9 m10 m11 m12, em 40 50 [mm_r 0, mm_i w, mm_i L, mm_i (pf_f (g 2) n 0 c (-4, -4)).1, mm_i (pf_f (g 2) n 0 c (-4, -4)).2, mm_i c, l6, l7, l8, l9, l10, l11, l12] [] g = em 40 50 [mm_r 0, mm_i w, mm_i L, mm_i (pf_f (g 2) n 0 L (-4, -4)).1, mm_i (pf_f (g 2) n 0 L (-4, -4)).2, mm_i L, m6, m7, m8, m9, m10, m11, m12] [] g
  | 0, c, l6, l7, l8, l9, l10, l11, l12, hc => by
    have : c = L := by omega
    subst this
    exact ⟨l6, l7, l8, l9, l10, l11, l12, rfl⟩
  | d + 1, c, l6, l7, l8, l9, l10, l11, l12, hc => by
    obtain ⟨m6, m7, m8, m9, m10, m11, m12, a1⟩ := M_post_c hR hn (w := w) hL (c := c) (by omega) (pf_f (g 2) n 0 c (-4, -4)) l6 l7 l8 l9 l10 l11 l12
    obtain ⟨n6, n7, n8, n9, n10, n11, n12, a2⟩ := M_post_l hR hn (w := w) hL d (c + 1) m6 m7 m8 m9 m10 m11 m12 (by omega)
    refine ⟨n6, n7, n8, n9, n10, n11, n12, a1.trans ?_⟩
    rw [pf_s, Nat.zero_add] at a2
    exact a2
theorem M_post_d {g : mm_H} {w l2 l3 l4 : Int} (l7 l8 l9 l10 l11 l12 : mm_V) : ∀ (k c i : Nat), w = i → i < k → k ≤ 5 → c < 100000 → em 40 270 [mm_r 0, mm_i w, mm_i l2, mm_i l3, mm_i l4, mm_i c, mm_i ((k : Int) - 1), l7, l8, l9, l10, l11, l12] [] g = some (some (mm_i (dg_f k c i)), g)
  | 0, c, i, hw, hi, _, _ => absurd hi (Nat.not_lt_zero i)
  | k + 1, c, i, hw, hi, hk, hc => by
    have e1 : mm_wr (Int.tdiv (c : Int) 6) = ((c / 6 : Nat) : Int) := by rw [Int.tdiv_eq_ediv_of_nonneg (by omega), z_wr (by omega) (by omega)]; omega
    have e2 : Int.tmod (c : Int) 6 = ((c % 6 : Nat) : Int) := by rw [Int.tmod_eq_emod_of_nonneg (by omega)]; omega
    rw [sg_X11_posts_270, dg_s]
    by_cases e : i = k
    · rw [if_neg (by omega), if_pos e, e2]
    · rw [if_pos (by omega), if_neg e, e1, z_wr (by omega) (by omega), show ((k + 1 : Nat) : Int) - 1 + -1 = k - 1 by omega]
      exact M_post_d l7 l8 l9 l10 l11 l12 k (c / 6) i hw (by omega) (by omega) (by omega)
theorem z_6' : ∀ n : Fin 6, 1 ≤ 6 ^ n.val ∧ 6 ^ n.val ≤ 7776 := by decide
theorem z_6 {n : Nat} (h : n ≤ 5) : 1 ≤ 6 ^ n ∧ 6 ^ n ≤ 7776 := z_6' ⟨n, by omega⟩
theorem M_post_t {g : mm_H} {n : Nat} (hn : g 2 0 = n) (hn5 : n ≤ 5) {w : Int} : ∀ (m i : Nat), i + m = n → em 40 19 [mm_r 0, mm_i w, mm_i ((6 ^ i : Nat) : Int), mm_i i, mm_u, mm_u, mm_u, mm_u, mm_u, mm_u, mm_u, mm_u, mm_u] [] g = em 40 50 [mm_r 0, mm_i w, mm_i ((6 ^ n : Nat) : Int), mm_i (-4), mm_i (-4), mm_i 0, mm_u, mm_u, mm_u, mm_u, mm_u, mm_u, mm_u] [] g
  | 0, i, hi => by rw [sg_X11_posts_19, hn, if_neg (by omega), show i = n by omega]
  | m + 1, i, hi => by
    have := z_6 (n := i) (by omega)
    have ih := M_post_t (w := w) hn hn5 m (i + 1) (by omega)
    rw [Nat.pow_succ] at ih
    rw [sg_X11_posts_19, hn, if_pos (by omega), z_mul (by omega) (by omega), z_wr (by omega) (by omega)]
    exact ih
theorem M_posts {g : mm_H} (hR : VM (g 2)) {n : Nat} (hn : g 2 0 = n) {w : Int} (hw : w = -1 ∨ (0 ≤ w ∧ w < n)) : em 40 15 [mm_r 0, mm_i w, mm_u, mm_u, mm_u, mm_u, mm_u, mm_u, mm_u, mm_u, mm_u, mm_u, mm_u] [] g = some (some (mm_i (if (pf_f (g 2) n 0 (6 ^ n) (-4, -4)).1 = -4 ∨ w = -1 then (pf_f (g 2) n 0 (6 ^ n) (-4, -4)).2 else dg_f n (pf_f (g 2) n 0 (6 ^ n) (-4, -4)).1.toNat w.toNat)), g) := by
  have hn2 := hR.n
  have h6 := z_6 (n := n) (by omega)
  obtain ⟨m6, m7, m8, m9, m10, m11, m12, a1⟩ := M_post_l hR hn (w := w) (L := 6 ^ n) h6.2 (6 ^ n) 0 mm_u mm_u mm_u mm_u mm_u mm_u mm_u (by omega)
  have hb := pf_b hR hn (6 ^ n)
  rw [sg_X11_posts_15]
  refine (M_post_t (w := w) hn (by omega) n 0 (by omega)).trans (a1.trans ?_)
  generalize pf_f (g 2) n 0 (6 ^ n) (-4, -4) = b at hb
  rw [sg_X11_posts_50, if_neg (by omega), sg_X11_posts_254, hn, z_sub (by omega) (by omega)]
  by_cases c : b.1 = -4
  · rw [if_pos c, if_pos (Or.inl c)]
  · rw [if_neg c]
    by_cases c2 : w = -1
    · rw [if_pos c2, if_pos (Or.inr c2)]
    · rw [if_neg c2, if_neg (by omega)]
      have := M_post_d (g := g) (w := w) (l2 := ((6 ^ n : Nat) : Int)) (l3 := b.1) (l4 := b.2) m7 m8 m9 m10 m11 m12 n b.1.toNat w.toNat (by omega) (by omega) (by omega) (by omega)
      rw [show ((b.1.toNat : Nat) : Int) = b.1 by omega] at this
      exact this
theorem op_posts {h g : mm_H} {v : Nat} (hr : Rel h g v) (w : Int) : AG (ex 82 0 [mm_r 0, mm_i w] [] h) (em 40 0 [mm_r 0, mm_i w, mm_u, mm_u, mm_u, mm_u, mm_u, mm_u, mm_u, mm_u, mm_u, mm_u, mm_u] [] g) := by
  have hV := hr.V
  have hR := hr.M.1
  have hnn := hR.n
  have hmm := hR.m
  obtain ⟨n, hn⟩ : ∃ n : Nat, g 2 0 = n := ⟨(g 2 0).toNat, by omega⟩
  by_cases c : w = -1 ∨ (0 ≤ w ∧ w < g 2 0)
  · have hx : ex 82 0 [mm_r 0, mm_i w] [] h = ex 82 18 [mm_r 0, mm_i w] [] h := by
      rw [sg_X10_posts_0]
      by_cases c1 : w = -1
      · rw [if_pos c1]
      · rw [if_neg c1, hr.v, sg_X10_posts_9 hV.1]
        refine mm_bi (X_hasRope_t hV (by omega)) ?_
        exact (sg_X10_posts_13 _ _ h).trans (if_neg (by decide))
    have hm : em 40 0 [mm_r 0, mm_i w, mm_u, mm_u, mm_u, mm_u, mm_u, mm_u, mm_u, mm_u, mm_u, mm_u, mm_u] [] g = em 40 15 [mm_r 0, mm_i w, mm_u, mm_u, mm_u, mm_u, mm_u, mm_u, mm_u, mm_u, mm_u, mm_u, mm_u] [] g := by
      rw [sg_X11_posts_0]
      by_cases c1 : w = -1
      · rw [if_pos c1]
      · rw [if_neg c1]
        refine mm_bi (M_isRope_t hnn (by omega)) ?_
        exact (sg_X11_posts_10 _ _ g).trans (if_neg (by decide))
    rw [hx, hm, M_posts hR hn (by omega)]
    have hs : ∃ h2, ex 26 0 [mm_r 76, mm_r v] [] h = some (none, h2) ∧ PB n h2 (pf_f (g 2) n 0 (6 ^ n) (-4, -4)) ∧ ∀ a, a ≠ 76 → a ≠ 77 → a ≠ 78 → h2 a = h a := by
      have hV0 : VL (mm_st h 76 0 (-4)) v (g 2) := VL_up hV (fun a h1 h2 => z_sc _ _ (by have := hV.1; omega))
      by_cases c2 : g 2 2 < g 2 0
      · refine ⟨mm_st h 76 0 (-4), ?_, ?_, fun a h1 _ _ => z_sc _ _ h1⟩
        · rw [sg_X5_search_0 hV.1, hV0.2.2.2.1.1.1, hV0.2.2.2.1.1.2.2.1, if_pos c2, sg_X5_search_25 hV.1]
        · rw [pf_n (fun p => ?_)]
          · exact ⟨z_se _ _ _ _, Or.inl ⟨rfl, rfl⟩⟩
          · refine Bool.eq_false_iff.mpr (fun q => ?_)
            have h1 := cn_v (by omega) n p q
            have h2 := cn_b n p (g 2 2).toNat
            omega
      · obtain ⟨h2, a1, a2, a3, a4⟩ := X_post_0 v (g 2) n n 0 0 (mm_st h 76 0 (-4)) (-4, -4) hV0 hn (by omega) rfl ⟨by omega, fun m hm => by
          have : ∀ j : Fin 6, bt_f 0 (j.val : Int) = 0 := by decide
          exact ⟨fun _ => rfl, fun _ => this ⟨m, hm⟩⟩⟩ (fun i hi => by omega) ⟨z_se _ _ _ _, Or.inl ⟨rfl, rfl⟩⟩
        rw [pb_pf, Nat.zero_mul] at a2
        refine ⟨h2, ?_, a2, fun a h1 h2 h3 => (a3 a h1 h2 h3).trans (z_sc _ _ h1)⟩
        rw [sg_X5_search_0 hV.1, hV0.2.2.2.1.1.1, hV0.2.2.2.1.1.2.2.1, if_neg c2]
        refine mm_bi a1 ?_
        exact sg_X5_search_25 hV.1 h2
    obtain ⟨h2, a1, a2, a3⟩ := hs
    have hb := pf_b hR hn (6 ^ n)
    generalize pf_f (g 2) n 0 (6 ^ n) (-4, -4) = b at a2 hb
    refine AG_q (h2 := h2) (g2 := g) (r := if b.1 = -4 ∨ w = -1 then b.2 else dg_f n b.1.toNat w.toNat) hr ?_ rfl ⟨fun a ha => a3 a (by have := hV.1; omega) (by have := hV.1; omega) (by have := hV.1; omega), by rw [a3 79 (by decide) (by decide) (by decide)]⟩ (QM_r g)
    rw [sg_X10_posts_18, hr.v, sg_X10_posts_26 hV.1]
    refine mm_bi a1 ?_
    refine (sg_X10_posts_29 _ h2).trans ?_
    rw [sg_X10_posts_68, sg_X10_posts_68, a2.1]
    by_cases c1 : b.1 = -4
    · rw [if_pos (by omega), if_pos (Or.inl c1), show b.2 = -4 by omega]
    · rw [if_neg (by omega)]
      by_cases c2 : w = -1
      · rw [if_pos c2, if_pos (Or.inr c2)]
      · rw [if_neg c2, if_pos (by omega), if_neg (by omega)]
        rcases a2.2 with z | z
        · omega
        · rw [z.2.2 w.toNat (by omega)]
  · refine AG_0 (r := -1) hr ?_ ?_
    · rw [sg_X10_posts_0, if_neg (by omega), hr.v, sg_X10_posts_9 hV.1]
      refine mm_bi (X_hasRope_f hV (by omega)) ?_
      exact (sg_X10_posts_13 _ _ h).trans (if_pos rfl)
    · rw [sg_X11_posts_0, if_neg (by omega)]
      refine mm_bi (M_isRope_f hnn (by omega)) ?_
      exact (sg_X11_posts_10 _ _ g).trans (if_pos rfl)
