/-! ===== plan: both ===== -/
theorem z_5' : ∀ n : Fin 6, 1 ≤ 5 ^ n.val ∧ 5 ^ n.val ≤ 3125 := by decide
theorem z_5 {n : Nat} (h : n ≤ 5) : 1 ≤ 5 ^ n ∧ 5 ^ n ≤ 3125 := z_5' ⟨n, by omega⟩
theorem M_plan_l {g : mm_H} (hg : MV g) (hS : SB (g 2) (g 4)) (hh : g 4 10 ≤ 900) {n : Nat} (hn : g 2 0 = n) {w : Int} {L : Nat} (hL : L ≤ 3125) (hL5 : L = 5 ^ n) : ∀ (d c : Nat) (l6 l7 l8 l9 l10 : mm_V), c + d = L → ∃ m6 m7 m8 m9 m10, em 38 53 [mm_r 0, mm_i w, mm_i L, mm_i (qf_f (g 2) (oc_f (g 2) (g 4)) n 0 c (-4, -4)).1, mm_i (qf_f (g 2) (oc_f (g 2) (g 4)) n 0 c (-4, -4)).2, mm_i c, l6, l7, l8, l9, l10] [] (hd_f g (g 4)) = em 38 53 [mm_r 0, mm_i w, mm_i L, mm_i (qf_f (g 2) (oc_f (g 2) (g 4)) n 0 L (-4, -4)).1, mm_i (qf_f (g 2) (oc_f (g 2) (g 4)) n 0 L (-4, -4)).2, mm_i L, m6, m7, m8, m9, m10] [] (hd_f g (g 4))
  | 0, c, l6, l7, l8, l9, l10, hc => by
    have e : c = L := by omega
    subst e
    exact ⟨l6, l7, l8, l9, l10, rfl⟩
  | d + 1, c, l6, l7, l8, l9, l10, hc => by
    have hb := qf_b (g 2) (oc_f (g 2) (g 4)) n c
    obtain ⟨m6, m7, m8, m9, m10, a1⟩ := M_plan_c hg hS hh hn (w := w) hL (c := c) (by omega) (by omega) (qf_f (g 2) (oc_f (g 2) (g 4)) n 0 c (-4, -4)) (by omega) l6 l7 l8 l9 l10
    obtain ⟨n6, n7, n8, n9, n10, a2⟩ := M_plan_l hg hS hh hn (w := w) hL hL5 d (c + 1) m6 m7 m8 m9 m10 (by omega)
    refine ⟨n6, n7, n8, n9, n10, a1.trans ?_⟩
    rw [qf_s, Nat.zero_add] at a2
    exact a2
theorem M_plan_g {g : mm_H} {w l2 l3 l4 : Int} (l7 l8 l9 l10 : mm_V) : ∀ (k c i : Nat), w = i → i < k → k ≤ 5 → c < 100000 → em 38 269 [mm_r 0, mm_i w, mm_i l2, mm_i l3, mm_i l4, mm_i c, mm_i ((k : Int) - 1), l7, l8, l9, l10] [] g = some (some (mm_i (dh_f k c i)), g)
  | 0, c, i, hw, hi, _, _ => absurd hi (Nat.not_lt_zero i)
  | k + 1, c, i, hw, hi, hk, hc => by
    have z := z_t5 hc
    rw [sg_X11_plan_269, dh_s]
    by_cases e : i = k
    · rw [if_neg (by omega), if_pos e, z.2]
    · rw [if_pos (by omega), if_neg e, z.1, z_wr (by omega) (by omega), show ((k + 1 : Nat) : Int) - 1 + -1 = k - 1 by omega]
      exact M_plan_g l7 l8 l9 l10 k (c / 5) i hw (by omega) (by omega) (by omega)
theorem M_plan_t {g : mm_H} {n : Nat} (hn : g 2 0 = n) (hn5 : n ≤ 5) {w : Int} : ∀ (m i : Nat), i + m = n → em 38 23 [mm_r 0, mm_i w, mm_i ((5 ^ i : Nat) : Int), mm_i i, mm_u, mm_u, mm_u, mm_u, mm_u, mm_u, mm_u] [] g = em 38 53 [mm_r 0, mm_i w, mm_i ((5 ^ n : Nat) : Int), mm_i (-4), mm_i (-4), mm_i 0, mm_u, mm_u, mm_u, mm_u, mm_u] [] g
  | 0, i, hi => by rw [sg_X11_plan_23, hn, if_neg (by omega), show i = n by omega]
  | m + 1, i, hi => by
    have := z_5 (n := i) (by omega)
    have ih := M_plan_t (w := w) hn hn5 m (i + 1) (by omega)
    rw [Nat.pow_succ] at ih
    rw [sg_X11_plan_23, hn, if_pos (by omega), z_mul (by omega) (by omega), z_wr (by omega) (by omega)]
    exact ih
theorem M_plans {g : mm_H} (hg : MV g) (hS : SB (g 2) (g 4)) (hh : g 4 10 ≤ 900) {n : Nat} (hn : g 2 0 = n) {w : Int} (hw : w = -1 ∨ (0 ≤ w ∧ w < n)) : em 38 15 [mm_r 0, mm_i w, mm_u, mm_u, mm_u, mm_u, mm_u, mm_u, mm_u, mm_u, mm_u] [] g = some (some (mm_i (if (qf_f (g 2) (oc_f (g 2) (g 4)) n 0 (5 ^ n) (-4, -4)).1 = -4 ∨ w = -1 then (qf_f (g 2) (oc_f (g 2) (g 4)) n 0 (5 ^ n) (-4, -4)).2 else dh_f n (qf_f (g 2) (oc_f (g 2) (g 4)) n 0 (5 ^ n) (-4, -4)).1.toNat w.toNat)), hd_f g (g 4)) := by
  have hn2 := hg.1.n
  have h5 := z_5 (n := n) (by omega)
  have e2 : hd_f g (g 4) 2 = g 2 := hd_o _ _ (by decide) (by decide)
  obtain ⟨m6, m7, m8, m9, m10, a1⟩ := M_plan_l hg hS hh hn (w := w) (L := 5 ^ n) h5.2 rfl (5 ^ n) 0 mm_u mm_u mm_u mm_u mm_u (by omega)
  have hb := qf_b (g 2) (oc_f (g 2) (g 4)) n (5 ^ n)
  rw [sg_X11_plan_15]
  refine mm_bi (M_hold g) ?_
  refine (sg_X11_plan_19 _ (hd_f g (g 4))).trans ?_
  refine (M_plan_t (w := w) (g := hd_f g (g 4)) (n := n) (by rw [e2]; exact hn) (by omega) n 0 (by omega)).trans (a1.trans ?_)
  generalize qf_f (g 2) (oc_f (g 2) (g 4)) n 0 (5 ^ n) (-4, -4) = b at hb
  rw [sg_X11_plan_53, if_neg (by omega), sg_X11_plan_253, e2, hn, z_sub (by omega) (by omega)]
  by_cases c : b.1 = -4
  · rw [if_pos c, if_pos (Or.inl c)]
  · rw [if_neg c]
    by_cases c2 : w = -1
    · rw [if_pos c2, if_pos (Or.inr c2)]
    · rw [if_neg c2, if_neg (by omega)]
      have := M_plan_g (g := hd_f g (g 4)) (w := w) (l2 := ((5 ^ n : Nat) : Int)) (l3 := b.1) (l4 := b.2) m7 m8 m9 m10 n b.1.toNat w.toNat (by omega) (by omega) (by omega) (by omega)
      rw [show ((b.1.toNat : Nat) : Int) = b.1 by omega] at this
      exact this
theorem op_plan {h g : mm_H} {v : Nat} (hr : Rel h g v) (w : Int) : AG (ex 80 0 [mm_r 0, mm_i w] [] h) (em 38 0 [mm_r 0, mm_i w, mm_u, mm_u, mm_u, mm_u, mm_u, mm_u, mm_u, mm_u, mm_u] [] g) := by
  have hV := hr.V
  have hnn := hr.M.1.n
  have hSM := hr.S
  have hSB : SB (g 2) (g 4) := ⟨hSM.1, hSM.2.1, ⟨hSM.2.2.1.1, by have := hSM.2.2.1; omega⟩, hSM.2.2.2⟩
  obtain ⟨n, hn⟩ : ∃ n : Nat, g 2 0 = n := ⟨(g 2 0).toNat, by omega⟩
  by_cases c : w = -1 ∨ (0 ≤ w ∧ w < g 2 0)
  · have hx : ex 80 0 [mm_r 0, mm_i w] [] h = ex 80 18 [mm_r 0, mm_i w] [] h := by
      rw [sg_X10_plan_0]
      by_cases c1 : w = -1
      · rw [if_pos c1]
      · rw [if_neg c1, hr.v, sg_X10_plan_9 hV.1]
        refine mm_bi (X_hasRope_t hV (by omega)) ?_
        exact (sg_X10_plan_13 _ _ h).trans (if_neg (by decide))
    have hm : em 38 0 [mm_r 0, mm_i w, mm_u, mm_u, mm_u, mm_u, mm_u, mm_u, mm_u, mm_u, mm_u] [] g = em 38 15 [mm_r 0, mm_i w, mm_u, mm_u, mm_u, mm_u, mm_u, mm_u, mm_u, mm_u, mm_u] [] g := by
      rw [sg_X11_plan_0]
      by_cases c1 : w = -1
      · rw [if_pos c1]
      · rw [if_neg c1]
        refine mm_bi (M_isRope_t hnn (by omega)) ?_
        exact (sg_X11_plan_10 _ _ g).trans (if_neg (by decide))
    rw [hx, hm, M_plans hr.M hSB (by have := hSM.2.2.1; omega) hn (by omega)]
    obtain ⟨h2, a1, a2, a3⟩ := X_search hn hV hr.D hSM
    have hb := qf_b (g 2) (oc_f (g 2) (g 4)) n (5 ^ n)
    generalize qf_f (g 2) (oc_f (g 2) (g 4)) n 0 (5 ^ n) (-4, -4) = b at a2 hb
    refine AG_q (h2 := h2) (g2 := hd_f g (g 4)) (r := if b.1 = -4 ∨ w = -1 then b.2 else dh_f n b.1.toNat w.toNat) hr ?_ rfl ⟨fun a ha => a3 a (by have := hV.1; omega), by rw [a3 79 (by omega)]⟩ (QM_hd g)
    rw [sg_X10_plan_18, hr.v, sg_X10_plan_26 hV.1]
    refine mm_bi a1 ?_
    refine (sg_X10_plan_33 _ h2).trans ?_
    rw [sg_X10_plan_72, sg_X10_plan_72, a2.1]
    by_cases c1 : b.1 = -4
    · rw [if_pos (by omega), if_pos (Or.inl c1), show b.2 = -4 by omega]
    · rw [if_neg (by omega)]
      by_cases c2 : w = -1
      · rw [if_pos c2, if_pos (Or.inr c2)]
      · rw [if_neg c2, if_pos (by omega), if_neg (by omega)]
        rcases a2.2 with z | z
        · omega
        · rw [z.2.2 w.toNat (by omega)]
  · refine AG_0 (r := -1) hr ?_ ?_
    · rw [sg_X10_plan_0, if_neg (by omega), hr.v, sg_X10_plan_9 hV.1]
      refine mm_bi (X_hasRope_f hV (by omega)) ?_
      exact (sg_X10_plan_13 _ _ h).trans (if_pos rfl)
    · rw [sg_X11_plan_0, if_neg (by omega)]
      refine mm_bi (M_isRope_f hnn (by omega)) ?_
      exact (sg_X11_plan_10 _ _ g).trans (if_pos rfl)
