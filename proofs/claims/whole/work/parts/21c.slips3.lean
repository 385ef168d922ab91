/-! chances: the model -/
theorem pr_b {x m : Int} (hx : 0 ≤ x ∧ x ≤ 10) : ∀ j : Nat, 0 ≤ pr_f x m j ∧ pr_f x m j ≤ (10 : Int) ^ j
  | 0 => ⟨(by decide : (0 : Int) ≤ 1), (by decide : (1 : Int) ≤ 10 ^ 0)⟩
  | j + 1 => by
    have ih := pr_b hx (m := m) j
    have hf : 0 ≤ (if bt_f m j = 1 then x else 10 - x) ∧ (if bt_f m j = 1 then x else 10 - x) ≤ 10 := by split <;> omega
    rw [pr_s, Int.pow_succ]
    exact ⟨Int.mul_nonneg ih.1 hf.1, Int.mul_le_mul ih.2 hf.2 hf.1 (Int.le_trans ih.1 ih.2)⟩
def am_f (T u x : Int) (n : Nat) : Nat → Int
  | 0 => 0
  | m + 1 => am_f T u x n m + if lf_f (cl_f (T - on_f m 8)) = u then pr_f x m n else 0
theorem am_s (T u x : Int) (n m : Nat) : am_f T u x n (m + 1) = am_f T u x n m + if lf_f (cl_f (T - on_f m 8)) = u then pr_f x m n else 0 := rfl
theorem am_b {T u x : Int} {n : Nat} (hn : n ≤ 6) (hx : 0 ≤ x ∧ x ≤ 10) : ∀ m : Nat, 0 ≤ am_f T u x n m ∧ am_f T u x n m ≤ 1000000 * m
  | 0 => ⟨Int.le_refl 0, Int.le_refl 0⟩
  | m + 1 => by
    have ih := am_b hn hx (T := T) (u := u) m
    have h1 := pr_b hx (m := m) n
    have h2 := z_10' hn
    rw [am_s]
    split <;> omega
theorem on_6' {m : Nat} (h : m < 64) : 0 ≤ on_f (m : Int) 8 ∧ on_f (m : Int) 8 ≤ 6 := on_6 ⟨m, h⟩
theorem am_ab (T u x : Int) (n : Nat) : ∀ m : Nat, m ≤ 64 → am_f T u x n m = ab_f T u (wm_f x n m) 7
  | 0, _ => by
    have : ab_f T u (wm_f x n 0) 7 = ab_f T u (wm_f x n 0) 0 := @su_z (lp_p T u) (lp_d T u) (wm_f x n 0) 0 7 (fun k _ _ => rfl)
    rw [this]; rfl
  | m + 1, h => by
    have hb := on_6' (m := m) (by omega)
    have e : wm_f x n (m + 1) = fun i => wm_f x n m i + if (on_f (m : Int) 8).toNat = i then pr_f x m n else 0 := by
      funext i
      rw [wm_s]
      by_cases c : on_f (m : Int) 8 = i
      · rw [if_pos c, if_pos (by omega)]
      · rw [if_neg c, if_neg (by omega)]
    have h2 := @su_a (lp_p T u) (lp_d T u) (wm_f x n m) (on_f (m : Int) 8).toNat (pr_f x m n) 7
    rw [am_s, am_ab T u x n m (by omega), e]
    refine Eq.trans ?_ h2.symm
    change ab_f T u (wm_f x n m) 7 + _ = ab_f T u (wm_f x n m) 7 + _
    congr 1
    have e2 : (((on_f (m : Int) 8).toNat : Nat) : Int) = on_f (m : Int) 8 := by omega
    by_cases c : lf_f (cl_f (T - on_f (m : Int) 8)) = u
    · rw [if_pos c, if_pos ⟨by omega, by unfold lp_p; rw [e2]; exact c⟩]
    · rw [if_neg c, if_neg (fun q => c (by have := q.2; unfold lp_p at this; rw [e2] at this; exact this))]
theorem am_fin {T u x n : Int} (hn : 0 ≤ n ∧ n ≤ 6) (hx : 0 ≤ x ∧ x ≤ 10) : am_f T u x n.toNat (2 ^ n.toNat) = ab_f T u (wy_f x n.toNat) (n.toNat + 1) := by
  have h2 : 2 ^ n.toNat ≤ 2 ^ 6 := Nat.pow_le_pow_right (by omega) (by omega)
  rw [am_ab T u x n.toNat _ (by omega)]
  have e1 : ab_f T u (wm_f x n.toNat (2 ^ n.toNat)) 7 = ab_f T u (wy_f x n.toNat) 7 := by
    refine @su_c (lp_p T u) (lp_d T u) _ _ 7 (fun i hi => ?_)
    have := wm_wy ⟨n.toNat, by omega⟩ ⟨x.toNat, by omega⟩ ⟨i, hi⟩
    dsimp only at this
    rw [show ((x.toNat : Nat) : Int) = x by omega] at this
    exact this
  have e2 : ab_f T u (wy_f x n.toNat) (n.toNat + 1 + (6 - n.toNat)) = ab_f T u (wy_f x n.toNat) (n.toNat + 1) := @su_z (lp_p T u) (lp_d T u) (wy_f x n.toNat) (n.toNat + 1) (6 - n.toNat) (fun k h1 h2 => (wy_b hn hx (s := k) (by omega)).2.2 (by omega))
  rw [show n.toNat + 1 + (6 - n.toNat) = 7 by omega] at e2
  rw [e1, e2]
theorem M_slips_p {h : mm_H} {k n x u p A B : Int} (m : Nat) (hn : 0 ≤ n ∧ n ≤ 6) (hx : 0 ≤ x ∧ x ≤ 10) (hk : 0 ≤ k ∧ k < 12) (hT : 0 ≤ h 4 k.toNat ∧ h 4 k.toNat ≤ 40) (hm : m < 64) (hA : 0 ≤ A ∧ A ≤ 64000000) : ∀ (d : Nat) (j : Int), 0 ≤ j → j + d = n → ∃ l, em 49 95 [mm_r 0, mm_i k, mm_i n, mm_i x, mm_i u, mm_i p, mm_i A, mm_i B, mm_i m, mm_i (pr_f x m j.toNat), mm_i j] [] h = em 49 81 [mm_r 0, mm_i k, mm_i n, mm_i x, mm_i u, mm_i p, mm_i (A + if lf_f (cl_f (h 4 k.toNat - on_f m 8)) = u then pr_f x m n.toNat else 0), mm_i B, mm_i ((m : Int) + 1), mm_i (pr_f x m n.toNat), l] [] h
  | 0, j, h0, hj => by
    have ho := on_6' hm
    have hp := pr_b hx (m := m) n.toNat
    have h10 := z_10' (j := n.toNat) (by omega)
    refine ⟨mm_i (h 4 k.toNat - on_f m 8), ?_⟩
    rw [sg_X11_slips_95, if_neg (by omega), if_pos hk]
    refine mm_bi (M_ones _ h) ?_
    refine (sg_X11_slips_142 _ _ _ _ _ _ _ _ _ _ _ _ h).trans ?_
    rw [z_sub (by omega) (by omega), show j.toNat = n.toNat by omega]
    have fin : ∀ y, y = cl_f (h 4 k.toNat - on_f m 8) → em 49 158 [mm_r 0, mm_i k, mm_i n, mm_i x, mm_i u, mm_i p, mm_i A, mm_i B, mm_i m, mm_i (pr_f x m n.toNat), mm_i (h 4 k.toNat - on_f m 8)] [mm_i y, mm_i A] h = em 49 81 [mm_r 0, mm_i k, mm_i n, mm_i x, mm_i u, mm_i p, mm_i (A + if lf_f (cl_f (h 4 k.toNat - on_f m 8)) = u then pr_f x m n.toNat else 0), mm_i B, mm_i ((m : Int) + 1), mm_i (pr_f x m n.toNat), mm_i (h 4 k.toNat - on_f m 8)] [] h := by
      intro y hy
      subst hy
      rw [sg_X11_slips_158]
      refine mm_bi (M_lightOf (cl_b _) h) ?_
      refine (sg_X11_slips_161 _ _ _ _ _ _ _ _ _ _ _ _ h).trans ?_
      rw [sg_X11_slips_172, sg_X11_slips_172, z_wr (by omega) (by omega)]
      by_cases c : lf_f (cl_f (h 4 k.toNat - on_f m 8)) = u
      · rw [if_pos c, if_pos c, z_add (by omega) (by omega)]
      · rw [if_neg c, if_neg c, z_add (by omega) (by omega)]
    by_cases c : h 4 k.toNat - on_f m 8 < 0
    · rw [if_pos c]; exact fin 0 (by unfold cl_f; rw [if_pos c])
    · rw [if_neg c]; exact fin _ (by unfold cl_f; rw [if_neg c, if_neg (by omega)])
  | d + 1, j, h0, hj => by
    have hp := pr_b hx (m := m) j.toNat
    have h10 := z_10' (j := j.toNat) (by omega)
    have ih := M_slips_p (u := u) (p := p) (B := B) m hn hx hk hT hm hA d (j + 1) (by omega) (by omega)
    rw [show (j + 1).toNat = j.toNat + 1 by omega, pr_s, show ((j.toNat : Nat) : Int) = j by omega] at ih
    have b1 := z_m10 (a := pr_f x m j.toNat) (x := x) (by omega) hx
    have b2 := z_m10 (a := pr_f x m j.toNat) (x := 10 - x) (by omega) (by omega)
    rw [sg_X11_slips_95, if_pos (by omega), sg_X11_slips_122, sg_X11_slips_122, z_sub (by omega) (by omega), z_mul (by omega) (by omega), z_mul (by omega) (by omega), z_wr (by omega) (by omega)]
    change ∃ l, (if bt_f m j = 1 then _ else _) = _
    by_cases c : bt_f m j = 1
    · rw [if_pos c] at ih ⊢; exact ih
    · rw [if_neg c] at ih ⊢; exact ih
theorem z_shl2 {n : Int} (hn : 0 ≤ n ∧ n ≤ 6) : mm_shl 1 n = ((2 ^ n.toNat : Nat) : Int) := by
  rcases (show n = 0 ∨ n = 1 ∨ n = 2 ∨ n = 3 ∨ n = 4 ∨ n = 5 ∨ n = 6 by omega) with rfl | rfl | rfl | rfl | rfl | rfl | rfl <;> decide
theorem M_slips_m {h : mm_H} {k n x u p B : Int} (hn : 0 ≤ n ∧ n ≤ 6) (hx : 0 ≤ x ∧ x ≤ 10) (hk : 0 ≤ k ∧ k < 12) (hT : 0 ≤ h 4 k.toNat ∧ h 4 k.toNat ≤ 40) : ∀ (d m : Nat) (l9 l10 : mm_V), m + d = 2 ^ n.toNat → ∃ l, em 49 81 [mm_r 0, mm_i k, mm_i n, mm_i x, mm_i u, mm_i p, mm_i (am_f (h 4 k.toNat) u x n.toNat m), mm_i B, mm_i m, l9, l10] [] h = em 49 189 [mm_r 0, mm_i k, mm_i n, mm_i x, mm_i u, mm_i p, mm_i (am_f (h 4 k.toNat) u x n.toNat (2 ^ n.toNat)), mm_i B, mm_i (am_f (h 4 k.toNat) u x n.toNat (2 ^ n.toNat)), mm_i B, l] [] h
  | 0, m, l9, l10, hm => by
    refine ⟨l10, ?_⟩
    rw [sg_X11_slips_81, z_shl2 hn, if_neg (by omega), show m = 2 ^ n.toNat by omega]
  | d + 1, m, l9, l10, hm => by
    have h2 : 2 ^ n.toNat ≤ 2 ^ 6 := Nat.pow_le_pow_right (by omega) (by omega)
    have hb := am_b (T := h 4 k.toNat) (u := u) (n := n.toNat) (by omega) hx m
    obtain ⟨l, a1⟩ := M_slips_p (u := u) (p := p) (B := B) (A := am_f (h 4 k.toNat) u x n.toNat m) m hn hx hk hT (by omega) (by omega) n.toNat 0 (by omega) (by omega)
    rw [← am_s] at a1
    obtain ⟨l2, ih⟩ := M_slips_m (u := u) (p := p) (B := B) hn hx hk hT d (m + 1) (mm_i (pr_f x m n.toNat)) l (by omega)
    refine ⟨l2, ?_⟩
    rw [sg_X11_slips_81, z_shl2 hn, if_pos (by omega)]
    exact a1.trans ih
theorem M_slips_t {h : mm_H} {k n x u p : Int} (hn : 0 ≤ n ∧ n ≤ 6) : ∀ (m : Nat) (i : Int), 0 ≤ i → i + m = n → em 49 59 [mm_r 0, mm_i k, mm_i n, mm_i x, mm_i u, mm_i p, mm_i 0, mm_i ((10 : Int) ^ i.toNat), mm_i i, mm_u, mm_u] [] h = em 49 81 [mm_r 0, mm_i k, mm_i n, mm_i x, mm_i u, mm_i p, mm_i 0, mm_i ((10 : Int) ^ n.toNat), mm_i 0, mm_u, mm_u] [] h
  | 0, i, h0, hi => by rw [sg_X11_slips_59, if_neg (by omega), show i = n by omega]
  | m + 1, i, h0, hi => by
    have := z_10' (j := i.toNat) (by omega)
    have ih := M_slips_t (h := h) (k := k) (x := x) (u := u) (p := p) hn m (i + 1) (by omega) (by omega)
    rw [show (i + 1).toNat = i.toNat + 1 by omega, Int.pow_succ] at ih
    rw [sg_X11_slips_59, if_pos (by omega), z_mul (by omega) (by omega), z_wr (by omega) (by omega)]
    exact ih
theorem M_gcd {h : mm_H} {k n x u p A B : Int} : ∀ (f a b : Nat) (l : mm_V), b ≤ f → 1 ≤ Nat.gcd a b → em 49 189 [mm_r 0, mm_i k, mm_i n, mm_i x, mm_i u, mm_i p, mm_i A, mm_i B, mm_i a, mm_i b, l] [] h = some (some (mm_i (mm_wr (Int.tdiv (if p = 0 then A else B) (Nat.gcd a b)))), h)
  | 0, a, b, l, hb, hg => by
    have e : b = 0 := by omega
    subst e
    rw [Nat.gcd_zero_right] at hg ⊢
    rw [sg_X11_slips_189, if_neg (by omega)]
    by_cases c : p = 0
    · rw [if_pos c, if_pos c, if_neg (by omega), sg_X11_slips_230]
    · rw [if_neg c, if_neg c, if_neg (by omega), sg_X11_slips_230]
  | f + 1, a, b, l, hb, hg => by
    rcases Nat.eq_zero_or_pos b with e | e
    · subst e
      rw [Nat.gcd_zero_right] at hg ⊢
      rw [sg_X11_slips_189, if_neg (by omega)]
      by_cases c : p = 0
      · rw [if_pos c, if_pos c, if_neg (by omega), sg_X11_slips_230]
      · rw [if_neg c, if_neg c, if_neg (by omega), sg_X11_slips_230]
    · have hm := Nat.mod_lt a e
      have e3 : Nat.gcd a b = Nat.gcd b (a % b) := by rw [Nat.gcd_comm a b, Nat.gcd_rec b a, Nat.gcd_comm b (a % b)]
      have e2 : Int.tmod (a : Int) (b : Int) = ((a % b : Nat) : Int) := by rw [Int.tmod_eq_emod_of_nonneg (by omega)]; exact (Int.natCast_emod a b).symm
      rw [sg_X11_slips_189, if_pos (by omega), if_neg (by omega), e2, e3]
      exact M_gcd f b (a % b) _ (by omega) (by omega)
theorem op_slips {h g : mm_H} {v : Nat} (hr : Rel h g v) (k n x u p : Int) : AG (ex 89 0 [mm_r 0, mm_i k, mm_i n, mm_i x, mm_i u, mm_i p, mm_u, mm_u, mm_u] [] h) (em 49 0 [mm_r 0, mm_i k, mm_i n, mm_i x, mm_i u, mm_i p, mm_u, mm_u, mm_u, mm_u, mm_u] [] g) := by
  have hnn := hr.M.1.n
  by_cases c : 0 ≤ k ∧ k < g 2 0
  · have hx1 : ex 89 0 [mm_r 0, mm_i k, mm_i n, mm_i x, mm_i u, mm_i p, mm_u, mm_u, mm_u] [] h = ex 89 8 [mm_r 0, mm_i k, mm_i n, mm_i x, mm_i u, mm_i p, mm_u, mm_u, mm_u] [mm_i 1] h := by
      rw [sg_X10_slips_0, hr.v, sg_X10_slips_4 hr.V.1]
      exact mm_bi (X_hasRope_t hr.V c) rfl
    have hm1 : em 49 0 [mm_r 0, mm_i k, mm_i n, mm_i x, mm_i u, mm_i p, mm_u, mm_u, mm_u, mm_u, mm_u] [] g = em 49 5 [mm_r 0, mm_i k, mm_i n, mm_i x, mm_i u, mm_i p, mm_u, mm_u, mm_u, mm_u, mm_u] [mm_i 1] g := by
      rw [sg_X11_slips_0]
      exact mm_bi (M_isRope_t hnn c) rfl
    rw [hx1, hm1]
    by_cases c2 : 0 ≤ n ∧ n ≤ 6
    · have hm2 : em 49 5 [mm_r 0, mm_i k, mm_i n, mm_i x, mm_i u, mm_i p, mm_u, mm_u, mm_u, mm_u, mm_u] [mm_i 1] g = em 49 15 [mm_r 0, mm_i k, mm_i n, mm_i x, mm_i u, mm_i p, mm_u, mm_u, mm_u, mm_u, mm_u] [mm_i 1] g := by
        rw [sg_X11_slips_5, if_neg (by decide)]
        exact mm_bi (M_in_t c2 g) rfl
      rw [hm2]
      by_cases c3 : 0 ≤ x ∧ x ≤ 10
      · have hm3 : em 49 15 [mm_r 0, mm_i k, mm_i n, mm_i x, mm_i u, mm_i p, mm_u, mm_u, mm_u, mm_u, mm_u] [mm_i 1] g = em 49 25 [mm_r 0, mm_i k, mm_i n, mm_i x, mm_i u, mm_i p, mm_u, mm_u, mm_u, mm_u, mm_u] [mm_i 1] g := by
          rw [sg_X11_slips_15, if_neg (by decide)]
          exact mm_bi (M_in_t c3 g) rfl
        rw [hm3]
        by_cases c4 : 0 ≤ u ∧ u ≤ 3
        · have hm4 : em 49 25 [mm_r 0, mm_i k, mm_i n, mm_i x, mm_i u, mm_i p, mm_u, mm_u, mm_u, mm_u, mm_u] [mm_i 1] g = em 49 35 [mm_r 0, mm_i k, mm_i n, mm_i x, mm_i u, mm_i p, mm_u, mm_u, mm_u, mm_u, mm_u] [mm_i 1] g := by
            rw [sg_X11_slips_25, if_neg (by decide)]
            exact mm_bi (M_in_t c4 g) rfl
          have hx4 : ex 89 8 [mm_r 0, mm_i k, mm_i n, mm_i x, mm_i u, mm_i p, mm_u, mm_u, mm_u] [mm_i 1] h = ex 89 38 [mm_r 0, mm_i k, mm_i n, mm_i x, mm_i u, mm_i p, mm_u, mm_u, mm_u] [mm_i 1] h := by
            rw [sg_X10_slips_8, if_neg (by decide), if_neg (by omega), if_neg (by omega), if_neg (by omega), if_neg (by omega)]
            exact mm_bi (X_isLight_t c4 h) rfl
          rw [hm4, hx4]
          by_cases c5 : 0 ≤ p ∧ p ≤ 1
          · obtain ⟨h2, a1, a2, a3⟩ := X_spread c2 c3 h
            have hT := hr.T.2.1 k.toNat (by omega)
            have eT : h2 26 k.toNat = g 4 k.toNat := by rw [a3 26 (by decide)]; exact hr.T.2.2 k.toNat (by omega)
            have hab := @su_b (lp_p (g 4 k.toNat) u) (lp_d (g 4 k.toNat) u) (wy_f x n.toNat) (n.toNat + 1) (fun s hs => by have := wy_b c2 c3 (s := s) (by omega); omega)
            change 0 ≤ ab_f (g 4 k.toNat) u (wy_f x n.toNat) (n.toNat + 1) ∧ ab_f (g 4 k.toNat) u (wy_f x n.toNat) (n.toNat + 1) ≤ _ at hab
            have hX := X_ways_l (u := u) hT c2 c3 a2 (n.toNat + 1) 0 (by omega) (by omega)
            have hM := am_fin (T := g 4 k.toNat) (u := u) c2 c3
            obtain ⟨l, b1⟩ := M_slips_m (h := g) (u := u) (p := p) (B := (10 : Int) ^ n.toNat) c2 c3 (k := k) (by omega) hT (2 ^ n.toNat) 0 mm_u mm_u (by omega)
            rw [hM] at b1
            have h10 := z_10' (j := n.toNat) (by omega)
            have b2 := M_slips_t (h := g) (k := k) (x := x) (u := u) (p := p) c2 n.toNat 0 (by omega) (by omega)
            have hA := X_all_l c2 h2 n.toNat 0 (by omega) (by omega)
            generalize ab_f (g 4 k.toNat) u (wy_f x n.toNat) (n.toNat + 1) = A at hab hX b1
            generalize (10 : Int) ^ n.toNat = B at h10 b1 b2 hA
            obtain ⟨A, rfl⟩ : ∃ a : Nat, A = a := ⟨A.toNat, by omega⟩
            obtain ⟨B, rfl⟩ : ∃ b : Nat, B = b := ⟨B.toNat, by omega⟩
            have hg1 : 1 ≤ Nat.gcd A B := Nat.gcd_pos_of_pos_right A (by omega)
            refine AG_q (h2 := h2) (g2 := g) (r := mm_wr (Int.tdiv (if p = 0 then (A : Int) else B) (Nat.gcd A B))) hr ?_ ?_ ⟨fun a ha => a3 a (by have := hr.V.1; omega), by rw [a3 79 (by decide)]⟩ (QM_r g)
            · rw [sg_X10_slips_38, if_neg (by decide), if_neg (by omega), if_neg (by omega)]
              refine mm_bi a1 ?_
              refine (sg_X10_slips_63 _ _ _ _ _ h2).trans ?_
              rw [if_pos (by omega), eT]
              refine mm_bi ((sg_X1_waysToLight_0 _ _ _ h2).trans hX) ?_
              refine (sg_X10_slips_82 _ _ _ _ _ _ h2).trans ?_
              refine mm_bi ((sg_X1_allWays_0 _ h2).trans hA) ?_
              refine (sg_X10_slips_92 _ _ _ _ _ _ _ h2).trans ?_
              refine mm_bi (X_gcd (by omega) (by omega) h2) ?_
              refine (sg_X10_slips_101 _ _ _ _ _ _ _ _ h2).trans ?_
              rw [if_neg (by omega)]
              by_cases c6 : p = 0
              · rw [if_pos c6, if_pos c6, sg_X10_slips_123, if_neg (by omega)]
              · rw [if_neg c6, if_neg c6, sg_X10_slips_123, if_neg (by omega)]
            · rw [sg_X11_slips_35, if_neg (by decide)]
              refine mm_bi (M_in_t c5 g) ?_
              refine (sg_X11_slips_45 _ _ _ _ _ _ g).trans ?_
              rw [if_neg (by decide)]
              refine b2.trans (b1.trans ?_)
              exact M_gcd B A B l (Nat.le_refl B) hg1
          · refine AG_0 (r := -1) hr ?_ ?_
            · rw [sg_X10_slips_38, if_neg (by decide), sg_X10_slips_52]
              split
              · rfl
              · rw [if_pos (by omega)]
            · rw [sg_X11_slips_35, if_neg (by decide)]
              refine mm_bi (M_in_f c5 g) ?_
              exact (sg_X11_slips_45 _ _ _ _ _ _ g).trans ((if_pos rfl).trans (sg_X11_slips_48 _ _ _ _ _ g))
        · refine AG_0 (r := -1) hr ?_ ?_
          · rw [sg_X10_slips_8, if_neg (by decide), if_neg (by omega), if_neg (by omega), if_neg (by omega), if_neg (by omega)]
            refine mm_bi (X_isLight_f c4 h) ?_
            exact (sg_X10_slips_38 _ _ _ _ _ _ h).trans ((if_pos rfl).trans (sg_X10_slips_52 _ _ _ _ _ h))
          · rw [sg_X11_slips_25, if_neg (by decide)]
            refine mm_bi (M_in_f c4 g) ?_
            exact (sg_X11_slips_35 _ _ _ _ _ _ g).trans ((if_pos rfl).trans (sg_X11_slips_48 _ _ _ _ _ g))
      · refine AG_0 (r := -1) hr ?_ ?_
        · rw [sg_X10_slips_8, if_neg (by decide), if_neg (by omega), if_neg (by omega), sg_X10_slips_31]
          split
          · rfl
          · rw [if_pos (by omega)]
        · rw [sg_X11_slips_15, if_neg (by decide)]
          refine mm_bi (M_in_f c3 g) ?_
          exact (sg_X11_slips_25 _ _ _ _ _ _ g).trans ((if_pos rfl).trans (sg_X11_slips_48 _ _ _ _ _ g))
    · refine AG_0 (r := -1) hr ?_ ?_
      · rw [sg_X10_slips_8, if_neg (by decide), sg_X10_slips_31]
        split
        · rfl
        · rw [if_pos (by omega)]
      · rw [sg_X11_slips_5, if_neg (by decide)]
        refine mm_bi (M_in_f c2 g) ?_
        exact (sg_X11_slips_15 _ _ _ _ _ _ g).trans ((if_pos rfl).trans (sg_X11_slips_48 _ _ _ _ _ g))
  · refine AG_0 (r := -1) hr ?_ ?_
    · rw [sg_X10_slips_0, hr.v, sg_X10_slips_4 hr.V.1]
      refine mm_bi (X_hasRope_f hr.V c) ?_
      exact (sg_X10_slips_8 _ _ _ _ _ _ h).trans ((if_pos rfl).trans (sg_X10_slips_31 _ _ _ _ _ h))
    · rw [sg_X11_slips_0]
      refine mm_bi (M_isRope_f hnn c) ?_
      exact (sg_X11_slips_5 _ _ _ _ _ _ g).trans ((if_pos rfl).trans (sg_X11_slips_48 _ _ _ _ _ g))
