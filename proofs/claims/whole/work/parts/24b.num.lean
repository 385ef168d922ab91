/-! ===== letters, figures, numbers ===== -/
def fg_f (x : Int) : Int := if 48 ≤ x ∧ x ≤ 57 then x - 48 else -1
theorem fg_b (x : Int) : -1 ≤ fg_f x ∧ fg_f x ≤ 9 := by unfold fg_f; split <;> omega
def lt_f (T : Nat → Int) (n p o : Int) : Int := if p < n then T p.toNat else o
def fp_f (T : Nat → Int) (n p : Int) : Int := if p < n then fg_f (T p.toNat) else -1
theorem fp_b (T : Nat → Int) (n p : Int) : -1 ≤ fp_f T n p ∧ fp_f T n p ≤ 9 := by
  unfold fp_f
  split
  · exact fg_b _
  · omega
theorem fp_x (T : Nat → Int) (n p : Int) : fg_f (lt_f T n p 0) = fp_f T n p := by
  unfold lt_f fp_f
  split <;> rfl
theorem fp_m (T : Nat → Int) (n p : Int) : fg_f (lt_f T n p (-1)) = fp_f T n p := by
  unfold lt_f fp_f
  split <;> rfl
def nu_f (T : Nat → Int) (n p : Int) : Int × Int := if fp_f T n p < 0 then (-1, p) else if fp_f T n (p + 1) < 0 then (fp_f T n p, p + 1) else (10 * fp_f T n p + fp_f T n (p + 1), p + 2)
theorem X_letter {h g : mm_H} (hx : TX h g) {p : Int} (hp : 0 ≤ p) : ex 48 0 [mm_r 1, mm_i p] [] h = some (some (mm_i (lt_f (g 1) (g 0 1) p 0)), h) := by
  have h1 := hx.2.1
  unfold lt_f
  rw [sg_X8_letterAt_0, if_neg (by omega), hx.1, sg_X8_letterAt_21, sg_X8_letterAt_22, sg_X8_letterAt_22]
  by_cases c : p < g 0 1
  · rw [if_pos c, if_pos c, if_pos (by omega), (hx.2.2 p.toNat (by omega)).1]
  · rw [if_neg c, if_neg c]
theorem M_letter {h g g2 : mm_H} (hx : TX h g) (e1 : g2 1 = g 1) (e0 : g2 0 1 = g 0 1) {p : Int} (hp : 0 ≤ p) : em 7 0 [mm_r 0, mm_i p] [] g2 = some (some (mm_i (lt_f (g 1) (g 0 1) p (-1))), g2) := by
  have h1 := hx.2.1
  unfold lt_f
  rw [sg_X11_letterAt_0, e0, e1, sg_X11_letterAt_18, sg_X11_letterAt_18]
  by_cases c : p < g 0 1
  · rw [if_pos c, if_pos c, if_pos (by omega)]
  · rw [if_neg c, if_neg c]
theorem X_figure (x : Int) (h : mm_H) : ex 37 0 [mm_i x] [] h = some (some (mm_i (fg_f x)), h) := by
  unfold fg_f
  rw [sg_X6_figure_0, sg_X6_figure_19, sg_X6_figure_20, sg_X6_figure_20]
  by_cases c : x < 48
  · rw [if_pos c, if_neg (by omega)]
  · rw [if_neg c]
    by_cases c2 : 57 < x
    · rw [if_pos c2, if_neg (by omega)]
    · rw [if_neg c2, if_pos (by omega), z_sub (by omega) (by omega)]
theorem M_isFigure (x : Int) (h : mm_H) : em 8 0 [mm_i x] [] h = some (some (mm_i (if fg_f x < 0 then 0 else 1)), h) := by
  rw [sg_X11_isFigure_0]
  unfold fg_f
  by_cases c : 48 ≤ x ∧ x ≤ 57
  · refine mm_bi (M_in_t c h) ?_
    refine (sg_X11_isFigure_8 _ _ h).trans ?_
    rw [if_pos (Or.inr rfl), if_pos c, if_neg (by omega)]
  · refine mm_bi (M_in_f c h) ?_
    refine (sg_X11_isFigure_8 _ _ h).trans ?_
    rw [if_pos (Or.inl rfl), if_neg c, if_pos (by decide)]
theorem X_number {h g : mm_H} (hx : TX h g) (hp : 0 ≤ h 3 1 ∧ h 3 1 ≤ 1000) : ex 36 0 [mm_r 3, mm_r 1, mm_u, mm_u] [] h = some (some (mm_i (nu_f (g 1) (g 0 1) (h 3 1)).1), if fp_f (g 1) (g 0 1) (h 3 1) < 0 then h else if fp_f (g 1) (g 0 1) (h 3 1 + 1) < 0 then mm_st h 3 1 (h 3 1 + 1) else mm_st (mm_st h 3 1 (h 3 1 + 1)) 3 1 (h 3 1 + 2)) := by
  have b1 := fp_b (g 1) (g 0 1) (h 3 1)
  have b2 := fp_b (g 1) (g 0 1) (h 3 1 + 1)
  have hx2 : TX (mm_st h 3 1 (h 3 1 + 1)) g := TX_k hx (z_sc _ _ (by decide)) (z_sc _ _ (by decide)) rfl rfl
  unfold nu_f
  rw [sg_X6_readNumber_0]
  refine mm_bi (X_letter hx hp.1) ?_
  refine (sg_X6_readNumber_8 _ h).trans ?_
  refine mm_bi (X_figure _ h) ?_
  rw [fp_x]
  refine (sg_X6_readNumber_11 _ h).trans ?_
  by_cases c : fp_f (g 1) (g 0 1) (h 3 1) < 0
  · rw [if_pos c, if_pos c, if_pos c]
  · rw [if_neg c, if_neg c, if_neg c, z_add (by omega) (by omega), z_se]
    refine mm_bi (X_letter hx2 (by omega)) ?_
    refine (sg_X6_readNumber_36 _ _ (mm_st h 3 1 (h 3 1 + 1))).trans ?_
    refine mm_bi (X_figure _ (mm_st h 3 1 (h 3 1 + 1))) ?_
    rw [fp_x]
    refine (sg_X6_readNumber_39 _ _ (mm_st h 3 1 (h 3 1 + 1))).trans ?_
    by_cases c2 : fp_f (g 1) (g 0 1) (h 3 1 + 1) < 0
    · rw [if_pos c2, if_pos c2, if_pos c2]
    · rw [if_neg c2, if_neg c2, if_neg c2, z_mul (by omega) (by omega), z_add (a := 10 * _) (by omega) (by omega), z_se, z_add (by omega) (by omega), show h 3 1 + 1 + 1 = h 3 1 + 2 by omega]
