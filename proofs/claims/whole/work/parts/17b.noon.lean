/-! ===== noon, brown ===== -/
def nn_f (R S : Nat → Int) : Nat → Int
  | 0 => -4
  | m + 1 => if lf_f (sk_f R S (23 - (m : Int))) = 0 then 23 - (m : Int) else nn_f R S m
theorem nn_s (R S : Nat → Int) (m : Nat) : nn_f R S (m + 1) = if lf_f (sk_f R S (23 - (m : Int))) = 0 then 23 - (m : Int) else nn_f R S m := rfl
theorem X_noon_l {h g : mm_H} {v : Nat} (hr : Rel h g v) : ∀ (m : Nat) (i : Int), 0 ≤ i → i + m = 24 → ex 78 2 [mm_r 0, mm_i i] [] h = some (some (mm_i (nn_f (g 2) (g 4) m)), h)
  | 0, i, h0, hi => by
    rw [sg_X10_noon_2, if_neg (by omega)]; rfl
  | m + 1, i, h0, hi => by
    rw [sg_X10_noon_2, if_pos (by omega), hr.v, sg_X10_noon_12 hr.V.1]
    refine mm_bi (X_lightOver hr.V hr.T (by omega)) ?_
    refine (sg_X10_noon_23 _ _ h).trans ?_
    rw [nn_s, z_wr (by omega) (by omega), X_noon_l hr m (i + 1) (by omega) (by omega), show 23 - (m : Int) = i by omega]
    split <;> rfl
theorem M_noon_l {g : mm_H} (hg : MV g) : ∀ (j m : Nat) (i : Int), i + 1 = j → i + m = 23 → em 34 6 [mm_r 0, mm_i (nn_f (g 2) (g 4) m), mm_i i] [] g = some (some (mm_i (nn_f (g 2) (g 4) 24)), g)
  | 0, m, i, h0, hi => by
    rw [sg_X11_noon_6, if_pos (by omega), show m = 24 by omega]
  | j + 1, m, i, h0, hi => by
    rw [sg_X11_noon_6, if_neg (by omega)]
    refine mm_bi (M_sky hg (by omega)) ?_
    refine (sg_X11_noon_15 _ _ _ g).trans ?_
    refine mm_bi (M_lightOf (sk_b hg.1 hg.2.1 hg.2.2 _) g) ?_
    refine (sg_X11_noon_18 _ _ _ g).trans ?_
    simp only [sg_X11_noon_26]
    have ih := M_noon_l hg j (m + 1) (i - 1) (by omega) (by omega)
    rw [nn_s, show 23 - (m : Int) = i by omega] at ih
    rw [z_wr (by omega) (by omega), show i + -1 = i - 1 by omega]
    by_cases c : lf_f (sk_f (g 2) (g 4) i) = 0
    · rw [if_pos c] at ih ⊢; exact ih
    · rw [if_neg c] at ih ⊢; exact ih
theorem op_noon {h g : mm_H} {v : Nat} (hr : Rel h g v) : AG (ex 78 0 [mm_r 0, mm_u] [] h) (em 34 0 [mm_r 0, mm_u, mm_u] [] g) := by
  refine AG_0 (r := nn_f (g 2) (g 4) 24) hr ?_ ?_
  · rw [sg_X10_noon_0]; exact X_noon_l hr 24 0 (by omega) (by omega)
  · rw [sg_X11_noon_0]; exact M_noon_l hr.M 24 0 23 (by omega) (by omega)
/-- longest, first, row, behind k yards -/
def bw_f (R S : Nat → Int) : Nat → Int × Int × Int
  | 0 => (0, -4, 0)
  | k + 1 =>
    let r := if lf_f (sk_f R S k) = 2 then (bw_f R S k).2.2 + 1 else 0
    (if (bw_f R S k).1 < r then r else (bw_f R S k).1, if (bw_f R S k).1 < r then (k : Int) - r + 1 else (bw_f R S k).2.1, r)
theorem bw_s (R S : Nat → Int) (k : Nat) : bw_f R S (k + 1) = (if (bw_f R S k).1 < (if lf_f (sk_f R S k) = 2 then (bw_f R S k).2.2 + 1 else 0) then (if lf_f (sk_f R S k) = 2 then (bw_f R S k).2.2 + 1 else 0) else (bw_f R S k).1, if (bw_f R S k).1 < (if lf_f (sk_f R S k) = 2 then (bw_f R S k).2.2 + 1 else 0) then (k : Int) - (if lf_f (sk_f R S k) = 2 then (bw_f R S k).2.2 + 1 else 0) + 1 else (bw_f R S k).2.1, if lf_f (sk_f R S k) = 2 then (bw_f R S k).2.2 + 1 else 0) := rfl
theorem bw_b (R S : Nat → Int) : ∀ k : Nat, (0 ≤ (bw_f R S k).1 ∧ (bw_f R S k).1 ≤ k) ∧ (0 ≤ (bw_f R S k).2.2 ∧ (bw_f R S k).2.2 ≤ k)
  | 0 => by simp [bw_f]
  | k + 1 => by
    have ih := bw_b R S k
    rw [bw_s]
    dsimp only
    refine ⟨?_, ?_⟩
    · split
      · split <;> omega
      · omega
    · split <;> omega
theorem X_brown_l {h g : mm_H} {v : Nat} (hr : Rel h g v) (w : Int) : ∀ (m : Nat) (i : Int), 0 ≤ i → i + m = 24 → ex 83 25 [mm_r 0, mm_i w, mm_i (yd_f (g 2) (g 4) 2 i.toNat), mm_i (bw_f (g 2) (g 4) i.toNat).2.2, mm_i (bw_f (g 2) (g 4) i.toNat).1, mm_i (bw_f (g 2) (g 4) i.toNat).2.1, mm_i i] [] h = some (some (mm_i (if w = 0 then yd_f (g 2) (g 4) 2 24 else if w = 1 then (bw_f (g 2) (g 4) 24).1 else (bw_f (g 2) (g 4) 24).2.1)), h)
  | 0, i, h0, hi => by
    rw [sg_X10_brown_25, if_neg (by omega), show i.toNat = 24 by omega]
    simp only [sg_X10_brown_104]
    split
    · rfl
    · split <;> rfl
  | m + 1, i, h0, hi => by
    have b1 := yd_b (g 2) (g 4) 2 i.toNat
    have b2 := bw_b (g 2) (g 4) i.toNat
    rw [sg_X10_brown_25, if_pos (by omega), hr.v, sg_X10_brown_36 hr.V.1]
    refine mm_bi (X_lightOver hr.V hr.T (by omega)) ?_
    refine (sg_X10_brown_48 _ _ _ _ _ _ _ h).trans ?_
    simp only [sg_X10_brown_63, sg_X10_brown_80]
    have ih := X_brown_l hr w m (i + 1) (by omega) (by omega)
    rw [show (i + 1).toNat = i.toNat + 1 by omega, yd_s, bw_s, show ((i.toNat : Nat) : Int) = i by omega] at ih
    dsimp only at ih
    rw [z_wr (x := i + 1) (by omega) (by omega)]
    by_cases c : lf_f (sk_f (g 2) (g 4) i) = 2
    · simp only [if_pos c] at ih ⊢
      rw [z_wr (by omega) (by omega), z_wr (by omega) (by omega), z_sub (by omega) (by omega), z_add (by omega) (by omega)]
      by_cases c2 : (bw_f (g 2) (g 4) i.toNat).1 < (bw_f (g 2) (g 4) i.toNat).2.2 + 1
      · simp only [if_pos c2] at ih ⊢; exact ih
      · simp only [if_neg c2] at ih ⊢; exact ih
    · simp only [if_neg c] at ih ⊢
      have c2 : ¬ (bw_f (g 2) (g 4) i.toNat).1 < 0 := by omega
      simp only [if_neg c2] at ih ⊢
      exact ih
theorem M_brown_l {g : mm_H} (hg : MV g) (w : Int) : ∀ (m : Nat) (i : Int), 0 ≤ i → i + m = 24 → em 41 22 [mm_r 0, mm_i w, mm_i (bw_f (g 2) (g 4) i.toNat).1, mm_i (bw_f (g 2) (g 4) i.toNat).2.1, mm_i (bw_f (g 2) (g 4) i.toNat).2.2, mm_i i] [] g = some (some (mm_i (if w = 0 then yd_f (g 2) (g 4) 2 24 else if w = 1 then (bw_f (g 2) (g 4) 24).1 else (bw_f (g 2) (g 4) 24).2.1)), g)
  | 0, i, h0, hi => by
    rw [sg_X11_brown_22, if_neg (by omega), show i.toNat = 24 by omega]
    simp only [sg_X11_brown_111]
    split
    · refine mm_bi (M_yardsOf hg 2) ?_
      exact (sg_X11_brown_98 _ _ _ _ _ _ g).trans (sg_X11_brown_111 _ _ _ _ _ _ g)
    · split <;> rfl
  | m + 1, i, h0, hi => by
    have b2 := bw_b (g 2) (g 4) i.toNat
    rw [sg_X11_brown_22, if_pos (by omega)]
    refine mm_bi (M_sky hg (by omega)) ?_
    refine (sg_X11_brown_35 _ _ _ _ _ _ g).trans ?_
    refine mm_bi (M_lightOf (sk_b hg.1 hg.2.1 hg.2.2 _) g) ?_
    refine (sg_X11_brown_38 _ _ _ _ _ _ g).trans ?_
    simp only [sg_X11_brown_50, sg_X11_brown_69, sg_X11_brown_82]
    have ih := M_brown_l hg w m (i + 1) (by omega) (by omega)
    rw [show (i + 1).toNat = i.toNat + 1 by omega, bw_s, show ((i.toNat : Nat) : Int) = i by omega] at ih
    dsimp only at ih
    rw [z_wr (x := i + 1) (by omega) (by omega)]
    by_cases c : lf_f (sk_f (g 2) (g 4) i) = 2
    · simp only [if_pos c] at ih ⊢
      rw [z_add (a := (bw_f (g 2) (g 4) i.toNat).2.2) (by omega) (by omega), z_sub (by omega) (by omega), z_add (by omega) (by omega)]
      by_cases c2 : (bw_f (g 2) (g 4) i.toNat).1 < (bw_f (g 2) (g 4) i.toNat).2.2 + 1
      · simp only [if_pos c2] at ih ⊢; exact ih
      · simp only [if_neg c2] at ih ⊢; exact ih
    · simp only [if_neg c] at ih ⊢
      have c2 : ¬ (bw_f (g 2) (g 4) i.toNat).1 < 0 := by omega
      simp only [if_neg c2] at ih ⊢
      exact ih
theorem op_brown {h g : mm_H} {v : Nat} (hr : Rel h g v) (w : Int) : AG (ex 83 0 [mm_r 0, mm_i w, mm_u, mm_u, mm_u, mm_u, mm_u] [] h) (em 41 0 [mm_r 0, mm_i w, mm_u, mm_u, mm_u, mm_u] [] g) := by
  by_cases c : 0 ≤ w ∧ w ≤ 2
  · refine AG_0 (r := if w = 0 then yd_f (g 2) (g 4) 2 24 else if w = 1 then (bw_f (g 2) (g 4) 24).1 else (bw_f (g 2) (g 4) 24).2.1) hr ?_ ?_
    · rw [sg_X10_brown_0, if_neg (by omega), if_neg (by omega)]
      exact X_brown_l hr w 24 0 (by omega) (by omega)
    · rw [sg_X11_brown_0]
      refine mm_bi (M_in_t c g) ?_
      refine (sg_X11_brown_6 _ _ g).trans ?_
      rw [if_neg (by decide)]
      exact M_brown_l hr.M w 24 0 (by omega) (by omega)
  · refine AG_0 (r := -1) hr ?_ ?_
    · rw [sg_X10_brown_0, sg_X10_brown_9]
      split
      · rfl
      · rw [if_pos (by omega)]
    · rw [sg_X11_brown_0]
      refine mm_bi (M_in_f c g) ?_
      exact (sg_X11_brown_6 _ _ g).trans (if_pos rfl)
