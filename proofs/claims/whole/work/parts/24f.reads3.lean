theorem rp_b {T : Nat → Int} {n w p : Int} : ∀ (i : Nat) (q : Int), rp_f T n w p i = some q → p ≤ q ∧ q ≤ p + 3 * i
  | 0, q, h => by
    have : p = q := Option.some.inj h
    omega
  | i + 1, q, h => by
    rw [rp_s] at h
    cases e : rp_f T n w p i with
    | none => rw [e] at h; exact absurd h (by simp)
    | some r =>
      have ih := rp_b i r e
      have hnu := nu_p T n r
      rw [e] at h
      change (if (nu_f T n r).1 < 0 then none else if lt_f T n (nu_f T n r).2 0 = (if (i : Int) + 1 < w then 44 else 59) then some ((nu_f T n r).2 + 1) else none) = some q at h
      by_cases c : (nu_f T n r).1 < 0
      · rw [if_pos c] at h; exact absurd h (by simp)
      · rw [if_neg c] at h
        by_cases c2 : lt_f T n (nu_f T n r).2 0 = (if (i : Int) + 1 < w then 44 else 59)
        · rw [if_pos c2] at h
          have := Option.some.inj h
          omega
        · rw [if_neg c2] at h; exact absurd h (by simp)
theorem M_reads_l {h g : mm_H} (hx : TX h g) {w p : Int} (hw : 1 ≤ w ∧ w ≤ 4) (hp : 0 ≤ p ∧ p ≤ 900) : ∀ (m i : Nat) (q : mm_H), (i : Int) + m = w → q 1 = g 1 → q 0 1 = g 0 1 → MA (g 1) (g 0 1) w p i (q 0 11) → (∀ j, j < i → q 8 j = xn_f (g 1) (g 0 1) w p j) → ∃ q2, em 10 4 [mm_r 0, mm_i w, mm_i 1, mm_i i] [] q = some (some (mm_i (if rp_f (g 1) (g 0 1) w p w.toNat = none then 0 else 1)), q2) ∧ (∀ a, a ≠ 0 → a ≠ 8 → q2 a = q a) ∧ (∀ j, j ≠ 11 → q2 0 j = q 0 j) ∧ (rp_f (g 1) (g 0 1) w p w.toNat ≠ none → rp_f (g 1) (g 0 1) w p w.toNat = some (q2 0 11) ∧ ∀ j, j < w.toNat → q2 8 j = xn_f (g 1) (g 0 1) w p j)
  | 0, i, q, hi, e1, e0, hm, hx2 => by
    obtain ⟨j, r, j1, j2, j3, j4⟩ : ∃ j r, i = j + 1 ∧ rp_f (g 1) (g 0 1) w p j = some r ∧ 0 ≤ (nu_f (g 1) (g 0 1) r).1 ∧ q 0 11 = (nu_f (g 1) (g 0 1) r).2 := by
      rcases hm with z | z
      · omega
      · exact z
    have hb := rp_b j r j2
    have hnu := nu_p (g 1) (g 0 1) r
    have ew : w.toNat = j + 1 := by omega
    have hs := rp_s (g 1) (g 0 1) w p j
    rw [j2] at hs
    have hs' : rp_f (g 1) (g 0 1) w p (j + 1) = if (nu_f (g 1) (g 0 1) r).1 < 0 then none else if lt_f (g 1) (g 0 1) (nu_f (g 1) (g 0 1) r).2 0 = (if (j : Int) + 1 < w then 44 else 59) then some ((nu_f (g 1) (g 0 1) r).2 + 1) else none := hs
    rw [if_neg (by omega), if_neg (show ¬ (j : Int) + 1 < w by omega)] at hs'
    have e3 : em 10 4 [mm_r 0, mm_i w, mm_i 1, mm_i i] [] q = em 10 109 [mm_r 0, mm_i w, mm_i 1, mm_i i] [mm_i (lt_f (g 1) (g 0 1) (q 0 11) (-1))] q := by
      rw [sg_X11_reads_4, if_neg (by omega), sg_X11_reads_97, if_neg (by decide)]
      exact mm_bi (M_letter hx e1 e0 (by omega)) rfl
    rw [e3, sg_X11_reads_109, ew, hs']
    by_cases c : lt_f (g 1) (g 0 1) (nu_f (g 1) (g 0 1) r).2 0 = 59
    · refine ⟨mm_st q 0 11 (q 0 11 + 1), ?_, fun a h1 _ => z_sc _ _ h1, fun j hj => z_ss _ _ hj, fun _ => ⟨by rw [if_pos c, z_se, j4], fun z hz => by rw [z_sc _ _ (by decide)]; exact hx2 z (by omega)⟩⟩
      rw [if_pos (by rw [j4]; exact (lt_k _ _ _ 59 (by decide)).mpr c), sg_X11_reads_119, if_neg (by decide), sg_X11_reads_134, if_pos (Or.inr rfl), z_add (by omega) (by omega), if_pos c, if_neg (by simp)]
    · refine ⟨mm_st q 0 11 (q 0 11), ?_, fun a h1 _ => z_sc _ _ h1, fun j hj => z_ss _ _ hj, fun z => absurd (if_neg c) z⟩
      rw [if_neg (fun z => c (by rw [j4] at z; exact (lt_k _ _ _ 59 (by decide)).mp z)), sg_X11_reads_118, sg_X11_reads_119, if_pos rfl, sg_X11_reads_134, if_pos (Or.inl rfl), z_add (by omega) (by omega), Int.add_zero, if_neg c, if_pos rfl]
  | m + 1, i, q, hi, e1, e0, hm, hx2 => by
    have fin : ∀ r : Int, rp_f (g 1) (g 0 1) w p i = some r → ∀ d : Int, q 0 11 + d = r → (d = 0 ∨ d = 1) → ∃ q2, em 10 54 [mm_r 0, mm_i w, mm_i 1, mm_i i] [mm_i d, mm_i (q 0 11), mm_r 0] q = some (some (mm_i (if rp_f (g 1) (g 0 1) w p w.toNat = none then 0 else 1)), q2) ∧ (∀ a, a ≠ 0 → a ≠ 8 → q2 a = q a) ∧ (∀ j, j ≠ 11 → q2 0 j = q 0 j) ∧ (rp_f (g 1) (g 0 1) w p w.toNat ≠ none → rp_f (g 1) (g 0 1) w p w.toNat = some (q2 0 11) ∧ ∀ j, j < w.toNat → q2 8 j = xn_f (g 1) (g 0 1) w p j) := by
      intro r hr d hd hd2
      have hb := rp_b i r hr
      have hnu := nu_p (g 1) (g 0 1) r
      obtain ⟨q1, a1, a2, a3, a4, a5, a6⟩ := M_reads_n (w := w) (i := i) hx (by omega) (r := r) (by omega) hd hd2 e1 e0
      by_cases c : (nu_f (g 1) (g 0 1) r).1 < 0
      · have hz : rp_f (g 1) (g 0 1) w p (i + 1) = none := by rw [rp_s, hr]; exact if_pos c
        have hz2 := rp_n hz m
        rw [show i + 1 + m = w.toNat by omega] at hz2
        refine ⟨mm_st q1 0 11 (q1 0 11), ?_, fun a h1 h2 => by rw [z_sc _ _ h1]; exact a4 a h1 h2, fun j hj => by rw [z_ss _ _ hj]; exact a5 j hj, fun z => absurd hz2 z⟩
        rw [a1, if_pos c, M_reads_0 (by omega), if_pos hz2]
      · rw [if_neg c] at a1
        obtain ⟨q2, b1, b2, b3, b4⟩ := M_reads_l hx hw hp m (i + 1) q1 (by omega) ((a4 1 (by decide) (by decide)).trans e1) ((a5 1 (by decide)).trans e0) (Or.inr ⟨i, r, rfl, hr, by omega, a2⟩) (fun j hj => by
          by_cases e : j = i
          · rw [e, a3]; unfold xn_f; rw [hr]
          · rw [a6 j e]; exact hx2 j (by omega))
        exact ⟨q2, a1.trans b1, fun a h1 h2 => (b2 a h1 h2).trans (a4 a h1 h2), fun j hj => (b3 j hj).trans (a5 j hj), b4⟩
    rcases hm with z | z
    · have ei := z.1
      subst ei
      have e3 : em 10 4 [mm_r 0, mm_i w, mm_i 1, mm_i ((0 : Nat) : Int)] [] q = em 10 54 [mm_r 0, mm_i w, mm_i 1, mm_i ((0 : Nat) : Int)] [mm_i 0, mm_i (q 0 11), mm_r 0] q := by
        rw [sg_X11_reads_4, if_pos (by omega), if_neg (by decide), if_pos (by omega), sg_X11_reads_30, sg_X11_reads_35, if_pos (by omega), sg_X11_reads_49]
      rw [e3]
      exact fin p rfl 0 (by omega) (Or.inl rfl)
    · obtain ⟨j, r, j1, j2, j3, j4⟩ := z
      have hb := rp_b j r j2
      have hnu := nu_p (g 1) (g 0 1) r
      have hs := rp_s (g 1) (g 0 1) w p j
      rw [j2] at hs
      have hs' : rp_f (g 1) (g 0 1) w p (j + 1) = if (nu_f (g 1) (g 0 1) r).1 < 0 then none else if lt_f (g 1) (g 0 1) (nu_f (g 1) (g 0 1) r).2 0 = (if (j : Int) + 1 < w then 44 else 59) then some ((nu_f (g 1) (g 0 1) r).2 + 1) else none := hs
      rw [if_neg (by omega), if_pos (show (j : Int) + 1 < w by omega), ← j1] at hs'
      have e3 : em 10 4 [mm_r 0, mm_i w, mm_i 1, mm_i i] [] q = em 10 25 [mm_r 0, mm_i w, mm_i 1, mm_i i] [mm_i (lt_f (g 1) (g 0 1) (q 0 11) (-1))] q := by
        rw [sg_X11_reads_4, if_pos (by omega), if_neg (by decide), if_neg (by omega)]
        exact mm_bi (M_letter hx e1 e0 (by omega)) rfl
      rw [e3, sg_X11_reads_25]
      by_cases c : lt_f (g 1) (g 0 1) (nu_f (g 1) (g 0 1) r).2 0 = 44
      · rw [if_pos c] at hs'
        rw [if_pos (by rw [j4]; exact (lt_k _ _ _ 44 (by decide)).mpr c), sg_X11_reads_30, sg_X11_reads_35, if_neg (by omega), if_neg (by decide)]
        exact fin _ hs' 1 (by omega) (Or.inr rfl)
      · rw [if_neg c] at hs'
        have hz2 := rp_n hs' (m + 1)
        rw [show i + (m + 1) = w.toNat by omega] at hz2
        refine ⟨mm_st (mm_st (mm_st q 0 11 (q 0 11)) 8 i (-1)) 0 11 (q 0 11), ?_, fun a h1 h2 => by rw [z_sc _ _ h1, z_sc _ _ h2, z_sc _ _ h1], fun j hj => by rw [z_ss _ _ hj, z_sc _ _ (by decide), z_ss _ _ hj], fun z => absurd hz2 z⟩
        have e5 : mm_st (mm_st q 0 11 (q 0 11)) 8 i (-1) 0 11 = q 0 11 := by rw [z_sc _ _ (by decide), z_se]
        rw [if_neg (fun z => c (by rw [j4] at z; exact (lt_k _ _ _ 44 (by decide)).mp z)), sg_X11_reads_35, if_neg (by omega), if_pos rfl, sg_X11_reads_49, sg_X11_reads_54, if_pos rfl, z_add (by omega) (by omega), Int.add_zero, sg_X11_reads_75, if_pos (by omega), if_pos (by omega), Int.toNat_natCast, z_se, if_pos (by decide), sg_X11_reads_90, M_reads_0 (by rw [e5]; omega), e5, if_pos hz2]
