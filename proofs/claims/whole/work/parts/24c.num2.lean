/-! ===== numbers of the model ===== -/
theorem M_number {h g q : mm_H} (hx : TX h g) (e1 : q 1 = g 1) (e0 : q 0 1 = g 0 1) (hT : ∀ j : Nat, (j : Int) < g 0 1 → 32 ≤ g 1 j ∧ g 1 j ≤ 126) (hp : 0 ≤ q 0 11 ∧ q 0 11 ≤ 1000) : ∃ q2, em 9 0 [mm_r 0, mm_u] [] q = some (some (mm_i (nu_f (g 1) (g 0 1) (q 0 11)).1), q2) ∧ q2 0 11 = (nu_f (g 1) (g 0 1) (q 0 11)).2 ∧ (∀ a, a ≠ 0 → q2 a = q a) ∧ ∀ j, j ≠ 11 → q2 0 j = q 0 j := by
  have b1 := fp_b (g 1) (g 0 1) (q 0 11)
  have b2 := fp_b (g 1) (g 0 1) (q 0 11 + 1)
  have fl : ∀ p, 0 ≤ fp_f (g 1) (g 0 1) p → lt_f (g 1) (g 0 1) p (-1) = fp_f (g 1) (g 0 1) p + 48 := by
    intro p hp2
    unfold lt_f
    unfold fp_f fg_f at hp2 ⊢
    by_cases c : p < g 0 1
    · rw [if_pos c] at hp2 ⊢
      rw [if_pos c]
      by_cases c2 : 48 ≤ g 1 p.toNat ∧ g 1 p.toNat ≤ 57
      · rw [if_pos c2]; omega
      · rw [if_neg c2] at hp2; omega
    · rw [if_neg c] at hp2; omega
  have e0a : em 9 0 [mm_r 0, mm_u] [] q = em 9 11 [mm_r 0, mm_u] [mm_i (if fp_f (g 1) (g 0 1) (q 0 11) < 0 then 0 else 1)] q := by
    rw [sg_X11_number_0]
    refine mm_bi (M_letter hx e1 e0 hp.1) ?_
    refine (sg_X11_number_8 _ q).trans ?_
    refine mm_bi (M_isFigure _ q) ?_
    rw [fp_m]; rfl
  rw [e0a, sg_X11_number_11]
  unfold nu_f
  by_cases c : fp_f (g 1) (g 0 1) (q 0 11) < 0
  · rw [if_pos c, if_pos rfl, if_pos c]
    exact ⟨q, rfl, rfl, fun _ _ => rfl, fun _ _ => rfl⟩
  · have l1 := fl (q 0 11) (by omega)
    rw [if_neg c, if_neg (by decide), if_neg c]
    have e1' : mm_st q 0 11 (q 0 11 + 1) 1 = g 1 := (z_sc _ _ (by decide)).trans e1
    have e0' : mm_st q 0 11 (q 0 11 + 1) 0 1 = g 0 1 := (z_ss _ _ (by decide)).trans e0
    have go : ((em 7 0 [mm_r 0, mm_i (q 0 11)] [] q).bind fun z => em 9 24 [mm_r 0, mm_u] (z.1.toList ++ []) z.2) = em 9 49 [mm_r 0, mm_i (fp_f (g 1) (g 0 1) (q 0 11))] [mm_i (if fp_f (g 1) (g 0 1) (q 0 11 + 1) < 0 then 0 else 1)] (mm_st q 0 11 (q 0 11 + 1)) := by
      refine mm_bi (M_letter hx e1 e0 hp.1) ?_
      refine (sg_X11_number_24 _ q).trans ?_
      rw [z_add (by omega) (by omega), z_se, l1, z_sub (by omega) (by omega), show fp_f (g 1) (g 0 1) (q 0 11) + 48 - 48 = fp_f (g 1) (g 0 1) (q 0 11) by omega]
      refine mm_bi (M_letter hx e1' e0' (by omega)) ?_
      refine (sg_X11_number_46 _ _ (mm_st q 0 11 (q 0 11 + 1))).trans ?_
      refine mm_bi (M_isFigure _ (mm_st q 0 11 (q 0 11 + 1))) ?_
      rw [fp_m]; rfl
    rw [go, sg_X11_number_49]
    by_cases c2 : fp_f (g 1) (g 0 1) (q 0 11 + 1) < 0
    · rw [if_pos c2, if_pos rfl, if_pos c2, sg_X11_number_79]
      exact ⟨_, rfl, z_se _ _ _ _, fun a ha => z_sc _ _ ha, fun j hj => z_ss _ _ hj⟩
    · have l2 := fl (q 0 11 + 1) (by omega)
      rw [if_neg c2, if_neg (by decide), if_neg c2, z_se]
      refine ⟨mm_st (mm_st q 0 11 (q 0 11 + 1)) 0 11 (q 0 11 + 2), ?_, z_se _ _ _ _, fun a ha => by rw [z_sc _ _ ha, z_sc _ _ ha], fun j hj => by rw [z_ss _ _ hj, z_ss _ _ hj]⟩
      refine mm_bi (M_letter hx e1' e0' (by omega)) ?_
      refine (sg_X11_number_64 _ _ _ (mm_st q 0 11 (q 0 11 + 1))).trans ?_
      rw [sg_X11_number_79, z_se, l2, z_mul (by omega) (by omega), z_add (a := 10 * _) (by omega) (by omega), z_sub (by omega) (by omega), z_add (by omega) (by omega), show q 0 11 + 1 + 1 = q 0 11 + 2 by omega, show 10 * fp_f (g 1) (g 0 1) (q 0 11) + (fp_f (g 1) (g 0 1) (q 0 11 + 1) + 48) - 48 = 10 * fp_f (g 1) (g 0 1) (q 0 11) + fp_f (g 1) (g 0 1) (q 0 11 + 1) by omega]
