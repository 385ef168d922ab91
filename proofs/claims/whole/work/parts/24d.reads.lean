/-! ===== numbers behind a letter: the class ===== -/
/-- the place behind i numbers and their marks -/
def rp_f (T : Nat → Int) (n w p : Int) : Nat → Option Int
  | 0 => some p
  | i + 1 => (rp_f T n w p i).bind fun q => if (nu_f T n q).1 < 0 then none else if lt_f T n (nu_f T n q).2 0 = (if (i : Int) + 1 < w then 44 else 59) then some ((nu_f T n q).2 + 1) else none
theorem rp_s (T : Nat → Int) (n w p : Int) (i : Nat) : rp_f T n w p (i + 1) = (rp_f T n w p i).bind fun q => if (nu_f T n q).1 < 0 then none else if lt_f T n (nu_f T n q).2 0 = (if (i : Int) + 1 < w then 44 else 59) then some ((nu_f T n q).2 + 1) else none := rfl
theorem rp_n {T : Nat → Int} {n w p : Int} {i : Nat} (h : rp_f T n w p i = none) : ∀ m, rp_f T n w p (i + m) = none
  | 0 => h
  | m + 1 => by rw [← Nat.add_assoc, rp_s, rp_n h m]; rfl
theorem nu_p (T : Nat → Int) (n p : Int) : p ≤ (nu_f T n p).2 ∧ (nu_f T n p).2 ≤ p + 2 ∧ (nu_f T n p).1 ≤ 99 ∧ -1 ≤ (nu_f T n p).1 := by
  have b1 := fp_b T n p
  have b2 := fp_b T n (p + 1)
  unfold nu_f
  split
  · dsimp only; omega
  · split
    · dsimp only; omega
    · dsimp only; omega
def xn_f (T : Nat → Int) (n w p : Int) (j : Nat) : Int := match rp_f T n w p j with
  | some q => (nu_f T n q).1
  | none => -1
theorem X_reads_l {h g : mm_H} (hx : TX h g) {w p : Int} (hw : 1 ≤ w ∧ w ≤ 4) (hp : 0 ≤ p ∧ p ≤ 900) : ∀ (m i : Nat) (k : mm_H) (l4 l5 : mm_V), (i : Int) + m = w → (∀ a, a ≠ 3 → a ≠ 4 → k a = h a) → rp_f (g 1) (g 0 1) w p i = some (k 3 1) → (p ≤ k 3 1 ∧ k 3 1 ≤ p + 3 * i) → (∀ j, j < i → k 4 j = xn_f (g 1) (g 0 1) w p j) → ∃ k2, ex 35 24 [mm_r 3, mm_r 1, mm_i w, mm_i i, l4, l5] [] k = some (some (mm_i (if rp_f (g 1) (g 0 1) w p w.toNat = none then 0 else 1)), k2) ∧ (∀ a, a ≠ 3 → a ≠ 4 → k2 a = h a) ∧ (rp_f (g 1) (g 0 1) w p w.toNat ≠ none → rp_f (g 1) (g 0 1) w p w.toNat = some (k2 3 1) ∧ ∀ j, j < w.toNat → k2 4 j = xn_f (g 1) (g 0 1) w p j)
  | 0, i, k, l4, l5, hi, hk, hr, hb, hx2 => by
    have e : w.toNat = i := by omega
    refine ⟨k, ?_, hk, fun _ => ⟨by rw [e]; exact hr, by rw [e]; exact hx2⟩⟩
    rw [sg_X6_readNumbers_24, if_neg (by omega), e, hr, if_neg (by simp)]
  | m + 1, i, k, l4, l5, hi, hk, hr, hb, hx2 => by
    have hxk : TX k g := TX_k hx (hk 1 (by decide) (by decide)) (hk 2 (by decide) (by decide)) rfl rfl
    have hnu := nu_p (g 1) (g 0 1) (k 3 1)
    have hs := rp_s (g 1) (g 0 1) w p i
    rw [hr] at hs
    have hs' : rp_f (g 1) (g 0 1) w p (i + 1) = if (nu_f (g 1) (g 0 1) (k 3 1)).1 < 0 then none else if lt_f (g 1) (g 0 1) (nu_f (g 1) (g 0 1) (k 3 1)).2 0 = (if (i : Int) + 1 < w then 44 else 59) then some ((nu_f (g 1) (g 0 1) (k 3 1)).2 + 1) else none := hs
    obtain ⟨k1, a1, a2, a3⟩ : ∃ k1, ex 36 0 [mm_r 3, mm_r 1, mm_u, mm_u] [] k = some (some (mm_i (nu_f (g 1) (g 0 1) (k 3 1)).1), k1) ∧ k1 3 1 = (nu_f (g 1) (g 0 1) (k 3 1)).2 ∧ ∀ a, a ≠ 3 → k1 a = k a := by
      refine ⟨_, X_number hxk (by omega), ?_, fun a ha => ?_⟩
      · unfold nu_f
        split
        · rfl
        · split
          · exact z_se _ _ _ _
          · exact z_se _ _ _ _
      · split
        · rfl
        · split
          · exact z_sc _ _ ha
          · rw [z_sc _ _ ha, z_sc _ _ ha]
    have hk1 : ∀ a, a ≠ 3 → a ≠ 4 → k1 a = h a := fun a h1 h2 => (a3 a h1).trans (hk a h1 h2)
    have hxk1 : TX k1 g := TX_k hx (hk1 1 (by decide) (by decide)) (hk1 2 (by decide) (by decide)) rfl rfl
    have bad : rp_f (g 1) (g 0 1) w p (i + 1) = none → ∀ l4 l5 : Int, ∃ k2, ex 35 70 [mm_r 3, mm_r 1, mm_i w, mm_i i, mm_i l4, mm_i l5] [] k1 = some (some (mm_i (if rp_f (g 1) (g 0 1) w p w.toNat = none then 0 else 1)), k2) ∧ (∀ a, a ≠ 3 → a ≠ 4 → k2 a = h a) ∧ (rp_f (g 1) (g 0 1) w p w.toNat ≠ none → rp_f (g 1) (g 0 1) w p w.toNat = some (k2 3 1) ∧ ∀ j, j < w.toNat → k2 4 j = xn_f (g 1) (g 0 1) w p j) := by
      intro hz l4 l5
      have hz2 := rp_n hz m
      rw [show i + 1 + m = w.toNat by omega] at hz2
      refine ⟨k1, ?_, hk1, fun q => absurd hz2 q⟩
      rw [sg_X6_readNumbers_70, if_pos hz2]
    have e0 : ex 35 24 [mm_r 3, mm_r 1, mm_i w, mm_i i, l4, l5] [] k = ex 35 50 [mm_r 3, mm_r 1, mm_i w, mm_i i, mm_i (nu_f (g 1) (g 0 1) (k 3 1)).1, l5] [mm_i (if (i : Int) + 1 < w then 44 else 59)] k1 := by
      rw [sg_X6_readNumbers_24, if_pos (by omega)]
      refine mm_bi a1 ?_
      refine (sg_X6_readNumbers_34 _ _ _ _ _ k1).trans ?_
      rw [z_add (by omega) (by omega)]
      split <;> rfl
    rw [e0, sg_X6_readNumbers_50]
    by_cases c : (nu_f (g 1) (g 0 1) (k 3 1)).1 < 0
    · rw [if_pos c] at hs' ⊢
      exact bad hs' _ _
    · rw [if_neg c] at hs' ⊢
      have e1 : ((ex 48 0 [mm_r 1, mm_i (k1 3 1)] [] k1).bind fun q => ex 35 65 [mm_r 3, mm_r 1, mm_i w, mm_i i, mm_i (nu_f (g 1) (g 0 1) (k 3 1)).1, mm_i (if (i : Int) + 1 < w then 44 else 59)] (q.1.toList ++ []) q.2) = ex 35 65 [mm_r 3, mm_r 1, mm_i w, mm_i i, mm_i (nu_f (g 1) (g 0 1) (k 3 1)).1, mm_i (if (i : Int) + 1 < w then 44 else 59)] [mm_i (lt_f (g 1) (g 0 1) (nu_f (g 1) (g 0 1) (k 3 1)).2 0)] k1 := by
        rw [a2]
        exact mm_bi (X_letter hxk1 (by omega)) rfl
      rw [e1, sg_X6_readNumbers_65]
      by_cases c2 : lt_f (g 1) (g 0 1) (nu_f (g 1) (g 0 1) (k 3 1)).2 0 = (if (i : Int) + 1 < w then 44 else 59)
      · rw [if_pos c2] at hs' ⊢
        rw [if_pos (by omega), z_sc _ _ (by decide), a2, z_add (by omega) (by omega), z_wr (by omega) (by omega), Int.toNat_natCast]
        refine X_reads_l hx hw hp m (i + 1) _ _ _ (by omega) (fun a h1 h2 => by rw [z_sc _ _ h1, z_sc _ _ h2]; exact hk1 a h1 h2) (by rw [z_se]; exact hs') (by rw [z_se]; omega) (fun j hj => ?_)
        rw [z_sc _ _ (by decide)]
        by_cases e : j = i
        · rw [e, z_se]
          unfold xn_f
          rw [hr]
        · rw [z_ss _ _ e, a3 4 (by decide)]; exact hx2 j (by omega)
      · rw [if_neg c2] at hs' ⊢
        exact bad hs' _ _
