/-! ===== which slips fit what was seen ===== -/
def sl_f (S : Nat → Int) (c : Int) : Nat → Int := mm_up S (c / 10).toNat (cl_f (S (c / 10).toNat + c % 10))
theorem sl_SK {R S : Nat → Int} (hS : SK R S) (c : Int) : SK R (sl_f S c) := by
  intro k hk
  unfold sl_f
  by_cases e : k = (c / 10).toNat
  · subst e; rw [z_up]; exact cl_b _
  · rw [z_un _ _ e]; exact hS k hk
theorem sl_o {S : Nat → Int} {c : Int} (hc : 0 ≤ c ∧ c < 50) {j : Nat} (hj : 5 ≤ j) : sl_f S c j = S j := z_un _ _ (by omega)
theorem z_t10 {c : Int} (hc : 0 ≤ c ∧ c < 50) : mm_wr (Int.tdiv c 10) = c / 10 ∧ Int.tmod c 10 = c % 10 := by
  rw [Int.tdiv_eq_ediv_of_nonneg hc.1, Int.tmod_eq_emod_of_nonneg hc.1, z_wr (by omega) (by omega)]
  exact ⟨rfl, rfl⟩
theorem X_slip {h : mm_H} {R S : Nat → Int} {c : Int} (hR : VM R) (hT : TR h 26 R S) (hc : 0 ≤ c ∧ c < 10 * R 0) : ∃ h2, ex 12 0 [mm_r 79, mm_r 26, mm_i c, mm_u] [] h = some (none, h2) ∧ TR h2 83 R (sl_f S c) ∧ ∀ a, a ≠ 83 → h2 a = h a := by
  have hn := hR.n
  have e := z_t10 (c := c) (by omega)
  have hk := hT.2.2 (c / 10).toNat (by omega)
  have hb := hT.2.1 (c / 10).toNat (by omega)
  refine ⟨mm_st (mm_up h 83 (mm_cp (h 26) (h 83) 0 0 5)) 83 (c / 10).toNat (cl_f (S (c / 10).toNat + c % 10)), ?_, ⟨Or.inr (Or.inr (Or.inr rfl)), sl_SK hT.2.1 c, fun k hk2 => ?_⟩, fun a ha => by rw [z_sc _ _ ha, z_un _ _ ha]⟩
  · rw [sg_X2_slip_0 (Or.inl rfl), e.1, e.2, if_pos (by omega), z_un _ _ (by decide), hk, z_add (by omega) (by omega)]
    refine mm_bi (X_within _ _) ?_
    refine (sg_X2_slip_32 (Or.inl rfl) _ _ _ _ (mm_up h 83 (mm_cp (h 26) (h 83) 0 0 5))).trans ?_
    rw [if_pos (by omega)]
  · unfold sl_f
    rw [z_sr, z_up]
    by_cases e2 : k = (c / 10).toNat
    · subst e2; rw [z_up, z_up]
    · rw [z_un _ _ e2, z_un _ _ e2]
      unfold mm_cp
      rw [if_pos (by omega), show 0 + (k - 0) = k by omega]
      exact hT.2.2 k hk2
def ft_f (R S A B : Nat → Int) : Nat → Int
  | 0 => 1
  | n + 1 => if ft_f R S A B n = 0 then 0 else if sk_f R S (A n) = B n then 1 else 0
theorem ft_s (R S A B : Nat → Int) (n : Nat) : ft_f R S A B (n + 1) = if ft_f R S A B n = 0 then 0 else if sk_f R S (A n) = B n then 1 else 0 := rfl
theorem ft_b (R S A B : Nat → Int) : ∀ n : Nat, ft_f R S A B n = 0 ∨ ft_f R S A B n = 1
  | 0 => Or.inr rfl
  | n + 1 => by
    rw [ft_s]
    split
    · exact Or.inl rfl
    · split
      · exact Or.inr rfl
      · exact Or.inl rfl
theorem ft_0 {R S A B : Nat → Int} {n : Nat} (h : ft_f R S A B n = 0) : ∀ m, ft_f R S A B (n + m) = 0
  | 0 => h
  | m + 1 => by rw [← Nat.add_assoc, ft_s, if_pos (ft_0 h m)]
theorem X_fits_l {h : mm_H} {v : Nat} {R S : Nat → Int} (hV : VL h v R) (hT : TR h 83 R S) (hn : 0 ≤ h 79 2 ∧ h 79 2 ≤ 8) (hy : ∀ i : Nat, (i : Int) < h 79 2 → 0 ≤ h 80 i ∧ h 80 i < 24) : ∀ (m : Nat) (i : Int), 0 ≤ i → i + m = h 79 2 → ft_f R S (h 80) (h 81) i.toNat = 1 → ex 13 2 [mm_r 79, mm_r v, mm_i i] [] h = some (some (mm_i (ft_f R S (h 80) (h 81) (h 79 2).toNat)), h)
  | 0, i, h0, hi, hf => by
    rw [sg_X2_fits_2 hV.1, if_neg (by omega), show (h 79 2).toNat = i.toNat by omega, hf]
  | m + 1, i, h0, hi, hf => by
    rw [sg_X2_fits_2 hV.1, if_pos (by omega), if_pos (by omega)]
    refine mm_bi (X_low hV hT (hy _ (by omega))) ?_
    refine (sg_X2_fits_24 hV.1 _ _ h).trans ?_
    rw [if_pos (by omega), z_wr (by omega) (by omega)]
    have hs := ft_s R S (h 80) (h 81) i.toNat
    rw [if_neg (by omega)] at hs
    by_cases c : sk_f R S (h 80 i.toNat) = h 81 i.toNat
    · rw [if_pos c]
      rw [if_pos c] at hs
      exact X_fits_l hV hT hn hy m (i + 1) (by omega) (by omega) (by rw [show (i + 1).toNat = i.toNat + 1 by omega]; exact hs)
    · rw [if_neg c]
      rw [if_neg c] at hs
      rw [show (h 79 2).toNat = i.toNat + 1 + m by omega, ft_0 hs]
theorem X_fits {h : mm_H} {v : Nat} {R S : Nat → Int} (hV : VL h v R) (hT : TR h 83 R S) (hn : 0 ≤ h 79 2 ∧ h 79 2 ≤ 8) (hy : ∀ i : Nat, (i : Int) < h 79 2 → 0 ≤ h 80 i ∧ h 80 i < 24) : ex 13 0 [mm_r 79, mm_r v, mm_u] [] h = some (some (mm_i (ft_f R S (h 80) (h 81) (h 79 2).toNat)), h) := by
  rw [sg_X2_fits_0 hV.1]
  exact X_fits_l hV hT hn hy (h 79 2).toNat 0 (by omega) (by omega) rfl
/-- how many of the first c slips fit; the row they are written to -/
def fn_f (R S A B : Nat → Int) (n : Nat) : Nat → Nat
  | 0 => 0
  | c + 1 => if ft_f R (sl_f S c) A B n = 0 then fn_f R S A B n c else fn_f R S A B n c + 1
def fw_f (R S A B : Nat → Int) (n : Nat) (P : Nat → Int) : Nat → Nat → Int
  | 0 => P
  | c + 1 => if ft_f R (sl_f S c) A B n = 0 then fw_f R S A B n P c else mm_up (fw_f R S A B n P c) (fn_f R S A B n c) c
theorem fn_s (R S A B : Nat → Int) (n c : Nat) : fn_f R S A B n (c + 1) = if ft_f R (sl_f S c) A B n = 0 then fn_f R S A B n c else fn_f R S A B n c + 1 := rfl
theorem fw_s (R S A B : Nat → Int) (n : Nat) (P : Nat → Int) (c : Nat) : fw_f R S A B n P (c + 1) = if ft_f R (sl_f S c) A B n = 0 then fw_f R S A B n P c else mm_up (fw_f R S A B n P c) (fn_f R S A B n c) c := rfl
theorem fn_b (R S A B : Nat → Int) (n : Nat) : ∀ c, fn_f R S A B n c ≤ c
  | 0 => Nat.le_refl 0
  | c + 1 => by
    have := fn_b R S A B n c
    rw [fn_s]
    split <;> omega
theorem fw_b (R S A B : Nat → Int) (n : Nat) (P : Nat → Int) : ∀ (c j : Nat), j < fn_f R S A B n c → 0 ≤ fw_f R S A B n P c j ∧ fw_f R S A B n P c j < c
  | 0, j, h => absurd h (Nat.not_lt_zero j)
  | c + 1, j, h => by
    have ih := fw_b R S A B n P c j
    rw [fn_s] at h
    rw [fw_s]
    by_cases e : ft_f R (sl_f S c) A B n = 0
    · rw [if_pos e] at h ⊢; have := ih h; omega
    · rw [if_neg e] at h ⊢
      by_cases e2 : j = fn_f R S A B n c
      · rw [e2, z_up]; omega
      · rw [z_un _ _ e2]; have := ih (by omega); omega
theorem fw_c (R S A B : Nat → Int) (n : Nat) (P Q : Nat → Int) : ∀ (c j : Nat), j < fn_f R S A B n c → fw_f R S A B n P c j = fw_f R S A B n Q c j
  | 0, j, h => absurd h (Nat.not_lt_zero j)
  | c + 1, j, h => by
    have ih := fw_c R S A B n P Q c j
    rw [fn_s] at h
    rw [fw_s, fw_s]
    by_cases e : ft_f R (sl_f S c) A B n = 0
    · rw [if_pos e] at h ⊢; rw [if_pos e]; exact ih h
    · rw [if_neg e] at h ⊢
      rw [if_neg e]
      by_cases e2 : j = fn_f R S A B n c
      · rw [e2, z_up, z_up]
      · rw [z_un _ _ e2, z_un _ _ e2]; exact ih (by omega)
/-- the class while it tries slips -/
def FX (h k : mm_H) : Prop := (∀ a, a ≠ 79 → a ≠ 82 → a ≠ 83 → a ≠ 84 → k a = h a) ∧ k 79 2 = h 79 2
theorem FX_r (h : mm_H) : FX h h := ⟨fun _ _ _ _ _ => rfl, rfl⟩
theorem FX_t {h k l : mm_H} (p : FX h k) (q : FX k l) : FX h l := ⟨fun a h1 h2 h3 h4 => (q.1 a h1 h2 h3 h4).trans (p.1 a h1 h2 h3 h4), q.2.trans p.2⟩
theorem FX_V {h k : mm_H} {v : Nat} {R : Nat → Int} (p : FX h k) (q : VL h v R) : VL k v R := VL_up q (fun a h1 h2 => p.1 a (by have := q.1; omega) (by have := q.1; omega) (by have := q.1; omega) (by have := q.1; omega))
theorem FX_Q {h k : mm_H} {v : Nat} (hv : v = 5 ∨ v = 15) (p : FX h k) : QX v h k := ⟨fun a ha => p.1 a (by omega) (by omega) (by omega) (by omega), p.2⟩
theorem X_find_l {h : mm_H} {v : Nat} {R S : Nat → Int} (hV : VL h v R) (hT : TR h 26 R S) (hn : 0 ≤ h 79 2 ∧ h 79 2 ≤ 8) (hy : ∀ i : Nat, (i : Int) < h 79 2 → 0 ≤ h 80 i ∧ h 80 i < 24) : ∀ (m : Nat) (c : Int) (k : mm_H), 0 ≤ c → c + m = 10 * R 0 → FX h k → k 79 4 = fn_f R S (h 80) (h 81) (h 79 2).toNat c.toNat → k 82 = fw_f R S (h 80) (h 81) (h 79 2).toNat (h 82) c.toNat → ∃ k2, ex 10 7 [mm_r 79, mm_r v, mm_r 26, mm_i c] [] k = some (none, k2) ∧ FX h k2 ∧ k2 79 4 = fn_f R S (h 80) (h 81) (h 79 2).toNat (10 * R 0).toNat ∧ k2 82 = fw_f R S (h 80) (h 81) (h 79 2).toNat (h 82) (10 * R 0).toNat
  | 0, c, k, h0, hc, hk, h4, h82 => by
    have hR := hV.2.1.n
    have hV2 := FX_V hk hV
    refine ⟨k, ?_, hk, by rw [h4, show c = 10 * R 0 by omega], by rw [h82, show c = 10 * R 0 by omega]⟩
    rw [sg_X2_findFitting_7 hV.1 (Or.inl rfl), hV2.2.2.2.1.1.1, z_mul (by omega) (by omega), if_neg (by omega)]
  | m + 1, c, k, h0, hc, hk, h4, h82 => by
    have hR := hV.2.1.n
    have hV2 := FX_V hk hV
    have hT2 : TR k 26 R S := TR_up hT (hk.1 26 (by decide) (by decide) (by decide) (by decide))
    obtain ⟨k1, a1, a2, a3⟩ := X_slip hV.2.1 hT2 (c := c) (by omega)
    have hk1 : FX h k1 := FX_t hk ⟨fun a _ _ h3 _ => a3 a h3, by rw [a3 79 (by decide)]⟩
    have hf := X_fits (FX_V hk1 hV) a2 (by rw [hk1.2]; exact hn) (by rw [hk1.2, hk1.1 80 (by decide) (by decide) (by decide) (by decide)]; exact hy)
    rw [hk1.2, hk1.1 80 (by decide) (by decide) (by decide) (by decide), hk1.1 81 (by decide) (by decide) (by decide) (by decide)] at hf
    have hb := fn_b R S (h 80) (h 81) (h 79 2).toNat c.toNat
    have hs := fn_s R S (h 80) (h 81) (h 79 2).toNat c.toNat
    have hw := fw_s R S (h 80) (h 81) (h 79 2).toNat (h 82) c.toNat
    rw [show ((c.toNat : Nat) : Int) = c by omega] at hs hw
    have h4' : k1 79 4 = fn_f R S (h 80) (h 81) (h 79 2).toNat c.toNat := by rw [a3 79 (by decide)]; exact h4
    have h82' : k1 82 = fw_f R S (h 80) (h 81) (h 79 2).toNat (h 82) c.toNat := by rw [a3 82 (by decide)]; exact h82
    have e0 : ex 10 7 [mm_r 79, mm_r v, mm_r 26, mm_i c] [] k = ex 10 29 [mm_r 79, mm_r v, mm_r 26, mm_i c] [mm_i (ft_f R (sl_f S c) (h 80) (h 81) (h 79 2).toNat)] k1 := by
      rw [sg_X2_findFitting_7 hV.1 (Or.inl rfl), hV2.2.2.2.1.1.1, z_mul (by omega) (by omega), if_pos (by omega)]
      refine mm_bi a1 ?_
      refine (sg_X2_findFitting_24 hV.1 (Or.inl rfl) _ k1).trans ?_
      exact mm_bi hf rfl
    rw [e0, sg_X2_findFitting_29 hV.1 (Or.inl rfl)]
    by_cases e : ft_f R (sl_f S c) (h 80) (h 81) (h 79 2).toNat = 0
    · rw [if_pos e] at hs hw ⊢
      rw [sg_X2_findFitting_52 hV.1 (Or.inl rfl), z_wr (by omega) (by omega)]
      exact X_find_l hV hT hn hy m (c + 1) k1 (by omega) (by omega) hk1 (by rw [show (c + 1).toNat = c.toNat + 1 by omega, hs]; exact h4') (by rw [show (c + 1).toNat = c.toNat + 1 by omega, hw]; exact h82')
    · rw [if_neg e] at hs hw ⊢
      rw [if_pos (by omega), sg_X2_findFitting_52 hV.1 (Or.inl rfl), z_wr (by omega) (by omega), z_sc _ _ (by decide), h4', z_add (by omega) (by omega)]
      refine X_find_l hV hT hn hy m (c + 1) _ (by omega) (by omega) (FX_t hk1 ⟨fun a h1 h2 _ _ => by rw [z_sc _ _ h1, z_sc _ _ h2], by rw [z_ss _ _ (by decide), z_sc _ _ (by decide)]⟩) ?_ ?_
      · rw [show (c + 1).toNat = c.toNat + 1 by omega, hs, z_se]; omega
      · rw [show (c + 1).toNat = c.toNat + 1 by omega, hw, z_sc _ _ (by decide), z_sr, h82', Int.toNat_natCast]
theorem X_find {h : mm_H} {v : Nat} {R S : Nat → Int} (hV : VL h v R) (hT : TR h 26 R S) (hn : 0 ≤ h 79 2 ∧ h 79 2 ≤ 8) (hy : ∀ i : Nat, (i : Int) < h 79 2 → 0 ≤ h 80 i ∧ h 80 i < 24) : ∃ k2, ex 10 0 [mm_r 79, mm_r v, mm_r 26, mm_u] [] h = some (none, k2) ∧ FX h k2 ∧ k2 79 4 = fn_f R S (h 80) (h 81) (h 79 2).toNat (10 * R 0).toNat ∧ k2 82 = fw_f R S (h 80) (h 81) (h 79 2).toNat (h 82) (10 * R 0).toNat := by
  have hR := hV.2.1.n
  rw [sg_X2_findFitting_0 hV.1 (Or.inl rfl)]
  exact X_find_l hV hT hn hy (10 * R 0).toNat 0 _ (by omega) (by omega) ⟨fun a h1 _ _ _ => z_sc _ _ h1, z_ss _ _ (by decide)⟩ (z_se _ _ _ _) (z_sc _ _ (by decide))
