/-! ===== which slips fit: the model ===== -/
def HQ (g q : mm_H) : Prop := (∀ a, a ≠ 9 → a ≠ 10 → a ≠ 11 → q a = g a) ∧ ∀ j, j < 12 → q 9 j = g 4 j
theorem HQ_Q {g q : mm_H} (p : HQ g q) : QM g q := ⟨fun a ha => p.1 a (by omega) (by omega) (by omega), fun j _ => by rw [p.1 0 (by decide) (by decide) (by decide)]⟩
theorem HQ_hd (g : mm_H) : HQ g (hd_f g (g 4)) := by
  refine ⟨fun a h1 _ _ => ?_, fun j hj => by rw [hd_9, cc_in hj]⟩
  by_cases e : a = 4
  · subst e; exact hd_4 _ _
  · exact hd_o _ _ e h1
theorem HQ_V {g q : mm_H} (p : HQ g q) {S : Nat → Int} (hg : MV g) (hS : SK (g 2) S) : MV (mm_up q 4 S) := by
  have e2 : mm_up q 4 S 2 = g 2 := by rw [z_un _ _ (by decide)]; exact p.1 2 (by decide) (by decide) (by decide)
  exact ⟨by rw [e2]; exact hg.1, by rw [e2]; exact hg.2.1, by rw [e2, z_up]; exact hS⟩
theorem M_lt {g q : mm_H} {S : Nat → Int} (p : HQ g q) (hS : ∀ j, 12 ≤ j → S j = g 4 j) : em 36 0 [mm_r 0, mm_u] [] (mm_up q 4 S) = some (none, q) := by
  rw [M_lets, z_uu, z_up, z_un _ _ (by decide)]
  have e : cc_f (q 9) S 12 = q 4 := by
    funext j
    rw [p.1 4 (by decide) (by decide) (by decide)]
    by_cases c : j < 12
    · rw [cc_in c]; exact p.2 j c
    · rw [cc_out c]; exact hS j (by omega)
  rw [e, z_ui]
theorem M_letsOut {g q : mm_H} (p : HQ g q) (hg : MV g) {c : Int} (hc : 0 ≤ c ∧ c < 10 * g 2 0) : em 44 0 [mm_r 0, mm_i c, mm_u] [] q = some (none, mm_up q 4 (sl_f (g 4) c)) := by
  have hn := hg.1.n
  have e := z_t10 (c := c) (by omega)
  have hb := hg.2.2 (c / 10).toNat (by omega)
  have e4 := p.1 4 (by decide) (by decide) (by decide)
  have fin : ∀ x, x = cl_f (g 4 (c / 10).toNat + c % 10) → mm_st q 4 (c / 10).toNat x = mm_up q 4 (sl_f (g 4) c) := by
    intro x hx
    unfold mm_st sl_f
    rw [e4, hx]
  rw [sg_X11_letsOut_0, e.1, e.2, if_pos (by omega), p.2 _ (by omega), z_add (by omega) (by omega)]
  by_cases c2 : 40 < g 4 (c / 10).toNat + c % 10
  · rw [if_pos c2, sg_X11_letsOut_35, if_pos (by omega), fin 40 (by unfold cl_f; rw [if_neg (by omega), if_pos c2])]
  · rw [if_neg c2, sg_X11_letsOut_35, if_pos (by omega), fin _ (by unfold cl_f; rw [if_neg (by omega), if_neg c2])]
/-- what was seen, in the model's row -/
def SR (g : mm_H) (A B : Nat → Int) : Prop := (0 ≤ g 0 10 ∧ g 0 10 ≤ 8) ∧ ∀ i : Nat, (i : Int) < g 0 10 → g 7 i = 100 * A i + B i ∧ (0 ≤ A i ∧ A i < 24) ∧ (0 ≤ B i ∧ B i ≤ 40)
theorem M_ft_l {g q : mm_H} (p : HQ g q) (hg : MV g) {A B S : Nat → Int} (hA : SR g A B) (hS : SK (g 2) S) (f c : Int) : ∀ (m : Nat) (i : Int), 0 ≤ i → i + m = g 0 10 → em 45 31 [mm_r 0, mm_i f, mm_i c, mm_i (ft_f (g 2) S A B i.toNat), mm_i i] [] (mm_up q 4 S) = ((em 36 0 [mm_r 0, mm_u] [] (mm_up q 4 S)).bind fun q => em 45 87 [mm_r 0, mm_i f, mm_i c, mm_i (ft_f (g 2) S A B (g 0 10).toNat), mm_i (g 0 10)] (q.1.toList ++ []) q.2)
  | 0, i, h0, hi => by
    have hA1 := hA.1
    rw [sg_X11_laysFits_31, z_un _ _ (by decide), p.1 0 (by decide) (by decide) (by decide), if_neg (by omega), show i = g 0 10 by omega]
  | m + 1, i, h0, hi => by
    have hA1 := hA.1
    have hi2 := hA.2 i.toNat (by omega)
    have ih := M_ft_l p hg hA hS f c m (i + 1) (by omega) (by omega)
    rw [show (i + 1).toNat = i.toNat + 1 by omega, ft_s] at ih
    rw [sg_X11_laysFits_31, z_un _ _ (by decide), p.1 0 (by decide) (by decide) (by decide), if_pos (by omega)]
    by_cases e : ft_f (g 2) S A B i.toNat = 0
    · rw [if_pos e] at ih ⊢
      rw [sg_X11_laysFits_75, sg_X11_laysFits_76, z_wr (by omega) (by omega)]
      exact ih
    · rw [if_neg e] at ih ⊢
      have e7 : mm_up q 4 S 7 = g 7 := by rw [z_un _ _ (by decide)]; exact p.1 7 (by decide) (by decide) (by decide)
      have e2 : mm_up q 4 S 2 = g 2 := by rw [z_un _ _ (by decide)]; exact p.1 2 (by decide) (by decide) (by decide)
      have e4 : mm_up q 4 S 4 = S := z_up _ _ _
      have ed : mm_wr (Int.tdiv (g 7 i.toNat) 100) = A i.toNat := by rw [Int.tdiv_eq_ediv_of_nonneg (by omega), z_wr (by omega) (by omega)]; omega
      have em' : Int.tmod (g 7 i.toNat) 100 = B i.toNat := by rw [Int.tmod_eq_emod_of_nonneg (by omega)]; omega
      have hsk := M_sky (HQ_V p hg hS) (y := A i.toNat) hi2.2.1
      rw [e2, e4] at hsk
      rw [if_pos (by omega), z_un _ _ (by decide), p.1 7 (by decide) (by decide) (by decide), ed]
      refine mm_bi hsk ?_
      refine (sg_X11_laysFits_58 _ _ _ _ _ (mm_up q 4 S)).trans ?_
      rw [if_pos (by omega), e7, em']
      by_cases c2 : sk_f (g 2) S (A i.toNat) = B i.toNat
      · rw [if_pos c2] at ih ⊢
        rw [sg_X11_laysFits_76, z_wr (by omega) (by omega)]
        exact ih
      · rw [if_neg c2] at ih ⊢
        rw [sg_X11_laysFits_75, sg_X11_laysFits_76, z_wr (by omega) (by omega)]
        exact ih
theorem M_fits_l {g : mm_H} (hg : MV g) {A B : Nat → Int} (hA : SR g A B) : ∀ (m : Nat) (c : Int) (q : mm_H) (l3 l4 : mm_V), 0 ≤ c → c + m = 10 * g 2 0 → HQ g q → q 10 = fw_f (g 2) (g 4) A B (g 0 10).toNat (g 10) c.toNat → ∃ q2, em 45 8 [mm_r 0, mm_i (fn_f (g 2) (g 4) A B (g 0 10).toNat c.toNat), mm_i c, l3, l4] [] q = some (some (mm_i (fn_f (g 2) (g 4) A B (g 0 10).toNat (10 * g 2 0).toNat)), q2) ∧ HQ g q2 ∧ q2 10 = fw_f (g 2) (g 4) A B (g 0 10).toNat (g 10) (10 * g 2 0).toNat
  | 0, c, q, l3, l4, h0, hc, p, hw0 => by
    have hn := hg.1.n
    refine ⟨q, ?_, p, by rw [hw0, show c = 10 * g 2 0 by omega]⟩
    rw [sg_X11_laysFits_8, p.1 2 (by decide) (by decide) (by decide), z_mul (by omega) (by omega), if_neg (by omega), show c = 10 * g 2 0 by omega]
  | m + 1, c, q, l3, l4, h0, hc, p, hw0 => by
    have hn := hg.1.n
    have hb := fn_b (g 2) (g 4) A B (g 0 10).toNat c.toNat
    have hs := fn_s (g 2) (g 4) A B (g 0 10).toNat c.toNat
    have hw := fw_s (g 2) (g 4) A B (g 0 10).toNat (g 10) c.toNat
    rw [show ((c.toNat : Nat) : Int) = c by omega] at hs hw
    have e0 : em 45 8 [mm_r 0, mm_i (fn_f (g 2) (g 4) A B (g 0 10).toNat c.toNat), mm_i c, l3, l4] [] q = em 45 87 [mm_r 0, mm_i (fn_f (g 2) (g 4) A B (g 0 10).toNat c.toNat), mm_i c, mm_i (ft_f (g 2) (sl_f (g 4) c) A B (g 0 10).toNat), mm_i (g 0 10)] [] q := by
      rw [sg_X11_laysFits_8, p.1 2 (by decide) (by decide) (by decide), z_mul (by omega) (by omega), if_pos (by omega)]
      refine mm_bi (M_letsOut p hg (by omega)) ?_
      refine (sg_X11_laysFits_26 _ _ _ _ (mm_up q 4 (sl_f (g 4) c))).trans ?_
      refine (M_ft_l p hg hA (sl_SK hg.2.2 c) _ c (g 0 10).toNat 0 (by omega) (by have := hA.1; omega)).trans ?_
      exact mm_bi (M_lt p (fun j hj => sl_o (by omega) (by omega))) rfl
    rw [e0, sg_X11_laysFits_87]
    by_cases e : ft_f (g 2) (sl_f (g 4) c) A B (g 0 10).toNat = 0
    · rw [if_pos e] at hs hw ⊢
      rw [sg_X11_laysFits_101, z_wr (by omega) (by omega)]
      have ih := M_fits_l hg hA m (c + 1) q (mm_i (ft_f (g 2) (sl_f (g 4) c) A B (g 0 10).toNat)) (mm_i (g 0 10)) (by omega) (by omega) p (by rw [show (c + 1).toNat = c.toNat + 1 by omega, hw]; exact hw0)
      rw [show (c + 1).toNat = c.toNat + 1 by omega, hs] at ih
      exact ih
    · rw [if_neg e] at hs hw ⊢
      rw [if_pos (by omega), sg_X11_laysFits_101, z_wr (by omega) (by omega), z_wr (by omega) (by omega), Int.toNat_natCast]
      have ih := M_fits_l hg hA m (c + 1) (mm_st q 10 (fn_f (g 2) (g 4) A B (g 0 10).toNat c.toNat) c) (mm_i (ft_f (g 2) (sl_f (g 4) c) A B (g 0 10).toNat)) (mm_i (g 0 10)) (by omega) (by omega) ⟨fun a h1 h2 h3 => by rw [z_sc _ _ h2]; exact p.1 a h1 h2 h3, fun j hj => by rw [z_sc _ _ (by decide)]; exact p.2 j hj⟩ (by rw [show (c + 1).toNat = c.toNat + 1 by omega, hw, z_sr, hw0])
      rw [show (c + 1).toNat = c.toNat + 1 by omega, hs] at ih
      exact ih
theorem M_fits {g : mm_H} (hg : MV g) {A B : Nat → Int} (hA : SR g A B) : ∃ q2, em 45 0 [mm_r 0, mm_u, mm_u, mm_u, mm_u] [] g = some (some (mm_i (fn_f (g 2) (g 4) A B (g 0 10).toNat (10 * g 2 0).toNat)), q2) ∧ HQ g q2 ∧ q2 10 = fw_f (g 2) (g 4) A B (g 0 10).toNat (g 10) (10 * g 2 0).toNat := by
  have hn := hg.1.n
  obtain ⟨q2, a1, a2⟩ := M_fits_l hg hA (10 * g 2 0).toNat 0 (hd_f g (g 4)) mm_u mm_u (by omega) (by omega) (HQ_hd g) (hd_o _ _ (by decide) (by decide))
  refine ⟨q2, ?_, a2⟩
  rw [sg_X11_laysFits_0]
  refine mm_bi (M_hold g) ?_
  exact (sg_X11_laysFits_4 (hd_f g (g 4))).trans a1
theorem SN_R {h g : mm_H} (q : SN h g) : SR g (h 80) (h 81) := ⟨q.1.2, q.2⟩
theorem op_slipped {h g : mm_H} {v : Nat} (hr : Rel h g v) (w : Int) : AG (ex 86 0 [mm_r 0, mm_i w] [] h) (em 46 0 [mm_r 0, mm_i w, mm_u] [] g) := by
  by_cases c : 0 ≤ w ∧ w ≤ 1
  · have hn := hr.N
    obtain ⟨k, a1, a2, a3, a4⟩ := X_find hr.V hr.T (by rw [hn.1.1]; exact hn.1.2) (fun i hi => (hn.2 i (by rw [← hn.1.1]; exact hi)).2.1)
    obtain ⟨q, b1, b2, b3⟩ := M_fits hr.M (SN_R hn)
    rw [hn.1.1] at a3 a4
    refine AG_q (h2 := k) (g2 := q) (r := if w = 0 then (fn_f (g 2) (g 4) (h 80) (h 81) (g 0 10).toNat (10 * g 2 0).toNat : Int) else if (fn_f (g 2) (g 4) (h 80) (h 81) (g 0 10).toNat (10 * g 2 0).toNat : Int) = 0 then -4 else k 82 0) hr ?_ ?_ (FX_Q hr.V.1 a2) (HQ_Q b2)
    · rw [sg_X10_slipped_0, if_neg (by omega), if_neg (by omega), hr.v, sg_X10_slipped_19 hr.V.1]
      refine mm_bi a1 ?_
      refine (sg_X10_slipped_29 _ k).trans ?_
      simp only [sg_X10_slipped_65, a3]
      split
      · rfl
      · split <;> rfl
    · rw [sg_X11_slipped_0]
      refine mm_bi (M_in_t c g) ?_
      refine (sg_X11_slipped_6 _ _ g).trans ?_
      rw [if_neg (by decide)]
      refine mm_bi b1 ?_
      refine (sg_X11_slipped_15 _ _ q).trans ?_
      simp only [sg_X11_slipped_39]
      split
      · rfl
      · split
        · rfl
        · rename_i h1 h2
          rw [a4, b3, fw_c _ _ _ _ _ (h 82) (g 10) _ _ (by omega)]
  · refine AG_0 (r := -1) hr ?_ ?_
    · rw [sg_X10_slipped_0, sg_X10_slipped_9]
      split
      · rfl
      · rw [if_pos (by omega)]
    · rw [sg_X11_slipped_0]
      refine mm_bi (M_in_f c g) ?_
      exact (sg_X11_slipped_6 _ _ g).trans (if_pos rfl)
