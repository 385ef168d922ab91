/-! ===== posts: the class ===== -/
def PB (n : Nat) (h : mm_H) (b : Int × Int) : Prop := h 76 0 = b.2 ∧ ((b.1 = -4 ∧ b.2 = -4) ∨ (0 ≤ b.1 ∧ 0 ≤ b.2 ∧ ∀ i, i < n → h 77 i = dg_f n b.1.toNat i))
def TM (k p : Nat) (t : Int) : Prop := (0 ≤ t ∧ t < 64) ∧ ∀ m : Nat, m < 6 → (bt_f t m = 0 ↔ nd_f k p m = true)
theorem TM_s {k p m : Nat} {t : Int} (h : TM k p t) (hm : m < 6) : TM (k + 1) (6 * p + m) (mm_or t (mm_shl 1 m)) := by
  have ho := tb_or h.1 hm
  refine ⟨ho.1, fun j hj => ?_⟩
  rw [ho.2 j hj, nd_s, (z_d6 (p := p) (j := m) hm).1, (z_d6 (p := p) (j := m) hm).2]
  by_cases c : j = m
  · subst c
    rw [if_pos rfl]
    have : Nat.beq j j = true := Nat.beq_refl j
    rw [this]
    simp
  · rw [if_neg c, h.2 j hj]
    have : Nat.beq m j = false := Bool.eq_false_iff.mpr (fun q => c (Nat.eq_of_beq_eq_true q).symm)
    rw [this]
    simp
def CH (y k : Nat) : Prop := ∀ (v : Nat) (R : Nat → Int) (n d p : Nat) (t : Int) (h : mm_H) (b : Int × Int), VL h v R → R 0 = n → k + d = n → vb_f R k p = true → TM k p t → (∀ i, i < k → h 78 i = dg_f k p i) → PB n h b → ∃ h2, ex y 0 [mm_r 76, mm_r v, mm_i k, mm_i t, mm_i (sm_f R k p), mm_u, mm_u] [] h = some (none, h2) ∧ PB n h2 (pb_f R n d p b) ∧ (∀ a, a ≠ 76 → a ≠ 77 → a ≠ 78 → h2 a = h a) ∧ ∀ i, i < k → h2 78 i = h 78 i
theorem PB_leaf {R : Nat → Int} {n p : Nat} {h : mm_H} {b : Int × Int} (hb : PB n h b) (hn : n ≤ 5) (hv : vb_f R n p = true) (hs : 0 ≤ sm_f R n p) (h78 : ∀ i, i < n → h 78 i = dg_f n p i) (c : b.1 = -4 ∨ sm_f R n p < b.2) : PB n (mm_up (mm_st h 76 0 (sm_f R n p)) 77 (mm_cp ((mm_st h 76 0 (sm_f R n p)) 78) ((mm_st h 76 0 (sm_f R n p)) 77) 0 0 5)) (pb_f R n 0 p b) := by
  have e : pb_f R n 0 p b = ((p : Int), sm_f R n p) := if_pos ⟨hv, c⟩
  rw [e]
  refine ⟨by rw [z_un _ _ (by decide), z_se], Or.inr ⟨by dsimp only; omega, hs, fun i hi => ?_⟩⟩
  dsimp only
  rw [z_up, Int.toNat_natCast, z_sc _ _ (by decide)]
  unfold mm_cp
  rw [if_pos (by omega), show 0 + (i - 0) = i by omega]
  exact h78 i hi
theorem X_post_5 : CH 32 5 := by
  intro v R n d p t h b hV hR hd hv ht h78 hb
  have hn := hV.2.1.n
  have hsb := sm_b hV.2.1 5 p (by omega) hv
  have e : n = 5 := by omega
  subst e
  have e2 : d = 0 := by omega
  subst e2
  by_cases c : b.1 = -4 ∨ sm_f R 5 p < b.2
  · refine ⟨_, ?_, PB_leaf hb (by omega) hv hsb.1 h78 c, fun a h1 h2 _ => by rw [z_un _ _ h2, z_sc _ _ h1], fun i _ => by rw [z_un _ _ (by decide), z_sc _ _ (by decide)]⟩
    have go : ex 32 19 [mm_r 76, mm_r v, mm_i ((5 : Nat) : Int), mm_i t, mm_i (sm_f R 5 p), mm_u, mm_u] [] h = some (none, mm_up (mm_st h 76 0 (sm_f R 5 p)) 77 (mm_cp ((mm_st h 76 0 (sm_f R 5 p)) 78) ((mm_st h 76 0 (sm_f R 5 p)) 77) 0 0 5)) := by
      rw [sg_X5_choose_5_19 hV.1, hV.2.2.2.1.1.1, if_neg (by omega)]
    rw [sg_X5_choose_5_0 hV.1, hb.1, go]
    by_cases c2 : b.2 = -4
    · rw [if_pos c2]
    · rw [if_neg c2, if_pos (by have := hb.2; omega)]
  · have e : pb_f R 5 0 p b = b := if_neg (fun q => c q.2)
    refine ⟨h, ?_, by rw [e]; exact hb, fun _ _ _ _ => rfl, fun _ _ => rfl⟩
    rw [sg_X5_choose_5_0 hV.1, hb.1, if_neg (by have := hb.2; omega), if_neg (by omega)]
theorem X_post_l4 {v : Nat} {R : Nat → Int} {n d p : Nat} {t : Int} {h : mm_H} {b : Int × Int} (hV : VL h v R) (hR : R 0 = n) (hd : 4 + (d + 1) = n) (hv : vb_f R 4 p = true) (ht : TM 4 p t) (h78 : ∀ i, i < 4 → h 78 i = dg_f 4 p i) : ∀ (m j : Nat) (q : mm_H) (l6 : mm_V), (j : Int) + m = R 2 → (∀ a, a ≠ 76 → a ≠ 77 → a ≠ 78 → q a = h a) → (∀ i, i < 4 → q 78 i = h 78 i) → PB n q (pq_f (pb_f R n d) p j b) → ∃ h2, ex 31 51 [mm_r 76, mm_r v, mm_i ((4 : Nat) : Int), mm_i t, mm_i (sm_f R 4 p), mm_i j, l6] [] q = some (none, h2) ∧ PB n h2 (pq_f (pb_f R n d) p (R 2).toNat b) ∧ (∀ a, a ≠ 76 → a ≠ 77 → a ≠ 78 → h2 a = h a) ∧ ∀ i, i < 4 → h2 78 i = h 78 i
  | 0, j, q, l6, hj, hq, hq8, hb => by
    have hV2 : VL q v R := VL_up hV (fun a h1 h2 => hq a (by have := hV.1; omega) (by have := hV.1; omega) (by have := hV.1; omega))
    refine ⟨q, ?_, by rw [show (R 2).toNat = j by omega]; exact hb, hq, hq8⟩
    rw [sg_X5_choose_4_51 hV.1, hV2.2.2.2.1.1.2.2.1, if_neg (by omega)]
  | m + 1, j, q, l6, hj, hq, hq8, hb => by
    have hn := hV.2.1.n
    have hm := hV.2.1.m
    have hsb := sm_b hV.2.1 4 p (by omega) hv
    have hV2 : VL q v R := VL_up hV (fun a h1 h2 => hq a (by have := hV.1; omega) (by have := hV.1; omega) (by have := hV.1; omega))
    have z6 := z_d6 (p := p) (j := j) (by omega)
    have htj := ht.2 j (by omega)
    rw [sg_X5_choose_4_51 hV.1, hV2.2.2.2.1.1.2.2.1, if_pos (by omega)]
    change ∃ h2, (if bt_f t j = 0 then _ else _) = _ ∧ _
    by_cases c : bt_f t j = 0
    · have hvj : vb_f R (4 + 1) (6 * p + j) = true := by
        rw [vb_s, z6.1, z6.2, hv, htj.mp c, decide_eq_true (by omega)]; rfl
      have hw := wk_b hV.2.1 (k := 4) (m := j) (by omega) (by omega)
      have hr1 := hV.2.2.2.1.2.1 4 (by omega)
      have hm1 := hV.2.2.2.1.2.2.2 j (by omega)
      have hy1 := (hV.2.1.r (k := 4) (by omega)).1
      have hy2 := hV.2.1.mn (j := j) (by omega)
      have hsj : sm_f R (4 + 1) (6 * p + j) = sm_f R 4 p + wk_f R 4 j := by rw [sm_s, z6.1, z6.2]
      have hch := X_post_5 v R n d (6 * p + j) (mm_or t (mm_shl 1 j)) (mm_st q 78 4 j) (pq_f (pb_f R n d) p j b) (VL_up hV2 (fun a h1 h2 => z_sc _ _ (by have := hV.1; omega))) hR (by omega) hvj (TM_s ht (by omega)) (fun i hi => by
        rw [dg_s, z6.1, z6.2]
        by_cases e : i = 4
        · subst e; rw [if_pos rfl, z_se]
        · rw [if_neg e, z_ss _ _ e, hq8 i (by omega), h78 i (by omega)]) ⟨by rw [z_sc _ _ (by decide)]; exact hb.1, by rw [z_sc _ _ (by decide)]; exact hb.2⟩
      obtain ⟨h2, a1, a2, a3, a4⟩ := hch
      have e7 : mm_st q 78 4 j (v + 7) j = R (41 + j) := by rw [z_sc _ _ (by have := hV.1; omega), hq _ (by have := hV.1; omega) (by have := hV.1; omega) (by have := hV.1; omega)]; exact hm1
      have e1 : mm_st q 78 4 j (v + 1) 4 = R (5 + 4) := by rw [z_sc _ _ (by have := hV.1; omega), hq _ (by have := hV.1; omega) (by have := hV.1; omega) (by have := hV.1; omega)]; exact hr1.1
      have ew : mm_wr (if 0 ≤ R (41 + j) - R (5 + 4) then R (41 + j) - R (5 + 4) else 0 - (R (41 + j) - R (5 + 4))) = wk_f R 4 j := z_wr (show _ ≤ wk_f R 4 j by omega) (show wk_f R 4 j < _ by omega)
      rw [if_pos c, if_pos (by omega), if_pos (by omega), if_pos (by omega), Int.toNat_natCast, Int.toNat_natCast, e7, e1, z_sub (a := R (41 + j)) (by omega) (by omega), ew, z_add (b := 1) (by omega) (by omega), z_add (by omega) (by omega), ← hsj]
      have a1' : ex 32 0 [mm_r 76, mm_r v, mm_i (((4 : Nat) : Int) + 1), mm_i (mm_or t (mm_shl 1 j)), mm_i (sm_f R (4 + 1) (6 * p + j)), mm_u, mm_u] [] (mm_st q 78 4 j) = some (none, h2) := a1
      have ih := X_post_l4 (b := b) hV hR hd hv ht h78 m (j + 1) h2 (mm_i (wk_f R 4 j)) (by omega) (fun a h1 h2 h3 => by rw [a3 a h1 h2 h3, z_sc _ _ h3]; exact hq a h1 h2 h3) (fun i hi => by rw [a4 i (by omega), z_ss _ _ (by omega)]; exact hq8 i hi) a2
      obtain ⟨h3, b1, b2⟩ := ih
      refine ⟨h3, ?_, b2⟩
      refine mm_bi a1' ?_
      refine (sg_X5_choose_4_115 hV.1 _ _ _ _ _ h2).trans ?_
      rw [z_wr (by omega) (by omega)]
      exact b1
    · have hvj : vb_f R (4 + 1) (6 * p + j) = false := by
        rw [vb_s, z6.1, z6.2]
        have : nd_f 4 p j = false := Bool.eq_false_iff.mpr (fun q => c (htj.mpr q))
        rw [this, Bool.and_false]
      have ih := X_post_l4 (b := b) hV hR hd hv ht h78 m (j + 1) q l6 (by omega) hq hq8 (by rw [pq_s, pb_n d (4 + 1) _ _ (by omega) hvj]; exact hb)
      rw [if_neg c, sg_X5_choose_4_115 hV.1, z_wr (by omega) (by omega)]
      exact ih
theorem X_post_4 : CH 31 4 := by
  intro v R n d p t h b hV hR hd hv ht h78 hb
  have hn := hV.2.1.n
  have hsb := sm_b hV.2.1 4 p (by omega) hv
  by_cases cn : n = 4
  · have e : n = 4 := by omega
    subst e
    have e2 : d = 0 := by omega
    subst e2
    by_cases c : b.1 = -4 ∨ sm_f R 4 p < b.2
    · refine ⟨_, ?_, PB_leaf hb (by omega) hv hsb.1 h78 c, fun a h1 h2 _ => by rw [z_un _ _ h2, z_sc _ _ h1], fun i _ => by rw [z_un _ _ (by decide), z_sc _ _ (by decide)]⟩
      have go : ex 31 19 [mm_r 76, mm_r v, mm_i ((4 : Nat) : Int), mm_i t, mm_i (sm_f R 4 p), mm_u, mm_u] [] h = some (none, mm_up (mm_st h 76 0 (sm_f R 4 p)) 77 (mm_cp ((mm_st h 76 0 (sm_f R 4 p)) 78) ((mm_st h 76 0 (sm_f R 4 p)) 77) 0 0 5)) := by
        rw [sg_X5_choose_4_19 hV.1, hV.2.2.2.1.1.1, if_neg (by omega)]
      rw [sg_X5_choose_4_0 hV.1, hb.1, go]
      by_cases c2 : b.2 = -4
      · rw [if_pos c2]
      · rw [if_neg c2, if_pos (by have := hb.2; omega)]
    · have e : pb_f R 4 0 p b = b := if_neg (fun q => c q.2)
      refine ⟨h, ?_, by rw [e]; exact hb, fun _ _ _ _ => rfl, fun _ _ => rfl⟩
      rw [sg_X5_choose_4_0 hV.1, hb.1, if_neg (by have := hb.2; omega), if_neg (by omega)]
  · obtain ⟨d, rfl⟩ : ∃ e, d = e + 1 := ⟨d - 1, by omega⟩
    have hm := hV.2.1.m
    by_cases c : b.1 = -4 ∨ sm_f R 4 p < b.2
    · obtain ⟨h2, a1, a2, a3⟩ := X_post_l4 (b := b) hV hR hd hv ht h78 (R 2).toNat 0 h mm_u (by omega) (fun _ _ _ _ => rfl) (fun _ _ => rfl) hb
      have hx : ∀ x, (R 2).toNat + x ≤ 6 → pq_f (pb_f R n d) p ((R 2).toNat + x) b = pq_f (pb_f R n d) p (R 2).toNat b := by
        intro x
        induction x with
        | zero => intro _; rfl
        | succ x ih =>
          intro hx
          rw [← Nat.add_assoc, pq_s, ih (by omega)]
          refine pb_n d (4 + 1) _ _ (by omega) ?_
          have z6 := z_d6 (p := p) (j := (R 2).toNat + x) (by omega)
          rw [vb_s, z6.1, z6.2, decide_eq_false (by omega), Bool.and_false, Bool.false_and]
      have hx6 := hx (6 - (R 2).toNat) (by omega)
      rw [show (R 2).toNat + (6 - (R 2).toNat) = 6 by omega] at hx6
      refine ⟨h2, ?_, by rw [pb_s, hx6]; exact a2, a3⟩
      have go : ex 31 19 [mm_r 76, mm_r v, mm_i ((4 : Nat) : Int), mm_i t, mm_i (sm_f R 4 p), mm_u, mm_u] [] h = some (none, h2) := by
        rw [sg_X5_choose_4_19 hV.1, hV.2.2.2.1.1.1, if_pos (by omega)]
        exact a1
      rw [sg_X5_choose_4_0 hV.1, hb.1, go]
      by_cases c2 : b.2 = -4
      · rw [if_pos c2]
      · rw [if_neg c2, if_pos (by have := hb.2; omega)]
    · refine ⟨h, ?_, by rw [pb_p (d + 1) 4 p b hd (by omega) (by omega)]; exact hb, fun _ _ _ _ => rfl, fun _ _ => rfl⟩
      rw [sg_X5_choose_4_0 hV.1, hb.1, if_neg (by have := hb.2; omega), if_neg (by omega)]
theorem X_post_l3 {v : Nat} {R : Nat → Int} {n d p : Nat} {t : Int} {h : mm_H} {b : Int × Int} (hV : VL h v R) (hR : R 0 = n) (hd : 3 + (d + 1) = n) (hv : vb_f R 3 p = true) (ht : TM 3 p t) (h78 : ∀ i, i < 3 → h 78 i = dg_f 3 p i) : ∀ (m j : Nat) (q : mm_H) (l6 : mm_V), (j : Int) + m = R 2 → (∀ a, a ≠ 76 → a ≠ 77 → a ≠ 78 → q a = h a) → (∀ i, i < 3 → q 78 i = h 78 i) → PB n q (pq_f (pb_f R n d) p j b) → ∃ h2, ex 30 51 [mm_r 76, mm_r v, mm_i ((3 : Nat) : Int), mm_i t, mm_i (sm_f R 3 p), mm_i j, l6] [] q = some (none, h2) ∧ PB n h2 (pq_f (pb_f R n d) p (R 2).toNat b) ∧ (∀ a, a ≠ 76 → a ≠ 77 → a ≠ 78 → h2 a = h a) ∧ ∀ i, i < 3 → h2 78 i = h 78 i
  | 0, j, q, l6, hj, hq, hq8, hb => by
    have hV2 : VL q v R := VL_up hV (fun a h1 h2 => hq a (by have := hV.1; omega) (by have := hV.1; omega) (by have := hV.1; omega))
    refine ⟨q, ?_, by rw [show (R 2).toNat = j by omega]; exact hb, hq, hq8⟩
    rw [sg_X5_choose_3_51 hV.1, hV2.2.2.2.1.1.2.2.1, if_neg (by omega)]
  | m + 1, j, q, l6, hj, hq, hq8, hb => by
    have hn := hV.2.1.n
    have hm := hV.2.1.m
    have hsb := sm_b hV.2.1 3 p (by omega) hv
    have hV2 : VL q v R := VL_up hV (fun a h1 h2 => hq a (by have := hV.1; omega) (by have := hV.1; omega) (by have := hV.1; omega))
    have z6 := z_d6 (p := p) (j := j) (by omega)
    have htj := ht.2 j (by omega)
    rw [sg_X5_choose_3_51 hV.1, hV2.2.2.2.1.1.2.2.1, if_pos (by omega)]
    change ∃ h2, (if bt_f t j = 0 then _ else _) = _ ∧ _
    by_cases c : bt_f t j = 0
    · have hvj : vb_f R (3 + 1) (6 * p + j) = true := by
        rw [vb_s, z6.1, z6.2, hv, htj.mp c, decide_eq_true (by omega)]; rfl
      have hw := wk_b hV.2.1 (k := 3) (m := j) (by omega) (by omega)
      have hr1 := hV.2.2.2.1.2.1 3 (by omega)
      have hm1 := hV.2.2.2.1.2.2.2 j (by omega)
      have hy1 := (hV.2.1.r (k := 3) (by omega)).1
      have hy2 := hV.2.1.mn (j := j) (by omega)
      have hsj : sm_f R (3 + 1) (6 * p + j) = sm_f R 3 p + wk_f R 3 j := by rw [sm_s, z6.1, z6.2]
      have hch := X_post_4 v R n d (6 * p + j) (mm_or t (mm_shl 1 j)) (mm_st q 78 3 j) (pq_f (pb_f R n d) p j b) (VL_up hV2 (fun a h1 h2 => z_sc _ _ (by have := hV.1; omega))) hR (by omega) hvj (TM_s ht (by omega)) (fun i hi => by
        rw [dg_s, z6.1, z6.2]
        by_cases e : i = 3
        · subst e; rw [if_pos rfl, z_se]
        · rw [if_neg e, z_ss _ _ e, hq8 i (by omega), h78 i (by omega)]) ⟨by rw [z_sc _ _ (by decide)]; exact hb.1, by rw [z_sc _ _ (by decide)]; exact hb.2⟩
      obtain ⟨h2, a1, a2, a3, a4⟩ := hch
      have e7 : mm_st q 78 3 j (v + 7) j = R (41 + j) := by rw [z_sc _ _ (by have := hV.1; omega), hq _ (by have := hV.1; omega) (by have := hV.1; omega) (by have := hV.1; omega)]; exact hm1
      have e1 : mm_st q 78 3 j (v + 1) 3 = R (5 + 3) := by rw [z_sc _ _ (by have := hV.1; omega), hq _ (by have := hV.1; omega) (by have := hV.1; omega) (by have := hV.1; omega)]; exact hr1.1
      have ew : mm_wr (if 0 ≤ R (41 + j) - R (5 + 3) then R (41 + j) - R (5 + 3) else 0 - (R (41 + j) - R (5 + 3))) = wk_f R 3 j := z_wr (show _ ≤ wk_f R 3 j by omega) (show wk_f R 3 j < _ by omega)
      rw [if_pos c, if_pos (by omega), if_pos (by omega), if_pos (by omega), Int.toNat_natCast, Int.toNat_natCast, e7, e1, z_sub (a := R (41 + j)) (by omega) (by omega), ew, z_add (b := 1) (by omega) (by omega), z_add (by omega) (by omega), ← hsj]
      have a1' : ex 31 0 [mm_r 76, mm_r v, mm_i (((3 : Nat) : Int) + 1), mm_i (mm_or t (mm_shl 1 j)), mm_i (sm_f R (3 + 1) (6 * p + j)), mm_u, mm_u] [] (mm_st q 78 3 j) = some (none, h2) := a1
      have ih := X_post_l3 (b := b) hV hR hd hv ht h78 m (j + 1) h2 (mm_i (wk_f R 3 j)) (by omega) (fun a h1 h2 h3 => by rw [a3 a h1 h2 h3, z_sc _ _ h3]; exact hq a h1 h2 h3) (fun i hi => by rw [a4 i (by omega), z_ss _ _ (by omega)]; exact hq8 i hi) a2
      obtain ⟨h3, b1, b2⟩ := ih
      refine ⟨h3, ?_, b2⟩
      refine mm_bi a1' ?_
      refine (sg_X5_choose_3_115 hV.1 _ _ _ _ _ h2).trans ?_
      rw [z_wr (by omega) (by omega)]
      exact b1
    · have hvj : vb_f R (3 + 1) (6 * p + j) = false := by
        rw [vb_s, z6.1, z6.2]
        have : nd_f 3 p j = false := Bool.eq_false_iff.mpr (fun q => c (htj.mpr q))
        rw [this, Bool.and_false]
      have ih := X_post_l3 (b := b) hV hR hd hv ht h78 m (j + 1) q l6 (by omega) hq hq8 (by rw [pq_s, pb_n d (3 + 1) _ _ (by omega) hvj]; exact hb)
      rw [if_neg c, sg_X5_choose_3_115 hV.1, z_wr (by omega) (by omega)]
      exact ih
theorem X_post_3 : CH 30 3 := by
  intro v R n d p t h b hV hR hd hv ht h78 hb
  have hn := hV.2.1.n
  have hsb := sm_b hV.2.1 3 p (by omega) hv
  by_cases cn : n = 3
  · have e : n = 3 := by omega
    subst e
    have e2 : d = 0 := by omega
    subst e2
    by_cases c : b.1 = -4 ∨ sm_f R 3 p < b.2
    · refine ⟨_, ?_, PB_leaf hb (by omega) hv hsb.1 h78 c, fun a h1 h2 _ => by rw [z_un _ _ h2, z_sc _ _ h1], fun i _ => by rw [z_un _ _ (by decide), z_sc _ _ (by decide)]⟩
      have go : ex 30 19 [mm_r 76, mm_r v, mm_i ((3 : Nat) : Int), mm_i t, mm_i (sm_f R 3 p), mm_u, mm_u] [] h = some (none, mm_up (mm_st h 76 0 (sm_f R 3 p)) 77 (mm_cp ((mm_st h 76 0 (sm_f R 3 p)) 78) ((mm_st h 76 0 (sm_f R 3 p)) 77) 0 0 5)) := by
        rw [sg_X5_choose_3_19 hV.1, hV.2.2.2.1.1.1, if_neg (by omega)]
      rw [sg_X5_choose_3_0 hV.1, hb.1, go]
      by_cases c2 : b.2 = -4
      · rw [if_pos c2]
      · rw [if_neg c2, if_pos (by have := hb.2; omega)]
    · have e : pb_f R 3 0 p b = b := if_neg (fun q => c q.2)
      refine ⟨h, ?_, by rw [e]; exact hb, fun _ _ _ _ => rfl, fun _ _ => rfl⟩
      rw [sg_X5_choose_3_0 hV.1, hb.1, if_neg (by have := hb.2; omega), if_neg (by omega)]
  · obtain ⟨d, rfl⟩ : ∃ e, d = e + 1 := ⟨d - 1, by omega⟩
    have hm := hV.2.1.m
    by_cases c : b.1 = -4 ∨ sm_f R 3 p < b.2
    · obtain ⟨h2, a1, a2, a3⟩ := X_post_l3 (b := b) hV hR hd hv ht h78 (R 2).toNat 0 h mm_u (by omega) (fun _ _ _ _ => rfl) (fun _ _ => rfl) hb
      have hx : ∀ x, (R 2).toNat + x ≤ 6 → pq_f (pb_f R n d) p ((R 2).toNat + x) b = pq_f (pb_f R n d) p (R 2).toNat b := by
        intro x
        induction x with
        | zero => intro _; rfl
        | succ x ih =>
          intro hx
          rw [← Nat.add_assoc, pq_s, ih (by omega)]
          refine pb_n d (3 + 1) _ _ (by omega) ?_
          have z6 := z_d6 (p := p) (j := (R 2).toNat + x) (by omega)
          rw [vb_s, z6.1, z6.2, decide_eq_false (by omega), Bool.and_false, Bool.false_and]
      have hx6 := hx (6 - (R 2).toNat) (by omega)
      rw [show (R 2).toNat + (6 - (R 2).toNat) = 6 by omega] at hx6
      refine ⟨h2, ?_, by rw [pb_s, hx6]; exact a2, a3⟩
      have go : ex 30 19 [mm_r 76, mm_r v, mm_i ((3 : Nat) : Int), mm_i t, mm_i (sm_f R 3 p), mm_u, mm_u] [] h = some (none, h2) := by
        rw [sg_X5_choose_3_19 hV.1, hV.2.2.2.1.1.1, if_pos (by omega)]
        exact a1
      rw [sg_X5_choose_3_0 hV.1, hb.1, go]
      by_cases c2 : b.2 = -4
      · rw [if_pos c2]
      · rw [if_neg c2, if_pos (by have := hb.2; omega)]
    · refine ⟨h, ?_, by rw [pb_p (d + 1) 3 p b hd (by omega) (by omega)]; exact hb, fun _ _ _ _ => rfl, fun _ _ => rfl⟩
      rw [sg_X5_choose_3_0 hV.1, hb.1, if_neg (by have := hb.2; omega), if_neg (by omega)]
theorem X_post_l2 {v : Nat} {R : Nat → Int} {n d p : Nat} {t : Int} {h : mm_H} {b : Int × Int} (hV : VL h v R) (hR : R 0 = n) (hd : 2 + (d + 1) = n) (hv : vb_f R 2 p = true) (ht : TM 2 p t) (h78 : ∀ i, i < 2 → h 78 i = dg_f 2 p i) : ∀ (m j : Nat) (q : mm_H) (l6 : mm_V), (j : Int) + m = R 2 → (∀ a, a ≠ 76 → a ≠ 77 → a ≠ 78 → q a = h a) → (∀ i, i < 2 → q 78 i = h 78 i) → PB n q (pq_f (pb_f R n d) p j b) → ∃ h2, ex 29 51 [mm_r 76, mm_r v, mm_i ((2 : Nat) : Int), mm_i t, mm_i (sm_f R 2 p), mm_i j, l6] [] q = some (none, h2) ∧ PB n h2 (pq_f (pb_f R n d) p (R 2).toNat b) ∧ (∀ a, a ≠ 76 → a ≠ 77 → a ≠ 78 → h2 a = h a) ∧ ∀ i, i < 2 → h2 78 i = h 78 i
  | 0, j, q, l6, hj, hq, hq8, hb => by
    have hV2 : VL q v R := VL_up hV (fun a h1 h2 => hq a (by have := hV.1; omega) (by have := hV.1; omega) (by have := hV.1; omega))
    refine ⟨q, ?_, by rw [show (R 2).toNat = j by omega]; exact hb, hq, hq8⟩
    rw [sg_X5_choose_2_51 hV.1, hV2.2.2.2.1.1.2.2.1, if_neg (by omega)]
  | m + 1, j, q, l6, hj, hq, hq8, hb => by
    have hn := hV.2.1.n
    have hm := hV.2.1.m
    have hsb := sm_b hV.2.1 2 p (by omega) hv
    have hV2 : VL q v R := VL_up hV (fun a h1 h2 => hq a (by have := hV.1; omega) (by have := hV.1; omega) (by have := hV.1; omega))
    have z6 := z_d6 (p := p) (j := j) (by omega)
    have htj := ht.2 j (by omega)
    rw [sg_X5_choose_2_51 hV.1, hV2.2.2.2.1.1.2.2.1, if_pos (by omega)]
    change ∃ h2, (if bt_f t j = 0 then _ else _) = _ ∧ _
    by_cases c : bt_f t j = 0
    · have hvj : vb_f R (2 + 1) (6 * p + j) = true := by
        rw [vb_s, z6.1, z6.2, hv, htj.mp c, decide_eq_true (by omega)]; rfl
      have hw := wk_b hV.2.1 (k := 2) (m := j) (by omega) (by omega)
      have hr1 := hV.2.2.2.1.2.1 2 (by omega)
      have hm1 := hV.2.2.2.1.2.2.2 j (by omega)
      have hy1 := (hV.2.1.r (k := 2) (by omega)).1
      have hy2 := hV.2.1.mn (j := j) (by omega)
      have hsj : sm_f R (2 + 1) (6 * p + j) = sm_f R 2 p + wk_f R 2 j := by rw [sm_s, z6.1, z6.2]
      have hch := X_post_3 v R n d (6 * p + j) (mm_or t (mm_shl 1 j)) (mm_st q 78 2 j) (pq_f (pb_f R n d) p j b) (VL_up hV2 (fun a h1 h2 => z_sc _ _ (by have := hV.1; omega))) hR (by omega) hvj (TM_s ht (by omega)) (fun i hi => by
        rw [dg_s, z6.1, z6.2]
        by_cases e : i = 2
        · subst e; rw [if_pos rfl, z_se]
        · rw [if_neg e, z_ss _ _ e, hq8 i (by omega), h78 i (by omega)]) ⟨by rw [z_sc _ _ (by decide)]; exact hb.1, by rw [z_sc _ _ (by decide)]; exact hb.2⟩
      obtain ⟨h2, a1, a2, a3, a4⟩ := hch
      have e7 : mm_st q 78 2 j (v + 7) j = R (41 + j) := by rw [z_sc _ _ (by have := hV.1; omega), hq _ (by have := hV.1; omega) (by have := hV.1; omega) (by have := hV.1; omega)]; exact hm1
      have e1 : mm_st q 78 2 j (v + 1) 2 = R (5 + 2) := by rw [z_sc _ _ (by have := hV.1; omega), hq _ (by have := hV.1; omega) (by have := hV.1; omega) (by have := hV.1; omega)]; exact hr1.1
      have ew : mm_wr (if 0 ≤ R (41 + j) - R (5 + 2) then R (41 + j) - R (5 + 2) else 0 - (R (41 + j) - R (5 + 2))) = wk_f R 2 j := z_wr (show _ ≤ wk_f R 2 j by omega) (show wk_f R 2 j < _ by omega)
      rw [if_pos c, if_pos (by omega), if_pos (by omega), if_pos (by omega), Int.toNat_natCast, Int.toNat_natCast, e7, e1, z_sub (a := R (41 + j)) (by omega) (by omega), ew, z_add (b := 1) (by omega) (by omega), z_add (by omega) (by omega), ← hsj]
      have a1' : ex 30 0 [mm_r 76, mm_r v, mm_i (((2 : Nat) : Int) + 1), mm_i (mm_or t (mm_shl 1 j)), mm_i (sm_f R (2 + 1) (6 * p + j)), mm_u, mm_u] [] (mm_st q 78 2 j) = some (none, h2) := a1
      have ih := X_post_l2 (b := b) hV hR hd hv ht h78 m (j + 1) h2 (mm_i (wk_f R 2 j)) (by omega) (fun a h1 h2 h3 => by rw [a3 a h1 h2 h3, z_sc _ _ h3]; exact hq a h1 h2 h3) (fun i hi => by rw [a4 i (by omega), z_ss _ _ (by omega)]; exact hq8 i hi) a2
      obtain ⟨h3, b1, b2⟩ := ih
      refine ⟨h3, ?_, b2⟩
      refine mm_bi a1' ?_
      refine (sg_X5_choose_2_115 hV.1 _ _ _ _ _ h2).trans ?_
      rw [z_wr (by omega) (by omega)]
      exact b1
    · have hvj : vb_f R (2 + 1) (6 * p + j) = false := by
        rw [vb_s, z6.1, z6.2]
        have : nd_f 2 p j = false := Bool.eq_false_iff.mpr (fun q => c (htj.mpr q))
        rw [this, Bool.and_false]
      have ih := X_post_l2 (b := b) hV hR hd hv ht h78 m (j + 1) q l6 (by omega) hq hq8 (by rw [pq_s, pb_n d (2 + 1) _ _ (by omega) hvj]; exact hb)
      rw [if_neg c, sg_X5_choose_2_115 hV.1, z_wr (by omega) (by omega)]
      exact ih
theorem X_post_2 : CH 29 2 := by
  intro v R n d p t h b hV hR hd hv ht h78 hb
  have hn := hV.2.1.n
  have hsb := sm_b hV.2.1 2 p (by omega) hv
  by_cases cn : n = 2
  · have e : n = 2 := by omega
    subst e
    have e2 : d = 0 := by omega
    subst e2
    by_cases c : b.1 = -4 ∨ sm_f R 2 p < b.2
    · refine ⟨_, ?_, PB_leaf hb (by omega) hv hsb.1 h78 c, fun a h1 h2 _ => by rw [z_un _ _ h2, z_sc _ _ h1], fun i _ => by rw [z_un _ _ (by decide), z_sc _ _ (by decide)]⟩
      have go : ex 29 19 [mm_r 76, mm_r v, mm_i ((2 : Nat) : Int), mm_i t, mm_i (sm_f R 2 p), mm_u, mm_u] [] h = some (none, mm_up (mm_st h 76 0 (sm_f R 2 p)) 77 (mm_cp ((mm_st h 76 0 (sm_f R 2 p)) 78) ((mm_st h 76 0 (sm_f R 2 p)) 77) 0 0 5)) := by
        rw [sg_X5_choose_2_19 hV.1, hV.2.2.2.1.1.1, if_neg (by omega)]
      rw [sg_X5_choose_2_0 hV.1, hb.1, go]
      by_cases c2 : b.2 = -4
      · rw [if_pos c2]
      · rw [if_neg c2, if_pos (by have := hb.2; omega)]
    · have e : pb_f R 2 0 p b = b := if_neg (fun q => c q.2)
      refine ⟨h, ?_, by rw [e]; exact hb, fun _ _ _ _ => rfl, fun _ _ => rfl⟩
      rw [sg_X5_choose_2_0 hV.1, hb.1, if_neg (by have := hb.2; omega), if_neg (by omega)]
  · obtain ⟨d, rfl⟩ : ∃ e, d = e + 1 := ⟨d - 1, by omega⟩
    have hm := hV.2.1.m
    by_cases c : b.1 = -4 ∨ sm_f R 2 p < b.2
    · obtain ⟨h2, a1, a2, a3⟩ := X_post_l2 (b := b) hV hR hd hv ht h78 (R 2).toNat 0 h mm_u (by omega) (fun _ _ _ _ => rfl) (fun _ _ => rfl) hb
      have hx : ∀ x, (R 2).toNat + x ≤ 6 → pq_f (pb_f R n d) p ((R 2).toNat + x) b = pq_f (pb_f R n d) p (R 2).toNat b := by
        intro x
        induction x with
        | zero => intro _; rfl
        | succ x ih =>
          intro hx
          rw [← Nat.add_assoc, pq_s, ih (by omega)]
          refine pb_n d (2 + 1) _ _ (by omega) ?_
          have z6 := z_d6 (p := p) (j := (R 2).toNat + x) (by omega)
          rw [vb_s, z6.1, z6.2, decide_eq_false (by omega), Bool.and_false, Bool.false_and]
      have hx6 := hx (6 - (R 2).toNat) (by omega)
      rw [show (R 2).toNat + (6 - (R 2).toNat) = 6 by omega] at hx6
      refine ⟨h2, ?_, by rw [pb_s, hx6]; exact a2, a3⟩
      have go : ex 29 19 [mm_r 76, mm_r v, mm_i ((2 : Nat) : Int), mm_i t, mm_i (sm_f R 2 p), mm_u, mm_u] [] h = some (none, h2) := by
        rw [sg_X5_choose_2_19 hV.1, hV.2.2.2.1.1.1, if_pos (by omega)]
        exact a1
      rw [sg_X5_choose_2_0 hV.1, hb.1, go]
      by_cases c2 : b.2 = -4
      · rw [if_pos c2]
      · rw [if_neg c2, if_pos (by have := hb.2; omega)]
    · refine ⟨h, ?_, by rw [pb_p (d + 1) 2 p b hd (by omega) (by omega)]; exact hb, fun _ _ _ _ => rfl, fun _ _ => rfl⟩
      rw [sg_X5_choose_2_0 hV.1, hb.1, if_neg (by have := hb.2; omega), if_neg (by omega)]
theorem X_post_l1 {v : Nat} {R : Nat → Int} {n d p : Nat} {t : Int} {h : mm_H} {b : Int × Int} (hV : VL h v R) (hR : R 0 = n) (hd : 1 + (d + 1) = n) (hv : vb_f R 1 p = true) (ht : TM 1 p t) (h78 : ∀ i, i < 1 → h 78 i = dg_f 1 p i) : ∀ (m j : Nat) (q : mm_H) (l6 : mm_V), (j : Int) + m = R 2 → (∀ a, a ≠ 76 → a ≠ 77 → a ≠ 78 → q a = h a) → (∀ i, i < 1 → q 78 i = h 78 i) → PB n q (pq_f (pb_f R n d) p j b) → ∃ h2, ex 28 51 [mm_r 76, mm_r v, mm_i ((1 : Nat) : Int), mm_i t, mm_i (sm_f R 1 p), mm_i j, l6] [] q = some (none, h2) ∧ PB n h2 (pq_f (pb_f R n d) p (R 2).toNat b) ∧ (∀ a, a ≠ 76 → a ≠ 77 → a ≠ 78 → h2 a = h a) ∧ ∀ i, i < 1 → h2 78 i = h 78 i
  | 0, j, q, l6, hj, hq, hq8, hb => by
    have hV2 : VL q v R := VL_up hV (fun a h1 h2 => hq a (by have := hV.1; omega) (by have := hV.1; omega) (by have := hV.1; omega))
    refine ⟨q, ?_, by rw [show (R 2).toNat = j by omega]; exact hb, hq, hq8⟩
    rw [sg_X5_choose_1_51 hV.1, hV2.2.2.2.1.1.2.2.1, if_neg (by omega)]
  | m + 1, j, q, l6, hj, hq, hq8, hb => by
    have hn := hV.2.1.n
    have hm := hV.2.1.m
    have hsb := sm_b hV.2.1 1 p (by omega) hv
    have hV2 : VL q v R := VL_up hV (fun a h1 h2 => hq a (by have := hV.1; omega) (by have := hV.1; omega) (by have := hV.1; omega))
    have z6 := z_d6 (p := p) (j := j) (by omega)
    have htj := ht.2 j (by omega)
    rw [sg_X5_choose_1_51 hV.1, hV2.2.2.2.1.1.2.2.1, if_pos (by omega)]
    change ∃ h2, (if bt_f t j = 0 then _ else _) = _ ∧ _
    by_cases c : bt_f t j = 0
    · have hvj : vb_f R (1 + 1) (6 * p + j) = true := by
        rw [vb_s, z6.1, z6.2, hv, htj.mp c, decide_eq_true (by omega)]; rfl
      have hw := wk_b hV.2.1 (k := 1) (m := j) (by omega) (by omega)
      have hr1 := hV.2.2.2.1.2.1 1 (by omega)
      have hm1 := hV.2.2.2.1.2.2.2 j (by omega)
      have hy1 := (hV.2.1.r (k := 1) (by omega)).1
      have hy2 := hV.2.1.mn (j := j) (by omega)
      have hsj : sm_f R (1 + 1) (6 * p + j) = sm_f R 1 p + wk_f R 1 j := by rw [sm_s, z6.1, z6.2]
      have hch := X_post_2 v R n d (6 * p + j) (mm_or t (mm_shl 1 j)) (mm_st q 78 1 j) (pq_f (pb_f R n d) p j b) (VL_up hV2 (fun a h1 h2 => z_sc _ _ (by have := hV.1; omega))) hR (by omega) hvj (TM_s ht (by omega)) (fun i hi => by
        rw [dg_s, z6.1, z6.2]
        by_cases e : i = 1
        · subst e; rw [if_pos rfl, z_se]
        · rw [if_neg e, z_ss _ _ e, hq8 i (by omega), h78 i (by omega)]) ⟨by rw [z_sc _ _ (by decide)]; exact hb.1, by rw [z_sc _ _ (by decide)]; exact hb.2⟩
      obtain ⟨h2, a1, a2, a3, a4⟩ := hch
      have e7 : mm_st q 78 1 j (v + 7) j = R (41 + j) := by rw [z_sc _ _ (by have := hV.1; omega), hq _ (by have := hV.1; omega) (by have := hV.1; omega) (by have := hV.1; omega)]; exact hm1
      have e1 : mm_st q 78 1 j (v + 1) 1 = R (5 + 1) := by rw [z_sc _ _ (by have := hV.1; omega), hq _ (by have := hV.1; omega) (by have := hV.1; omega) (by have := hV.1; omega)]; exact hr1.1
      have ew : mm_wr (if 0 ≤ R (41 + j) - R (5 + 1) then R (41 + j) - R (5 + 1) else 0 - (R (41 + j) - R (5 + 1))) = wk_f R 1 j := z_wr (show _ ≤ wk_f R 1 j by omega) (show wk_f R 1 j < _ by omega)
      rw [if_pos c, if_pos (by omega), if_pos (by omega), if_pos (by omega), Int.toNat_natCast, Int.toNat_natCast, e7, e1, z_sub (a := R (41 + j)) (by omega) (by omega), ew, z_add (b := 1) (by omega) (by omega), z_add (by omega) (by omega), ← hsj]
      have a1' : ex 29 0 [mm_r 76, mm_r v, mm_i (((1 : Nat) : Int) + 1), mm_i (mm_or t (mm_shl 1 j)), mm_i (sm_f R (1 + 1) (6 * p + j)), mm_u, mm_u] [] (mm_st q 78 1 j) = some (none, h2) := a1
      have ih := X_post_l1 (b := b) hV hR hd hv ht h78 m (j + 1) h2 (mm_i (wk_f R 1 j)) (by omega) (fun a h1 h2 h3 => by rw [a3 a h1 h2 h3, z_sc _ _ h3]; exact hq a h1 h2 h3) (fun i hi => by rw [a4 i (by omega), z_ss _ _ (by omega)]; exact hq8 i hi) a2
      obtain ⟨h3, b1, b2⟩ := ih
      refine ⟨h3, ?_, b2⟩
      refine mm_bi a1' ?_
      refine (sg_X5_choose_1_115 hV.1 _ _ _ _ _ h2).trans ?_
      rw [z_wr (by omega) (by omega)]
      exact b1
    · have hvj : vb_f R (1 + 1) (6 * p + j) = false := by
        rw [vb_s, z6.1, z6.2]
        have : nd_f 1 p j = false := Bool.eq_false_iff.mpr (fun q => c (htj.mpr q))
        rw [this, Bool.and_false]
      have ih := X_post_l1 (b := b) hV hR hd hv ht h78 m (j + 1) q l6 (by omega) hq hq8 (by rw [pq_s, pb_n d (1 + 1) _ _ (by omega) hvj]; exact hb)
      rw [if_neg c, sg_X5_choose_1_115 hV.1, z_wr (by omega) (by omega)]
      exact ih
theorem X_post_1 : CH 28 1 := by
  intro v R n d p t h b hV hR hd hv ht h78 hb
  have hn := hV.2.1.n
  have hsb := sm_b hV.2.1 1 p (by omega) hv
  by_cases cn : n = 1
  · have e : n = 1 := by omega
    subst e
    have e2 : d = 0 := by omega
    subst e2
    by_cases c : b.1 = -4 ∨ sm_f R 1 p < b.2
    · refine ⟨_, ?_, PB_leaf hb (by omega) hv hsb.1 h78 c, fun a h1 h2 _ => by rw [z_un _ _ h2, z_sc _ _ h1], fun i _ => by rw [z_un _ _ (by decide), z_sc _ _ (by decide)]⟩
      have go : ex 28 19 [mm_r 76, mm_r v, mm_i ((1 : Nat) : Int), mm_i t, mm_i (sm_f R 1 p), mm_u, mm_u] [] h = some (none, mm_up (mm_st h 76 0 (sm_f R 1 p)) 77 (mm_cp ((mm_st h 76 0 (sm_f R 1 p)) 78) ((mm_st h 76 0 (sm_f R 1 p)) 77) 0 0 5)) := by
        rw [sg_X5_choose_1_19 hV.1, hV.2.2.2.1.1.1, if_neg (by omega)]
      rw [sg_X5_choose_1_0 hV.1, hb.1, go]
      by_cases c2 : b.2 = -4
      · rw [if_pos c2]
      · rw [if_neg c2, if_pos (by have := hb.2; omega)]
    · have e : pb_f R 1 0 p b = b := if_neg (fun q => c q.2)
      refine ⟨h, ?_, by rw [e]; exact hb, fun _ _ _ _ => rfl, fun _ _ => rfl⟩
      rw [sg_X5_choose_1_0 hV.1, hb.1, if_neg (by have := hb.2; omega), if_neg (by omega)]
  · obtain ⟨d, rfl⟩ : ∃ e, d = e + 1 := ⟨d - 1, by omega⟩
    have hm := hV.2.1.m
    by_cases c : b.1 = -4 ∨ sm_f R 1 p < b.2
    · obtain ⟨h2, a1, a2, a3⟩ := X_post_l1 (b := b) hV hR hd hv ht h78 (R 2).toNat 0 h mm_u (by omega) (fun _ _ _ _ => rfl) (fun _ _ => rfl) hb
      have hx : ∀ x, (R 2).toNat + x ≤ 6 → pq_f (pb_f R n d) p ((R 2).toNat + x) b = pq_f (pb_f R n d) p (R 2).toNat b := by
        intro x
        induction x with
        | zero => intro _; rfl
        | succ x ih =>
          intro hx
          rw [← Nat.add_assoc, pq_s, ih (by omega)]
          refine pb_n d (1 + 1) _ _ (by omega) ?_
          have z6 := z_d6 (p := p) (j := (R 2).toNat + x) (by omega)
          rw [vb_s, z6.1, z6.2, decide_eq_false (by omega), Bool.and_false, Bool.false_and]
      have hx6 := hx (6 - (R 2).toNat) (by omega)
      rw [show (R 2).toNat + (6 - (R 2).toNat) = 6 by omega] at hx6
      refine ⟨h2, ?_, by rw [pb_s, hx6]; exact a2, a3⟩
      have go : ex 28 19 [mm_r 76, mm_r v, mm_i ((1 : Nat) : Int), mm_i t, mm_i (sm_f R 1 p), mm_u, mm_u] [] h = some (none, h2) := by
        rw [sg_X5_choose_1_19 hV.1, hV.2.2.2.1.1.1, if_pos (by omega)]
        exact a1
      rw [sg_X5_choose_1_0 hV.1, hb.1, go]
      by_cases c2 : b.2 = -4
      · rw [if_pos c2]
      · rw [if_neg c2, if_pos (by have := hb.2; omega)]
    · refine ⟨h, ?_, by rw [pb_p (d + 1) 1 p b hd (by omega) (by omega)]; exact hb, fun _ _ _ _ => rfl, fun _ _ => rfl⟩
      rw [sg_X5_choose_1_0 hV.1, hb.1, if_neg (by have := hb.2; omega), if_neg (by omega)]
theorem X_post_l0 {v : Nat} {R : Nat → Int} {n d p : Nat} {t : Int} {h : mm_H} {b : Int × Int} (hV : VL h v R) (hR : R 0 = n) (hd : 0 + (d + 1) = n) (hv : vb_f R 0 p = true) (ht : TM 0 p t) (h78 : ∀ i, i < 0 → h 78 i = dg_f 0 p i) : ∀ (m j : Nat) (q : mm_H) (l6 : mm_V), (j : Int) + m = R 2 → (∀ a, a ≠ 76 → a ≠ 77 → a ≠ 78 → q a = h a) → (∀ i, i < 0 → q 78 i = h 78 i) → PB n q (pq_f (pb_f R n d) p j b) → ∃ h2, ex 27 51 [mm_r 76, mm_r v, mm_i ((0 : Nat) : Int), mm_i t, mm_i (sm_f R 0 p), mm_i j, l6] [] q = some (none, h2) ∧ PB n h2 (pq_f (pb_f R n d) p (R 2).toNat b) ∧ (∀ a, a ≠ 76 → a ≠ 77 → a ≠ 78 → h2 a = h a) ∧ ∀ i, i < 0 → h2 78 i = h 78 i
  | 0, j, q, l6, hj, hq, hq8, hb => by
    have hV2 : VL q v R := VL_up hV (fun a h1 h2 => hq a (by have := hV.1; omega) (by have := hV.1; omega) (by have := hV.1; omega))
    refine ⟨q, ?_, by rw [show (R 2).toNat = j by omega]; exact hb, hq, hq8⟩
    rw [sg_X5_choose_0_51 hV.1, hV2.2.2.2.1.1.2.2.1, if_neg (by omega)]
  | m + 1, j, q, l6, hj, hq, hq8, hb => by
    have hn := hV.2.1.n
    have hm := hV.2.1.m
    have hsb := sm_b hV.2.1 0 p (by omega) hv
    have hV2 : VL q v R := VL_up hV (fun a h1 h2 => hq a (by have := hV.1; omega) (by have := hV.1; omega) (by have := hV.1; omega))
    have z6 := z_d6 (p := p) (j := j) (by omega)
    have htj := ht.2 j (by omega)
    rw [sg_X5_choose_0_51 hV.1, hV2.2.2.2.1.1.2.2.1, if_pos (by omega)]
    change ∃ h2, (if bt_f t j = 0 then _ else _) = _ ∧ _
    by_cases c : bt_f t j = 0
    · have hvj : vb_f R (0 + 1) (6 * p + j) = true := by
        rw [vb_s, z6.1, z6.2, hv, htj.mp c, decide_eq_true (by omega)]; rfl
      have hw := wk_b hV.2.1 (k := 0) (m := j) (by omega) (by omega)
      have hr1 := hV.2.2.2.1.2.1 0 (by omega)
      have hm1 := hV.2.2.2.1.2.2.2 j (by omega)
      have hy1 := (hV.2.1.r (k := 0) (by omega)).1
      have hy2 := hV.2.1.mn (j := j) (by omega)
      have hsj : sm_f R (0 + 1) (6 * p + j) = sm_f R 0 p + wk_f R 0 j := by rw [sm_s, z6.1, z6.2]
      have hch := X_post_1 v R n d (6 * p + j) (mm_or t (mm_shl 1 j)) (mm_st q 78 0 j) (pq_f (pb_f R n d) p j b) (VL_up hV2 (fun a h1 h2 => z_sc _ _ (by have := hV.1; omega))) hR (by omega) hvj (TM_s ht (by omega)) (fun i hi => by
        rw [dg_s, z6.1, z6.2]
        by_cases e : i = 0
        · subst e; rw [if_pos rfl, z_se]
        · rw [if_neg e, z_ss _ _ e, hq8 i (by omega), h78 i (by omega)]) ⟨by rw [z_sc _ _ (by decide)]; exact hb.1, by rw [z_sc _ _ (by decide)]; exact hb.2⟩
      obtain ⟨h2, a1, a2, a3, a4⟩ := hch
      have e7 : mm_st q 78 0 j (v + 7) j = R (41 + j) := by rw [z_sc _ _ (by have := hV.1; omega), hq _ (by have := hV.1; omega) (by have := hV.1; omega) (by have := hV.1; omega)]; exact hm1
      have e1 : mm_st q 78 0 j (v + 1) 0 = R (5 + 0) := by rw [z_sc _ _ (by have := hV.1; omega), hq _ (by have := hV.1; omega) (by have := hV.1; omega) (by have := hV.1; omega)]; exact hr1.1
      have ew : mm_wr (if 0 ≤ R (41 + j) - R (5 + 0) then R (41 + j) - R (5 + 0) else 0 - (R (41 + j) - R (5 + 0))) = wk_f R 0 j := z_wr (show _ ≤ wk_f R 0 j by omega) (show wk_f R 0 j < _ by omega)
      rw [if_pos c, if_pos (by omega), if_pos (by omega), if_pos (by omega), Int.toNat_natCast, Int.toNat_natCast, e7, e1, z_sub (a := R (41 + j)) (by omega) (by omega), ew, z_add (b := 1) (by omega) (by omega), z_add (by omega) (by omega), ← hsj]
      have a1' : ex 28 0 [mm_r 76, mm_r v, mm_i (((0 : Nat) : Int) + 1), mm_i (mm_or t (mm_shl 1 j)), mm_i (sm_f R (0 + 1) (6 * p + j)), mm_u, mm_u] [] (mm_st q 78 0 j) = some (none, h2) := a1
      have ih := X_post_l0 (b := b) hV hR hd hv ht h78 m (j + 1) h2 (mm_i (wk_f R 0 j)) (by omega) (fun a h1 h2 h3 => by rw [a3 a h1 h2 h3, z_sc _ _ h3]; exact hq a h1 h2 h3) (fun i hi => by rw [a4 i (by omega), z_ss _ _ (by omega)]; exact hq8 i hi) a2
      obtain ⟨h3, b1, b2⟩ := ih
      refine ⟨h3, ?_, b2⟩
      refine mm_bi a1' ?_
      refine (sg_X5_choose_0_115 hV.1 _ _ _ _ _ h2).trans ?_
      rw [z_wr (by omega) (by omega)]
      exact b1
    · have hvj : vb_f R (0 + 1) (6 * p + j) = false := by
        rw [vb_s, z6.1, z6.2]
        have : nd_f 0 p j = false := Bool.eq_false_iff.mpr (fun q => c (htj.mpr q))
        rw [this, Bool.and_false]
      have ih := X_post_l0 (b := b) hV hR hd hv ht h78 m (j + 1) q l6 (by omega) hq hq8 (by rw [pq_s, pb_n d (0 + 1) _ _ (by omega) hvj]; exact hb)
      rw [if_neg c, sg_X5_choose_0_115 hV.1, z_wr (by omega) (by omega)]
      exact ih
theorem X_post_0 : CH 27 0 := by
  intro v R n d p t h b hV hR hd hv ht h78 hb
  have hn := hV.2.1.n
  have hsb := sm_b hV.2.1 0 p (by omega) hv
  by_cases cn : n = 0
  · have e : n = 0 := by omega
    subst e
    have e2 : d = 0 := by omega
    subst e2
    by_cases c : b.1 = -4 ∨ sm_f R 0 p < b.2
    · refine ⟨_, ?_, PB_leaf hb (by omega) hv hsb.1 h78 c, fun a h1 h2 _ => by rw [z_un _ _ h2, z_sc _ _ h1], fun i _ => by rw [z_un _ _ (by decide), z_sc _ _ (by decide)]⟩
      have go : ex 27 19 [mm_r 76, mm_r v, mm_i ((0 : Nat) : Int), mm_i t, mm_i (sm_f R 0 p), mm_u, mm_u] [] h = some (none, mm_up (mm_st h 76 0 (sm_f R 0 p)) 77 (mm_cp ((mm_st h 76 0 (sm_f R 0 p)) 78) ((mm_st h 76 0 (sm_f R 0 p)) 77) 0 0 5)) := by
        rw [sg_X5_choose_0_19 hV.1, hV.2.2.2.1.1.1, if_neg (by omega)]
      rw [sg_X5_choose_0_0 hV.1, hb.1, go]
      by_cases c2 : b.2 = -4
      · rw [if_pos c2]
      · rw [if_neg c2, if_pos (by have := hb.2; omega)]
    · have e : pb_f R 0 0 p b = b := if_neg (fun q => c q.2)
      refine ⟨h, ?_, by rw [e]; exact hb, fun _ _ _ _ => rfl, fun _ _ => rfl⟩
      rw [sg_X5_choose_0_0 hV.1, hb.1, if_neg (by have := hb.2; omega), if_neg (by omega)]
  · obtain ⟨d, rfl⟩ : ∃ e, d = e + 1 := ⟨d - 1, by omega⟩
    have hm := hV.2.1.m
    by_cases c : b.1 = -4 ∨ sm_f R 0 p < b.2
    · obtain ⟨h2, a1, a2, a3⟩ := X_post_l0 (b := b) hV hR hd hv ht h78 (R 2).toNat 0 h mm_u (by omega) (fun _ _ _ _ => rfl) (fun _ _ => rfl) hb
      have hx : ∀ x, (R 2).toNat + x ≤ 6 → pq_f (pb_f R n d) p ((R 2).toNat + x) b = pq_f (pb_f R n d) p (R 2).toNat b := by
        intro x
        induction x with
        | zero => intro _; rfl
        | succ x ih =>
          intro hx
          rw [← Nat.add_assoc, pq_s, ih (by omega)]
          refine pb_n d (0 + 1) _ _ (by omega) ?_
          have z6 := z_d6 (p := p) (j := (R 2).toNat + x) (by omega)
          rw [vb_s, z6.1, z6.2, decide_eq_false (by omega), Bool.and_false, Bool.false_and]
      have hx6 := hx (6 - (R 2).toNat) (by omega)
      rw [show (R 2).toNat + (6 - (R 2).toNat) = 6 by omega] at hx6
      refine ⟨h2, ?_, by rw [pb_s, hx6]; exact a2, a3⟩
      have go : ex 27 19 [mm_r 76, mm_r v, mm_i ((0 : Nat) : Int), mm_i t, mm_i (sm_f R 0 p), mm_u, mm_u] [] h = some (none, h2) := by
        rw [sg_X5_choose_0_19 hV.1, hV.2.2.2.1.1.1, if_pos (by omega)]
        exact a1
      rw [sg_X5_choose_0_0 hV.1, hb.1, go]
      by_cases c2 : b.2 = -4
      · rw [if_pos c2]
      · rw [if_neg c2, if_pos (by have := hb.2; omega)]
    · refine ⟨h, ?_, by rw [pb_p (d + 1) 0 p b hd (by omega) (by omega)]; exact hb, fun _ _ _ _ => rfl, fun _ _ => rfl⟩
      rw [sg_X5_choose_0_0 hV.1, hb.1, if_neg (by have := hb.2; omega), if_neg (by omega)]
