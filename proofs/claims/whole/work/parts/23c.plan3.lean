/-! ===== plan: the class ===== -/
def QB (n : Nat) (h : mm_H) (b : Int × Int) : Prop := h 66 0 = b.2 ∧ ((b.1 = -4 ∧ b.2 = -4) ∨ (0 ≤ b.1 ∧ 0 ≤ b.2 ∧ ∀ i, i < n → h 67 i = dh_f n b.1.toNat i))
def OK5 (R : Nat → Int) (O : Nat → Nat → Int) (n : Nat) (h : mm_H) : Prop := (∀ i m : Nat, (i : Int) < R 0 → 0 ≤ O i m ∧ O i m ≤ 40) ∧ ∀ i m : Nat, i < n → m < 5 → h (71 + i) m = O i m
def CG (y k : Nat) : Prop := ∀ (v : Nat) (R : Nat → Int) (O : Nat → Nat → Int) (n d p : Nat) (h : mm_H) (b : Int × Int), VL h v R → R 0 = n → OK5 R O n h → k + d = n → vq_f R O k p = true → (∀ i, i < k → h 68 i = dh_f k p i ∧ h 69 i = tv_f O k p i) → QB n h b → ∃ h2, ex y 0 [mm_r 66, mm_r v, mm_i k, mm_i (sd_f k p), mm_u] [] h = some (none, h2) ∧ QB n h2 (qb_f R O n d p b) ∧ (∀ a, a ≠ 66 → a ≠ 67 → a ≠ 68 → a ≠ 69 → h2 a = h a) ∧ ∀ i, i < k → h2 68 i = h 68 i ∧ h2 69 i = h 69 i
theorem QB_leaf {R : Nat → Int} {O : Nat → Nat → Int} {n p : Nat} {h : mm_H} {b : Int × Int} (hn : n ≤ 5) (hv : vq_f R O n p = true) (h78 : ∀ i, i < n → h 68 i = dh_f n p i) (c : b.1 = -4 ∨ sd_f n p < b.2) : QB n (mm_up (mm_st h 66 0 (sd_f n p)) 67 (mm_cp ((mm_st h 66 0 (sd_f n p)) 68) ((mm_st h 66 0 (sd_f n p)) 67) 0 0 5)) (qb_f R O n 0 p b) := by
  have e : qb_f R O n 0 p b = ((p : Int), sd_f n p) := if_pos ⟨hv, c⟩
  have hs := sd_b n p
  rw [e]
  refine ⟨by rw [z_un _ _ (by decide), z_se], Or.inr ⟨by dsimp only; omega, hs.1, fun i hi => ?_⟩⟩
  dsimp only
  rw [z_up, Int.toNat_natCast, z_sc _ _ (by decide)]
  unfold mm_cp
  rw [if_pos (by omega), show 0 + (i - 0) = i by omega]
  exact h78 i hi
theorem X_plan_5 : CG 25 5 := by
  intro v R O n d p h b hV hR hO hd hv h78 hb
  have hn := hV.2.1.n
  have hsb := sd_b 5 p
  have e : n = 5 := by omega
  subst e
  have e2 : d = 0 := by omega
  subst e2
  by_cases c : b.1 = -4 ∨ sd_f 5 p < b.2
  · refine ⟨_, ?_, QB_leaf (R := R) (O := O) (b := b) (by omega) hv (fun i hi => (h78 i hi).1) c, fun a h1 h2 _ _ => by rw [z_un _ _ h2, z_sc _ _ h1], fun i _ => ⟨by rw [z_un _ _ (by decide), z_sc _ _ (by decide)], by rw [z_un _ _ (by decide), z_sc _ _ (by decide)]⟩⟩
    have go : ex 25 18 [mm_r 66, mm_r v, mm_i ((5 : Nat) : Int), mm_i (sd_f 5 p), mm_u] [] h = some (none, mm_up (mm_st h 66 0 (sd_f 5 p)) 67 (mm_cp ((mm_st h 66 0 (sd_f 5 p)) 68) ((mm_st h 66 0 (sd_f 5 p)) 67) 0 0 5)) := by
      rw [sg_X4_choose_5_18 hV.1, hV.2.2.2.1.1.1, if_neg (by omega)]
    rw [sg_X4_choose_5_0 hV.1, hb.1, go]
    by_cases c2 : b.2 = -4
    · rw [if_pos c2]
    · rw [if_neg c2, if_pos (by have := hb.2; omega)]
  · have e : qb_f R O 5 0 p b = b := if_neg (fun q => c q.2)
    refine ⟨h, ?_, by rw [e]; exact hb, fun _ _ _ _ _ => rfl, fun _ _ => ⟨rfl, rfl⟩⟩
    rw [sg_X4_choose_5_0 hV.1, hb.1, if_neg (by have := hb.2; omega), if_neg (by omega)]
theorem X_plan_l4 {v : Nat} {R : Nat → Int} {O : Nat → Nat → Int} {n d p : Nat} {h : mm_H} {b : Int × Int} (hV : VL h v R) (hR : R 0 = n) (hO : OK5 R O n h) (hd : 4 + (d + 1) = n) (hv : vq_f R O 4 p = true) (h78 : ∀ i, i < 4 → h 68 i = dh_f 4 p i ∧ h 69 i = tv_f O 4 p i) : ∀ (m j : Nat) (q : mm_H), j + m = 5 → (∀ a, a ≠ 66 → a ≠ 67 → a ≠ 68 → a ≠ 69 → q a = h a) → (∀ i, i < 4 → q 68 i = h 68 i ∧ q 69 i = h 69 i) → QB n q (qq_f (qb_f R O n d) p j b) → ∃ h2, ex 24 49 [mm_r 66, mm_r v, mm_i ((4 : Nat) : Int), mm_i (sd_f 4 p), mm_i j] [] q = some (none, h2) ∧ QB n h2 (qq_f (qb_f R O n d) p 5 b) ∧ (∀ a, a ≠ 66 → a ≠ 67 → a ≠ 68 → a ≠ 69 → h2 a = h a) ∧ ∀ i, i < 4 → h2 68 i = h 68 i ∧ h2 69 i = h 69 i
  | 0, j, q, hj, hq, hq8, hb => by
    refine ⟨q, ?_, by rw [show 5 = j by omega]; exact hb, hq, hq8⟩
    rw [sg_X4_choose_4_49 hV.1, if_pos (by omega)]
  | m + 1, j, q, hj, hq, hq8, hb => by
    have hn := hV.2.1.n
    have hsb := sd_b 4 p
    have z5 := z_d5 (p := p) (j := j) (by omega)
    have hv9 : ∀ a, v ≤ a → a ≤ v + 9 → a ≠ 66 ∧ a ≠ 67 ∧ a ≠ 68 ∧ a ≠ 69 := fun a h1 h2 => by have := hV.1; omega
    have e7 : mm_st q 68 4 j (71 + 4) j = O 4 j := by rw [z_sc _ _ (by decide), hq _ (by decide) (by decide) (by decide) (by decide)]; exact hO.2 4 j (by omega) (by omega)
    have hV2 : VL (mm_st (mm_st q 68 4 j) 69 4 (O 4 j)) v R := VL_up hV (fun a h1 h2 => by
      have z := hv9 a h1 h2
      rw [z_sc _ _ z.2.2.2, z_sc _ _ z.2.2.1]; exact hq a z.1 z.2.1 z.2.2.1 z.2.2.2)
    have hdg : ∀ i, i < 4 + 1 → mm_st (mm_st q 68 4 j) 69 4 (O 4 j) 68 i = dh_f (4 + 1) (5 * p + j) i ∧ mm_st (mm_st q 68 4 j) 69 4 (O 4 j) 69 i = tv_f O (4 + 1) (5 * p + j) i := fun i hi => by
      rw [dh_s, tv_s, z5.1, z5.2, z_sc (a := 69) (b := 68) _ _ (by decide)]
      by_cases e : i = 4
      · subst e; rw [if_pos rfl, if_pos rfl, z_se, z_se]; exact ⟨rfl, rfl⟩
      · rw [if_neg e, if_neg e, z_ss _ _ e, z_ss _ _ e, z_sc _ _ (by decide), (hq8 i (by omega)).1, (hq8 i (by omega)).2]; exact h78 i (by omega)
    have hme := X_meets (k := ((4 : Nat) : Int)) hV2 (Or.inr (Or.inr (Or.inl rfl))) (tv_SK hO.1 (4 + 1) (5 * p + j)) (fun i hi => (hdg i (by omega)).2)
    have e0 : ex 24 49 [mm_r 66, mm_r v, mm_i ((4 : Nat) : Int), mm_i (sd_f 4 p), mm_i j] [] q = ex 24 87 [mm_r 66, mm_r v, mm_i ((4 : Nat) : Int), mm_i (sd_f 4 p), mm_i j] [mm_i (me_f R (tv_f O (4 + 1) (5 * p + j)) ((4 : Nat) : Int) (R 1).toNat)] (mm_st (mm_st q 68 4 j) 69 4 (O 4 j)) := by
      rw [sg_X4_choose_4_49 hV.1, if_neg (by omega), if_pos (by omega), if_pos (by omega), Int.toNat_natCast, sg_X4_choose_4_74 hV.1 (by omega), if_pos (by omega), if_pos (by omega), Int.toNat_natCast, Int.toNat_natCast, e7]
      exact mm_bi hme rfl
    rw [e0, sg_X4_choose_4_87 hV.1]
    rcases me_1 (R := R) (S := tv_f O (4 + 1) (5 * p + j)) (k := ((4 : Nat) : Int)) (R 1).toNat with c | c
    · have hvj : vq_f R O (4 + 1) (5 * p + j) = true := by
        rw [vq_s, z5.1, hv, decide_eq_true c.1]; rfl
      have hsj : sd_f (4 + 1) (5 * p + j) = sd_f 4 p + j := by rw [sd_s, z5.1, z5.2]
      obtain ⟨h2, a1, a2, a3, a4⟩ := X_plan_5 v R O n d (5 * p + j) (mm_st (mm_st q 68 4 j) 69 4 (O 4 j)) (qq_f (qb_f R O n d) p j b) hV2 hR ⟨hO.1, fun i m h1 h2 => by
        rw [z_sc _ _ (by omega), z_sc _ _ (by omega), hq _ (by omega) (by omega) (by omega) (by omega)]; exact hO.2 i m h1 h2⟩ (by omega) hvj hdg ⟨by rw [z_sc _ _ (by decide), z_sc _ _ (by decide)]; exact hb.1, by rw [z_sc _ _ (by decide), z_sc _ _ (by decide)]; exact hb.2⟩
      have a1' : ex 25 0 [mm_r 66, mm_r v, mm_i (((4 : Nat) : Int) + 1), mm_i (sd_f (4 + 1) (5 * p + j)), mm_u] [] (mm_st (mm_st q 68 4 j) 69 4 (O 4 j)) = some (none, h2) := a1
      obtain ⟨h3, b1, b2⟩ := X_plan_l4 (b := b) hV hR hO hd hv h78 m (j + 1) h2 (by omega) (fun a h1 h2 h3 h4 => by rw [a3 a h1 h2 h3 h4, z_sc _ _ h4, z_sc _ _ h3]; exact hq a h1 h2 h3 h4) (fun i hi => by
        rw [(a4 i (by omega)).1, (a4 i (by omega)).2, z_sc (a := 69) (b := 68) _ _ (by decide), z_ss _ _ (by omega), z_ss _ _ (by omega), z_sc _ _ (by decide)]; exact hq8 i hi) a2
      refine ⟨h3, ?_, b2⟩
      rw [if_neg (by omega), z_add (by omega) (by omega), z_add (by omega) (by omega), ← hsj]
      refine mm_bi a1' ?_
      refine (sg_X4_choose_4_102 hV.1 _ _ _ h2).trans ?_
      rw [z_wr (by omega) (by omega)]
      exact b1
    · have hvj : vq_f R O (4 + 1) (5 * p + j) = false := by
        rw [vq_s, decide_eq_false (by rw [c.1]; decide), Bool.and_false]
      have ih := X_plan_l4 (b := b) hV hR hO hd hv h78 m (j + 1) (mm_st (mm_st q 68 4 j) 69 4 (O 4 j)) (by omega) (fun a h1 h2 h3 h4 => by rw [z_sc _ _ h4, z_sc _ _ h3]; exact hq a h1 h2 h3 h4) (fun i hi => by
        rw [z_sc (a := 69) (b := 68) _ _ (by decide), z_ss _ _ (by omega), z_ss _ _ (by omega), z_sc _ _ (by decide)]; exact hq8 i hi) (by
        rw [qq_s, qb_n d (4 + 1) _ _ (by omega) hvj]
        exact ⟨by rw [z_sc _ _ (by decide), z_sc _ _ (by decide)]; exact hb.1, by rw [z_sc _ _ (by decide), z_sc _ _ (by decide)]; exact hb.2⟩)
      rw [if_pos c.1, sg_X4_choose_4_102 hV.1, z_wr (by omega) (by omega)]
      exact ih
theorem X_plan_4 : CG 24 4 := by
  intro v R O n d p h b hV hR hO hd hv h78 hb
  have hn := hV.2.1.n
  have hsb := sd_b 4 p
  by_cases cn : n = 4
  · have e : n = 4 := by omega
    subst e
    have e2 : d = 0 := by omega
    subst e2
    by_cases c : b.1 = -4 ∨ sd_f 4 p < b.2
    · refine ⟨_, ?_, QB_leaf (R := R) (O := O) (b := b) (by omega) hv (fun i hi => (h78 i hi).1) c, fun a h1 h2 _ _ => by rw [z_un _ _ h2, z_sc _ _ h1], fun i _ => ⟨by rw [z_un _ _ (by decide), z_sc _ _ (by decide)], by rw [z_un _ _ (by decide), z_sc _ _ (by decide)]⟩⟩
      have go : ex 24 18 [mm_r 66, mm_r v, mm_i ((4 : Nat) : Int), mm_i (sd_f 4 p), mm_u] [] h = some (none, mm_up (mm_st h 66 0 (sd_f 4 p)) 67 (mm_cp ((mm_st h 66 0 (sd_f 4 p)) 68) ((mm_st h 66 0 (sd_f 4 p)) 67) 0 0 5)) := by
        rw [sg_X4_choose_4_18 hV.1, hV.2.2.2.1.1.1, if_neg (by omega)]
      rw [sg_X4_choose_4_0 hV.1, hb.1, go]
      by_cases c2 : b.2 = -4
      · rw [if_pos c2]
      · rw [if_neg c2, if_pos (by have := hb.2; omega)]
    · have e : qb_f R O 4 0 p b = b := if_neg (fun q => c q.2)
      refine ⟨h, ?_, by rw [e]; exact hb, fun _ _ _ _ _ => rfl, fun _ _ => ⟨rfl, rfl⟩⟩
      rw [sg_X4_choose_4_0 hV.1, hb.1, if_neg (by have := hb.2; omega), if_neg (by omega)]
  · obtain ⟨d, rfl⟩ : ∃ e, d = e + 1 := ⟨d - 1, by omega⟩
    by_cases c : b.1 = -4 ∨ sd_f 4 p < b.2
    · obtain ⟨h2, a1, a2, a3⟩ := X_plan_l4 (b := b) hV hR hO hd hv h78 5 0 h (by omega) (fun _ _ _ _ _ => rfl) (fun _ _ => ⟨rfl, rfl⟩) hb
      refine ⟨h2, ?_, by rw [qb_s]; exact a2, a3⟩
      have go : ex 24 18 [mm_r 66, mm_r v, mm_i ((4 : Nat) : Int), mm_i (sd_f 4 p), mm_u] [] h = some (none, h2) := by
        rw [sg_X4_choose_4_18 hV.1, hV.2.2.2.1.1.1, if_pos (by omega)]
        exact a1
      rw [sg_X4_choose_4_0 hV.1, hb.1, go]
      by_cases c2 : b.2 = -4
      · rw [if_pos c2]
      · rw [if_neg c2, if_pos (by have := hb.2; omega)]
    · refine ⟨h, ?_, by rw [qb_p (d + 1) 4 p b hd (by omega) (by omega)]; exact hb, fun _ _ _ _ _ => rfl, fun _ _ => ⟨rfl, rfl⟩⟩
      rw [sg_X4_choose_4_0 hV.1, hb.1, if_neg (by have := hb.2; omega), if_neg (by omega)]
theorem X_plan_l3 {v : Nat} {R : Nat → Int} {O : Nat → Nat → Int} {n d p : Nat} {h : mm_H} {b : Int × Int} (hV : VL h v R) (hR : R 0 = n) (hO : OK5 R O n h) (hd : 3 + (d + 1) = n) (hv : vq_f R O 3 p = true) (h78 : ∀ i, i < 3 → h 68 i = dh_f 3 p i ∧ h 69 i = tv_f O 3 p i) : ∀ (m j : Nat) (q : mm_H), j + m = 5 → (∀ a, a ≠ 66 → a ≠ 67 → a ≠ 68 → a ≠ 69 → q a = h a) → (∀ i, i < 3 → q 68 i = h 68 i ∧ q 69 i = h 69 i) → QB n q (qq_f (qb_f R O n d) p j b) → ∃ h2, ex 23 49 [mm_r 66, mm_r v, mm_i ((3 : Nat) : Int), mm_i (sd_f 3 p), mm_i j] [] q = some (none, h2) ∧ QB n h2 (qq_f (qb_f R O n d) p 5 b) ∧ (∀ a, a ≠ 66 → a ≠ 67 → a ≠ 68 → a ≠ 69 → h2 a = h a) ∧ ∀ i, i < 3 → h2 68 i = h 68 i ∧ h2 69 i = h 69 i
  | 0, j, q, hj, hq, hq8, hb => by
    refine ⟨q, ?_, by rw [show 5 = j by omega]; exact hb, hq, hq8⟩
    rw [sg_X4_choose_3_49 hV.1, if_pos (by omega)]
  | m + 1, j, q, hj, hq, hq8, hb => by
    have hn := hV.2.1.n
    have hsb := sd_b 3 p
    have z5 := z_d5 (p := p) (j := j) (by omega)
    have hv9 : ∀ a, v ≤ a → a ≤ v + 9 → a ≠ 66 ∧ a ≠ 67 ∧ a ≠ 68 ∧ a ≠ 69 := fun a h1 h2 => by have := hV.1; omega
    have e7 : mm_st q 68 3 j (71 + 3) j = O 3 j := by rw [z_sc _ _ (by decide), hq _ (by decide) (by decide) (by decide) (by decide)]; exact hO.2 3 j (by omega) (by omega)
    have hV2 : VL (mm_st (mm_st q 68 3 j) 69 3 (O 3 j)) v R := VL_up hV (fun a h1 h2 => by
      have z := hv9 a h1 h2
      rw [z_sc _ _ z.2.2.2, z_sc _ _ z.2.2.1]; exact hq a z.1 z.2.1 z.2.2.1 z.2.2.2)
    have hdg : ∀ i, i < 3 + 1 → mm_st (mm_st q 68 3 j) 69 3 (O 3 j) 68 i = dh_f (3 + 1) (5 * p + j) i ∧ mm_st (mm_st q 68 3 j) 69 3 (O 3 j) 69 i = tv_f O (3 + 1) (5 * p + j) i := fun i hi => by
      rw [dh_s, tv_s, z5.1, z5.2, z_sc (a := 69) (b := 68) _ _ (by decide)]
      by_cases e : i = 3
      · subst e; rw [if_pos rfl, if_pos rfl, z_se, z_se]; exact ⟨rfl, rfl⟩
      · rw [if_neg e, if_neg e, z_ss _ _ e, z_ss _ _ e, z_sc _ _ (by decide), (hq8 i (by omega)).1, (hq8 i (by omega)).2]; exact h78 i (by omega)
    have hme := X_meets (k := ((3 : Nat) : Int)) hV2 (Or.inr (Or.inr (Or.inl rfl))) (tv_SK hO.1 (3 + 1) (5 * p + j)) (fun i hi => (hdg i (by omega)).2)
    have e0 : ex 23 49 [mm_r 66, mm_r v, mm_i ((3 : Nat) : Int), mm_i (sd_f 3 p), mm_i j] [] q = ex 23 87 [mm_r 66, mm_r v, mm_i ((3 : Nat) : Int), mm_i (sd_f 3 p), mm_i j] [mm_i (me_f R (tv_f O (3 + 1) (5 * p + j)) ((3 : Nat) : Int) (R 1).toNat)] (mm_st (mm_st q 68 3 j) 69 3 (O 3 j)) := by
      rw [sg_X4_choose_3_49 hV.1, if_neg (by omega), if_pos (by omega), if_pos (by omega), Int.toNat_natCast, sg_X4_choose_3_74 hV.1 (by omega), if_pos (by omega), if_pos (by omega), Int.toNat_natCast, Int.toNat_natCast, e7]
      exact mm_bi hme rfl
    rw [e0, sg_X4_choose_3_87 hV.1]
    rcases me_1 (R := R) (S := tv_f O (3 + 1) (5 * p + j)) (k := ((3 : Nat) : Int)) (R 1).toNat with c | c
    · have hvj : vq_f R O (3 + 1) (5 * p + j) = true := by
        rw [vq_s, z5.1, hv, decide_eq_true c.1]; rfl
      have hsj : sd_f (3 + 1) (5 * p + j) = sd_f 3 p + j := by rw [sd_s, z5.1, z5.2]
      obtain ⟨h2, a1, a2, a3, a4⟩ := X_plan_4 v R O n d (5 * p + j) (mm_st (mm_st q 68 3 j) 69 3 (O 3 j)) (qq_f (qb_f R O n d) p j b) hV2 hR ⟨hO.1, fun i m h1 h2 => by
        rw [z_sc _ _ (by omega), z_sc _ _ (by omega), hq _ (by omega) (by omega) (by omega) (by omega)]; exact hO.2 i m h1 h2⟩ (by omega) hvj hdg ⟨by rw [z_sc _ _ (by decide), z_sc _ _ (by decide)]; exact hb.1, by rw [z_sc _ _ (by decide), z_sc _ _ (by decide)]; exact hb.2⟩
      have a1' : ex 24 0 [mm_r 66, mm_r v, mm_i (((3 : Nat) : Int) + 1), mm_i (sd_f (3 + 1) (5 * p + j)), mm_u] [] (mm_st (mm_st q 68 3 j) 69 3 (O 3 j)) = some (none, h2) := a1
      obtain ⟨h3, b1, b2⟩ := X_plan_l3 (b := b) hV hR hO hd hv h78 m (j + 1) h2 (by omega) (fun a h1 h2 h3 h4 => by rw [a3 a h1 h2 h3 h4, z_sc _ _ h4, z_sc _ _ h3]; exact hq a h1 h2 h3 h4) (fun i hi => by
        rw [(a4 i (by omega)).1, (a4 i (by omega)).2, z_sc (a := 69) (b := 68) _ _ (by decide), z_ss _ _ (by omega), z_ss _ _ (by omega), z_sc _ _ (by decide)]; exact hq8 i hi) a2
      refine ⟨h3, ?_, b2⟩
      rw [if_neg (by omega), z_add (by omega) (by omega), z_add (by omega) (by omega), ← hsj]
      refine mm_bi a1' ?_
      refine (sg_X4_choose_3_102 hV.1 _ _ _ h2).trans ?_
      rw [z_wr (by omega) (by omega)]
      exact b1
    · have hvj : vq_f R O (3 + 1) (5 * p + j) = false := by
        rw [vq_s, decide_eq_false (by rw [c.1]; decide), Bool.and_false]
      have ih := X_plan_l3 (b := b) hV hR hO hd hv h78 m (j + 1) (mm_st (mm_st q 68 3 j) 69 3 (O 3 j)) (by omega) (fun a h1 h2 h3 h4 => by rw [z_sc _ _ h4, z_sc _ _ h3]; exact hq a h1 h2 h3 h4) (fun i hi => by
        rw [z_sc (a := 69) (b := 68) _ _ (by decide), z_ss _ _ (by omega), z_ss _ _ (by omega), z_sc _ _ (by decide)]; exact hq8 i hi) (by
        rw [qq_s, qb_n d (3 + 1) _ _ (by omega) hvj]
        exact ⟨by rw [z_sc _ _ (by decide), z_sc _ _ (by decide)]; exact hb.1, by rw [z_sc _ _ (by decide), z_sc _ _ (by decide)]; exact hb.2⟩)
      rw [if_pos c.1, sg_X4_choose_3_102 hV.1, z_wr (by omega) (by omega)]
      exact ih
theorem X_plan_3 : CG 23 3 := by
  intro v R O n d p h b hV hR hO hd hv h78 hb
  have hn := hV.2.1.n
  have hsb := sd_b 3 p
  by_cases cn : n = 3
  · have e : n = 3 := by omega
    subst e
    have e2 : d = 0 := by omega
    subst e2
    by_cases c : b.1 = -4 ∨ sd_f 3 p < b.2
    · refine ⟨_, ?_, QB_leaf (R := R) (O := O) (b := b) (by omega) hv (fun i hi => (h78 i hi).1) c, fun a h1 h2 _ _ => by rw [z_un _ _ h2, z_sc _ _ h1], fun i _ => ⟨by rw [z_un _ _ (by decide), z_sc _ _ (by decide)], by rw [z_un _ _ (by decide), z_sc _ _ (by decide)]⟩⟩
      have go : ex 23 18 [mm_r 66, mm_r v, mm_i ((3 : Nat) : Int), mm_i (sd_f 3 p), mm_u] [] h = some (none, mm_up (mm_st h 66 0 (sd_f 3 p)) 67 (mm_cp ((mm_st h 66 0 (sd_f 3 p)) 68) ((mm_st h 66 0 (sd_f 3 p)) 67) 0 0 5)) := by
        rw [sg_X4_choose_3_18 hV.1, hV.2.2.2.1.1.1, if_neg (by omega)]
      rw [sg_X4_choose_3_0 hV.1, hb.1, go]
      by_cases c2 : b.2 = -4
      · rw [if_pos c2]
      · rw [if_neg c2, if_pos (by have := hb.2; omega)]
    · have e : qb_f R O 3 0 p b = b := if_neg (fun q => c q.2)
      refine ⟨h, ?_, by rw [e]; exact hb, fun _ _ _ _ _ => rfl, fun _ _ => ⟨rfl, rfl⟩⟩
      rw [sg_X4_choose_3_0 hV.1, hb.1, if_neg (by have := hb.2; omega), if_neg (by omega)]
  · obtain ⟨d, rfl⟩ : ∃ e, d = e + 1 := ⟨d - 1, by omega⟩
    by_cases c : b.1 = -4 ∨ sd_f 3 p < b.2
    · obtain ⟨h2, a1, a2, a3⟩ := X_plan_l3 (b := b) hV hR hO hd hv h78 5 0 h (by omega) (fun _ _ _ _ _ => rfl) (fun _ _ => ⟨rfl, rfl⟩) hb
      refine ⟨h2, ?_, by rw [qb_s]; exact a2, a3⟩
      have go : ex 23 18 [mm_r 66, mm_r v, mm_i ((3 : Nat) : Int), mm_i (sd_f 3 p), mm_u] [] h = some (none, h2) := by
        rw [sg_X4_choose_3_18 hV.1, hV.2.2.2.1.1.1, if_pos (by omega)]
        exact a1
      rw [sg_X4_choose_3_0 hV.1, hb.1, go]
      by_cases c2 : b.2 = -4
      · rw [if_pos c2]
      · rw [if_neg c2, if_pos (by have := hb.2; omega)]
    · refine ⟨h, ?_, by rw [qb_p (d + 1) 3 p b hd (by omega) (by omega)]; exact hb, fun _ _ _ _ _ => rfl, fun _ _ => ⟨rfl, rfl⟩⟩
      rw [sg_X4_choose_3_0 hV.1, hb.1, if_neg (by have := hb.2; omega), if_neg (by omega)]
theorem X_plan_l2 {v : Nat} {R : Nat → Int} {O : Nat → Nat → Int} {n d p : Nat} {h : mm_H} {b : Int × Int} (hV : VL h v R) (hR : R 0 = n) (hO : OK5 R O n h) (hd : 2 + (d + 1) = n) (hv : vq_f R O 2 p = true) (h78 : ∀ i, i < 2 → h 68 i = dh_f 2 p i ∧ h 69 i = tv_f O 2 p i) : ∀ (m j : Nat) (q : mm_H), j + m = 5 → (∀ a, a ≠ 66 → a ≠ 67 → a ≠ 68 → a ≠ 69 → q a = h a) → (∀ i, i < 2 → q 68 i = h 68 i ∧ q 69 i = h 69 i) → QB n q (qq_f (qb_f R O n d) p j b) → ∃ h2, ex 22 49 [mm_r 66, mm_r v, mm_i ((2 : Nat) : Int), mm_i (sd_f 2 p), mm_i j] [] q = some (none, h2) ∧ QB n h2 (qq_f (qb_f R O n d) p 5 b) ∧ (∀ a, a ≠ 66 → a ≠ 67 → a ≠ 68 → a ≠ 69 → h2 a = h a) ∧ ∀ i, i < 2 → h2 68 i = h 68 i ∧ h2 69 i = h 69 i
  | 0, j, q, hj, hq, hq8, hb => by
    refine ⟨q, ?_, by rw [show 5 = j by omega]; exact hb, hq, hq8⟩
    rw [sg_X4_choose_2_49 hV.1, if_pos (by omega)]
  | m + 1, j, q, hj, hq, hq8, hb => by
    have hn := hV.2.1.n
    have hsb := sd_b 2 p
    have z5 := z_d5 (p := p) (j := j) (by omega)
    have hv9 : ∀ a, v ≤ a → a ≤ v + 9 → a ≠ 66 ∧ a ≠ 67 ∧ a ≠ 68 ∧ a ≠ 69 := fun a h1 h2 => by have := hV.1; omega
    have e7 : mm_st q 68 2 j (71 + 2) j = O 2 j := by rw [z_sc _ _ (by decide), hq _ (by decide) (by decide) (by decide) (by decide)]; exact hO.2 2 j (by omega) (by omega)
    have hV2 : VL (mm_st (mm_st q 68 2 j) 69 2 (O 2 j)) v R := VL_up hV (fun a h1 h2 => by
      have z := hv9 a h1 h2
      rw [z_sc _ _ z.2.2.2, z_sc _ _ z.2.2.1]; exact hq a z.1 z.2.1 z.2.2.1 z.2.2.2)
    have hdg : ∀ i, i < 2 + 1 → mm_st (mm_st q 68 2 j) 69 2 (O 2 j) 68 i = dh_f (2 + 1) (5 * p + j) i ∧ mm_st (mm_st q 68 2 j) 69 2 (O 2 j) 69 i = tv_f O (2 + 1) (5 * p + j) i := fun i hi => by
      rw [dh_s, tv_s, z5.1, z5.2, z_sc (a := 69) (b := 68) _ _ (by decide)]
      by_cases e : i = 2
      · subst e; rw [if_pos rfl, if_pos rfl, z_se, z_se]; exact ⟨rfl, rfl⟩
      · rw [if_neg e, if_neg e, z_ss _ _ e, z_ss _ _ e, z_sc _ _ (by decide), (hq8 i (by omega)).1, (hq8 i (by omega)).2]; exact h78 i (by omega)
    have hme := X_meets (k := ((2 : Nat) : Int)) hV2 (Or.inr (Or.inr (Or.inl rfl))) (tv_SK hO.1 (2 + 1) (5 * p + j)) (fun i hi => (hdg i (by omega)).2)
    have e0 : ex 22 49 [mm_r 66, mm_r v, mm_i ((2 : Nat) : Int), mm_i (sd_f 2 p), mm_i j] [] q = ex 22 87 [mm_r 66, mm_r v, mm_i ((2 : Nat) : Int), mm_i (sd_f 2 p), mm_i j] [mm_i (me_f R (tv_f O (2 + 1) (5 * p + j)) ((2 : Nat) : Int) (R 1).toNat)] (mm_st (mm_st q 68 2 j) 69 2 (O 2 j)) := by
      rw [sg_X4_choose_2_49 hV.1, if_neg (by omega), if_pos (by omega), if_pos (by omega), Int.toNat_natCast, sg_X4_choose_2_74 hV.1 (by omega), if_pos (by omega), if_pos (by omega), Int.toNat_natCast, Int.toNat_natCast, e7]
      exact mm_bi hme rfl
    rw [e0, sg_X4_choose_2_87 hV.1]
    rcases me_1 (R := R) (S := tv_f O (2 + 1) (5 * p + j)) (k := ((2 : Nat) : Int)) (R 1).toNat with c | c
    · have hvj : vq_f R O (2 + 1) (5 * p + j) = true := by
        rw [vq_s, z5.1, hv, decide_eq_true c.1]; rfl
      have hsj : sd_f (2 + 1) (5 * p + j) = sd_f 2 p + j := by rw [sd_s, z5.1, z5.2]
      obtain ⟨h2, a1, a2, a3, a4⟩ := X_plan_3 v R O n d (5 * p + j) (mm_st (mm_st q 68 2 j) 69 2 (O 2 j)) (qq_f (qb_f R O n d) p j b) hV2 hR ⟨hO.1, fun i m h1 h2 => by
        rw [z_sc _ _ (by omega), z_sc _ _ (by omega), hq _ (by omega) (by omega) (by omega) (by omega)]; exact hO.2 i m h1 h2⟩ (by omega) hvj hdg ⟨by rw [z_sc _ _ (by decide), z_sc _ _ (by decide)]; exact hb.1, by rw [z_sc _ _ (by decide), z_sc _ _ (by decide)]; exact hb.2⟩
      have a1' : ex 23 0 [mm_r 66, mm_r v, mm_i (((2 : Nat) : Int) + 1), mm_i (sd_f (2 + 1) (5 * p + j)), mm_u] [] (mm_st (mm_st q 68 2 j) 69 2 (O 2 j)) = some (none, h2) := a1
      obtain ⟨h3, b1, b2⟩ := X_plan_l2 (b := b) hV hR hO hd hv h78 m (j + 1) h2 (by omega) (fun a h1 h2 h3 h4 => by rw [a3 a h1 h2 h3 h4, z_sc _ _ h4, z_sc _ _ h3]; exact hq a h1 h2 h3 h4) (fun i hi => by
        rw [(a4 i (by omega)).1, (a4 i (by omega)).2, z_sc (a := 69) (b := 68) _ _ (by decide), z_ss _ _ (by omega), z_ss _ _ (by omega), z_sc _ _ (by decide)]; exact hq8 i hi) a2
      refine ⟨h3, ?_, b2⟩
      rw [if_neg (by omega), z_add (by omega) (by omega), z_add (by omega) (by omega), ← hsj]
      refine mm_bi a1' ?_
      refine (sg_X4_choose_2_102 hV.1 _ _ _ h2).trans ?_
      rw [z_wr (by omega) (by omega)]
      exact b1
    · have hvj : vq_f R O (2 + 1) (5 * p + j) = false := by
        rw [vq_s, decide_eq_false (by rw [c.1]; decide), Bool.and_false]
      have ih := X_plan_l2 (b := b) hV hR hO hd hv h78 m (j + 1) (mm_st (mm_st q 68 2 j) 69 2 (O 2 j)) (by omega) (fun a h1 h2 h3 h4 => by rw [z_sc _ _ h4, z_sc _ _ h3]; exact hq a h1 h2 h3 h4) (fun i hi => by
        rw [z_sc (a := 69) (b := 68) _ _ (by decide), z_ss _ _ (by omega), z_ss _ _ (by omega), z_sc _ _ (by decide)]; exact hq8 i hi) (by
        rw [qq_s, qb_n d (2 + 1) _ _ (by omega) hvj]
        exact ⟨by rw [z_sc _ _ (by decide), z_sc _ _ (by decide)]; exact hb.1, by rw [z_sc _ _ (by decide), z_sc _ _ (by decide)]; exact hb.2⟩)
      rw [if_pos c.1, sg_X4_choose_2_102 hV.1, z_wr (by omega) (by omega)]
      exact ih
theorem X_plan_2 : CG 22 2 := by
  intro v R O n d p h b hV hR hO hd hv h78 hb
  have hn := hV.2.1.n
  have hsb := sd_b 2 p
  by_cases cn : n = 2
  · have e : n = 2 := by omega
    subst e
    have e2 : d = 0 := by omega
    subst e2
    by_cases c : b.1 = -4 ∨ sd_f 2 p < b.2
    · refine ⟨_, ?_, QB_leaf (R := R) (O := O) (b := b) (by omega) hv (fun i hi => (h78 i hi).1) c, fun a h1 h2 _ _ => by rw [z_un _ _ h2, z_sc _ _ h1], fun i _ => ⟨by rw [z_un _ _ (by decide), z_sc _ _ (by decide)], by rw [z_un _ _ (by decide), z_sc _ _ (by decide)]⟩⟩
      have go : ex 22 18 [mm_r 66, mm_r v, mm_i ((2 : Nat) : Int), mm_i (sd_f 2 p), mm_u] [] h = some (none, mm_up (mm_st h 66 0 (sd_f 2 p)) 67 (mm_cp ((mm_st h 66 0 (sd_f 2 p)) 68) ((mm_st h 66 0 (sd_f 2 p)) 67) 0 0 5)) := by
        rw [sg_X4_choose_2_18 hV.1, hV.2.2.2.1.1.1, if_neg (by omega)]
      rw [sg_X4_choose_2_0 hV.1, hb.1, go]
      by_cases c2 : b.2 = -4
      · rw [if_pos c2]
      · rw [if_neg c2, if_pos (by have := hb.2; omega)]
    · have e : qb_f R O 2 0 p b = b := if_neg (fun q => c q.2)
      refine ⟨h, ?_, by rw [e]; exact hb, fun _ _ _ _ _ => rfl, fun _ _ => ⟨rfl, rfl⟩⟩
      rw [sg_X4_choose_2_0 hV.1, hb.1, if_neg (by have := hb.2; omega), if_neg (by omega)]
  · obtain ⟨d, rfl⟩ : ∃ e, d = e + 1 := ⟨d - 1, by omega⟩
    by_cases c : b.1 = -4 ∨ sd_f 2 p < b.2
    · obtain ⟨h2, a1, a2, a3⟩ := X_plan_l2 (b := b) hV hR hO hd hv h78 5 0 h (by omega) (fun _ _ _ _ _ => rfl) (fun _ _ => ⟨rfl, rfl⟩) hb
      refine ⟨h2, ?_, by rw [qb_s]; exact a2, a3⟩
      have go : ex 22 18 [mm_r 66, mm_r v, mm_i ((2 : Nat) : Int), mm_i (sd_f 2 p), mm_u] [] h = some (none, h2) := by
        rw [sg_X4_choose_2_18 hV.1, hV.2.2.2.1.1.1, if_pos (by omega)]
        exact a1
      rw [sg_X4_choose_2_0 hV.1, hb.1, go]
      by_cases c2 : b.2 = -4
      · rw [if_pos c2]
      · rw [if_neg c2, if_pos (by have := hb.2; omega)]
    · refine ⟨h, ?_, by rw [qb_p (d + 1) 2 p b hd (by omega) (by omega)]; exact hb, fun _ _ _ _ _ => rfl, fun _ _ => ⟨rfl, rfl⟩⟩
      rw [sg_X4_choose_2_0 hV.1, hb.1, if_neg (by have := hb.2; omega), if_neg (by omega)]
theorem X_plan_l1 {v : Nat} {R : Nat → Int} {O : Nat → Nat → Int} {n d p : Nat} {h : mm_H} {b : Int × Int} (hV : VL h v R) (hR : R 0 = n) (hO : OK5 R O n h) (hd : 1 + (d + 1) = n) (hv : vq_f R O 1 p = true) (h78 : ∀ i, i < 1 → h 68 i = dh_f 1 p i ∧ h 69 i = tv_f O 1 p i) : ∀ (m j : Nat) (q : mm_H), j + m = 5 → (∀ a, a ≠ 66 → a ≠ 67 → a ≠ 68 → a ≠ 69 → q a = h a) → (∀ i, i < 1 → q 68 i = h 68 i ∧ q 69 i = h 69 i) → QB n q (qq_f (qb_f R O n d) p j b) → ∃ h2, ex 21 49 [mm_r 66, mm_r v, mm_i ((1 : Nat) : Int), mm_i (sd_f 1 p), mm_i j] [] q = some (none, h2) ∧ QB n h2 (qq_f (qb_f R O n d) p 5 b) ∧ (∀ a, a ≠ 66 → a ≠ 67 → a ≠ 68 → a ≠ 69 → h2 a = h a) ∧ ∀ i, i < 1 → h2 68 i = h 68 i ∧ h2 69 i = h 69 i
  | 0, j, q, hj, hq, hq8, hb => by
    refine ⟨q, ?_, by rw [show 5 = j by omega]; exact hb, hq, hq8⟩
    rw [sg_X4_choose_1_49 hV.1, if_pos (by omega)]
  | m + 1, j, q, hj, hq, hq8, hb => by
    have hn := hV.2.1.n
    have hsb := sd_b 1 p
    have z5 := z_d5 (p := p) (j := j) (by omega)
    have hv9 : ∀ a, v ≤ a → a ≤ v + 9 → a ≠ 66 ∧ a ≠ 67 ∧ a ≠ 68 ∧ a ≠ 69 := fun a h1 h2 => by have := hV.1; omega
    have e7 : mm_st q 68 1 j (71 + 1) j = O 1 j := by rw [z_sc _ _ (by decide), hq _ (by decide) (by decide) (by decide) (by decide)]; exact hO.2 1 j (by omega) (by omega)
    have hV2 : VL (mm_st (mm_st q 68 1 j) 69 1 (O 1 j)) v R := VL_up hV (fun a h1 h2 => by
      have z := hv9 a h1 h2
      rw [z_sc _ _ z.2.2.2, z_sc _ _ z.2.2.1]; exact hq a z.1 z.2.1 z.2.2.1 z.2.2.2)
    have hdg : ∀ i, i < 1 + 1 → mm_st (mm_st q 68 1 j) 69 1 (O 1 j) 68 i = dh_f (1 + 1) (5 * p + j) i ∧ mm_st (mm_st q 68 1 j) 69 1 (O 1 j) 69 i = tv_f O (1 + 1) (5 * p + j) i := fun i hi => by
      rw [dh_s, tv_s, z5.1, z5.2, z_sc (a := 69) (b := 68) _ _ (by decide)]
      by_cases e : i = 1
      · subst e; rw [if_pos rfl, if_pos rfl, z_se, z_se]; exact ⟨rfl, rfl⟩
      · rw [if_neg e, if_neg e, z_ss _ _ e, z_ss _ _ e, z_sc _ _ (by decide), (hq8 i (by omega)).1, (hq8 i (by omega)).2]; exact h78 i (by omega)
    have hme := X_meets (k := ((1 : Nat) : Int)) hV2 (Or.inr (Or.inr (Or.inl rfl))) (tv_SK hO.1 (1 + 1) (5 * p + j)) (fun i hi => (hdg i (by omega)).2)
    have e0 : ex 21 49 [mm_r 66, mm_r v, mm_i ((1 : Nat) : Int), mm_i (sd_f 1 p), mm_i j] [] q = ex 21 87 [mm_r 66, mm_r v, mm_i ((1 : Nat) : Int), mm_i (sd_f 1 p), mm_i j] [mm_i (me_f R (tv_f O (1 + 1) (5 * p + j)) ((1 : Nat) : Int) (R 1).toNat)] (mm_st (mm_st q 68 1 j) 69 1 (O 1 j)) := by
      rw [sg_X4_choose_1_49 hV.1, if_neg (by omega), if_pos (by omega), if_pos (by omega), Int.toNat_natCast, sg_X4_choose_1_74 hV.1 (by omega), if_pos (by omega), if_pos (by omega), Int.toNat_natCast, Int.toNat_natCast, e7]
      exact mm_bi hme rfl
    rw [e0, sg_X4_choose_1_87 hV.1]
    rcases me_1 (R := R) (S := tv_f O (1 + 1) (5 * p + j)) (k := ((1 : Nat) : Int)) (R 1).toNat with c | c
    · have hvj : vq_f R O (1 + 1) (5 * p + j) = true := by
        rw [vq_s, z5.1, hv, decide_eq_true c.1]; rfl
      have hsj : sd_f (1 + 1) (5 * p + j) = sd_f 1 p + j := by rw [sd_s, z5.1, z5.2]
      obtain ⟨h2, a1, a2, a3, a4⟩ := X_plan_2 v R O n d (5 * p + j) (mm_st (mm_st q 68 1 j) 69 1 (O 1 j)) (qq_f (qb_f R O n d) p j b) hV2 hR ⟨hO.1, fun i m h1 h2 => by
        rw [z_sc _ _ (by omega), z_sc _ _ (by omega), hq _ (by omega) (by omega) (by omega) (by omega)]; exact hO.2 i m h1 h2⟩ (by omega) hvj hdg ⟨by rw [z_sc _ _ (by decide), z_sc _ _ (by decide)]; exact hb.1, by rw [z_sc _ _ (by decide), z_sc _ _ (by decide)]; exact hb.2⟩
      have a1' : ex 22 0 [mm_r 66, mm_r v, mm_i (((1 : Nat) : Int) + 1), mm_i (sd_f (1 + 1) (5 * p + j)), mm_u] [] (mm_st (mm_st q 68 1 j) 69 1 (O 1 j)) = some (none, h2) := a1
      obtain ⟨h3, b1, b2⟩ := X_plan_l1 (b := b) hV hR hO hd hv h78 m (j + 1) h2 (by omega) (fun a h1 h2 h3 h4 => by rw [a3 a h1 h2 h3 h4, z_sc _ _ h4, z_sc _ _ h3]; exact hq a h1 h2 h3 h4) (fun i hi => by
        rw [(a4 i (by omega)).1, (a4 i (by omega)).2, z_sc (a := 69) (b := 68) _ _ (by decide), z_ss _ _ (by omega), z_ss _ _ (by omega), z_sc _ _ (by decide)]; exact hq8 i hi) a2
      refine ⟨h3, ?_, b2⟩
      rw [if_neg (by omega), z_add (by omega) (by omega), z_add (by omega) (by omega), ← hsj]
      refine mm_bi a1' ?_
      refine (sg_X4_choose_1_102 hV.1 _ _ _ h2).trans ?_
      rw [z_wr (by omega) (by omega)]
      exact b1
    · have hvj : vq_f R O (1 + 1) (5 * p + j) = false := by
        rw [vq_s, decide_eq_false (by rw [c.1]; decide), Bool.and_false]
      have ih := X_plan_l1 (b := b) hV hR hO hd hv h78 m (j + 1) (mm_st (mm_st q 68 1 j) 69 1 (O 1 j)) (by omega) (fun a h1 h2 h3 h4 => by rw [z_sc _ _ h4, z_sc _ _ h3]; exact hq a h1 h2 h3 h4) (fun i hi => by
        rw [z_sc (a := 69) (b := 68) _ _ (by decide), z_ss _ _ (by omega), z_ss _ _ (by omega), z_sc _ _ (by decide)]; exact hq8 i hi) (by
        rw [qq_s, qb_n d (1 + 1) _ _ (by omega) hvj]
        exact ⟨by rw [z_sc _ _ (by decide), z_sc _ _ (by decide)]; exact hb.1, by rw [z_sc _ _ (by decide), z_sc _ _ (by decide)]; exact hb.2⟩)
      rw [if_pos c.1, sg_X4_choose_1_102 hV.1, z_wr (by omega) (by omega)]
      exact ih
theorem X_plan_1 : CG 21 1 := by
  intro v R O n d p h b hV hR hO hd hv h78 hb
  have hn := hV.2.1.n
  have hsb := sd_b 1 p
  by_cases cn : n = 1
  · have e : n = 1 := by omega
    subst e
    have e2 : d = 0 := by omega
    subst e2
    by_cases c : b.1 = -4 ∨ sd_f 1 p < b.2
    · refine ⟨_, ?_, QB_leaf (R := R) (O := O) (b := b) (by omega) hv (fun i hi => (h78 i hi).1) c, fun a h1 h2 _ _ => by rw [z_un _ _ h2, z_sc _ _ h1], fun i _ => ⟨by rw [z_un _ _ (by decide), z_sc _ _ (by decide)], by rw [z_un _ _ (by decide), z_sc _ _ (by decide)]⟩⟩
      have go : ex 21 18 [mm_r 66, mm_r v, mm_i ((1 : Nat) : Int), mm_i (sd_f 1 p), mm_u] [] h = some (none, mm_up (mm_st h 66 0 (sd_f 1 p)) 67 (mm_cp ((mm_st h 66 0 (sd_f 1 p)) 68) ((mm_st h 66 0 (sd_f 1 p)) 67) 0 0 5)) := by
        rw [sg_X4_choose_1_18 hV.1, hV.2.2.2.1.1.1, if_neg (by omega)]
      rw [sg_X4_choose_1_0 hV.1, hb.1, go]
      by_cases c2 : b.2 = -4
      · rw [if_pos c2]
      · rw [if_neg c2, if_pos (by have := hb.2; omega)]
    · have e : qb_f R O 1 0 p b = b := if_neg (fun q => c q.2)
      refine ⟨h, ?_, by rw [e]; exact hb, fun _ _ _ _ _ => rfl, fun _ _ => ⟨rfl, rfl⟩⟩
      rw [sg_X4_choose_1_0 hV.1, hb.1, if_neg (by have := hb.2; omega), if_neg (by omega)]
  · obtain ⟨d, rfl⟩ : ∃ e, d = e + 1 := ⟨d - 1, by omega⟩
    by_cases c : b.1 = -4 ∨ sd_f 1 p < b.2
    · obtain ⟨h2, a1, a2, a3⟩ := X_plan_l1 (b := b) hV hR hO hd hv h78 5 0 h (by omega) (fun _ _ _ _ _ => rfl) (fun _ _ => ⟨rfl, rfl⟩) hb
      refine ⟨h2, ?_, by rw [qb_s]; exact a2, a3⟩
      have go : ex 21 18 [mm_r 66, mm_r v, mm_i ((1 : Nat) : Int), mm_i (sd_f 1 p), mm_u] [] h = some (none, h2) := by
        rw [sg_X4_choose_1_18 hV.1, hV.2.2.2.1.1.1, if_pos (by omega)]
        exact a1
      rw [sg_X4_choose_1_0 hV.1, hb.1, go]
      by_cases c2 : b.2 = -4
      · rw [if_pos c2]
      · rw [if_neg c2, if_pos (by have := hb.2; omega)]
    · refine ⟨h, ?_, by rw [qb_p (d + 1) 1 p b hd (by omega) (by omega)]; exact hb, fun _ _ _ _ _ => rfl, fun _ _ => ⟨rfl, rfl⟩⟩
      rw [sg_X4_choose_1_0 hV.1, hb.1, if_neg (by have := hb.2; omega), if_neg (by omega)]
theorem X_plan_l0 {v : Nat} {R : Nat → Int} {O : Nat → Nat → Int} {n d p : Nat} {h : mm_H} {b : Int × Int} (hV : VL h v R) (hR : R 0 = n) (hO : OK5 R O n h) (hd : 0 + (d + 1) = n) (hv : vq_f R O 0 p = true) (h78 : ∀ i, i < 0 → h 68 i = dh_f 0 p i ∧ h 69 i = tv_f O 0 p i) : ∀ (m j : Nat) (q : mm_H), j + m = 5 → (∀ a, a ≠ 66 → a ≠ 67 → a ≠ 68 → a ≠ 69 → q a = h a) → (∀ i, i < 0 → q 68 i = h 68 i ∧ q 69 i = h 69 i) → QB n q (qq_f (qb_f R O n d) p j b) → ∃ h2, ex 20 49 [mm_r 66, mm_r v, mm_i ((0 : Nat) : Int), mm_i (sd_f 0 p), mm_i j] [] q = some (none, h2) ∧ QB n h2 (qq_f (qb_f R O n d) p 5 b) ∧ (∀ a, a ≠ 66 → a ≠ 67 → a ≠ 68 → a ≠ 69 → h2 a = h a) ∧ ∀ i, i < 0 → h2 68 i = h 68 i ∧ h2 69 i = h 69 i
  | 0, j, q, hj, hq, hq8, hb => by
    refine ⟨q, ?_, by rw [show 5 = j by omega]; exact hb, hq, hq8⟩
    rw [sg_X4_choose_0_49 hV.1, if_pos (by omega)]
  | m + 1, j, q, hj, hq, hq8, hb => by
    have hn := hV.2.1.n
    have hsb := sd_b 0 p
    have z5 := z_d5 (p := p) (j := j) (by omega)
    have hv9 : ∀ a, v ≤ a → a ≤ v + 9 → a ≠ 66 ∧ a ≠ 67 ∧ a ≠ 68 ∧ a ≠ 69 := fun a h1 h2 => by have := hV.1; omega
    have e7 : mm_st q 68 0 j (71 + 0) j = O 0 j := by rw [z_sc _ _ (by decide), hq _ (by decide) (by decide) (by decide) (by decide)]; exact hO.2 0 j (by omega) (by omega)
    have hV2 : VL (mm_st (mm_st q 68 0 j) 69 0 (O 0 j)) v R := VL_up hV (fun a h1 h2 => by
      have z := hv9 a h1 h2
      rw [z_sc _ _ z.2.2.2, z_sc _ _ z.2.2.1]; exact hq a z.1 z.2.1 z.2.2.1 z.2.2.2)
    have hdg : ∀ i, i < 0 + 1 → mm_st (mm_st q 68 0 j) 69 0 (O 0 j) 68 i = dh_f (0 + 1) (5 * p + j) i ∧ mm_st (mm_st q 68 0 j) 69 0 (O 0 j) 69 i = tv_f O (0 + 1) (5 * p + j) i := fun i hi => by
      rw [dh_s, tv_s, z5.1, z5.2, z_sc (a := 69) (b := 68) _ _ (by decide)]
      by_cases e : i = 0
      · subst e; rw [if_pos rfl, if_pos rfl, z_se, z_se]; exact ⟨rfl, rfl⟩
      · rw [if_neg e, if_neg e, z_ss _ _ e, z_ss _ _ e, z_sc _ _ (by decide), (hq8 i (by omega)).1, (hq8 i (by omega)).2]; exact h78 i (by omega)
    have hme := X_meets (k := ((0 : Nat) : Int)) hV2 (Or.inr (Or.inr (Or.inl rfl))) (tv_SK hO.1 (0 + 1) (5 * p + j)) (fun i hi => (hdg i (by omega)).2)
    have e0 : ex 20 49 [mm_r 66, mm_r v, mm_i ((0 : Nat) : Int), mm_i (sd_f 0 p), mm_i j] [] q = ex 20 87 [mm_r 66, mm_r v, mm_i ((0 : Nat) : Int), mm_i (sd_f 0 p), mm_i j] [mm_i (me_f R (tv_f O (0 + 1) (5 * p + j)) ((0 : Nat) : Int) (R 1).toNat)] (mm_st (mm_st q 68 0 j) 69 0 (O 0 j)) := by
      rw [sg_X4_choose_0_49 hV.1, if_neg (by omega), if_pos (by omega), if_pos (by omega), Int.toNat_natCast, sg_X4_choose_0_74 hV.1 (by omega), if_pos (by omega), if_pos (by omega), Int.toNat_natCast, Int.toNat_natCast, e7]
      exact mm_bi hme rfl
    rw [e0, sg_X4_choose_0_87 hV.1]
    rcases me_1 (R := R) (S := tv_f O (0 + 1) (5 * p + j)) (k := ((0 : Nat) : Int)) (R 1).toNat with c | c
    · have hvj : vq_f R O (0 + 1) (5 * p + j) = true := by
        rw [vq_s, z5.1, hv, decide_eq_true c.1]; rfl
      have hsj : sd_f (0 + 1) (5 * p + j) = sd_f 0 p + j := by rw [sd_s, z5.1, z5.2]
      obtain ⟨h2, a1, a2, a3, a4⟩ := X_plan_1 v R O n d (5 * p + j) (mm_st (mm_st q 68 0 j) 69 0 (O 0 j)) (qq_f (qb_f R O n d) p j b) hV2 hR ⟨hO.1, fun i m h1 h2 => by
        rw [z_sc _ _ (by omega), z_sc _ _ (by omega), hq _ (by omega) (by omega) (by omega) (by omega)]; exact hO.2 i m h1 h2⟩ (by omega) hvj hdg ⟨by rw [z_sc _ _ (by decide), z_sc _ _ (by decide)]; exact hb.1, by rw [z_sc _ _ (by decide), z_sc _ _ (by decide)]; exact hb.2⟩
      have a1' : ex 21 0 [mm_r 66, mm_r v, mm_i (((0 : Nat) : Int) + 1), mm_i (sd_f (0 + 1) (5 * p + j)), mm_u] [] (mm_st (mm_st q 68 0 j) 69 0 (O 0 j)) = some (none, h2) := a1
      obtain ⟨h3, b1, b2⟩ := X_plan_l0 (b := b) hV hR hO hd hv h78 m (j + 1) h2 (by omega) (fun a h1 h2 h3 h4 => by rw [a3 a h1 h2 h3 h4, z_sc _ _ h4, z_sc _ _ h3]; exact hq a h1 h2 h3 h4) (fun i hi => by
        rw [(a4 i (by omega)).1, (a4 i (by omega)).2, z_sc (a := 69) (b := 68) _ _ (by decide), z_ss _ _ (by omega), z_ss _ _ (by omega), z_sc _ _ (by decide)]; exact hq8 i hi) a2
      refine ⟨h3, ?_, b2⟩
      rw [if_neg (by omega), z_add (by omega) (by omega), z_add (by omega) (by omega), ← hsj]
      refine mm_bi a1' ?_
      refine (sg_X4_choose_0_102 hV.1 _ _ _ h2).trans ?_
      rw [z_wr (by omega) (by omega)]
      exact b1
    · have hvj : vq_f R O (0 + 1) (5 * p + j) = false := by
        rw [vq_s, decide_eq_false (by rw [c.1]; decide), Bool.and_false]
      have ih := X_plan_l0 (b := b) hV hR hO hd hv h78 m (j + 1) (mm_st (mm_st q 68 0 j) 69 0 (O 0 j)) (by omega) (fun a h1 h2 h3 h4 => by rw [z_sc _ _ h4, z_sc _ _ h3]; exact hq a h1 h2 h3 h4) (fun i hi => by
        rw [z_sc (a := 69) (b := 68) _ _ (by decide), z_ss _ _ (by omega), z_ss _ _ (by omega), z_sc _ _ (by decide)]; exact hq8 i hi) (by
        rw [qq_s, qb_n d (0 + 1) _ _ (by omega) hvj]
        exact ⟨by rw [z_sc _ _ (by decide), z_sc _ _ (by decide)]; exact hb.1, by rw [z_sc _ _ (by decide), z_sc _ _ (by decide)]; exact hb.2⟩)
      rw [if_pos c.1, sg_X4_choose_0_102 hV.1, z_wr (by omega) (by omega)]
      exact ih
theorem X_plan_0 : CG 20 0 := by
  intro v R O n d p h b hV hR hO hd hv h78 hb
  have hn := hV.2.1.n
  have hsb := sd_b 0 p
  by_cases cn : n = 0
  · have e : n = 0 := by omega
    subst e
    have e2 : d = 0 := by omega
    subst e2
    by_cases c : b.1 = -4 ∨ sd_f 0 p < b.2
    · refine ⟨_, ?_, QB_leaf (R := R) (O := O) (b := b) (by omega) hv (fun i hi => (h78 i hi).1) c, fun a h1 h2 _ _ => by rw [z_un _ _ h2, z_sc _ _ h1], fun i _ => ⟨by rw [z_un _ _ (by decide), z_sc _ _ (by decide)], by rw [z_un _ _ (by decide), z_sc _ _ (by decide)]⟩⟩
      have go : ex 20 18 [mm_r 66, mm_r v, mm_i ((0 : Nat) : Int), mm_i (sd_f 0 p), mm_u] [] h = some (none, mm_up (mm_st h 66 0 (sd_f 0 p)) 67 (mm_cp ((mm_st h 66 0 (sd_f 0 p)) 68) ((mm_st h 66 0 (sd_f 0 p)) 67) 0 0 5)) := by
        rw [sg_X4_choose_0_18 hV.1, hV.2.2.2.1.1.1, if_neg (by omega)]
      rw [sg_X4_choose_0_0 hV.1, hb.1, go]
      by_cases c2 : b.2 = -4
      · rw [if_pos c2]
      · rw [if_neg c2, if_pos (by have := hb.2; omega)]
    · have e : qb_f R O 0 0 p b = b := if_neg (fun q => c q.2)
      refine ⟨h, ?_, by rw [e]; exact hb, fun _ _ _ _ _ => rfl, fun _ _ => ⟨rfl, rfl⟩⟩
      rw [sg_X4_choose_0_0 hV.1, hb.1, if_neg (by have := hb.2; omega), if_neg (by omega)]
  · obtain ⟨d, rfl⟩ : ∃ e, d = e + 1 := ⟨d - 1, by omega⟩
    by_cases c : b.1 = -4 ∨ sd_f 0 p < b.2
    · obtain ⟨h2, a1, a2, a3⟩ := X_plan_l0 (b := b) hV hR hO hd hv h78 5 0 h (by omega) (fun _ _ _ _ _ => rfl) (fun _ _ => ⟨rfl, rfl⟩) hb
      refine ⟨h2, ?_, by rw [qb_s]; exact a2, a3⟩
      have go : ex 20 18 [mm_r 66, mm_r v, mm_i ((0 : Nat) : Int), mm_i (sd_f 0 p), mm_u] [] h = some (none, h2) := by
        rw [sg_X4_choose_0_18 hV.1, hV.2.2.2.1.1.1, if_pos (by omega)]
        exact a1
      rw [sg_X4_choose_0_0 hV.1, hb.1, go]
      by_cases c2 : b.2 = -4
      · rw [if_pos c2]
      · rw [if_neg c2, if_pos (by have := hb.2; omega)]
    · refine ⟨h, ?_, by rw [qb_p (d + 1) 0 p b hd (by omega) (by omega)]; exact hb, fun _ _ _ _ _ => rfl, fun _ _ => ⟨rfl, rfl⟩⟩
      rw [sg_X4_choose_0_0 hV.1, hb.1, if_neg (by have := hb.2; omega), if_neg (by omega)]
