/-! ===== the first text, as the class reads it (by wip/gen/first.py) ===== -/
def gv : mm_H := fun a k => if a = 1 then tx_f k else if a = 0 then (if k = 1 then 78 else 0) else 0
theorem gv_1 : gv 1 = tx_f := rfl
theorem gv_0 : gv 0 1 = 78 := rfl
theorem tx_b : ∀ j, j < 78 → 32 ≤ tx_f j ∧ tx_f j ≤ 126 := by decide +kernel
theorem X_item {k : mm_H} {v : Nat} {R R2 : Nat → Int} {p w c i q : Int} {l4 l5 : mm_V} (hx : TX k gv) (hD : DR k v R) (hp : 0 ≤ p ∧ p < 78) (k3 : k 3 1 = p) (hi : 0 ≤ i ∧ i < 200) (hc : tx_f p.toNat = c) (hw : IW c w) (hr : rp_f tx_f 78 w (p + 1) w.toNat = some q) (ht : ∀ k1 : mm_H, DR k1 v R → (∀ j, j < w.toNat → k1 4 j = xn_f tx_f 78 w (p + 1) j) → ∃ k2, ex 50 0 [mm_r v, mm_i c, mm_r 4] [] k1 = some (some (mm_i 1), k2) ∧ DR k2 v R2 ∧ ∀ x, (x < v ∨ v + 7 < x) → k2 x = k1 x) : ∃ k2, ex 33 11 [mm_r 3, mm_r 1, mm_r v, mm_i i, l4, l5] [] k = ex 33 11 [mm_r 3, mm_r 1, mm_r v, mm_i (i + 1), mm_i p, mm_i c] [] k2 ∧ DR k2 v R2 ∧ k2 3 1 = q ∧ FK v k k2 := by
  have hv := hD.1
  have hw2 : 1 ≤ w ∧ w ≤ 4 := by unfold IW at hw; omega
  obtain ⟨k1, x1, x2, x3⟩ := X_readNumbers hx (p := p) (by omega) k3 hw2
  rw [gv_1, gv_0, hr] at x1 x3
  obtain ⟨x4, x5⟩ := x3 (by simp)
  have e31 : k1 3 1 = q := (Option.some.inj x4).symm
  obtain ⟨k2, t1, t2, t3⟩ := ht k1 (DR_up hD (fun a h1 h2 => x2 a (by omega) (by omega))) x5
  refine ⟨k2, ?_, t2, (congrFun (t3 3 (by omega)) 1).trans e31, fun a h1 h2 h3 => (t3 a h3).trans (x2 a h1 h2)⟩
  rw [sg_X6_read_11 hv, if_pos (by omega)]
  refine mm_bi (X_txLen k) ?_
  refine (sg_X6_read_26 hv _ _ _ _ _ k).trans ?_
  have e11 : k 1 1 = 78 := hx.1
  rw [e11, k3, if_pos (by omega)]
  refine mm_bi (X_letter hx (by omega)) ?_
  have el : lt_f (gv 1) (gv 0 1) p 0 = c := by
    unfold lt_f
    rw [gv_1, gv_0, if_pos (by omega)]; exact hc
  rw [el]
  refine (sg_X6_read_41 hv _ _ _ _ k).trans ?_
  refine mm_bi (X_nBehind hw k) ?_
  refine (sg_X6_read_50 hv _ _ _ _ k).trans ?_
  refine mm_bi x1 ?_
  refine (sg_X6_read_53 hv _ _ _ _ k1).trans ?_
  rw [if_neg (by simp)]
  refine mm_bi t1 ?_
  refine (sg_X6_read_66 hv _ _ _ _ k2).trans ?_
  rw [if_neg (by decide), z_wr (by omega) (by omega)]
theorem it_rope {k1 : mm_H} {v : Nat} {R : Nat → Int} {N : Nat → Int} {a b c d : Int} (h1 : DR k1 v R) (hN : ∀ j, j < (4 : Int).toNat → k1 4 j = N j) (e0 : N 0 = a) (e1 : N 1 = b) (e2 : N 2 = c) (e3 : N 3 = d) (ha : 0 ≤ a) (hc : 0 ≤ c) (hd : 0 ≤ d) (hg : RG R a b c d) : ∃ k2, ex 50 0 [mm_r v, mm_i 114, mm_r 4] [] k1 = some (some (mm_i 1), k2) ∧ DR k2 v (rr_f R a b c d) ∧ ∀ x, (x < v ∨ v + 7 < x) → k2 x = k1 x := by
  obtain ⟨k2, a1, a2, a3⟩ := X_takeRope_t h1 ha hc hd hg
  refine ⟨k2, ?_, a2, a3⟩
  rw [sg_X9_take_0 h1.1, if_neg (by decide), if_neg (by decide), if_neg (by decide), if_pos rfl, hN 0 (by decide), hN 1 (by decide), hN 2 (by decide), hN 3 (by decide), e0, e1, e2, e3]
  refine mm_bi a1 ?_
  exact (sg_X9_take_68 h1.1 _ _ k2).trans (if_pos (Or.inr rfl))
theorem it_want {k1 : mm_H} {v : Nat} {R : Nat → Int} {N : Nat → Int} {a b : Int} (h1 : DR k1 v R) (hN : ∀ j, j < (2 : Int).toNat → k1 4 j = N j) (e0 : N 0 = a) (e1 : N 1 = b) (ha : 0 ≤ a) (hb : 0 ≤ b) (hg : R 1 < 8 ∧ a < 24 ∧ b ≤ 3) : ∃ k2, ex 50 0 [mm_r v, mm_i 119, mm_r 4] [] k1 = some (some (mm_i 1), k2) ∧ DR k2 v (rw_f R a b) ∧ ∀ x, (x < v ∨ v + 7 < x) → k2 x = k1 x := by
  obtain ⟨k2, a1, a2, a3⟩ := X_takeWant_t h1 ha hb hg
  refine ⟨k2, ?_, a2, a3⟩
  rw [sg_X9_take_0 h1.1, if_neg (by decide), if_neg (by decide), if_neg (by decide), if_neg (by decide), if_pos rfl, hN 0 (by decide), hN 1 (by decide), e0, e1]
  refine mm_bi a1 ?_
  exact (sg_X9_take_79 h1.1 _ _ k2).trans (if_pos (Or.inr rfl))
theorem it_man {k1 : mm_H} {v : Nat} {R : Nat → Int} {N : Nat → Int} {a : Int} (h1 : DR k1 v R) (hN : ∀ j, j < (1 : Int).toNat → k1 4 j = N j) (e0 : N 0 = a) (ha : 0 ≤ a) (hg : R 2 < 6 ∧ a < 24) : ∃ k2, ex 50 0 [mm_r v, mm_i 109, mm_r 4] [] k1 = some (some (mm_i 1), k2) ∧ DR k2 v (rm_f R a) ∧ ∀ x, (x < v ∨ v + 7 < x) → k2 x = k1 x := by
  obtain ⟨k2, a1, a2, a3⟩ := X_takeMan_t h1 ha hg
  refine ⟨k2, ?_, a2, a3⟩
  rw [sg_X9_take_0 h1.1, if_neg (by decide), if_neg (by decide), if_pos rfl, hN 0 (by decide), e0]
  refine mm_bi a1 ?_
  exact (sg_X9_take_87 h1.1 _ _ k2).trans (if_pos (Or.inr rfl))
theorem it_price {k1 : mm_H} {v : Nat} {R : Nat → Int} {N : Nat → Int} {a b : Int} (h1 : DR k1 v R) (hN : ∀ j, j < (2 : Int).toNat → k1 4 j = N j) (e0 : N 0 = a) (e1 : N 1 = b) (ha : 0 ≤ a) (hb : 0 ≤ b) (hg : a ≤ 9 ∧ b ≤ 9) : ∃ k2, ex 50 0 [mm_r v, mm_i 99, mm_r 4] [] k1 = some (some (mm_i 1), k2) ∧ DR k2 v (rc_f R a b) ∧ ∀ x, (x < v ∨ v + 7 < x) → k2 x = k1 x := by
  obtain ⟨k2, a1, a2, a3⟩ := X_takePrices_t h1 ha hb hg
  refine ⟨k2, ?_, a2, a3⟩
  rw [sg_X9_take_0 h1.1, if_neg (by decide), if_pos rfl, hN 0 (by decide), hN 1 (by decide), e0, e1]
  refine mm_bi a1 ?_
  exact (sg_X9_take_98 h1.1 _ _ k2).trans (if_pos (Or.inr rfl))
def fr_0 : Nat → Int := fun j => if j = 3 then 1 else if j = 4 then 2 else 0
def fr_1 : Nat → Int := rr_f fr_0 2 3 0 0
theorem fg_0 : RG fr_0 2 3 0 0 := by
  refine ⟨by decide +kernel, by decide, ⟨by decide, by decide⟩, by decide, by decide, fun k hk => ?_⟩
  have e : fr_0 0 = 0 := by decide +kernel
  rw [e] at hk
  omega
theorem fp_r0 : rp_f tx_f 78 4 (0 + 1) (4 : Int).toNat = some 9 := by decide +kernel
theorem fp_n0_0 : xn_f tx_f 78 4 (0 + 1) 0 = 2 := by decide +kernel
theorem fp_n0_1 : xn_f tx_f 78 4 (0 + 1) 1 = 3 := by decide +kernel
theorem fp_n0_2 : xn_f tx_f 78 4 (0 + 1) 2 = 0 := by decide +kernel
theorem fp_n0_3 : xn_f tx_f 78 4 (0 + 1) 3 = 0 := by decide +kernel
def fr_2 : Nat → Int := rr_f fr_1 9 2 2 4
theorem fg_1 : RG fr_1 9 2 2 4 := by
  refine ⟨by decide +kernel, by decide, ⟨by decide, by decide⟩, by decide, by decide, fun k hk => ?_⟩
  have e : fr_1 0 = 1 := by decide +kernel
  rw [e] at hk
  rcases (show k = 0 by omega) with rfl
  · decide +kernel
theorem fp_r1 : rp_f tx_f 78 4 (9 + 1) (4 : Int).toNat = some 18 := by decide +kernel
theorem fp_n1_0 : xn_f tx_f 78 4 (9 + 1) 0 = 9 := by decide +kernel
theorem fp_n1_1 : xn_f tx_f 78 4 (9 + 1) 1 = 2 := by decide +kernel
theorem fp_n1_2 : xn_f tx_f 78 4 (9 + 1) 2 = 2 := by decide +kernel
theorem fp_n1_3 : xn_f tx_f 78 4 (9 + 1) 3 = 4 := by decide +kernel
def fr_3 : Nat → Int := rr_f fr_2 15 4 1 0
theorem fg_2 : RG fr_2 15 4 1 0 := by
  refine ⟨by decide +kernel, by decide, ⟨by decide, by decide⟩, by decide, by decide, fun k hk => ?_⟩
  have e : fr_2 0 = 2 := by decide +kernel
  rw [e] at hk
  rcases (show k = 0 ∨ k = 1 by omega) with rfl | rfl
  · decide +kernel
  · decide +kernel
theorem fp_r2 : rp_f tx_f 78 4 (18 + 1) (4 : Int).toNat = some 28 := by decide +kernel
theorem fp_n2_0 : xn_f tx_f 78 4 (18 + 1) 0 = 15 := by decide +kernel
theorem fp_n2_1 : xn_f tx_f 78 4 (18 + 1) 1 = 4 := by decide +kernel
theorem fp_n2_2 : xn_f tx_f 78 4 (18 + 1) 2 = 1 := by decide +kernel
theorem fp_n2_3 : xn_f tx_f 78 4 (18 + 1) 3 = 0 := by decide +kernel
def fr_4 : Nat → Int := rr_f fr_3 21 5 3 6
theorem fg_3 : RG fr_3 21 5 3 6 := by
  refine ⟨by decide +kernel, by decide, ⟨by decide, by decide⟩, by decide, by decide, fun k hk => ?_⟩
  have e : fr_3 0 = 3 := by decide +kernel
  rw [e] at hk
  rcases (show k = 0 ∨ k = 1 ∨ k = 2 by omega) with rfl | rfl | rfl
  · decide +kernel
  · decide +kernel
  · decide +kernel
theorem fp_r3 : rp_f tx_f 78 4 (28 + 1) (4 : Int).toNat = some 38 := by decide +kernel
theorem fp_n3_0 : xn_f tx_f 78 4 (28 + 1) 0 = 21 := by decide +kernel
theorem fp_n3_1 : xn_f tx_f 78 4 (28 + 1) 1 = 5 := by decide +kernel
theorem fp_n3_2 : xn_f tx_f 78 4 (28 + 1) 2 = 3 := by decide +kernel
theorem fp_n3_3 : xn_f tx_f 78 4 (28 + 1) 3 = 6 := by decide +kernel
def fr_5 : Nat → Int := rw_f fr_4 4 1
theorem fg_4 : fr_4 1 < 8 ∧ (4 : Int) < 24 ∧ (1 : Int) ≤ 3 := by decide +kernel
theorem fp_r4 : rp_f tx_f 78 2 (38 + 1) (2 : Int).toNat = some 43 := by decide +kernel
theorem fp_n4_0 : xn_f tx_f 78 2 (38 + 1) 0 = 4 := by decide +kernel
theorem fp_n4_1 : xn_f tx_f 78 2 (38 + 1) 1 = 1 := by decide +kernel
def fr_6 : Nat → Int := rw_f fr_5 10 2
theorem fg_5 : fr_5 1 < 8 ∧ (10 : Int) < 24 ∧ (2 : Int) ≤ 3 := by decide +kernel
theorem fp_r5 : rp_f tx_f 78 2 (43 + 1) (2 : Int).toNat = some 49 := by decide +kernel
theorem fp_n5_0 : xn_f tx_f 78 2 (43 + 1) 0 = 10 := by decide +kernel
theorem fp_n5_1 : xn_f tx_f 78 2 (43 + 1) 1 = 2 := by decide +kernel
def fr_7 : Nat → Int := rw_f fr_6 20 0
theorem fg_6 : fr_6 1 < 8 ∧ (20 : Int) < 24 ∧ (0 : Int) ≤ 3 := by decide +kernel
theorem fp_r6 : rp_f tx_f 78 2 (49 + 1) (2 : Int).toNat = some 55 := by decide +kernel
theorem fp_n6_0 : xn_f tx_f 78 2 (49 + 1) 0 = 20 := by decide +kernel
theorem fp_n6_1 : xn_f tx_f 78 2 (49 + 1) 1 = 0 := by decide +kernel
def fr_8 : Nat → Int := rm_f fr_7 0
theorem fg_7 : fr_7 2 < 6 ∧ (0 : Int) < 24 := by decide +kernel
theorem fp_r7 : rp_f tx_f 78 1 (55 + 1) (1 : Int).toNat = some 58 := by decide +kernel
theorem fp_n7_0 : xn_f tx_f 78 1 (55 + 1) 0 = 0 := by decide +kernel
def fr_9 : Nat → Int := rm_f fr_8 8
theorem fg_8 : fr_8 2 < 6 ∧ (8 : Int) < 24 := by decide +kernel
theorem fp_r8 : rp_f tx_f 78 1 (58 + 1) (1 : Int).toNat = some 61 := by decide +kernel
theorem fp_n8_0 : xn_f tx_f 78 1 (58 + 1) 0 = 8 := by decide +kernel
def fr_10 : Nat → Int := rm_f fr_9 12
theorem fg_9 : fr_9 2 < 6 ∧ (12 : Int) < 24 := by decide +kernel
theorem fp_r9 : rp_f tx_f 78 1 (61 + 1) (1 : Int).toNat = some 65 := by decide +kernel
theorem fp_n9_0 : xn_f tx_f 78 1 (61 + 1) 0 = 12 := by decide +kernel
def fr_11 : Nat → Int := rm_f fr_10 23
theorem fg_10 : fr_10 2 < 6 ∧ (23 : Int) < 24 := by decide +kernel
theorem fp_r10 : rp_f tx_f 78 1 (65 + 1) (1 : Int).toNat = some 69 := by decide +kernel
theorem fp_n10_0 : xn_f tx_f 78 1 (65 + 1) 0 = 23 := by decide +kernel
def fr_12 : Nat → Int := rm_f fr_11 16
theorem fg_11 : fr_11 2 < 6 ∧ (16 : Int) < 24 := by decide +kernel
theorem fp_r11 : rp_f tx_f 78 1 (69 + 1) (1 : Int).toNat = some 73 := by decide +kernel
theorem fp_n11_0 : xn_f tx_f 78 1 (69 + 1) 0 = 16 := by decide +kernel
def fr_13 : Nat → Int := rc_f fr_12 1 2
theorem fg_12 : (1 : Int) ≤ 9 ∧ (2 : Int) ≤ 9 := by decide
theorem fp_r12 : rp_f tx_f 78 2 (73 + 1) (2 : Int).toNat = some 78 := by decide +kernel
theorem fp_n12_0 : xn_f tx_f 78 2 (73 + 1) 0 = 1 := by decide +kernel
theorem fp_n12_1 : xn_f tx_f 78 2 (73 + 1) 1 = 2 := by decide +kernel
/-- the class reads the first text -/
theorem X_first {k : mm_H} {v : Nat} (hv : v = 5 ∨ v = 15) (hx : TX k gv) : ∃ k2, ex 33 0 [mm_r 3, mm_r 1, mm_r v, mm_u, mm_u, mm_u] [] k = some (some (mm_i (-4)), k2) ∧ DR k2 v fr_13 ∧ NB k2 v fr_13 ∧ ∀ a, a ≠ 3 → a ≠ 4 → (a < v ∨ v + 9 < a) → k2 a = k a := by
  obtain ⟨k0, x1, x2, x3⟩ := X_clear hv (R := fr_0) (fun j _ h3 h4 => by unfold fr_0; rw [if_neg h3, if_neg h4]) rfl rfl k
  have y0 : FK v k (mm_st k0 3 1 0) := fun a h1 h2 h3 => (z_sc _ _ h1).trans (x2 a (by omega))
  have d0 : DR (mm_st k0 3 1 0) v fr_0 := DR_up x3 (fun a h1 h2 => z_sc _ _ (by omega))
  have t0 : TX (mm_st k0 3 1 0) gv := FK_3 hv y0 hx
  have p0 : (mm_st k0 3 1 0) 3 1 = 0 := z_se _ _ _ _
  obtain ⟨k1, e1, d1, p1, f1⟩ := X_item (l4 := mm_u) (l5 := mm_u) (p := 0) (w := 4) (c := 114) (i := 0) (R2 := fr_1) t0 d0 (by decide) p0 (by decide) (by decide +kernel) (Or.inr (Or.inr (Or.inl ⟨rfl, rfl⟩))) fp_r0 (fun k1 h1 hN => it_rope (N := xn_f tx_f 78 4 (0 + 1)) h1 hN fp_n0_0 fp_n0_1 fp_n0_2 fp_n0_3 (by decide) (by decide) (by decide) fg_0)
  have t1 := FK_3 hv f1 t0
  have y1 := FK_t y0 f1
  obtain ⟨k2, e2, d2, p2, f2⟩ := X_item (l4 := mm_i 0) (l5 := mm_i 114) (p := 9) (w := 4) (c := 114) (i := 1) (R2 := fr_2) t1 d1 (by decide) p1 (by decide) (by decide +kernel) (Or.inr (Or.inr (Or.inl ⟨rfl, rfl⟩))) fp_r1 (fun k1 h1 hN => it_rope (N := xn_f tx_f 78 4 (9 + 1)) h1 hN fp_n1_0 fp_n1_1 fp_n1_2 fp_n1_3 (by decide) (by decide) (by decide) fg_1)
  have t2 := FK_3 hv f2 t1
  have y2 := FK_t y1 f2
  obtain ⟨k3, e3, d3, p3, f3⟩ := X_item (l4 := mm_i 9) (l5 := mm_i 114) (p := 18) (w := 4) (c := 114) (i := 2) (R2 := fr_3) t2 d2 (by decide) p2 (by decide) (by decide +kernel) (Or.inr (Or.inr (Or.inl ⟨rfl, rfl⟩))) fp_r2 (fun k1 h1 hN => it_rope (N := xn_f tx_f 78 4 (18 + 1)) h1 hN fp_n2_0 fp_n2_1 fp_n2_2 fp_n2_3 (by decide) (by decide) (by decide) fg_2)
  have t3 := FK_3 hv f3 t2
  have y3 := FK_t y2 f3
  obtain ⟨k4, e4, d4, p4, f4⟩ := X_item (l4 := mm_i 18) (l5 := mm_i 114) (p := 28) (w := 4) (c := 114) (i := 3) (R2 := fr_4) t3 d3 (by decide) p3 (by decide) (by decide +kernel) (Or.inr (Or.inr (Or.inl ⟨rfl, rfl⟩))) fp_r3 (fun k1 h1 hN => it_rope (N := xn_f tx_f 78 4 (28 + 1)) h1 hN fp_n3_0 fp_n3_1 fp_n3_2 fp_n3_3 (by decide) (by decide) (by decide) fg_3)
  have t4 := FK_3 hv f4 t3
  have y4 := FK_t y3 f4
  obtain ⟨k5, e5, d5, p5, f5⟩ := X_item (l4 := mm_i 28) (l5 := mm_i 114) (p := 38) (w := 2) (c := 119) (i := 4) (R2 := fr_5) t4 d4 (by decide) p4 (by decide) (by decide +kernel) (Or.inr (Or.inr (Or.inr ⟨rfl, rfl⟩))) fp_r4 (fun k1 h1 hN => it_want (N := xn_f tx_f 78 2 (38 + 1)) h1 hN fp_n4_0 fp_n4_1 (by decide) (by decide) fg_4)
  have t5 := FK_3 hv f5 t4
  have y5 := FK_t y4 f5
  obtain ⟨k6, e6, d6, p6, f6⟩ := X_item (l4 := mm_i 38) (l5 := mm_i 119) (p := 43) (w := 2) (c := 119) (i := 5) (R2 := fr_6) t5 d5 (by decide) p5 (by decide) (by decide +kernel) (Or.inr (Or.inr (Or.inr ⟨rfl, rfl⟩))) fp_r5 (fun k1 h1 hN => it_want (N := xn_f tx_f 78 2 (43 + 1)) h1 hN fp_n5_0 fp_n5_1 (by decide) (by decide) fg_5)
  have t6 := FK_3 hv f6 t5
  have y6 := FK_t y5 f6
  obtain ⟨k7, e7, d7, p7, f7⟩ := X_item (l4 := mm_i 43) (l5 := mm_i 119) (p := 49) (w := 2) (c := 119) (i := 6) (R2 := fr_7) t6 d6 (by decide) p6 (by decide) (by decide +kernel) (Or.inr (Or.inr (Or.inr ⟨rfl, rfl⟩))) fp_r6 (fun k1 h1 hN => it_want (N := xn_f tx_f 78 2 (49 + 1)) h1 hN fp_n6_0 fp_n6_1 (by decide) (by decide) fg_6)
  have t7 := FK_3 hv f7 t6
  have y7 := FK_t y6 f7
  obtain ⟨k8, e8, d8, p8, f8⟩ := X_item (l4 := mm_i 49) (l5 := mm_i 119) (p := 55) (w := 1) (c := 109) (i := 7) (R2 := fr_8) t7 d7 (by decide) p7 (by decide) (by decide +kernel) (Or.inr (Or.inl ⟨rfl, rfl⟩)) fp_r7 (fun k1 h1 hN => it_man (N := xn_f tx_f 78 1 (55 + 1)) h1 hN fp_n7_0 (by decide) fg_7)
  have t8 := FK_3 hv f8 t7
  have y8 := FK_t y7 f8
  obtain ⟨k9, e9, d9, p9, f9⟩ := X_item (l4 := mm_i 55) (l5 := mm_i 109) (p := 58) (w := 1) (c := 109) (i := 8) (R2 := fr_9) t8 d8 (by decide) p8 (by decide) (by decide +kernel) (Or.inr (Or.inl ⟨rfl, rfl⟩)) fp_r8 (fun k1 h1 hN => it_man (N := xn_f tx_f 78 1 (58 + 1)) h1 hN fp_n8_0 (by decide) fg_8)
  have t9 := FK_3 hv f9 t8
  have y9 := FK_t y8 f9
  obtain ⟨k10, e10, d10, p10, f10⟩ := X_item (l4 := mm_i 58) (l5 := mm_i 109) (p := 61) (w := 1) (c := 109) (i := 9) (R2 := fr_10) t9 d9 (by decide) p9 (by decide) (by decide +kernel) (Or.inr (Or.inl ⟨rfl, rfl⟩)) fp_r9 (fun k1 h1 hN => it_man (N := xn_f tx_f 78 1 (61 + 1)) h1 hN fp_n9_0 (by decide) fg_9)
  have t10 := FK_3 hv f10 t9
  have y10 := FK_t y9 f10
  obtain ⟨k11, e11, d11, p11, f11⟩ := X_item (l4 := mm_i 61) (l5 := mm_i 109) (p := 65) (w := 1) (c := 109) (i := 10) (R2 := fr_11) t10 d10 (by decide) p10 (by decide) (by decide +kernel) (Or.inr (Or.inl ⟨rfl, rfl⟩)) fp_r10 (fun k1 h1 hN => it_man (N := xn_f tx_f 78 1 (65 + 1)) h1 hN fp_n10_0 (by decide) fg_10)
  have t11 := FK_3 hv f11 t10
  have y11 := FK_t y10 f11
  obtain ⟨k12, e12, d12, p12, f12⟩ := X_item (l4 := mm_i 65) (l5 := mm_i 109) (p := 69) (w := 1) (c := 109) (i := 11) (R2 := fr_12) t11 d11 (by decide) p11 (by decide) (by decide +kernel) (Or.inr (Or.inl ⟨rfl, rfl⟩)) fp_r11 (fun k1 h1 hN => it_man (N := xn_f tx_f 78 1 (69 + 1)) h1 hN fp_n11_0 (by decide) fg_11)
  have t12 := FK_3 hv f12 t11
  have y12 := FK_t y11 f12
  obtain ⟨k13, e13, d13, p13, f13⟩ := X_item (l4 := mm_i 69) (l5 := mm_i 109) (p := 73) (w := 2) (c := 99) (i := 12) (R2 := fr_13) t12 d12 (by decide) p12 (by decide) (by decide +kernel) (Or.inl ⟨rfl, rfl⟩) fp_r12 (fun k1 h1 hN => it_price (N := xn_f tx_f 78 2 (73 + 1)) h1 hN fp_n12_0 fp_n12_1 (by decide) (by decide) fg_12)
  have t13 := FK_3 hv f13 t12
  have y13 := FK_t y12 f13
  obtain ⟨k2, a1, a2, a3⟩ := X_findNeighbours d13
  refine ⟨k2, ?_, DR_up d13 (fun a h1 h2 => a2 a (by omega) (by omega)), a3 (by decide +kernel), fun a h1 h2 h3 => (a2 a (by omega) (by omega)).trans (y13 a h1 h2 (by omega))⟩
  rw [sg_X6_read_0 hv]
  refine mm_bi x1 ?_
  refine (sg_X6_read_4 hv k0).trans ?_
  have en : ex 33 11 [mm_r 3, mm_r 1, mm_r v, mm_i 13, mm_i 73, mm_i 99] [] k13 = some (some (mm_i (-4)), k2) := by
    rw [sg_X6_read_11 hv, if_pos (by decide)]
    refine mm_bi (X_txLen k13) ?_
    refine (sg_X6_read_26 hv _ _ _ _ _ k13).trans ?_
    have e11 : k13 1 1 = 78 := t13.1
    rw [e11, p13, if_neg (by decide), sg_X6_read_78 hv]
    refine mm_bi a1 ?_
    exact sg_X6_read_82 hv _ _ _ k2
  exact e1.trans (e2.trans (e3.trans (e4.trans (e5.trans (e6.trans (e7.trans (e8.trans (e9.trans (e10.trans (e11.trans (e12.trans (e13.trans en))))))))))))
/-- the class, made -/
def hX0 : mm_H := fun a k => if a = 0 then (if k = 2 then 5 else if k = 3 then 15 else 0) else if a = 5 then (if k = 10 then 1 else if k = 11 then 2 else 0) else if a = 15 then (if k = 10 then 1 else if k = 11 then 2 else 0) else if a = 29 then (if k < 8 then 30 + 3 * k else 0) else if a = 55 then (if k < 2 then 56 + 3 * k else 0) else if a = 66 then (if k = 0 then -4 else 0) else if a = 76 then (if k = 0 then -4 else 0) else 0
theorem hX0_ok : mm_okH hX0 := by
  intro a k
  unfold mm_in hX0
  repeat' split
  all_goals omega
def IX (h : mm_H) : Prop := (h 0 2 = 5 ∧ h 0 3 = 15) ∧ DR h 5 fr_13 ∧ NB h 5 fr_13 ∧ h 1 1 = 0 ∧ ((∀ k, k < 5 → h 26 k = h (5 + 4) k ∧ h 27 k = h (5 + 3) k) ∧ h 25 2 = 0 ∧ h 25 3 = 0) ∧ (h 28 1 = 0 ∧ h 54 1 = 0 ∧ h 79 2 = 0) ∧ ((∀ i : Nat, i < 8 → ∃ d : Nat, h 29 i = d ∧ uk_p d) ∧ (∀ i j : Nat, i < j → j < 8 → h 29 i ≠ h 29 j)) ∧ ((∀ i : Nat, i < 2 → ∃ d : Nat, h 55 i = d ∧ kk_p d) ∧ (∀ i j : Nat, i < j → j < 2 → h 55 i ≠ h 55 j))
/-- the text being written -/
def TK (k : Nat) (h : mm_H) : Prop := (∀ a, a ≠ 1 → a ≠ 2 → h a = hX0 a) ∧ h 1 1 = k ∧ (∀ j, j < k → h 2 j = tx_f j) ∧ mm_okH h
theorem TK_0 : TK 0 hX0 := ⟨fun _ _ _ => rfl, rfl, fun j hj => absurd hj (Nat.not_lt_zero j), hX0_ok⟩
theorem TK_s {k : Nat} {h : mm_H} (hk : k < 78) (q : TK k h) : ∃ h2, ex 45 0 [mm_r 1, mm_i (tx_f k)] [] h = some (none, h2) ∧ (mm_okH h2 → TK (k + 1) h2) := by
  obtain ⟨q1, q2, q3, q4⟩ := q
  have b := tx_b k hk
  refine ⟨mm_st (mm_st h 2 k (tx_f k)) 1 1 (k + 1), ?_, fun ho => ⟨fun a h1 h2 => by rw [z_sc _ _ h1, z_sc _ _ h2]; exact q1 a h1 h2, z_se _ _ _ _, fun j hj => ?_, ho⟩⟩
  · rw [sg_X8_add_0, q2, if_pos (by omega), if_pos (by omega), z_sc _ _ (by decide), q2, z_add (by omega) (by omega), Int.toNat_natCast, sg_X8_add_30]
  · rw [z_sc _ _ (by decide)]
    by_cases e : j = k
    · rw [e, z_se]
    · rw [z_ss _ _ e]; exact q3 j (by omega)
theorem TK_TX {h : mm_H} (q : TK 78 h) : TX h gv := ⟨q.2.1, by rw [gv_0]; omega, fun j hj => by
  rw [gv_0] at hj
  rw [gv_1, q.2.2.1 j (by omega)]
  exact ⟨rfl, tx_b j (by omega)⟩⟩
theorem IX_of {h h2 h3 : mm_H} (q : TK 78 h) (r1 : DR h2 5 fr_13) (r2 : NB h2 5 fr_13) (r3 : ∀ a, a ≠ 3 → a ≠ 4 → (a < 5 ∨ 5 + 9 < a) → h2 a = h a) (b1 : ∀ a, a ≠ 25 → a ≠ 26 → a ≠ 27 → h3 a = h2 a) (b2 : ∀ k, k < 5 → h3 26 k = h2 (5 + 4) k ∧ h3 27 k = h2 (5 + 3) k) (b3 : h3 25 2 = 0 ∧ h3 25 3 = 0) : IX (mm_st h3 1 1 0) := by
  have e : ∀ a, a ≠ 1 → a ≠ 2 → a ≠ 3 → a ≠ 4 → (a < 5 ∨ 14 < a) → a ≠ 25 → a ≠ 26 → a ≠ 27 → (mm_st h3 1 1 0) a = hX0 a := fun a z1 z2 z3 z4 z5 z6 z7 z8 => by
    rw [z_sc _ _ z1, b1 a z6 z7 z8, r3 a z3 z4 (by omega), q.1 a z1 z2]
  have e2 : ∀ a, a ≠ 1 → a ≠ 25 → a ≠ 26 → a ≠ 27 → (mm_st h3 1 1 0) a = h2 a := fun a z1 z6 z7 z8 => by
    rw [z_sc _ _ z1, b1 a z6 z7 z8]
  have e0 := e 0 (by decide) (by decide) (by decide) (by decide) (by decide) (by decide) (by decide) (by decide)
  have e28 := e 28 (by decide) (by decide) (by decide) (by decide) (by decide) (by decide) (by decide) (by decide)
  have e54 := e 54 (by decide) (by decide) (by decide) (by decide) (by decide) (by decide) (by decide) (by decide)
  have e79 := e 79 (by decide) (by decide) (by decide) (by decide) (by decide) (by decide) (by decide) (by decide)
  have e29 := e 29 (by decide) (by decide) (by decide) (by decide) (by decide) (by decide) (by decide) (by decide)
  have e55 := e 55 (by decide) (by decide) (by decide) (by decide) (by decide) (by decide) (by decide) (by decide)
  refine ⟨⟨?_, ?_⟩, DR_up r1 (fun a h1 h2 => e2 a (by omega) (by omega) (by omega) (by omega)), NB_up r2 (fun a h1 h2 => e2 a (by omega) (by omega) (by omega) (by omega)), z_se _ _ _ _, ⟨fun k hk => ?_, ?_, ?_⟩, ⟨?_, ?_, ?_⟩, ⟨?_, ?_⟩, ⟨?_, ?_⟩⟩
  · rw [e0]; rfl
  · rw [e0]; rfl
  · rw [z_sc _ _ (by decide), z_sc _ _ (by decide), z_sc _ _ (by decide), z_sc _ _ (by decide), b1 (5 + 4) (by decide) (by decide) (by decide), b1 (5 + 3) (by decide) (by decide) (by decide)]
    exact b2 k hk
  · rw [z_sc _ _ (by decide)]; exact b3.1
  · rw [z_sc _ _ (by decide)]; exact b3.2
  · rw [e28]; rfl
  · rw [e54]; rfl
  · rw [e79]; rfl
  · intro i hi
    rw [e29]
    refine ⟨30 + 3 * i, ?_, ?_⟩
    · show (if i < 8 then (30 + 3 * (i : Int)) else 0) = _
      rw [if_pos hi]; omega
    · unfold uk_p; omega
  · intro i j hi hj
    rw [e29]
    show (if i < 8 then (30 + 3 * (i : Int)) else 0) ≠ (if j < 8 then (30 + 3 * (j : Int)) else 0)
    rw [if_pos (by omega), if_pos hj]; omega
  · intro i hi
    rw [e55]
    refine ⟨56 + 3 * i, ?_, ?_⟩
    · show (if i < 2 then (56 + 3 * (i : Int)) else 0) = _
      rw [if_pos hi]; omega
    · unfold kk_p; omega
  · intro i j hi hj
    rw [e55]
    show (if i < 2 then (56 + 3 * (i : Int)) else 0) ≠ (if j < 2 then (56 + 3 * (j : Int)) else 0)
    rw [if_pos (by omega), if_pos hj]; omega
/-! the model, made -/
theorem rr_c {R R2 : Nat → Int} (e : ∀ j, j < 47 → R j = R2 j) (h : 0 ≤ R 0) (a b c d : Int) : ∀ j, j < 47 → rr_f R a b c d j = rr_f R2 a b c d j := by
  obtain ⟨n, hn⟩ : ∃ n : Nat, R 0 = n := ⟨(R 0).toNat, by omega⟩
  intro j hj
  rw [rr_e hn, rr_e (n := n) ((e 0 (by decide)).symm.trans hn), e 0 (by decide), e j hj]
theorem rw_c {R R2 : Nat → Int} (e : ∀ j, j < 47 → R j = R2 j) (h : 0 ≤ R 1) (a b : Int) : ∀ j, j < 47 → rw_f R a b j = rw_f R2 a b j := by
  obtain ⟨n, hn⟩ : ∃ n : Nat, R 1 = n := ⟨(R 1).toNat, by omega⟩
  intro j hj
  rw [rw_e hn, rw_e (n := n) ((e 1 (by decide)).symm.trans hn), e 1 (by decide), e j hj]
theorem rm_c {R R2 : Nat → Int} (e : ∀ j, j < 47 → R j = R2 j) (h : 0 ≤ R 2) (a : Int) : ∀ j, j < 47 → rm_f R a j = rm_f R2 a j := by
  obtain ⟨n, hn⟩ : ∃ n : Nat, R 2 = n := ⟨(R 2).toNat, by omega⟩
  intro j hj
  rw [rm_e hn, rm_e (n := n) ((e 2 (by decide)).symm.trans hn), e 2 (by decide), e j hj]
theorem fr_12_13 : ∀ j, j < 47 → fr_13 j = fr_12 j := by decide +kernel
/-- a draft of the model -/
def MQ_d (q : mm_H) (R : Nat → Int) : Prop := (∀ j, j < 47 → q 3 j = R j) ∧ (∀ j, j ≠ 0 → q 0 j = 0) ∧ mm_okH q
theorem md_b {q : mm_H} (h : ∀ j, j ≠ 0 → q 0 j = 0) : ∃ q2, em 11 0 [mm_r 0, mm_u] [] q = some (none, q2) ∧ (mm_okH q2 → MQ_d q2 fr_0) := by
  obtain ⟨q2, m1, m2, m3, m4, m5⟩ := M_begins q
  refine ⟨q2, m1, fun ho => ⟨fun j hj => ?_, fun j hj => by rw [m2 0 (by decide)]; exact h j hj, ho⟩⟩
  unfold fr_0
  by_cases c3 : j = 3
  · rw [if_pos c3, c3]; exact m4
  · rw [if_neg c3]
    by_cases c4 : j = 4
    · rw [if_pos c4, c4]; exact m5
    · rw [if_neg c4]; exact m3 j hj c3 c4
theorem md_r {q : mm_H} {R : Nat → Int} (h : MQ_d q R) (hR : 0 ≤ R 0 ∧ R 0 < 5) (a b c d : Int) : ∃ q2, em 12 0 [mm_r 0, mm_i a, mm_i b, mm_i c, mm_i d, mm_u] [] q = some (none, q2) ∧ (mm_okH q2 → MQ_d q2 (rr_f R a b c d)) := by
  have e0 := h.1 0 (by decide)
  obtain ⟨q2, m1, m2, m3⟩ := M_ropeOf (q := q) (by rw [e0]; exact hR) a b c d
  exact ⟨q2, m1, fun ho => ⟨fun j hj => by rw [m2]; exact rr_c h.1 (by omega) a b c d j hj, fun j hj => by rw [m3 0 (by decide)]; exact h.2.1 j hj, ho⟩⟩
theorem md_w {q : mm_H} {R : Nat → Int} (h : MQ_d q R) (hR : 0 ≤ R 1 ∧ R 1 < 8) (a b : Int) : ∃ q2, em 13 0 [mm_r 0, mm_i a, mm_i b] [] q = some (none, q2) ∧ (mm_okH q2 → MQ_d q2 (rw_f R a b)) := by
  have e0 := h.1 1 (by decide)
  obtain ⟨q2, m1, m2, m3⟩ := M_wantOf (q := q) (by rw [e0]; exact hR) a b
  exact ⟨q2, m1, fun ho => ⟨fun j hj => by rw [m2]; exact rw_c h.1 (by omega) a b j hj, fun j hj => by rw [m3 0 (by decide)]; exact h.2.1 j hj, ho⟩⟩
theorem md_m {q : mm_H} {R : Nat → Int} (h : MQ_d q R) (hR : 0 ≤ R 2 ∧ R 2 < 6) (a : Int) : ∃ q2, em 14 0 [mm_r 0, mm_i a] [] q = some (none, q2) ∧ (mm_okH q2 → MQ_d q2 (rm_f R a)) := by
  have e0 := h.1 2 (by decide)
  obtain ⟨q2, m1, m2, m3⟩ := M_manOf (q := q) (by rw [e0]; exact hR) a
  exact ⟨q2, m1, fun ho => ⟨fun j hj => by rw [m2]; exact rm_c h.1 (by omega) a j hj, fun j hj => by rw [m3 0 (by decide)]; exact h.2.1 j hj, ho⟩⟩
def IM (g : mm_H) : Prop := (∀ j, j < 47 → g 2 j = fr_12 j) ∧ ((∀ k, k < 5 → g 4 k = fr_12 (20 + k) ∧ g 4 (5 + k) = fr_12 (15 + k)) ∧ g 4 10 = 0 ∧ g 4 11 = 0) ∧ (g 0 6 = 0 ∧ g 0 8 = 0 ∧ g 0 10 = 0) ∧ g 0 1 = 0
theorem md_l {q : mm_H} (h : MQ_d q fr_12) : ∃ q2, em 18 0 [mm_r 0, mm_u] [] q = some (none, q2) ∧ IM q2 := by
  obtain ⟨g2, b1, b2, b3, b4, b5, b6⟩ := M_lays q
  refine ⟨g2, b1, fun j hj => (b3 j hj).trans (h.1 j hj), ⟨fun k hk => ⟨(b4.1 k hk).1.trans (h.1 _ (by omega)), (b4.1 k hk).2.trans (h.1 _ (by omega))⟩, b4.2⟩, b5, (b6 1 (by decide) (by decide) (by decide)).trans (h.2.1 1 (by decide))⟩
theorem Rel_0 {h g : mm_H} (hx : IX h) (hm : IM g) : Rel h g 5 := by
  obtain ⟨x1, x2, x3, x4, x5, x6, x7, x8⟩ := hx
  obtain ⟨m1, m2, m3, m4⟩ := hm
  refine Rel_new (R := fr_13) ⟨x1.1, x1.2⟩ x2 (by decide +kernel) x3 ⟨?_, ?_, fun j hj => ?_⟩ (fun j hj => by rw [fr_12_13 j hj]; exact m1 j hj) x5 ⟨fun k hk => ?_, m2.2⟩ x6 m3 x7 x8
  · rw [x4, m4]
  · omega
  · omega
  · rw [fr_12_13 _ (by omega), fr_12_13 _ (by omega)]; exact m2.1 k hk
