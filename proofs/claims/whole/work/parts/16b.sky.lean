/-! ===== how low the sky is ===== -/
theorem nt_p (R : Nat → Int) (y sg : Int) : ∀ k : Nat, 0 ≤ nt_f R y sg k → 0 ≤ (R (5 + (nt_f R y sg k).toNat) - y) * sg
  | 0, h => by simp [nt_f] at h
  | k + 1, h => by
    have ih := nt_p R y sg k
    unfold nt_f at h ⊢
    split
    · rename_i c
      rw [if_pos c] at h
      rw [Int.toNat_natCast]
      exact c.1
    · rename_i c
      rw [if_neg c] at h
      exact ih h
theorem nt_m (R : Nat → Int) (y sg : Int) : ∀ (k j : Nat), j < k → 0 ≤ (R (5 + j) - y) * sg → 0 ≤ nt_f R y sg k ∧ (R (5 + (nt_f R y sg k).toNat) - y) * sg ≤ (R (5 + j) - y) * sg
  | 0, j, h, _ => absurd h (Nat.not_lt_zero j)
  | k + 1, j, h, h2 => by
    have ih := nt_m R y sg k
    unfold nt_f
    split
    · rename_i c
      refine ⟨by omega, ?_⟩
      rw [Int.toNat_natCast]
      by_cases e : j = k
      · subst e; exact Int.le_refl _
      · obtain ⟨i1, i2⟩ := ih j (by omega) h2
        rcases c.2 with c2 | c2
        · omega
        · exact Int.le_trans (Int.le_of_lt c2) i2
    · rename_i c
      by_cases e : j = k
      · subst e
        have c2 : ¬ (nt_f R y sg j < 0 ∨ (R (5 + j) - y) * sg < (R (5 + (nt_f R y sg j).toNat) - y) * sg) := fun q => c ⟨h2, q⟩
        refine ⟨Int.not_lt.mp (fun q => c2 (Or.inl q)), Int.not_lt.mp (fun q => c2 (Or.inr q))⟩
      · exact ih j (by omega) h2
def na_f (R : Nat → Int) (y : Int) : Int := nt_f R y (-1) (R 0).toNat
def nb_f (R : Nat → Int) (y : Int) : Int := nt_f R y 1 (R 0).toNat
theorem na_b {R : Nat → Int} (h : 0 ≤ R 0) (y : Int) : -1 ≤ na_f R y ∧ (na_f R y < R 0 ∨ na_f R y = -1) := by
  have := nt_b R y (-1) (R 0).toNat
  unfold na_f
  omega
theorem nb_b {R : Nat → Int} (h : 0 ≤ R 0) (y : Int) : -1 ≤ nb_f R y ∧ (nb_f R y < R 0 ∨ nb_f R y = -1) := by
  have := nt_b R y 1 (R 0).toNat
  unfold nb_f
  omega
theorem na_p {R : Nat → Int} {y : Int} (h : 0 ≤ na_f R y) : R (5 + (na_f R y).toNat) ≤ y := by
  have := nt_p R y (-1) (R 0).toNat h
  unfold na_f
  omega
theorem nb_p {R : Nat → Int} {y : Int} (h : 0 ≤ nb_f R y) : y ≤ R (5 + (nb_f R y).toNat) := by
  have := nt_p R y 1 (R 0).toNat h
  unfold nb_f
  omega
theorem na_m {R : Nat → Int} {y : Int} {j : Nat} (hj : (j : Int) < R 0) (h : R (5 + j) ≤ y) : 0 ≤ na_f R y ∧ R (5 + j) ≤ R (5 + (na_f R y).toNat) := by
  have := nt_m R y (-1) (R 0).toNat j (by omega) (by omega)
  unfold na_f
  omega
theorem nb_m {R : Nat → Int} {y : Int} {j : Nat} (hj : (j : Int) < R 0) (h : y ≤ R (5 + j)) : 0 ≤ nb_f R y ∧ R (5 + (nb_f R y).toNat) ≤ R (5 + j) := by
  have := nt_m R y 1 (R 0).toNat j (by omega) (by omega)
  unfold nb_f
  omega
theorem nab {R : Nat → Int} (h : 1 ≤ R 0) (y : Int) : 0 ≤ na_f R y ∨ 0 ≤ nb_f R y := by
  rcases Int.le_total (R (5 + 0)) y with q | q
  · exact Or.inl (na_m (j := 0) (by omega) q).1
  · exact Or.inr (nb_m (j := 0) (by omega) q).1
theorem nab_lt {R : Nat → Int} (hR : VM R) {y : Int} (h1 : 0 ≤ na_f R y) (h2 : 0 ≤ nb_f R y) (h3 : na_f R y ≠ nb_f R y) : R (5 + (na_f R y).toNat) < R (5 + (nb_f R y).toNat) := by
  have a1 := na_p h1
  have a2 := nb_p h2
  have b1 := na_b hR.n.1 y
  have b2 := nb_b hR.n.1 y
  rcases Nat.lt_or_ge (na_f R y).toNat (nb_f R y).toNat with q | q
  · have := hR.ne q (by omega); omega
  · have := hR.ne (i := (nb_f R y).toNat) (j := (na_f R y).toNat) (by omega) (by omega); omega
/-- the sky over a yard -/
def sk_f (R S : Nat → Int) (y : Int) : Int := if na_f R y < 0 then S (nb_f R y).toNat else if nb_f R y < 0 then S (na_f R y).toNat else if na_f R y = nb_f R y then S (na_f R y).toNat else (S (na_f R y).toNat * (R (5 + (nb_f R y).toNat) - y) + S (nb_f R y).toNat * (y - R (5 + (na_f R y).toNat))) / (R (5 + (nb_f R y).toNat) - R (5 + (na_f R y).toNat))
def SK (R S : Nat → Int) : Prop := ∀ k : Nat, (k : Int) < R 0 → 0 ≤ S k ∧ S k ≤ 40
theorem z_w {s x : Int} (hs : 0 ≤ s ∧ s ≤ 40) (hx : 0 ≤ x) : 0 ≤ s * x ∧ s * x ≤ 40 * x := ⟨Int.mul_nonneg hs.1 hx, Int.mul_le_mul_of_nonneg_right hs.2 hx⟩
theorem sk_b {R S : Nat → Int} (hR : VM R) (h1 : 1 ≤ R 0) (hS : SK R S) (y : Int) : 0 ≤ sk_f R S y ∧ sk_f R S y ≤ 40 := by
  have b1 := na_b hR.n.1 y
  have b2 := nb_b hR.n.1 y
  have b3 := nab h1 y
  unfold sk_f
  split
  · exact hS _ (by omega)
  · split
    · exact hS _ (by omega)
    · split
      · exact hS _ (by omega)
      · rename_i c1 c2 c3
        have e := nab_lt hR (by omega) (by omega) c3
        have a1 := na_p (R := R) (y := y) (by omega)
        have a2 := nb_p (R := R) (y := y) (by omega)
        have w1 := z_w (hS (na_f R y).toNat (by omega)) (show 0 ≤ R (5 + (nb_f R y).toNat) - y by omega)
        have w2 := z_w (hS (nb_f R y).toNat (by omega)) (show 0 ≤ y - R (5 + (na_f R y).toNat) by omega)
        refine ⟨Int.ediv_nonneg (by omega) (by omega), Int.ediv_le_of_le_mul (by omega) (by omega)⟩
theorem sk_c {R S S2 : Nat → Int} (hR : VM R) (h1 : 1 ≤ R 0) (he : ∀ k : Nat, (k : Int) < R 0 → S k = S2 k) (y : Int) : sk_f R S y = sk_f R S2 y := by
  have b1 := na_b hR.n.1 y
  have b2 := nb_b hR.n.1 y
  have b3 := nab h1 y
  unfold sk_f
  split
  · exact he _ (by omega)
  · split
    · exact he _ (by omega)
    · rw [he (na_f R y).toNat (by omega), he (nb_f R y).toNat (by omega)]
theorem M_nextTo {h : mm_H} {y sg : Int} (hR : VM (h 2)) (hy : 0 ≤ y ∧ y < 24) (hs : sg = 1 ∨ sg = -1) : em 21 0 [mm_r 0, mm_i y, mm_i sg, mm_u, mm_u, mm_u] [] h = some (some (mm_i (nt_f (h 2) y sg (h 2 0).toNat)), h) := by
  rw [sg_X11_nextTo_0]
  exact M_nextTo_l hR hy hs (h 2 0).toNat 0 _ (by omega) (by have := hR.n; omega)
theorem M_skyOver {h : mm_H} {y : Int} (hR : VM (h 2)) (h1 : 1 ≤ h 2 0) (hS : SK (h 2) (h 4)) (hy : 0 ≤ y ∧ y < 24) : em 22 0 [mm_r 0, mm_i y, mm_u, mm_u, mm_u, mm_u] [] h = some (some (mm_i (sk_f (h 2) (h 4) y)), h) := by
  have hn := hR.n
  have b1 := na_b hn.1 y
  have b2 := nb_b hn.1 y
  have b3 := nab h1 y
  rw [sg_X11_skyOver_0]
  refine mm_bi (M_nextTo hR hy (Or.inr rfl)) ?_
  refine (sg_X11_skyOver_6 _ _ _).trans ?_
  refine mm_bi (M_nextTo hR hy (Or.inl rfl)) ?_
  refine (sg_X11_skyOver_13 _ _ _ _).trans ?_
  show (if na_f (h 2) y < 0 then _ else _) = _
  simp only [sg_X11_skyOver_27, sg_X11_skyOver_40]
  show (if na_f (h 2) y < 0 then _ else if nb_f (h 2) y < 0 then _ else if na_f (h 2) y = nb_f (h 2) y then _ else _) = _
  unfold sk_f
  split
  · rename_i c1
    show (if na_f (h 2) y < 0 then _ else _) = _
    rw [if_pos c1]
    exact if_pos (by show 0 ≤ nb_f (h 2) y ∧ nb_f (h 2) y < 12; omega)
  · rename_i c1
    split
    · rename_i c2
      show (if na_f (h 2) y < 0 then _ else _) = _
      rw [if_neg c1]
      exact if_pos (by show 0 ≤ na_f (h 2) y ∧ na_f (h 2) y < 12; omega)
    · rename_i c2
      split
      · rename_i c3
        show (if na_f (h 2) y < 0 then _ else _) = _
        rw [if_neg c1]
        exact if_pos (by show 0 ≤ na_f (h 2) y ∧ na_f (h 2) y < 12; omega)
      · rename_i c3
        change (if 0 ≤ mm_add 5 (na_f (h 2) y) ∧ mm_add 5 (na_f (h 2) y) < 47 then (if 0 ≤ mm_add 5 (nb_f (h 2) y) ∧ mm_add 5 (nb_f (h 2) y) < 47 then (if 0 ≤ na_f (h 2) y ∧ na_f (h 2) y < 12 then (if 0 ≤ nb_f (h 2) y ∧ nb_f (h 2) y < 12 then (if (mm_sub (h 2 (mm_add 5 (nb_f (h 2) y)).toNat) (h 2 (mm_add 5 (na_f (h 2) y)).toNat)) = 0 then none else (some (some (mm_i (mm_wr (Int.tdiv (mm_add (mm_mul (h 4 (na_f (h 2) y).toNat) (mm_sub (h 2 (mm_add 5 (nb_f (h 2) y)).toNat) y)) (mm_mul (h 4 (nb_f (h 2) y).toNat) (mm_sub y (h 2 (mm_add 5 (na_f (h 2) y)).toNat)))) (mm_sub (h 2 (mm_add 5 (nb_f (h 2) y)).toNat) (h 2 (mm_add 5 (na_f (h 2) y)).toNat))))), h))) else none) else none) else none) else none) = _
        have e := nab_lt hR (by omega) (by omega) c3
        have a1 := na_p (R := h 2) (y := y) (by omega)
        have a2 := nb_p (R := h 2) (y := y) (by omega)
        have r1 := (hR.r (k := (na_f (h 2) y).toNat) (by omega)).1
        have r2 := (hR.r (k := (nb_f (h 2) y).toNat) (by omega)).1
        have w1 := z_w (hS (na_f (h 2) y).toNat (by omega)) (show 0 ≤ h 2 (5 + (nb_f (h 2) y).toNat) - y by omega)
        have w2 := z_w (hS (nb_f (h 2) y).toNat (by omega)) (show 0 ≤ y - h 2 (5 + (na_f (h 2) y).toNat) by omega)
        rw [z_add (a := 5) (b := na_f (h 2) y) (by omega) (by omega), z_add (a := 5) (b := nb_f (h 2) y) (by omega) (by omega)]
        rw [show (5 + na_f (h 2) y).toNat = 5 + (na_f (h 2) y).toNat by omega, show (5 + nb_f (h 2) y).toNat = 5 + (nb_f (h 2) y).toNat by omega]
        rw [if_pos (by omega), if_pos (by omega), if_pos (by omega), if_pos (by omega)]
        rw [z_sub (a := h 2 (5 + (nb_f (h 2) y).toNat)) (b := h 2 (5 + (na_f (h 2) y).toNat)) (by omega) (by omega), if_neg (by omega)]
        rw [z_sub (a := h 2 (5 + (nb_f (h 2) y).toNat)) (b := y) (by omega) (by omega), z_sub (a := y) (by omega) (by omega)]
        rw [z_mul (a := h 4 (na_f (h 2) y).toNat) (by omega) (by omega), z_mul (a := h 4 (nb_f (h 2) y).toNat) (by omega) (by omega), z_add (by omega) (by omega)]
        rw [Int.tdiv_eq_ediv_of_nonneg (by omega)]
        have q1 : 0 ≤ (h 4 (na_f (h 2) y).toNat * (h 2 (5 + (nb_f (h 2) y).toNat) - y) + h 4 (nb_f (h 2) y).toNat * (y - h 2 (5 + (na_f (h 2) y).toNat))) / (h 2 (5 + (nb_f (h 2) y).toNat) - h 2 (5 + (na_f (h 2) y).toNat)) := Int.ediv_nonneg (by omega) (by omega)
        have q2 : (h 4 (na_f (h 2) y).toNat * (h 2 (5 + (nb_f (h 2) y).toNat) - y) + h 4 (nb_f (h 2) y).toNat * (y - h 2 (5 + (na_f (h 2) y).toNat))) / (h 2 (5 + (nb_f (h 2) y).toNat) - h 2 (5 + (na_f (h 2) y).toNat)) ≤ 40 := Int.ediv_le_of_le_mul (by omega) (by omega)
        rw [z_wr (by omega) (by omega)]
/-- light by turns -/
def lf_f (x : Int) : Int := if 29 < x then 3 else x / 10
theorem lf_b {x : Int} (h : 0 ≤ x ∧ x ≤ 40) : 0 ≤ lf_f x ∧ lf_f x ≤ 3 := by unfold lf_f; split <;> omega
theorem M_lightOf {x : Int} (hx : 0 ≤ x ∧ x ≤ 40) (h : mm_H) : em 23 0 [mm_i x] [] h = some (some (mm_i (lf_f x)), h) := by
  rw [sg_X11_lightOf_0]
  simp only [sg_X11_lightOf_14]
  unfold lf_f
  split
  · rfl
  · rw [Int.tdiv_eq_ediv_of_nonneg hx.1, z_wr (by omega) (by omega)]
theorem X_lightAt {x : Int} (hx : 0 ≤ x ∧ x ≤ 40) (h : mm_H) : ex 99 0 [mm_i x] [] h = some (some (mm_i (lf_f x)), h) := by
  rw [sg_X10_lightAt_0]
  simp only [sg_X10_lightAt_14]
  unfold lf_f
  split
  · rw [if_neg (by omega), Int.tdiv_eq_ediv_of_nonneg hx.1, z_wr (by omega) (by omega)]
  · rw [if_pos (by omega)]
/-- the neighbours that the class keeps -/
def NB (h : mm_H) (v : Nat) (R : Nat → Int) : Prop := ∀ y : Nat, y < 24 → h (v + 8) y = (if na_f R y < 0 then nb_f R y else na_f R y) ∧ h (v + 9) y = (if nb_f R y < 0 then na_f R y else nb_f R y)
theorem X_isYard_t {y : Int} (q : 0 ≤ y ∧ y < 24) (h : mm_H) : ex 95 0 [mm_i y] [] h = some (some (mm_i 1), h) := by
  rw [sg_X10_isYard_0, if_neg (by omega), if_pos (by omega), sg_X10_isYard_15, if_pos (Or.inr rfl)]
theorem X_hasRope_q {h : mm_H} {v : Nat} (hv : v = 5 ∨ v = 15) {r k : Int} (hC : h v 0 = r) (q : 0 ≤ k ∧ k < r) : ex 57 0 [mm_r v, mm_i k] [] h = some (some (mm_i 1), h) := by
  rw [sg_X9_hasRope_0 hv, if_neg (by omega), hC, if_pos (by omega), sg_X9_hasRope_17 hv, if_pos (Or.inr rfl)]
/-- lowness looks at its yard and at both ropes first -/
theorem X_lowgo {h : mm_H} {v t : Nat} (hv : v = 5 ∨ v = 15) (ht : t = 26 ∨ t = 64 ∨ t = 69 ∨ t = 83) {y r : Int} (hy : 0 ≤ y ∧ y < 24) (hC : h v 0 = r) (ha : 0 ≤ h (v + 8) y.toNat ∧ h (v + 8) y.toNat < r) (hb : 0 ≤ h (v + 9) y.toNat ∧ h (v + 9) y.toNat < r) : ex 61 0 [mm_r v, mm_r t, mm_i y, mm_u, mm_u, mm_u] [] h = ex 61 38 [mm_r v, mm_r t, mm_i y, mm_i (h (v + 8) y.toNat), mm_i (h (v + 9) y.toNat), mm_u] [mm_i 1] h := by
  rw [sg_X9_lowness_0 hv ht]
  refine mm_bi (X_isYard_t hy h) ?_
  refine (sg_X9_lowness_4 hv ht _ _ h).trans ?_
  rw [if_neg (by decide), if_pos hy, if_pos hy]
  refine mm_bi (X_hasRope_q hv hC ha) ?_
  refine (sg_X9_lowness_29 hv ht _ _ _ _ h).trans ?_
  rw [if_neg (by decide)]
  exact mm_bi (X_hasRope_q hv hC hb) rfl
theorem X_lowness {h : mm_H} {v t : Nat} (hv : v = 5 ∨ v = 15) (ht : t = 26 ∨ t = 64 ∨ t = 69 ∨ t = 83) {R S : Nat → Int} {y : Int} (hR : VM R) (h1 : 1 ≤ R 0) (hS : SK R S) (hy : 0 ≤ y ∧ y < 24) (hC : h v 0 = R 0) (hN : NB h v R) (hY : ∀ k : Nat, (k : Int) < R 0 → h (v + 1) k = R (5 + k)) (hT : ∀ k : Nat, (k : Int) < R 0 → h t k = S k) : ex 61 0 [mm_r v, mm_r t, mm_i y, mm_u, mm_u, mm_u] [] h = some (some (mm_i (sk_f R S y)), h) := by
  have hn := hR.n
  have b1 := na_b hn.1 y
  have b2 := nb_b hn.1 y
  have b3 := nab h1 y
  obtain ⟨n1, n2⟩ := hN y.toNat (by omega)
  rw [show ((y.toNat : Nat) : Int) = y by omega] at n1 n2
  have ha0 : 0 ≤ h (v + 8) y.toNat ∧ h (v + 8) y.toNat < R 0 := by rw [n1]; split <;> omega
  have hb0 : 0 ≤ h (v + 9) y.toNat ∧ h (v + 9) y.toNat < R 0 := by rw [n2]; split <;> omega
  rw [X_lowgo hv ht hy hC ha0 hb0, sg_X9_lowness_38 hv ht, if_neg (by decide)]
  clear ha0 hb0
  generalize h (v + 8) y.toNat = a at *
  generalize h (v + 9) y.toNat = b at *
  have ha : 0 ≤ a ∧ a < R 0 := by rw [n1]; split <;> omega
  have hb : 0 ≤ b ∧ b < R 0 := by rw [n2]; split <;> omega
  have ra := (hR.r (k := a.toNat) (by omega)).1
  have rb := (hR.r (k := b.toNat) (by omega)).1
  rw [if_pos (by omega), if_pos (by omega)]
  rw [hY a.toNat (by omega), hY b.toNat (by omega), hT a.toNat (by omega), hT b.toNat (by omega)]
  rw [z_sub (a := R (5 + b.toNat)) (b := R (5 + a.toNat)) (by omega) (by omega)]
  unfold sk_f
  by_cases c1 : na_f R y < 0
  · rw [if_pos c1] at n1
    rw [if_neg (by omega)] at n2
    have e : a = b := by omega
    subst e
    rw [if_neg (by omega), if_pos (by omega), if_pos c1, n1]
  · rw [if_neg c1] at n1
    by_cases c2 : nb_f R y < 0
    · rw [if_pos c2] at n2
      have e : a = b := by omega
      subst e
      rw [if_neg (by omega), if_pos (by omega), if_neg c1, if_pos c2, n1]
    · rw [if_neg c2] at n2
      by_cases c3 : na_f R y = nb_f R y
      · have e : a = b := by omega
        subst e
        rw [if_neg (by omega), if_pos (by omega), if_neg c1, if_neg c2, if_pos c3, n1]
      · have e := nab_lt hR (by omega) (by omega) c3
        have a1 := na_p (R := R) (y := y) (by omega)
        have a2 := nb_p (R := R) (y := y) (by omega)
        rw [if_neg c1, if_neg c2, if_neg c3]
        rw [← n1, ← n2] at e ⊢
        rw [← n1] at a1
        rw [← n2] at a2
        have w1 := z_w (hS a.toNat (by omega)) (show 0 ≤ R (5 + b.toNat) - y by omega)
        have w2 := z_w (hS b.toNat (by omega)) (show 0 ≤ y - R (5 + a.toNat) by omega)
        rw [if_pos (by omega), if_pos (by omega), if_pos (by omega), if_pos (by omega), if_pos (by omega), if_neg (by omega)]
        rw [z_sub (a := R (5 + b.toNat)) (b := y) (by omega) (by omega), z_sub (a := y) (by omega) (by omega)]
        rw [z_mul (a := S a.toNat) (by omega) (by omega), z_mul (a := S b.toNat) (by omega) (by omega), z_add (by omega) (by omega)]
        rw [Int.tdiv_eq_ediv_of_nonneg (by omega)]
        have q1 : 0 ≤ (S a.toNat * (R (5 + b.toNat) - y) + S b.toNat * (y - R (5 + a.toNat))) / (R (5 + b.toNat) - R (5 + a.toNat)) := Int.ediv_nonneg (by omega) (by omega)
        have q2 : (S a.toNat * (R (5 + b.toNat) - y) + S b.toNat * (y - R (5 + a.toNat))) / (R (5 + b.toNat) - R (5 + a.toNat)) ≤ 40 := Int.ediv_le_of_le_mul (by omega) (by omega)
        rw [z_wr (by omega) (by omega)]
