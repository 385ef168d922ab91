/-! ===== plan: wants that end at a rope ===== -/
def ne_f (R : Nat → Int) (y : Int) : Int := if na_f R y < nb_f R y then nb_f R y else na_f R y
theorem ne_b {R : Nat → Int} (hR : VM R) (h1 : 1 ≤ R 0) (y : Int) : 0 ≤ ne_f R y ∧ ne_f R y < R 0 := by
  have b1 := na_b hR.n.1 y
  have b2 := nb_b hR.n.1 y
  have b3 := nab h1 y
  unfold ne_f
  split <;> omega
theorem sk_ne {R S S2 : Nat → Int} (hR : VM R) (h1 : 1 ≤ R 0) {y : Int} (he : ∀ k : Nat, (k : Int) ≤ ne_f R y → S k = S2 k) : sk_f R S y = sk_f R S2 y := by
  have b1 := na_b hR.n.1 y
  have b2 := nb_b hR.n.1 y
  have b3 := nab h1 y
  have e1 : 0 ≤ na_f R y → S (na_f R y).toNat = S2 (na_f R y).toNat := fun q => he _ (by unfold ne_f; split <;> omega)
  have e2 : 0 ≤ nb_f R y → S (nb_f R y).toNat = S2 (nb_f R y).toNat := fun q => he _ (by unfold ne_f; split <;> omega)
  unfold sk_f
  by_cases c1 : na_f R y < 0
  · rw [if_pos c1, if_pos c1]; exact e2 (by omega)
  · rw [if_neg c1, if_neg c1, e1 (by omega)]
    by_cases c2 : nb_f R y < 0
    · rw [if_pos c2, if_pos c2]
    · rw [if_neg c2, if_neg c2, e2 (by omega)]
theorem X_lowp {h : mm_H} {v t : Nat} (hv : v = 5 ∨ v = 15) (ht : t = 26 ∨ t = 64 ∨ t = 69 ∨ t = 83) {R S : Nat → Int} {y : Int} (hR : VM R) (h1 : 1 ≤ R 0) (hS : SK R S) (hy : 0 ≤ y ∧ y < 24) (hC : h v 0 = R 0) (hN : NB h v R) (hY : ∀ k : Nat, (k : Int) < R 0 → h (v + 1) k = R (5 + k)) (hT : ∀ k : Nat, (k : Int) ≤ ne_f R y → h t k = S k) : ex 61 0 [mm_r v, mm_r t, mm_i y, mm_u, mm_u, mm_u] [] h = some (some (mm_i (sk_f R S y)), h) := by
  have hn := hR.n
  have b1 := na_b hn.1 y
  have b2 := nb_b hn.1 y
  have b3 := nab h1 y
  obtain ⟨n1, n2⟩ := hN y.toNat (by omega)
  rw [show ((y.toNat : Nat) : Int) = y by omega] at n1 n2
  have ha0 : 0 ≤ h (v + 8) y.toNat ∧ h (v + 8) y.toNat < R 0 := by rw [n1]; split <;> omega
  have hb0 : 0 ≤ h (v + 9) y.toNat ∧ h (v + 9) y.toNat < R 0 := by rw [n2]; split <;> omega
  rw [X_lowgo hv ht hy hC ha0 hb0, sg_X9_lowness_38 hv ht, if_neg (by decide)]
  clear ha0 hb0
  generalize h (v + 8) y.toNat = a at *
  generalize h (v + 9) y.toNat = b at *
  have ha : 0 ≤ a ∧ a < R 0 := by rw [n1]; split <;> omega
  have hb : 0 ≤ b ∧ b < R 0 := by rw [n2]; split <;> omega
  have hne : a ≤ ne_f R y ∧ b ≤ ne_f R y := by
    rw [n1, n2]
    unfold ne_f
    refine ⟨?_, ?_⟩
    · split
      · split <;> omega
      · split <;> omega
    · split
      · split <;> omega
      · split <;> omega
  have ra := (hR.r (k := a.toNat) (by omega)).1
  have rb := (hR.r (k := b.toNat) (by omega)).1
  rw [if_pos (by omega), if_pos (by omega)]
  rw [hY a.toNat (by omega), hY b.toNat (by omega), hT a.toNat (by omega), hT b.toNat (by omega)]
  rw [z_sub (a := R (5 + b.toNat)) (b := R (5 + a.toNat)) (by omega) (by omega)]
  unfold sk_f
  by_cases c1 : na_f R y < 0
  · rw [if_pos c1] at n1
    rw [if_neg (by omega)] at n2
    have e : a = b := by omega
    subst e
    rw [if_neg (by omega), if_pos (by omega), if_pos c1, n1]
  · rw [if_neg c1] at n1
    by_cases c2 : nb_f R y < 0
    · rw [if_pos c2] at n2
      have e : a = b := by omega
      subst e
      rw [if_neg (by omega), if_pos (by omega), if_neg c1, if_pos c2, n1]
    · rw [if_neg c2] at n2
      by_cases c3 : na_f R y = nb_f R y
      · have e : a = b := by omega
        subst e
        rw [if_neg (by omega), if_pos (by omega), if_neg c1, if_neg c2, if_pos c3, n1]
      · have e := nab_lt hR (by omega) (by omega) c3
        have a1 := na_p (R := R) (y := y) (by omega)
        have a2 := nb_p (R := R) (y := y) (by omega)
        rw [if_neg c1, if_neg c2, if_neg c3]
        rw [← n1, ← n2] at e ⊢
        rw [← n1] at a1
        rw [← n2] at a2
        have w1 := z_w (hS a.toNat (by omega)) (show 0 ≤ R (5 + b.toNat) - y by omega)
        have w2 := z_w (hS b.toNat (by omega)) (show 0 ≤ y - R (5 + a.toNat) by omega)
        rw [if_pos (by omega), if_pos (by omega), if_pos (by omega), if_pos (by omega), if_pos (by omega), if_neg (by omega)]
        rw [z_sub (a := R (5 + b.toNat)) (b := y) (by omega) (by omega), z_sub (a := y) (by omega) (by omega)]
        rw [z_mul (a := S a.toNat) (by omega) (by omega), z_mul (a := S b.toNat) (by omega) (by omega), z_add (by omega) (by omega)]
        rw [Int.tdiv_eq_ediv_of_nonneg (by omega)]
        have q1 : 0 ≤ (S a.toNat * (R (5 + b.toNat) - y) + S b.toNat * (y - R (5 + a.toNat))) / (R (5 + b.toNat) - R (5 + a.toNat)) := Int.ediv_nonneg (by omega) (by omega)
        have q2 : (S a.toNat * (R (5 + b.toNat) - y) + S b.toNat * (y - R (5 + a.toNat))) / (R (5 + b.toNat) - R (5 + a.toNat)) ≤ 40 := Int.ediv_le_of_le_mul (by omega) (by omega)
        rw [z_wr (by omega) (by omega)]
theorem X_lightOverp {h : mm_H} {v t : Nat} {R S : Nat → Int} {y : Int} (hV : VL h v R) (ht : t = 26 ∨ t = 64 ∨ t = 69 ∨ t = 83) (hS : SK R S) (hT : ∀ k : Nat, (k : Int) ≤ ne_f R y → h t k = S k) (hy : 0 ≤ y ∧ y < 24) : ex 62 0 [mm_r v, mm_r t, mm_i y] [] h = some (some (mm_i (lf_f (sk_f R S y))), h) := by
  rw [sg_X9_lightOver_0 hV.1 ht]
  refine mm_bi (X_lowp hV.1 ht hV.2.1 hV.2.2.1 hS hy hV.2.2.2.1.1.1 hV.2.2.2.2 (fun k hk => (hV.2.2.2.1.2.1 k hk).1) hT) ?_
  refine (sg_X9_lightOver_6 hV.1 ht _ _ h).trans ?_
  refine mm_bi (X_lightAt (sk_b hV.2.1 hV.2.2.1 hS y) h) ?_
  exact sg_X9_lightOver_9 hV.1 ht _ _ h
theorem X_isMetp {h : mm_H} {v t : Nat} {R S : Nat → Int} {j : Int} (hV : VL h v R) (ht : t = 26 ∨ t = 64 ∨ t = 69 ∨ t = 83) (hS : SK R S) (hj : 0 ≤ j ∧ j < R 1) (hT : ∀ k : Nat, (k : Int) ≤ ne_f R (R (25 + j.toNat)) → h t k = S k) : ex 63 0 [mm_r v, mm_r t, mm_i j] [] h = some (some (mm_i (if mt_p R S j.toNat then 1 else 0)), h) := by
  have hw := hV.2.1.w
  have hw2 := hV.2.1.wt (j := j.toNat) (by omega)
  obtain ⟨e1, e2⟩ := hV.2.2.2.1.2.2.1 j.toNat (by omega)
  rw [sg_X9_isMet_0 hV.1 ht, if_pos (by omega), e1]
  refine mm_bi (X_lightOverp hV ht hS hT hw2.1) ?_
  refine (sg_X9_isMet_11 hV.1 ht _ _ h).trans ?_
  rw [if_pos (by omega), e2]
  simp only [sg_X9_isMet_25 hV.1 ht]
  split
  · exact if_pos (by simp)
  · exact if_pos (by simp)
/-- of the first j wants those that end at rope k are met -/
def me_f (R S : Nat → Int) (k : Int) : Nat → Int
  | 0 => 1
  | j + 1 => if me_f R S k j = 0 then 0 else if ne_f R (R (25 + j)) = k ∧ ¬ mt_p R S j then 0 else 1
theorem me_s (R S : Nat → Int) (k : Int) (j : Nat) : me_f R S k (j + 1) = if me_f R S k j = 0 then 0 else if ne_f R (R (25 + j)) = k ∧ ¬ mt_p R S j then 0 else 1 := rfl
theorem me_0 {R S : Nat → Int} {k : Int} {j : Nat} (h : me_f R S k j = 0) : ∀ m, me_f R S k (j + m) = 0
  | 0 => h
  | m + 1 => by rw [← Nat.add_assoc, me_s, if_pos (me_0 h m)]
theorem me_1 {R S : Nat → Int} {k : Int} : ∀ j : Nat, (me_f R S k j = 1 ∧ ∀ i, i < j → ne_f R (R (25 + i)) = k → mt_p R S i) ∨ (me_f R S k j = 0 ∧ ∃ i, i < j ∧ ne_f R (R (25 + i)) = k ∧ ¬ mt_p R S i)
  | 0 => Or.inl ⟨rfl, fun i hi => absurd hi (Nat.not_lt_zero i)⟩
  | j + 1 => by
    rw [me_s]
    rcases me_1 (R := R) (S := S) (k := k) j with q | q
    · rw [if_neg (by omega)]
      by_cases c : ne_f R (R (25 + j)) = k ∧ ¬ mt_p R S j
      · rw [if_pos c]
        exact Or.inr ⟨rfl, j, by omega, c.1, c.2⟩
      · rw [if_neg c]
        refine Or.inl ⟨rfl, fun i hi he => ?_⟩
        by_cases e : i = j
        · subst e
          exact Classical.byContradiction (fun z => c ⟨he, z⟩)
        · exact q.2 i (by omega) he
    · rw [if_pos q.1]
      obtain ⟨i, h1, h2⟩ := q.2
      exact Or.inr ⟨rfl, i, by omega, h2⟩
theorem X_meets_l {h : mm_H} {v t : Nat} {R S : Nat → Int} {k : Int} (hV : VL h v R) (ht : t = 26 ∨ t = 64 ∨ t = 69 ∨ t = 83) (hS : SK R S) (hT : ∀ i : Nat, (i : Int) ≤ k → h t i = S i) : ∀ (m : Nat) (j : Int) (l4 : mm_V), 0 ≤ j → j + m = R 1 → me_f R S k j.toNat = 1 → ex 65 2 [mm_r v, mm_i k, mm_r t, mm_i j, l4] [] h = some (some (mm_i (me_f R S k (R 1).toNat)), h)
  | 0, j, l4, h0, hj, hm => by
    rw [sg_X9_meetsWantsEndingAt_2 hV.1 ht, hV.2.2.2.1.1.2.1, if_neg (by omega), show (R 1).toNat = j.toNat by omega, hm]
  | m + 1, j, l4, h0, hj, hm => by
    have hw := hV.2.1.w
    have hw2 := (hV.2.1.wt (j := j.toNat) (by omega)).1
    obtain ⟨e1, e2⟩ := hV.2.2.2.1.2.2.1 j.toNat (by omega)
    obtain ⟨n1, n2⟩ := hV.2.2.2.2 (R (25 + j.toNat)).toNat (by omega)
    rw [show (((R (25 + j.toNat)).toNat : Nat) : Int) = R (25 + j.toNat) by omega] at n1 n2
    have b1 := na_b hV.2.1.n.1 (R (25 + j.toNat))
    have b2 := nb_b hV.2.1.n.1 (R (25 + j.toNat))
    have b3 := nab hV.2.2.1 (R (25 + j.toNat))
    have en : (if (h (v + 8) (R (25 + j.toNat)).toNat) < (h (v + 9) (R (25 + j.toNat)).toNat) then (h (v + 9) (R (25 + j.toNat)).toNat) else (h (v + 8) (R (25 + j.toNat)).toNat)) = ne_f R (R (25 + j.toNat)) := by
      rw [n1, n2]
      unfold ne_f
      by_cases c1 : na_f R (R (25 + j.toNat)) < 0
      · rw [if_pos c1, if_neg (show ¬ nb_f R (R (25 + j.toNat)) < 0 by omega), if_neg (by omega), if_pos (by omega)]
      · rw [if_neg c1]
        by_cases c2 : nb_f R (R (25 + j.toNat)) < 0
        · rw [if_pos c2, if_neg (by omega), if_neg (by omega)]
        · rw [if_neg c2]
    have hs := me_s R S k j.toNat
    rw [if_neg (by omega)] at hs
    have nx : me_f R S k (j.toNat + 1) = 1 → ∀ l : Int, ex 65 50 [mm_r v, mm_i k, mm_r t, mm_i j, mm_i l] [] h = some (some (mm_i (me_f R S k (R 1).toNat)), h) := fun q l => by
      rw [sg_X9_meetsWantsEndingAt_50 hV.1 ht, z_wr (by omega) (by omega)]
      exact X_meets_l hV ht hS hT m (j + 1) (mm_i l) (by omega) (by omega) (by rw [show (j + 1).toNat = j.toNat + 1 by omega]; exact q)
    rw [sg_X9_meetsWantsEndingAt_2 hV.1 ht, hV.2.2.2.1.1.2.1, if_pos (by omega), if_pos (by omega), e1, if_pos hw2, if_pos hw2, en]
    by_cases c : ne_f R (R (25 + j.toNat)) = k
    · rw [if_pos c]
      refine mm_bi (X_isMetp hV ht hS (by omega) (by rw [c]; exact hT)) ?_
      refine (sg_X9_meetsWantsEndingAt_45 hV.1 ht _ _ _ _ h).trans ?_
      by_cases c2 : mt_p R S j.toNat
      · rw [if_pos c2, if_neg (by decide)]
        rw [if_neg (fun q => q.2 c2)] at hs
        exact nx hs _
      · rw [if_neg c2, if_pos rfl]
        rw [if_pos ⟨c, c2⟩] at hs
        rw [show (R 1).toNat = j.toNat + 1 + m by omega, me_0 hs]
    · rw [if_neg c]
      rw [if_neg (fun q => c q.1)] at hs
      exact nx hs _
theorem X_meets {h : mm_H} {v t : Nat} {R S : Nat → Int} {k : Int} (hV : VL h v R) (ht : t = 26 ∨ t = 64 ∨ t = 69 ∨ t = 83) (hS : SK R S) (hT : ∀ i : Nat, (i : Int) ≤ k → h t i = S i) : ex 65 0 [mm_r v, mm_i k, mm_r t, mm_u, mm_u] [] h = some (some (mm_i (me_f R S k (R 1).toNat)), h) := by
  have hw := hV.2.1.w
  rw [sg_X9_meetsWantsEndingAt_0 hV.1 ht]
  exact X_meets_l hV ht hS hT (R 1).toNat 0 mm_u (by omega) (by omega) rfl
