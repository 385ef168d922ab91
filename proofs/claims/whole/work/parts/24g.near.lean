/-! ===== neighbours ===== -/
def RO (R : Nat → Int) (y r : Int) : Prop := (r = -4 ∧ ∀ k : Nat, (k : Int) < R 0 → R (5 + k) ≠ y) ∨ (0 ≤ r ∧ r < R 0 ∧ R (5 + r.toNat) = y)
def DR (h : mm_H) (v : Nat) (R : Nat → Int) : Prop := (v = 5 ∨ v = 15) ∧ VM R ∧ VR h v R
theorem X_ropeOver_l {h : mm_H} {v : Nat} {R : Nat → Int} (hD : DR h v R) (y : Int) : ∀ (m : Nat) (i : Int), 0 ≤ i → i + m = R 0 → (∀ k : Nat, (k : Int) < i → R (5 + k) ≠ y) → ∃ r, ex 55 2 [mm_r v, mm_i y, mm_i i] [] h = some (some (mm_i r), h) ∧ RO R y r
  | 0, i, h0, hi, hn => by
    refine ⟨-4, ?_, Or.inl ⟨rfl, fun k hk => hn k (by omega)⟩⟩
    rw [sg_X9_ropeOver_2 hD.1, hD.2.2.1.1, if_neg (by omega)]
  | m + 1, i, h0, hi, hn => by
    have hb := hD.2.1.n
    have e1 := (hD.2.2.2.1 i.toNat (by omega)).1
    rw [sg_X9_ropeOver_2 hD.1, hD.2.2.1.1, if_pos (by omega), if_pos (by omega), e1]
    by_cases c : R (5 + i.toNat) = y
    · rw [if_pos c]
      exact ⟨i, rfl, Or.inr ⟨h0, by omega, c⟩⟩
    · rw [if_neg c, z_wr (by omega) (by omega)]
      refine X_ropeOver_l hD y m (i + 1) (by omega) (by omega) (fun k hk => ?_)
      by_cases e : (k : Int) = i
      · have : k = i.toNat := by omega
        rw [this]; exact c
      · exact hn k (by omega)
theorem X_ropeOver {h : mm_H} {v : Nat} {R : Nat → Int} (hD : DR h v R) (y : Int) : ∃ r, ex 55 0 [mm_r v, mm_i y, mm_u] [] h = some (some (mm_i r), h) ∧ RO R y r := by
  have hb := hD.2.1.n
  rw [sg_X9_ropeOver_0 hD.1]
  exact X_ropeOver_l hD y (R 0).toNat 0 (by omega) (by omega) (fun k hk => by omega)
def LB (R : Nat → Int) (y l : Int) : Prop := (l = -4 ∧ ∀ j : Nat, (j : Int) < R 0 → y ≤ R (5 + j)) ∨ ((0 ≤ l ∧ l < R 0) ∧ R (5 + l.toNat) < y ∧ ∀ j : Nat, (j : Int) < R 0 → R (5 + j) < y → R (5 + j) ≤ R (5 + l.toNat))
def UB (R : Nat → Int) (y l : Int) : Prop := (l = -4 ∧ ∀ j : Nat, (j : Int) < R 0 → R (5 + j) ≤ y) ∨ ((0 ≤ l ∧ l < R 0) ∧ y < R (5 + l.toNat) ∧ ∀ j : Nat, (j : Int) < R 0 → y < R (5 + j) → R (5 + l.toNat) ≤ R (5 + j))
theorem LB_s {R : Nat → Int} {y l r : Int} (h : LB R y l) (q : RO R y r) : LB R (y + 1) (if r = -4 then l else r) := by
  rcases q with ⟨q1, q2⟩ | ⟨q1, q2, q3⟩
  · rw [if_pos q1]
    rcases h with ⟨h1, h2⟩ | ⟨h1, h2, h3⟩
    · refine Or.inl ⟨h1, fun j hj => ?_⟩
      have := h2 j hj
      have := q2 j hj
      omega
    · refine Or.inr ⟨h1, by omega, fun j hj hy => ?_⟩
      have := q2 j hj
      exact h3 j hj (by omega)
  · rw [if_neg (by omega)]
    exact Or.inr ⟨⟨q1, q2⟩, by omega, fun j hj hy => by omega⟩
theorem UB_s {R : Nat → Int} {y l r : Int} (h : UB R y l) (q : RO R y r) : UB R (y - 1) (if r = -4 then l else r) := by
  rcases q with ⟨q1, q2⟩ | ⟨q1, q2, q3⟩
  · rw [if_pos q1]
    rcases h with ⟨h1, h2⟩ | ⟨h1, h2, h3⟩
    · refine Or.inl ⟨h1, fun j hj => ?_⟩
      have := h2 j hj
      have := q2 j hj
      omega
    · refine Or.inr ⟨h1, by omega, fun j hj hy => ?_⟩
      have := q2 j hj
      exact h3 j hj (by omega)
  · rw [if_neg (by omega)]
    exact Or.inr ⟨⟨q1, q2⟩, by omega, fun j hj hy => by omega⟩
theorem VM_in {R : Nat → Int} (hR : VM R) {i j : Nat} (hi : (i : Int) < R 0) (hj : (j : Int) < R 0) (e : R (5 + i) = R (5 + j)) : i = j := by
  rcases Nat.lt_trichotomy i j with c | c | c
  · exact absurd e (hR.ne c hj)
  · exact c
  · exact absurd e.symm (hR.ne c hi)
theorem LB_e {R : Nat → Int} (hR : VM R) {y l : Int} (h : LB R (y + 1) l) : (l = -4 ∧ na_f R y < 0) ∨ (0 ≤ l ∧ l = na_f R y) := by
  have hn := hR.n
  have hb := na_b hn.1 y
  rcases h with ⟨h1, h2⟩ | ⟨h1, h2, h3⟩
  · refine Or.inl ⟨h1, ?_⟩
    apply Classical.byContradiction
    intro c
    have a1 := na_p (R := R) (y := y) (by omega)
    have a2 := h2 (na_f R y).toNat (by omega)
    omega
  · have a1 := na_m (R := R) (y := y) (j := l.toNat) (by omega) (by omega)
    have a2 := na_p (R := R) (y := y) a1.1
    have a3 := h3 (na_f R y).toNat (by omega) (by omega)
    have a4 := VM_in hR (i := l.toNat) (j := (na_f R y).toNat) (by omega) (by omega) (by omega)
    exact Or.inr ⟨h1.1, by omega⟩
theorem UB_e {R : Nat → Int} (hR : VM R) {y l : Int} (h : UB R (y - 1) l) : (l = -4 ∧ nb_f R y < 0) ∨ (0 ≤ l ∧ l = nb_f R y) := by
  have hn := hR.n
  have hb := nb_b hn.1 y
  rcases h with ⟨h1, h2⟩ | ⟨h1, h2, h3⟩
  · refine Or.inl ⟨h1, ?_⟩
    apply Classical.byContradiction
    intro c
    have a1 := nb_p (R := R) (y := y) (by omega)
    have a2 := h2 (nb_f R y).toNat (by omega)
    omega
  · have a1 := nb_m (R := R) (y := y) (j := l.toNat) (by omega) (by omega)
    have a2 := nb_p (R := R) (y := y) a1.1
    have a3 := h3 (nb_f R y).toNat (by omega) (by omega)
    have a4 := VM_in hR (i := l.toNat) (j := (nb_f R y).toNat) (by omega) (by omega) (by omega)
    exact Or.inr ⟨h1.1, by omega⟩
theorem DR_up {h h2 : mm_H} {v : Nat} {R : Nat → Int} (hD : DR h v R) (e : ∀ a, v ≤ a → a ≤ v + 7 → h2 a = h a) : DR h2 v R := by
  obtain ⟨d0, d1, d2, d3, d4, d5⟩ := hD
  refine ⟨d0, d1, ?_, ?_, ?_, ?_⟩
  · rw [e v (by omega) (by omega)]; exact d2
  · rw [e (v + 1) (by omega) (by omega), e (v + 2) (by omega) (by omega), e (v + 3) (by omega) (by omega), e (v + 4) (by omega) (by omega)]; exact d3
  · rw [e (v + 5) (by omega) (by omega), e (v + 6) (by omega) (by omega)]; exact d4
  · rw [e (v + 7) (by omega) (by omega)]; exact d5
theorem X_fn_a {h0 : mm_H} {v : Nat} {R : Nat → Int} (hD : DR h0 v R) : ∀ (m : Nat) (h : mm_H) (l y : Int) (l3 : mm_V), 0 ≤ y → y + m = 24 → (∀ a, a ≠ v + 8 → h a = h0 a) → LB R y l → (∀ j : Nat, (j : Int) < y → LB R ((j : Int) + 1) (h (v + 8) j)) → ∃ h2 l2, ex 56 5 [mm_r v, mm_i l, mm_i y, l3, mm_u] [] h = ex 56 48 [mm_r v, mm_i l2, mm_i (-4), mm_i 23, mm_u] [] h2 ∧ (∀ a, a ≠ v + 8 → h2 a = h0 a) ∧ ∀ j : Nat, j < 24 → LB R ((j : Int) + 1) (h2 (v + 8) j)
  | 0, h, l, y, l3, hy, hm, hf, hl, hb => by
    refine ⟨h, l, ?_, hf, fun j hj => hb j (by omega)⟩
    rw [sg_X9_findNeighbours_5 hD.1, if_neg (by omega)]
  | m + 1, h, l, y, l3, hy, hm, hf, hl, hb => by
    have hDh : DR h v R := DR_up hD (fun a h1 h2 => hf a (by omega))
    obtain ⟨r, r1, r2⟩ := X_ropeOver hDh y
    have e : ex 56 5 [mm_r v, mm_i l, mm_i y, l3, mm_u] [] h = ex 56 28 [mm_r v, mm_i l, mm_i y, mm_i r, mm_u] [mm_i (if r = -4 then l else r)] h := by
      rw [sg_X9_findNeighbours_5 hD.1, if_pos (by omega)]
      refine mm_bi r1 ?_
      refine (sg_X9_findNeighbours_16 hD.1 _ _ _ _ h).trans ?_
      split <;> rfl
    rw [e, sg_X9_findNeighbours_28 hD.1, if_pos (by omega), z_wr (by omega) (by omega)]
    have hs := LB_s hl r2
    refine X_fn_a hD m _ _ (y + 1) _ (by omega) (by omega) (fun a ha => by rw [z_sc _ _ ha]; exact hf a ha) hs (fun j hj => ?_)
    by_cases c : j = y.toNat
    · rw [c, z_se, show ((y.toNat : Nat) : Int) + 1 = y + 1 by omega]; exact hs
    · rw [z_ss _ _ c]; exact hb j (by omega)
/-- what stands by a yard at the end -/
def NE (R : Nat → Int) (j : Nat) (x z : Int) : Prop := ∃ b n, LB R ((j : Int) + 1) b ∧ UB R ((j : Int) - 1) n ∧ x = (if b = -4 then n else b) ∧ z = (if n = -4 then b else n)
theorem X_fn_b {h0 : mm_H} {v : Nat} {R : Nat → Int} (hD : DR h0 v R) : ∀ (m : Nat) (h : mm_H) (l1 l y : Int) (l4 : mm_V), y + 1 = m → y < 24 → (∀ a, a ≠ v + 8 → a ≠ v + 9 → h a = h0 a) → UB R y l → (∀ j : Nat, (j : Int) ≤ y → LB R ((j : Int) + 1) (h (v + 8) j)) → (∀ j : Nat, y < (j : Int) → j < 24 → NE R j (h (v + 8) j) (h (v + 9) j)) → ∃ h2, ex 56 48 [mm_r v, mm_i l1, mm_i l, mm_i y, l4] [] h = some (none, h2) ∧ (∀ a, a ≠ v + 8 → a ≠ v + 9 → h2 a = h0 a) ∧ ∀ j : Nat, j < 24 → NE R j (h2 (v + 8) j) (h2 (v + 9) j)
  | 0, h, l1, l, y, l4, hy, hm, hf, hl, hb, hn => by
    refine ⟨h, ?_, hf, fun j hj => hn j (by omega) hj⟩
    rw [sg_X9_findNeighbours_48 hD.1, if_pos (by omega)]
  | m + 1, h, l1, l, y, l4, hy, hm, hf, hl, hb, hn => by
    have hDh : DR h v R := DR_up hD (fun a h1 h2 => hf a (by omega) (by omega))
    obtain ⟨r, r1, r2⟩ := X_ropeOver hDh y
    have hs := UB_s hl r2
    obtain ⟨n, en⟩ : ∃ n, n = (if r = -4 then l else r) := ⟨_, rfl⟩
    rw [← en] at hs
    have hy2 : 0 ≤ y ∧ y < 24 := by omega
    have hb0 := hb y.toNat (by omega)
    rw [show ((y.toNat : Nat) : Int) = y by omega] at hb0
    obtain ⟨b, eb⟩ : ∃ b, b = h (v + 8) y.toNat := ⟨_, rfl⟩
    rw [← eb] at hb0
    have e : ex 56 48 [mm_r v, mm_i l1, mm_i l, mm_i y, l4] [] h = ex 56 94 [mm_r v, mm_i l1, mm_i n, mm_i y, mm_i r] [mm_i (if n = -4 then b else n), mm_i y, mm_r (v + 9)] h := by
      rw [sg_X9_findNeighbours_48 hD.1, if_neg (by omega)]
      refine mm_bi r1 ?_
      refine (sg_X9_findNeighbours_57 hD.1 _ _ _ _ _ h).trans ?_
      have e2 : (if r = -4 then (ex 56 72 [mm_r v, mm_i l1, mm_i l, mm_i y, mm_i r] [mm_i l] h) else (ex 56 72 [mm_r v, mm_i l1, mm_i l, mm_i y, mm_i r] [mm_i r] h)) = ex 56 72 [mm_r v, mm_i l1, mm_i l, mm_i y, mm_i r] [mm_i n] h := by
        rw [en]; split <;> rfl
      refine e2.trans ?_
      rw [sg_X9_findNeighbours_72 hD.1, if_pos hy2, ← eb]
      by_cases c : n = -4
      · rw [if_pos c, if_pos c]
      · rw [if_neg c, if_neg c]
    have e3 : ex 56 94 [mm_r v, mm_i l1, mm_i n, mm_i y, mm_i r] [mm_i (if n = -4 then b else n), mm_i y, mm_r (v + 9)] h = ex 56 48 [mm_r v, mm_i l1, mm_i n, mm_i (y - 1), mm_i r] [] (mm_st (mm_st h (v + 9) y.toNat (if n = -4 then b else n)) (v + 8) y.toNat (if b = -4 then n else b)) := by
      rw [sg_X9_findNeighbours_94 hD.1, if_pos hy2, if_pos hy2, if_pos hy2, z_sc _ _ (show v + 8 ≠ v + 9 by omega), ← eb, sg_X9_findNeighbours_121 hD.1, sg_X9_findNeighbours_121 hD.1, if_pos hy2, if_pos hy2, z_wr (by omega) (by omega), show y + -1 = y - 1 by omega]
      by_cases c : b = -4
      · rw [if_pos c, if_pos c]
      · rw [if_neg c, if_neg c]
    rw [e, e3]
    refine X_fn_b hD m _ _ _ (y - 1) _ (by omega) (by omega) (fun a h1 h2 => by rw [z_sc _ _ h1, z_sc _ _ h2]; exact hf a h1 h2) hs (fun j hj => ?_) (fun j hj hj2 => ?_)
    · rw [z_ss _ _ (by omega), z_sc _ _ (by omega)]; exact hb j (by omega)
    · by_cases c : j = y.toNat
      · rw [c, z_se, z_sc _ _ (by omega), z_se]
        refine ⟨b, n, ?_, ?_, rfl, rfl⟩
        · rw [show ((y.toNat : Nat) : Int) = y by omega]; exact hb0
        · rw [show ((y.toNat : Nat) : Int) = y by omega]; exact hs
      · rw [z_ss _ _ c, z_sc _ _ (show v + 8 ≠ v + 9 by omega), z_sc _ _ (show v + 9 ≠ v + 8 by omega), z_ss _ _ c]
        exact hn j (by omega) hj2
theorem X_findNeighbours {h : mm_H} {v : Nat} {R : Nat → Int} (hD : DR h v R) : ∃ h2, ex 56 0 [mm_r v, mm_u, mm_u, mm_u, mm_u] [] h = some (none, h2) ∧ (∀ a, a ≠ v + 8 → a ≠ v + 9 → h2 a = h a) ∧ (1 ≤ R 0 → NB h2 v R) := by
  obtain ⟨h1, l1, a1, a2, a3⟩ := X_fn_a hD 24 h (-4) 0 mm_u (by omega) (by omega) (fun _ _ => rfl) (Or.inl ⟨rfl, fun j hj => (hD.2.1.r hj).1.1⟩) (fun j hj => by omega)
  obtain ⟨h2, b1, b2, b3⟩ := X_fn_b hD 24 h1 l1 (-4) 23 mm_u (by omega) (by omega) (fun a c1 _ => a2 a c1) (Or.inl ⟨rfl, fun j hj => by have := (hD.2.1.r hj).1.2; omega⟩) (fun j hj => a3 j (by omega)) (fun j hj hj2 => by omega)
  refine ⟨h2, ?_, b2, fun hr y hy => ?_⟩
  · rw [sg_X9_findNeighbours_0 hD.1, a1, b1]
  · obtain ⟨b, n, c1, c2, c3, c4⟩ := b3 y hy
    have d1 := LB_e hD.2.1 c1
    have d2 := UB_e hD.2.1 c2
    have d3 := nab hr (y : Int)
    rw [c3, c4]
    constructor
    · rcases d1 with d | d
      · rw [if_pos d.1, if_pos d.2]; omega
      · rw [if_neg (by omega), if_neg (by omega)]; omega
    · rcases d2 with d | d
      · rw [if_pos d.1, if_pos d.2]; omega
      · rw [if_neg (by omega), if_neg (by omega)]; omega
