/-! ===== a draft takes an item: rows ===== -/
def rr_f (R : Nat → Int) (a b c d : Int) : Nat → Int := mm_up (mm_up (mm_up (mm_up (mm_up R (5 + (R 0).toNat) a) (10 + (R 0).toNat) b) (15 + (R 0).toNat) c) (20 + (R 0).toNat) d) 0 (R 0 + 1)
def rw_f (R : Nat → Int) (a b : Int) : Nat → Int := mm_up (mm_up (mm_up R (25 + (R 1).toNat) a) (33 + (R 1).toNat) b) 1 (R 1 + 1)
def rm_f (R : Nat → Int) (a : Int) : Nat → Int := mm_up (mm_up R (41 + (R 2).toNat) a) 2 (R 2 + 1)
def rc_f (R : Nat → Int) (a b : Int) : Nat → Int := mm_up (mm_up R 3 a) 4 b
theorem rr_e {R : Nat → Int} {n : Nat} (hn : R 0 = n) (a b c d : Int) (j : Nat) : rr_f R a b c d j = if j = 0 then R 0 + 1 else if j = 20 + n then d else if j = 15 + n then c else if j = 10 + n then b else if j = 5 + n then a else R j := by
  unfold rr_f mm_up
  rw [show (R 0).toNat = n by omega]
theorem rr_5 {R : Nat → Int} {n : Nat} (hn : R 0 = n) (h5 : n < 5) (a b c d : Int) {k : Nat} (hk : k < 5) : rr_f R a b c d (5 + k) = if k = n then a else R (5 + k) := by
  rw [rr_e hn, if_neg (by omega), if_neg (by omega), if_neg (by omega), if_neg (by omega)]
  by_cases e : k = n
  · rw [if_pos (by omega), if_pos e]
  · rw [if_neg (by omega), if_neg e]
theorem rr_10 {R : Nat → Int} {n : Nat} (hn : R 0 = n) (h5 : n < 5) (a b c d : Int) {k : Nat} (hk : k < 5) : rr_f R a b c d (10 + k) = if k = n then b else R (10 + k) := by
  rw [rr_e hn, if_neg (by omega), if_neg (by omega), if_neg (by omega)]
  by_cases e : k = n
  · rw [if_pos (by omega), if_pos e]
  · rw [if_neg (by omega), if_neg (by omega), if_neg e]
theorem rr_15 {R : Nat → Int} {n : Nat} (hn : R 0 = n) (h5 : n < 5) (a b c d : Int) {k : Nat} (hk : k < 5) : rr_f R a b c d (15 + k) = if k = n then c else R (15 + k) := by
  rw [rr_e hn, if_neg (by omega), if_neg (by omega)]
  by_cases e : k = n
  · rw [if_pos (by omega), if_pos e]
  · rw [if_neg (by omega), if_neg (by omega), if_neg (by omega), if_neg e]
theorem rr_20 {R : Nat → Int} {n : Nat} (hn : R 0 = n) (h5 : n < 5) (a b c d : Int) {k : Nat} (hk : k < 5) : rr_f R a b c d (20 + k) = if k = n then d else R (20 + k) := by
  rw [rr_e hn, if_neg (by omega)]
  by_cases e : k = n
  · rw [if_pos (by omega), if_pos e]
  · rw [if_neg (by omega), if_neg (by omega), if_neg (by omega), if_neg (by omega), if_neg e]
theorem rr_o {R : Nat → Int} {n : Nat} (hn : R 0 = n) (h5 : n < 5) (a b c d : Int) {j : Nat} (hj : (1 ≤ j ∧ j ≤ 4) ∨ 25 ≤ j) : rr_f R a b c d j = R j := by
  rw [rr_e hn, if_neg (by omega), if_neg (by omega), if_neg (by omega), if_neg (by omega), if_neg (by omega)]
theorem rr_0 {R : Nat → Int} (a b c d : Int) : rr_f R a b c d 0 = R 0 + 1 := z_up _ _ _
def RG (R : Nat → Int) (a b c d : Int) : Prop := R 0 < 5 ∧ a < 24 ∧ (1 ≤ b ∧ b ≤ 5) ∧ c ≤ 3 ∧ d ≤ 40 ∧ ∀ k : Nat, (k : Int) < R 0 → R (5 + k) ≠ a
theorem VM_rr {R : Nat → Int} (hR : VM R) {a b c d : Int} (hg : RG R a b c d) (ha : 0 ≤ a) (hc : 0 ≤ c) (hd : 0 ≤ d) : VM (rr_f R a b c d) := by
  obtain ⟨n, hn⟩ : ∃ n : Nat, R 0 = n := ⟨(R 0).toNat, by have := hR.n; omega⟩
  obtain ⟨g1, g2, g3, g4, g5, g6⟩ := hg
  have h5 : n < 5 := by omega
  have o := fun j hj => rr_o hn h5 a b c d (j := j) hj
  have hpr := hR.pr
  have hw := hR.w
  have hm := hR.m
  refine ⟨?_, ?_, ?_, ?_, ?_, ?_, ?_, ?_⟩
  · rw [rr_0]; omega
  · rw [o 1 (by omega)]; exact hw
  · rw [o 2 (by omega)]; exact hm
  · rw [o 3 (by omega), o 4 (by omega)]; exact hpr
  · intro k hk
    rw [rr_0] at hk
    rw [rr_5 hn h5 a b c d (by omega), rr_10 hn h5 a b c d (by omega), rr_15 hn h5 a b c d (by omega), rr_20 hn h5 a b c d (by omega)]
    by_cases e : k = n
    · rw [if_pos e, if_pos e, if_pos e, if_pos e]; omega
    · rw [if_neg e, if_neg e, if_neg e, if_neg e]; exact hR.r (by omega)
  · intro i j hi hj
    rw [rr_0] at hj
    rw [rr_5 hn h5 a b c d (by omega), rr_5 hn h5 a b c d (by omega), if_neg (show ¬ i = n by omega)]
    by_cases e : j = n
    · rw [if_pos e]; exact g6 i (by omega)
    · rw [if_neg e]; exact hR.ne hi (by omega)
  · intro j hj
    rw [o 1 (by omega)] at hj
    rw [o (25 + j) (by omega), o (33 + j) (by omega)]
    exact hR.wt hj
  · intro j hj
    rw [o 2 (by omega)] at hj
    rw [o (41 + j) (by omega)]
    exact hR.mn hj
theorem rw_e {R : Nat → Int} {n : Nat} (hn : R 1 = n) (a b : Int) (j : Nat) : rw_f R a b j = if j = 1 then R 1 + 1 else if j = 33 + n then b else if j = 25 + n then a else R j := by
  unfold rw_f mm_up
  rw [show (R 1).toNat = n by omega]
theorem rw_1 {R : Nat → Int} (a b : Int) : rw_f R a b 1 = R 1 + 1 := z_up _ _ _
theorem rw_25 {R : Nat → Int} {n : Nat} (hn : R 1 = n) (h8 : n < 8) (a b : Int) {k : Nat} (hk : k < 8) : rw_f R a b (25 + k) = if k = n then a else R (25 + k) := by
  rw [rw_e hn, if_neg (by omega), if_neg (by omega)]
  by_cases e : k = n
  · rw [if_pos (by omega), if_pos e]
  · rw [if_neg (by omega), if_neg e]
theorem rw_33 {R : Nat → Int} {n : Nat} (hn : R 1 = n) (h8 : n < 8) (a b : Int) {k : Nat} (hk : k < 8) : rw_f R a b (33 + k) = if k = n then b else R (33 + k) := by
  rw [rw_e hn, if_neg (by omega)]
  by_cases e : k = n
  · rw [if_pos (by omega), if_pos e]
  · rw [if_neg (by omega), if_neg (by omega), if_neg e]
theorem rw_o {R : Nat → Int} {n : Nat} (hn : R 1 = n) (h8 : n < 8) (a b : Int) {j : Nat} (hj : j = 0 ∨ (2 ≤ j ∧ j < 25) ∨ 41 ≤ j) : rw_f R a b j = R j := by
  rw [rw_e hn, if_neg (by omega), if_neg (by omega), if_neg (by omega)]
theorem VM_rw {R : Nat → Int} (hR : VM R) {a b : Int} (hg : R 1 < 8 ∧ a < 24 ∧ b ≤ 3) (ha : 0 ≤ a) (hb : 0 ≤ b) : VM (rw_f R a b) := by
  obtain ⟨n, hn⟩ : ∃ n : Nat, R 1 = n := ⟨(R 1).toNat, by have := hR.w; omega⟩
  have h8 : n < 8 := by omega
  have o := fun j hj => rw_o hn h8 a b (j := j) hj
  have hpr := hR.pr
  have hn0 := hR.n
  have hm := hR.m
  refine ⟨?_, ?_, ?_, ?_, ?_, ?_, ?_, ?_⟩
  · rw [o 0 (by omega)]; exact hn0
  · rw [rw_1]; omega
  · rw [o 2 (by omega)]; exact hm
  · rw [o 3 (by omega), o 4 (by omega)]; exact hpr
  · intro k hk
    rw [o 0 (by omega)] at hk
    rw [o (5 + k) (by omega), o (10 + k) (by omega), o (15 + k) (by omega), o (20 + k) (by omega)]
    exact hR.r hk
  · intro i j hi hj
    rw [o 0 (by omega)] at hj
    rw [o (5 + i) (by omega), o (5 + j) (by omega)]
    exact hR.ne hi hj
  · intro j hj
    rw [rw_1] at hj
    rw [rw_25 hn h8 a b (by omega), rw_33 hn h8 a b (by omega)]
    by_cases e : j = n
    · rw [if_pos e, if_pos e]; omega
    · rw [if_neg e, if_neg e]; exact hR.wt (by omega)
  · intro j hj
    rw [o 2 (by omega)] at hj
    rw [o (41 + j) (by omega)]
    exact hR.mn hj
theorem rm_e {R : Nat → Int} {n : Nat} (hn : R 2 = n) (a : Int) (j : Nat) : rm_f R a j = if j = 2 then R 2 + 1 else if j = 41 + n then a else R j := by
  unfold rm_f mm_up
  rw [show (R 2).toNat = n by omega]
theorem rm_2 {R : Nat → Int} (a : Int) : rm_f R a 2 = R 2 + 1 := z_up _ _ _
theorem rm_41 {R : Nat → Int} {n : Nat} (hn : R 2 = n) (a : Int) (k : Nat) : rm_f R a (41 + k) = if k = n then a else R (41 + k) := by
  rw [rm_e hn, if_neg (by omega)]
  by_cases e : k = n
  · rw [if_pos (by omega), if_pos e]
  · rw [if_neg (by omega), if_neg e]
theorem rm_o {R : Nat → Int} {n : Nat} (hn : R 2 = n) (a : Int) {j : Nat} (hj : j ≠ 2 ∧ j < 41) : rm_f R a j = R j := by
  rw [rm_e hn, if_neg (by omega), if_neg (by omega)]
theorem VM_rm {R : Nat → Int} (hR : VM R) {a : Int} (hg : R 2 < 6 ∧ a < 24) (ha : 0 ≤ a) : VM (rm_f R a) := by
  obtain ⟨n, hn⟩ : ∃ n : Nat, R 2 = n := ⟨(R 2).toNat, by have := hR.m; omega⟩
  have o := fun j hj => rm_o hn a (j := j) hj
  have hpr := hR.pr
  have hn0 := hR.n
  have hw := hR.w
  refine ⟨?_, ?_, ?_, ?_, ?_, ?_, ?_, ?_⟩
  · rw [o 0 (by omega)]; exact hn0
  · rw [o 1 (by omega)]; exact hw
  · rw [rm_2]; omega
  · rw [o 3 (by omega), o 4 (by omega)]; exact hpr
  · intro k hk
    rw [o 0 (by omega)] at hk
    rw [o (5 + k) (by omega), o (10 + k) (by omega), o (15 + k) (by omega), o (20 + k) (by omega)]
    exact hR.r hk
  · intro i j hi hj
    rw [o 0 (by omega)] at hj
    rw [o (5 + i) (by omega), o (5 + j) (by omega)]
    exact hR.ne hi hj
  · intro j hj
    rw [o 1 (by omega)] at hj
    rw [o (25 + j) (by omega), o (33 + j) (by omega)]
    exact hR.wt hj
  · intro j hj
    rw [rm_2] at hj
    rw [rm_41 hn a]
    by_cases e : j = n
    · rw [if_pos e]; omega
    · rw [if_neg e]; exact hR.mn (by omega)
theorem rc_o {R : Nat → Int} (a b : Int) {j : Nat} (h3 : j ≠ 3) (h4 : j ≠ 4) : rc_f R a b j = R j := by
  unfold rc_f
  rw [z_un _ _ h4, z_un _ _ h3]
theorem rc_3 {R : Nat → Int} (a b : Int) : rc_f R a b 3 = a := by
  unfold rc_f
  rw [z_un _ _ (by decide), z_up]
theorem rc_4 {R : Nat → Int} (a b : Int) : rc_f R a b 4 = b := z_up _ _ _
theorem VM_rc {R : Nat → Int} (hR : VM R) {a b : Int} (hg : a ≤ 9 ∧ b ≤ 9) (ha : 0 ≤ a) (hb : 0 ≤ b) : VM (rc_f R a b) := by
  have o := fun j (h3 : j ≠ 3) (h4 : j ≠ 4) => rc_o (R := R) a b h3 h4
  refine ⟨?_, ?_, ?_, ?_, ?_, ?_, ?_, ?_⟩
  · rw [o 0 (by omega) (by omega)]; exact hR.n
  · rw [o 1 (by omega) (by omega)]; exact hR.w
  · rw [o 2 (by omega) (by omega)]; exact hR.m
  · rw [rc_3, rc_4]; omega
  · intro k hk
    rw [o 0 (by omega) (by omega)] at hk
    rw [o (5 + k) (by omega) (by omega), o (10 + k) (by omega) (by omega), o (15 + k) (by omega) (by omega), o (20 + k) (by omega) (by omega)]
    exact hR.r hk
  · intro i j hi hj
    rw [o 0 (by omega) (by omega)] at hj
    rw [o (5 + i) (by omega) (by omega), o (5 + j) (by omega) (by omega)]
    exact hR.ne hi hj
  · intro j hj
    rw [o 1 (by omega) (by omega)] at hj
    rw [o (25 + j) (by omega) (by omega), o (33 + j) (by omega) (by omega)]
    exact hR.wt hj
  · intro j hj
    rw [o 2 (by omega) (by omega)] at hj
    rw [o (41 + j) (by omega) (by omega)]
    exact hR.mn hj
/-! the class's valley behind an item -/
theorem VR_rr {k : mm_H} {v : Nat} {R : Nat → Int} (h : VR k v R) {n : Nat} (hn : R 0 = n) (h5 : n < 5) (a b c d : Int) : VR (mm_st (mm_st (mm_st (mm_st (mm_st k (v + 1) n a) (v + 2) n b) (v + 3) n c) (v + 4) n d) v 0 (R 0 + 1)) v (rr_f R a b c d) := by
  have o := fun j hj => rr_o hn h5 a b c d (j := j) hj
  obtain ⟨⟨v0, v1, v2, v3, v4⟩, q1, q2, q3⟩ := h
  have ev : ∀ j, j ≠ 0 → (mm_st (mm_st (mm_st (mm_st (mm_st k (v + 1) n a) (v + 2) n b) (v + 3) n c) (v + 4) n d) v 0 (R 0 + 1)) v j = k v j := fun j hj => by
    rw [z_ss _ _ hj, z_sc _ _ (by omega), z_sc _ _ (by omega), z_sc _ _ (by omega), z_sc _ _ (by omega)]
  refine ⟨⟨?_, ?_, ?_, ?_, ?_⟩, ?_, ?_, ?_⟩
  · rw [z_se, rr_0]
  · rw [ev 1 (by decide), o 1 (by omega)]; exact v1
  · rw [ev 2 (by decide), o 2 (by omega)]; exact v2
  · rw [ev 10 (by decide), o 3 (by omega)]; exact v3
  · rw [ev 11 (by decide), o 4 (by omega)]; exact v4
  · intro j hj
    rw [rr_0] at hj
    rw [rr_5 hn h5 a b c d (by omega), rr_10 hn h5 a b c d (by omega), rr_15 hn h5 a b c d (by omega), rr_20 hn h5 a b c d (by omega)]
    rw [z_sc _ _ (show v + 1 ≠ v by omega), z_sc _ _ (show v + 1 ≠ v + 4 by omega), z_sc _ _ (show v + 1 ≠ v + 3 by omega), z_sc _ _ (show v + 1 ≠ v + 2 by omega)]
    rw [z_sc _ _ (show v + 2 ≠ v by omega), z_sc _ _ (show v + 2 ≠ v + 4 by omega), z_sc _ _ (show v + 2 ≠ v + 3 by omega)]
    rw [z_sc _ _ (show v + 3 ≠ v by omega), z_sc _ _ (show v + 3 ≠ v + 4 by omega)]
    rw [z_sc _ _ (show v + 4 ≠ v by omega)]
    by_cases e : j = n
    · rw [e, if_pos rfl, if_pos rfl, if_pos rfl, if_pos rfl, z_se, z_se, z_se, z_se]
      exact ⟨rfl, rfl, rfl, rfl⟩
    · rw [if_neg e, if_neg e, if_neg e, if_neg e, z_ss _ _ e, z_ss _ _ e, z_ss _ _ e, z_ss _ _ e]
      rw [z_sc _ _ (show v + 2 ≠ v + 1 by omega), z_sc _ _ (show v + 3 ≠ v + 2 by omega), z_sc _ _ (show v + 3 ≠ v + 1 by omega), z_sc _ _ (show v + 4 ≠ v + 3 by omega), z_sc _ _ (show v + 4 ≠ v + 2 by omega), z_sc _ _ (show v + 4 ≠ v + 1 by omega)]
      exact q1 j (by omega)
  · intro j hj
    rw [o 1 (by omega)] at hj
    rw [o (25 + j) (by omega), o (33 + j) (by omega), z_sc _ _ (by omega), z_sc _ _ (by omega), z_sc _ _ (by omega), z_sc _ _ (by omega), z_sc _ _ (by omega), z_sc _ _ (by omega), z_sc _ _ (by omega), z_sc _ _ (by omega), z_sc _ _ (by omega), z_sc _ _ (by omega)]
    exact q2 j hj
  · intro j hj
    rw [o 2 (by omega)] at hj
    rw [o (41 + j) (by omega), z_sc _ _ (by omega), z_sc _ _ (by omega), z_sc _ _ (by omega), z_sc _ _ (by omega), z_sc _ _ (by omega)]
    exact q3 j hj
theorem VR_rw {k : mm_H} {v : Nat} {R : Nat → Int} (h : VR k v R) {n : Nat} (hn : R 1 = n) (h8 : n < 8) (h5 : 0 ≤ R 0 ∧ R 0 ≤ 5) (a b : Int) : VR (mm_st (mm_st (mm_st k (v + 5) n a) (v + 6) n b) v 1 (R 1 + 1)) v (rw_f R a b) := by
  have o := fun j hj => rw_o hn h8 a b (j := j) hj
  obtain ⟨⟨v0, v1, v2, v3, v4⟩, q1, q2, q3⟩ := h
  have ev : ∀ j, j ≠ 1 → (mm_st (mm_st (mm_st k (v + 5) n a) (v + 6) n b) v 1 (R 1 + 1)) v j = k v j := fun j hj => by
    rw [z_ss _ _ hj, z_sc _ _ (by omega), z_sc _ _ (by omega)]
  have eo : ∀ t, 1 ≤ t → t ≠ 5 → t ≠ 6 → (mm_st (mm_st (mm_st k (v + 5) n a) (v + 6) n b) v 1 (R 1 + 1)) (v + t) = k (v + t) := fun t h0 h1 h2 => by
    rw [z_sc _ _ (by omega), z_sc _ _ (by omega), z_sc _ _ (by omega)]
  refine ⟨⟨?_, ?_, ?_, ?_, ?_⟩, ?_, ?_, ?_⟩
  · rw [ev 0 (by decide), o 0 (by omega)]; exact v0
  · rw [z_se, rw_1]
  · rw [ev 2 (by decide), o 2 (by omega)]; exact v2
  · rw [ev 10 (by decide), o 3 (by omega)]; exact v3
  · rw [ev 11 (by decide), o 4 (by omega)]; exact v4
  · intro j hj
    rw [o 0 (by omega)] at hj
    rw [o (5 + j) (by omega), o (10 + j) (by omega), o (15 + j) (by omega), o (20 + j) (by omega), eo 1 (by decide) (by decide) (by decide), eo 2 (by decide) (by decide) (by decide), eo 3 (by decide) (by decide) (by decide), eo 4 (by decide) (by decide) (by decide)]
    exact q1 j hj
  · intro j hj
    rw [rw_1] at hj
    rw [rw_25 hn h8 a b (by omega), rw_33 hn h8 a b (by omega)]
    rw [z_sc _ _ (show v + 5 ≠ v by omega), z_sc _ _ (show v + 5 ≠ v + 6 by omega), z_sc _ _ (show v + 6 ≠ v by omega)]
    by_cases e : j = n
    · rw [e, if_pos rfl, if_pos rfl, z_se, z_se]
      exact ⟨rfl, rfl⟩
    · rw [if_neg e, if_neg e, z_ss _ _ e, z_ss _ _ e, z_sc _ _ (show v + 6 ≠ v + 5 by omega)]
      exact q2 j (by omega)
  · intro j hj
    rw [o 2 (by omega)] at hj
    rw [o (41 + j) (by omega), eo 7 (by decide) (by decide) (by decide)]
    exact q3 j hj
theorem VR_rm {k : mm_H} {v : Nat} {R : Nat → Int} (h : VR k v R) {n : Nat} (hn : R 2 = n) (h5 : 0 ≤ R 0 ∧ R 0 ≤ 5) (h8 : 0 ≤ R 1 ∧ R 1 ≤ 8) (a : Int) : VR (mm_st (mm_st k (v + 7) n a) v 2 (R 2 + 1)) v (rm_f R a) := by
  have o := fun j hj => rm_o hn a (j := j) hj
  obtain ⟨⟨v0, v1, v2, v3, v4⟩, q1, q2, q3⟩ := h
  have ev : ∀ j, j ≠ 2 → (mm_st (mm_st k (v + 7) n a) v 2 (R 2 + 1)) v j = k v j := fun j hj => by
    rw [z_ss _ _ hj, z_sc _ _ (by omega)]
  have eo : ∀ t, 1 ≤ t → t ≠ 7 → (mm_st (mm_st k (v + 7) n a) v 2 (R 2 + 1)) (v + t) = k (v + t) := fun t h0 h1 => by
    rw [z_sc _ _ (by omega), z_sc _ _ (by omega)]
  refine ⟨⟨?_, ?_, ?_, ?_, ?_⟩, ?_, ?_, ?_⟩
  · rw [ev 0 (by decide), o 0 (by omega)]; exact v0
  · rw [ev 1 (by decide), o 1 (by omega)]; exact v1
  · rw [z_se, rm_2]
  · rw [ev 10 (by decide), o 3 (by omega)]; exact v3
  · rw [ev 11 (by decide), o 4 (by omega)]; exact v4
  · intro j hj
    rw [o 0 (by omega)] at hj
    rw [o (5 + j) (by omega), o (10 + j) (by omega), o (15 + j) (by omega), o (20 + j) (by omega), eo 1 (by decide) (by decide), eo 2 (by decide) (by decide), eo 3 (by decide) (by decide), eo 4 (by decide) (by decide)]
    exact q1 j hj
  · intro j hj
    rw [o 1 (by omega)] at hj
    rw [o (25 + j) (by omega), o (33 + j) (by omega), eo 5 (by decide) (by decide), eo 6 (by decide) (by decide)]
    exact q2 j hj
  · intro j hj
    rw [rm_2] at hj
    rw [rm_41 hn a, z_sc _ _ (show v + 7 ≠ v by omega)]
    by_cases e : j = n
    · rw [e, if_pos rfl, z_se]
    · rw [if_neg e, z_ss _ _ e]
      exact q3 j (by omega)
theorem VR_rc {k : mm_H} {v : Nat} {R : Nat → Int} (h : VR k v R) (a b : Int) : VR (mm_st (mm_st k v 10 a) v 11 b) v (rc_f R a b) := by
  have o := fun j (h3 : j ≠ 3) (h4 : j ≠ 4) => rc_o (R := R) a b h3 h4
  obtain ⟨⟨v0, v1, v2, v3, v4⟩, q1, q2, q3⟩ := h
  have ev : ∀ j, j ≠ 10 → j ≠ 11 → (mm_st (mm_st k v 10 a) v 11 b) v j = k v j := fun j h1 h2 => by
    rw [z_ss _ _ h2, z_ss _ _ h1]
  have eo : ∀ t, 1 ≤ t → (mm_st (mm_st k v 10 a) v 11 b) (v + t) = k (v + t) := fun t h0 => by
    rw [z_sc _ _ (by omega), z_sc _ _ (by omega)]
  refine ⟨⟨?_, ?_, ?_, ?_, ?_⟩, ?_, ?_, ?_⟩
  · rw [ev 0 (by decide) (by decide), o 0 (by decide) (by decide)]; exact v0
  · rw [ev 1 (by decide) (by decide), o 1 (by decide) (by decide)]; exact v1
  · rw [ev 2 (by decide) (by decide), o 2 (by decide) (by decide)]; exact v2
  · rw [z_ss _ _ (by decide), z_se, rc_3]
  · rw [z_se, rc_4]
  · intro j hj
    rw [o 0 (by omega) (by omega)] at hj
    rw [o (5 + j) (by omega) (by omega), o (10 + j) (by omega) (by omega), o (15 + j) (by omega) (by omega), o (20 + j) (by omega) (by omega), eo 1 (by decide), eo 2 (by decide), eo 3 (by decide), eo 4 (by decide)]
    exact q1 j hj
  · intro j hj
    rw [o 1 (by omega) (by omega)] at hj
    rw [o (25 + j) (by omega) (by omega), o (33 + j) (by omega) (by omega), eo 5 (by decide), eo 6 (by decide)]
    exact q2 j hj
  · intro j hj
    rw [o 2 (by omega) (by omega)] at hj
    rw [o (41 + j) (by omega) (by omega), eo 7 (by decide)]
    exact q3 j hj
