/-! ===== a draft takes an item: both ===== -/
theorem X_takeRope {k : mm_H} {v : Nat} {R : Nat → Int} (hD : DR k v R) (a b c d : Int) (ha : 0 ≤ a) (hc : 0 ≤ c) (hd : 0 ≤ d) : (RG R a b c d ∧ ∃ n : Nat, R 0 = n ∧ ex 51 0 [mm_r v, mm_i a, mm_i b, mm_i c, mm_i d] [] k = some (some (mm_i 1), mm_st (mm_st (mm_st (mm_st (mm_st k (v + 1) n a) (v + 2) n b) (v + 3) n c) (v + 4) n d) v 0 (R 0 + 1))) ∨ (¬ RG R a b c d ∧ ex 51 0 [mm_r v, mm_i a, mm_i b, mm_i c, mm_i d] [] k = some (some (mm_i 0), k)) := by
  have hv := hD.1
  have v0 : k v 0 = R 0 := hD.2.2.1.1
  have hn := hD.2.1.n
  obtain ⟨r, r1, r2⟩ := X_ropeOver hD a
  by_cases c1 : R 0 < 5
  · by_cases c2 : a < 24
    · have e1 : ex 51 0 [mm_r v, mm_i a, mm_i b, mm_i c, mm_i d] [] k = ex 51 20 [mm_r v, mm_i a, mm_i b, mm_i c, mm_i d] [mm_i r] k := by
        rw [sg_X9_takeRope_0 hv, v0, if_pos c1]
        refine mm_bi (X_isYard_t ⟨ha, c2⟩ k) ?_
        refine (sg_X9_takeRope_12 hv _ _ _ _ _ k).trans ?_
        rw [if_neg (by decide)]
        exact mm_bi r1 rfl
      rcases r2 with ⟨q1, q2⟩ | ⟨q1, q2, q3⟩
      · by_cases c3 : 1 ≤ b ∧ b ≤ 5
        · by_cases c4 : c ≤ 3
          · by_cases c5 : d ≤ 40
            · refine Or.inl ⟨⟨c1, c2, c3, c4, c5, q2⟩, (R 0).toNat, by omega, ?_⟩
              rw [e1, sg_X9_takeRope_20 hv, if_pos q1, if_neg (by omega), if_neg (by omega), if_neg (by omega), if_neg (by omega)]
              refine mm_bi (X_isLowness_t ⟨hd, c5⟩ k) ?_
              refine (sg_X9_takeRope_51 hv _ _ _ _ _ k).trans ?_
              have f1 : ∀ (w : mm_H) i x, mm_st w (v + 1) i x v = w v := fun w i x => z_sc _ _ (by omega)
              have f2 : ∀ (w : mm_H) i x, mm_st w (v + 2) i x v = w v := fun w i x => z_sc _ _ (by omega)
              have f3 : ∀ (w : mm_H) i x, mm_st w (v + 3) i x v = w v := fun w i x => z_sc _ _ (by omega)
              have f4 : ∀ (w : mm_H) i x, mm_st w (v + 4) i x v = w v := fun w i x => z_sc _ _ (by omega)
              simp only [f1, f2, f3, f4, v0]
              rw [if_neg (by decide), if_pos (by omega), if_pos (by omega), if_pos (by omega), if_pos (by omega), z_add (by omega) (by omega)]
            · refine Or.inr ⟨fun z => c5 z.2.2.2.2.1, ?_⟩
              rw [e1, sg_X9_takeRope_20 hv, if_pos q1, if_neg (by omega), if_neg (by omega), if_neg (by omega), if_neg (by omega)]
              refine mm_bi (X_isLowness_f (by omega) k) ?_
              refine (sg_X9_takeRope_51 hv _ _ _ _ _ k).trans ?_
              rw [if_pos rfl, sg_X9_takeRope_54 hv]
          · refine Or.inr ⟨fun z => c4 z.2.2.2.1, ?_⟩
            rw [e1, sg_X9_takeRope_20 hv, if_pos q1, if_neg (by omega), if_neg (by omega), if_neg (by omega), if_pos (by omega), sg_X9_takeRope_54 hv]
        · refine Or.inr ⟨fun z => c3 z.2.2.1, ?_⟩
          rw [e1, sg_X9_takeRope_20 hv, if_pos q1, sg_X9_takeRope_54 hv]
          by_cases c6 : b < 1
          · rw [if_pos c6]
          · rw [if_neg c6, if_pos (by omega)]
      · refine Or.inr ⟨fun z => z.2.2.2.2.2 r.toNat (by omega) q3, ?_⟩
        rw [e1, sg_X9_takeRope_20 hv, if_neg (by omega), sg_X9_takeRope_25 hv]
    · refine Or.inr ⟨fun z => c2 z.2.1, ?_⟩
      rw [sg_X9_takeRope_0 hv, v0, if_pos c1]
      refine mm_bi (X_isYard_f (by omega) k) ?_
      refine (sg_X9_takeRope_12 hv _ _ _ _ _ k).trans ?_
      rw [if_pos rfl, sg_X9_takeRope_25 hv]
  · refine Or.inr ⟨fun z => c1 z.1, ?_⟩
    rw [sg_X9_takeRope_0 hv, v0, if_neg c1, sg_X9_takeRope_25 hv]
theorem X_takeRope_t {k : mm_H} {v : Nat} {R : Nat → Int} (hD : DR k v R) {a b c d : Int} (ha : 0 ≤ a) (hc : 0 ≤ c) (hd : 0 ≤ d) (hg : RG R a b c d) : ∃ k2, ex 51 0 [mm_r v, mm_i a, mm_i b, mm_i c, mm_i d] [] k = some (some (mm_i 1), k2) ∧ DR k2 v (rr_f R a b c d) ∧ ∀ x, (x < v ∨ v + 7 < x) → k2 x = k x := by
  rcases X_takeRope hD a b c d ha hc hd with ⟨x1, n, hn2, x2⟩ | ⟨x1, x2⟩
  · refine ⟨_, x2, ⟨hD.1, VM_rr hD.2.1 x1 ha hc hd, VR_rr hD.2.2 hn2 (by have := x1.1; omega) _ _ _ _⟩, ?_⟩
    intro x hx
    rw [z_sc _ _ (by omega), z_sc _ _ (by omega), z_sc _ _ (by omega), z_sc _ _ (by omega), z_sc _ _ (by omega)]
  · exact absurd hg x1
theorem X_takeWant_t {k : mm_H} {v : Nat} {R : Nat → Int} (hD : DR k v R) {a b : Int} (ha : 0 ≤ a) (hb : 0 ≤ b) (hg : R 1 < 8 ∧ a < 24 ∧ b ≤ 3) : ∃ k2, ex 52 0 [mm_r v, mm_i a, mm_i b] [] k = some (some (mm_i 1), k2) ∧ DR k2 v (rw_f R a b) ∧ ∀ x, (x < v ∨ v + 7 < x) → k2 x = k x := by
  have hv := hD.1
  have hw := hD.2.1.w
  have v1 : k v 1 = R 1 := hD.2.2.1.2.1
  refine ⟨mm_st (mm_st (mm_st k (v + 5) (R 1).toNat a) (v + 6) (R 1).toNat b) v 1 (R 1 + 1), ?_, ⟨hv, VM_rw hD.2.1 hg ha hb, VR_rw hD.2.2 (n := (R 1).toNat) (by omega) (by omega) hD.2.1.n _ _⟩, ?_⟩
  · rw [sg_X9_takeWant_0 hv, if_pos (by omega)]
    refine mm_bi (X_isYard_t ⟨ha, hg.2.1⟩ k) ?_
    refine (sg_X9_takeWant_13 hv _ _ _ k).trans ?_
    rw [if_neg (by decide)]
    refine mm_bi (X_isLight_t ⟨hb, hg.2.2⟩ k) ?_
    refine (sg_X9_takeWant_20 hv _ _ _ k).trans ?_
    have f5 : ∀ (w : mm_H) i x, mm_st w (v + 5) i x v = w v := fun w i x => z_sc _ _ (by omega)
    have f6 : ∀ (w : mm_H) i x, mm_st w (v + 6) i x v = w v := fun w i x => z_sc _ _ (by omega)
    simp only [f5, f6, v1]
    rw [if_neg (by decide), if_pos (by omega), if_pos (by omega), z_add (by omega) (by omega)]
  · intro x hx
    rw [z_sc _ _ (by omega), z_sc _ _ (by omega), z_sc _ _ (by omega)]
theorem X_takeMan_t {k : mm_H} {v : Nat} {R : Nat → Int} (hD : DR k v R) {a : Int} (ha : 0 ≤ a) (hg : R 2 < 6 ∧ a < 24) : ∃ k2, ex 53 0 [mm_r v, mm_i a] [] k = some (some (mm_i 1), k2) ∧ DR k2 v (rm_f R a) ∧ ∀ x, (x < v ∨ v + 7 < x) → k2 x = k x := by
  have hv := hD.1
  have hm := hD.2.1.m
  have v2 : k v 2 = R 2 := hD.2.2.1.2.2.1
  refine ⟨mm_st (mm_st k (v + 7) (R 2).toNat a) v 2 (R 2 + 1), ?_, ⟨hv, VM_rm hD.2.1 hg ha, VR_rm hD.2.2 (n := (R 2).toNat) (by omega) hD.2.1.n hD.2.1.w _⟩, ?_⟩
  · rw [sg_X9_takeMan_0 hv, if_pos (by omega)]
    refine mm_bi (X_isYard_t ⟨ha, hg.2⟩ k) ?_
    refine (sg_X9_takeMan_13 hv _ _ k).trans ?_
    have f7 : ∀ (w : mm_H) i x, mm_st w (v + 7) i x v = w v := fun w i x => z_sc _ _ (by omega)
    simp only [f7, v2]
    rw [if_neg (by decide), if_pos (by omega), z_add (by omega) (by omega)]
  · intro x hx
    rw [z_sc _ _ (by omega), z_sc _ _ (by omega)]
theorem X_takePrices_t {k : mm_H} {v : Nat} {R : Nat → Int} (hD : DR k v R) {a b : Int} (ha : 0 ≤ a) (hb : 0 ≤ b) (hg : a ≤ 9 ∧ b ≤ 9) : ∃ k2, ex 54 0 [mm_r v, mm_i a, mm_i b] [] k = some (some (mm_i 1), k2) ∧ DR k2 v (rc_f R a b) ∧ ∀ x, (x < v ∨ v + 7 < x) → k2 x = k x := by
  have hv := hD.1
  refine ⟨mm_st (mm_st k v 10 a) v 11 b, ?_, ⟨hv, VM_rc hD.2.1 hg ha hb, VR_rc hD.2.2 _ _⟩, ?_⟩
  · rw [sg_X9_takePrices_0 hv, if_neg (by omega), if_neg (by omega), if_neg (by omega), if_neg (by omega)]
  · intro x hx
    rw [z_sc _ _ (by omega), z_sc _ _ (by omega)]
theorem M_ropeOf {q : mm_H} (h5 : 0 ≤ q 3 0 ∧ q 3 0 < 5) (a b c d : Int) : ∃ q2, em 12 0 [mm_r 0, mm_i a, mm_i b, mm_i c, mm_i d, mm_u] [] q = some (none, q2) ∧ q2 3 = rr_f (q 3) a b c d ∧ ∀ x, x ≠ 3 → q2 x = q x := by
  have e5 : mm_add 5 (q 3 0) = 5 + q 3 0 := z_add (by omega) (by omega)
  have e10 : mm_add 10 (q 3 0) = 10 + q 3 0 := z_add (by omega) (by omega)
  have e15 : mm_add 15 (q 3 0) = 15 + q 3 0 := z_add (by omega) (by omega)
  have e20 : mm_add 20 (q 3 0) = 20 + q 3 0 := z_add (by omega) (by omega)
  refine ⟨mm_st (mm_st (mm_st (mm_st (mm_st q 3 (5 + q 3 0).toNat a) 3 (10 + q 3 0).toNat b) 3 (15 + q 3 0).toNat c) 3 (20 + q 3 0).toNat d) 3 0 (q 3 0 + 1), ?_, ?_, ?_⟩
  · rw [sg_X11_ropeOf_0, e5, e10, e15, e20, if_pos (by omega), if_pos (by omega), if_pos (by omega), if_pos (by omega)]
    rw [z_ss _ _ (by omega), z_ss _ _ (by omega), z_ss _ _ (by omega), z_ss _ _ (by omega), z_add (by omega) (by omega)]
  · rw [z_sr, z_sr, z_sr, z_sr, z_sr]
    unfold rr_f
    rw [show (5 + q 3 0).toNat = 5 + (q 3 0).toNat by omega, show (10 + q 3 0).toNat = 10 + (q 3 0).toNat by omega, show (15 + q 3 0).toNat = 15 + (q 3 0).toNat by omega, show (20 + q 3 0).toNat = 20 + (q 3 0).toNat by omega]
  · intro x hx
    rw [z_sc _ _ hx, z_sc _ _ hx, z_sc _ _ hx, z_sc _ _ hx, z_sc _ _ hx]
theorem M_wantOf {q : mm_H} (h8 : 0 ≤ q 3 1 ∧ q 3 1 < 8) (a b : Int) : ∃ q2, em 13 0 [mm_r 0, mm_i a, mm_i b] [] q = some (none, q2) ∧ q2 3 = rw_f (q 3) a b ∧ ∀ x, x ≠ 3 → q2 x = q x := by
  have e25 : mm_add 25 (q 3 1) = 25 + q 3 1 := z_add (by omega) (by omega)
  have e33 : mm_add 33 (q 3 1) = 33 + q 3 1 := z_add (by omega) (by omega)
  refine ⟨mm_st (mm_st (mm_st q 3 (25 + q 3 1).toNat a) 3 (33 + q 3 1).toNat b) 3 1 (q 3 1 + 1), ?_, ?_, ?_⟩
  · rw [sg_X11_wantOf_0, e25, z_ss (k := (25 + q 3 1).toNat) (j := 1) _ _ (by omega), e33, if_pos (by omega), if_pos (by omega)]
    rw [z_ss _ _ (by omega), z_ss _ _ (by omega), z_add (by omega) (by omega)]
  · rw [z_sr, z_sr, z_sr]
    unfold rw_f
    rw [show (25 + q 3 1).toNat = 25 + (q 3 1).toNat by omega, show (33 + q 3 1).toNat = 33 + (q 3 1).toNat by omega]
  · intro x hx
    rw [z_sc _ _ hx, z_sc _ _ hx, z_sc _ _ hx]
theorem M_manOf {q : mm_H} (h6 : 0 ≤ q 3 2 ∧ q 3 2 < 6) (a : Int) : ∃ q2, em 14 0 [mm_r 0, mm_i a] [] q = some (none, q2) ∧ q2 3 = rm_f (q 3) a ∧ ∀ x, x ≠ 3 → q2 x = q x := by
  have e41 : mm_add 41 (q 3 2) = 41 + q 3 2 := z_add (by omega) (by omega)
  refine ⟨mm_st (mm_st q 3 (41 + q 3 2).toNat a) 3 2 (q 3 2 + 1), ?_, ?_, ?_⟩
  · rw [sg_X11_manOf_0, e41, if_pos (by omega)]
    rw [z_ss _ _ (by omega), z_add (by omega) (by omega)]
  · rw [z_sr, z_sr]
    unfold rm_f
    rw [show (41 + q 3 2).toNat = 41 + (q 3 2).toNat by omega]
  · intro x hx
    rw [z_sc _ _ hx, z_sc _ _ hx]
theorem M_rope_l {q : mm_H} {l1 : Int} (hR : VM (q 3)) : ∀ (m : Nat) (i : Int), 0 ≤ i → i + m = q 3 0 → (∀ k : Nat, (k : Int) < i → q 3 (5 + k) ≠ q 8 0) → ((∀ k : Nat, (k : Int) < q 3 0 → q 3 (5 + k) ≠ q 8 0) ∧ em 15 113 [mm_r 0, mm_i l1, mm_i i] [] q = (em 12 0 [mm_r 0, mm_i (q 8 0), mm_i (q 8 1), mm_i (q 8 2), mm_i (q 8 3), mm_u] [] q).bind fun z => em 15 176 [mm_r 0, mm_i l1, mm_i (q 3 0)] (z.1.toList ++ []) z.2) ∨ ((∃ k : Nat, (k : Int) < q 3 0 ∧ q 3 (5 + k) = q 8 0) ∧ em 15 113 [mm_r 0, mm_i l1, mm_i i] [] q = some (some (mm_i 0), q))
  | 0, i, h0, hi, hn => by
    refine Or.inl ⟨fun k hk => hn k (by omega), ?_⟩
    rw [sg_X11_readsItem_113, if_neg (by omega), show i = q 3 0 by omega]
  | m + 1, i, h0, hi, hn => by
    have hb := hR.n
    rw [sg_X11_readsItem_113, if_pos (by omega), z_add (by omega) (by omega), if_pos (by omega), show (5 + i).toNat = 5 + i.toNat by omega]
    by_cases c : q 3 (5 + i.toNat) = q 8 0
    · rw [if_pos c]
      exact Or.inr ⟨⟨i.toNat, by omega, c⟩, rfl⟩
    · rw [if_neg c, z_wr (by omega) (by omega)]
      refine M_rope_l hR m (i + 1) (by omega) (by omega) (fun k hk => ?_)
      by_cases e : (k : Int) = i
      · have : k = i.toNat := by omega
        rw [this]; exact c
      · exact hn k (by omega)
theorem M_itemRope {q : mm_H} (l1 : Int) (hR : VM (q 3)) (h0 : 0 ≤ q 8 0) : (RG (q 3) (q 8 0) (q 8 1) (q 8 2) (q 8 3) ∧ ∃ q2, em 15 49 [mm_r 0, mm_i l1, mm_u] [mm_i 1] q = some (some (mm_i 1), q2) ∧ q2 3 = rr_f (q 3) (q 8 0) (q 8 1) (q 8 2) (q 8 3) ∧ ∀ x, x ≠ 3 → q2 x = q x) ∨ (¬ RG (q 3) (q 8 0) (q 8 1) (q 8 2) (q 8 3) ∧ em 15 49 [mm_r 0, mm_i l1, mm_u] [mm_i 1] q = some (some (mm_i 0), q)) := by
  have hn := hR.n
  by_cases c1 : q 3 0 = 5
  · refine Or.inr ⟨fun z => by have := z.1; omega, ?_⟩
    rw [sg_X11_readsItem_49, if_neg (by decide), if_pos c1, sg_X11_readsItem_109]
  · by_cases c2 : q 8 0 < 24
    · have e1 : em 15 49 [mm_r 0, mm_i l1, mm_u] [mm_i 1] q = (em 0 0 [mm_i (q 8 1), mm_i 1, mm_i 5] [] q).bind fun z => em 15 85 [mm_r 0, mm_i l1, mm_u] (z.1.toList ++ []) z.2 := by
        rw [sg_X11_readsItem_49, if_neg (by decide), if_neg c1]
        refine mm_bi (M_isYard_t ⟨h0, c2⟩ q) ?_
        refine (sg_X11_readsItem_71 _ _ q).trans ?_
        rw [if_neg (by decide)]
      by_cases c3 : 1 ≤ q 8 1 ∧ q 8 1 ≤ 5
      · have e2 : em 15 49 [mm_r 0, mm_i l1, mm_u] [mm_i 1] q = em 15 85 [mm_r 0, mm_i l1, mm_u] [mm_i 1] q := by
          rw [e1]
          exact mm_bi (M_in_t c3 q) rfl
        by_cases c4 : q 8 2 ≤ 3
        · by_cases c5 : q 8 3 ≤ 40
          · have e3 : em 15 49 [mm_r 0, mm_i l1, mm_u] [mm_i 1] q = em 15 113 [mm_r 0, mm_i l1, mm_i 0] [] q := by
              rw [e2, sg_X11_readsItem_85, if_neg (by decide), if_neg (by omega), if_neg (by omega)]
            rcases M_rope_l (l1 := l1) hR (q 3 0).toNat 0 (by omega) (by omega) (fun k hk => by omega) with ⟨d1, d2⟩ | ⟨⟨k, d1, d3⟩, d2⟩
            · obtain ⟨q2, a1, a2, a3⟩ := M_ropeOf (q := q) (by omega) (q 8 0) (q 8 1) (q 8 2) (q 8 3)
              refine Or.inl ⟨⟨by omega, c2, c3, c4, c5, d1⟩, q2, ?_, a2, a3⟩
              rw [e3, d2]
              refine mm_bi a1 ?_
              exact sg_X11_readsItem_176 _ _ q2
            · refine Or.inr ⟨fun z => z.2.2.2.2.2 k d1 d3, ?_⟩
              rw [e3, d2]
          · refine Or.inr ⟨fun z => c5 z.2.2.2.2.1, ?_⟩
            rw [e2, sg_X11_readsItem_85, if_neg (by decide), if_neg (by omega), if_pos (by omega), sg_X11_readsItem_109]
        · refine Or.inr ⟨fun z => c4 z.2.2.2.1, ?_⟩
          rw [e2, sg_X11_readsItem_85, if_neg (by decide), if_pos (by omega), sg_X11_readsItem_109]
      · refine Or.inr ⟨fun z => c3 z.2.2.1, ?_⟩
        rw [e1]
        refine mm_bi (M_in_f c3 q) ?_
        refine (sg_X11_readsItem_85 _ _ q).trans ?_
        rw [if_pos rfl, sg_X11_readsItem_109]
    · refine Or.inr ⟨fun z => c2 z.2.1, ?_⟩
      rw [sg_X11_readsItem_49, if_neg (by decide), if_neg c1]
      refine mm_bi (M_isYard_f (by omega) q) ?_
      refine (sg_X11_readsItem_71 _ _ q).trans ?_
      rw [if_pos rfl, sg_X11_readsItem_109]
/-- both took an item, or both did not -/
def TO (k k2 q q2 : mm_H) (v : Nat) (r : Int) : Prop := (r = 0 ∨ (r = 1 ∧ DR k2 v (q2 3))) ∧ (∀ a, (a < v ∨ v + 7 < a) → k2 a = k a) ∧ (∀ a, a ≠ 3 → q2 a = q a)
theorem TO_0 (k q : mm_H) (v : Nat) : TO k k q q v 0 := ⟨Or.inl rfl, fun _ _ => rfl, fun _ _ => rfl⟩
theorem tk_rope {k q : mm_H} {v : Nat} (hD : DR k v (q 3)) (l1 : Int) (hN : ∀ j, j < 4 → k 4 j = q 8 j) (hb : ∀ j, j < 4 → 0 ≤ q 8 j) : ∃ k2 q2 r, ex 51 0 [mm_r v, mm_i (k 4 0), mm_i (k 4 1), mm_i (k 4 2), mm_i (k 4 3)] [] k = some (some (mm_i r), k2) ∧ em 15 49 [mm_r 0, mm_i l1, mm_u] [mm_i 1] q = some (some (mm_i r), q2) ∧ TO k k2 q q2 v r := by
  have hn := hD.2.1.n
  rw [hN 0 (by decide), hN 1 (by decide), hN 2 (by decide), hN 3 (by decide)]
  have b0 := hb 0 (by decide)
  have b2 := hb 2 (by decide)
  have b3 := hb 3 (by decide)
  rcases X_takeRope hD (q 8 0) (q 8 1) (q 8 2) (q 8 3) b0 b2 b3 with ⟨x1, n, hn2, x2⟩ | ⟨x1, x2⟩
  · rcases M_itemRope l1 hD.2.1 b0 with ⟨-, q2, m1, m2, m3⟩ | ⟨m1, -⟩
    · refine ⟨_, q2, 1, x2, m1, ⟨Or.inr ⟨rfl, hD.1, ?_, ?_⟩, ?_, m3⟩⟩
      · rw [m2]; exact VM_rr hD.2.1 x1 b0 b2 b3
      · rw [m2]; exact VR_rr hD.2.2 hn2 (by have := x1.1; omega) _ _ _ _
      · intro a ha
        rw [z_sc _ _ (by omega), z_sc _ _ (by omega), z_sc _ _ (by omega), z_sc _ _ (by omega), z_sc _ _ (by omega)]
    · exact absurd x1 m1
  · rcases M_itemRope l1 hD.2.1 b0 with ⟨m1, -⟩ | ⟨-, m1⟩
    · exact absurd m1 x1
    · exact ⟨k, q, 0, x2, m1, TO_0 k q v⟩
theorem tk_want {k q : mm_H} {v : Nat} (hD : DR k v (q 3)) (l1 : Int) (hN : ∀ j, j < 2 → k 4 j = q 8 j) (hb : ∀ j, j < 2 → 0 ≤ q 8 j) : ∃ k2 q2 r, ex 52 0 [mm_r v, mm_i (k 4 0), mm_i (k 4 1)] [] k = some (some (mm_i r), k2) ∧ em 15 183 [mm_r 0, mm_i l1, mm_u] [mm_i 1] q = some (some (mm_i r), q2) ∧ TO k k2 q q2 v r := by
  have hv := hD.1
  have hn := hD.2.1.n
  have hw := hD.2.1.w
  have v1 : k v 1 = q 3 1 := hD.2.2.1.2.1
  rw [hN 0 (by decide), hN 1 (by decide)]
  have b0 := hb 0 (by decide)
  have b1 := hb 1 (by decide)
  by_cases c1 : q 3 1 = 8
  · refine ⟨k, q, 0, ?_, ?_, TO_0 k q v⟩
    · rw [sg_X9_takeWant_0 hv, if_neg (by omega), sg_X9_takeWant_23 hv]
    · rw [sg_X11_readsItem_183, if_neg (by decide), if_pos c1, sg_X11_readsItem_219]
  · by_cases c2 : q 8 0 < 24
    · have ex1 : ex 52 0 [mm_r v, mm_i (q 8 0), mm_i (q 8 1)] [] k = (ex 96 0 [mm_i (q 8 1)] [] k).bind fun z => ex 52 20 [mm_r v, mm_i (q 8 0), mm_i (q 8 1)] (z.1.toList ++ []) z.2 := by
        rw [sg_X9_takeWant_0 hv, if_pos (by omega)]
        refine mm_bi (X_isYard_t ⟨b0, c2⟩ k) ?_
        refine (sg_X9_takeWant_13 hv _ _ _ k).trans ?_
        rw [if_neg (by decide)]
      have em1 : em 15 183 [mm_r 0, mm_i l1, mm_u] [mm_i 1] q = em 15 206 [mm_r 0, mm_i l1, mm_u] [mm_i 1] q := by
        rw [sg_X11_readsItem_183, if_neg (by decide), if_neg c1]
        exact mm_bi (M_isYard_t ⟨b0, c2⟩ q) rfl
      by_cases c3 : q 8 1 ≤ 3
      · obtain ⟨q2, m1, m2, m3⟩ := M_wantOf (q := q) (by omega) (q 8 0) (q 8 1)
        obtain ⟨k2, x1, x2, x3⟩ := X_takeWant_t hD b0 b1 ⟨by omega, c2, c3⟩
        refine ⟨k2, q2, 1, x1, ?_, ⟨Or.inr ⟨rfl, by rw [m2]; exact x2⟩, x3, m3⟩⟩
        rw [em1, sg_X11_readsItem_206, if_neg (by decide), if_neg (by omega)]
        refine mm_bi m1 ?_
        exact sg_X11_readsItem_237 _ q2
      · refine ⟨k, q, 0, ?_, ?_, TO_0 k q v⟩
        · rw [ex1]
          refine mm_bi (X_isLight_f (by omega) k) ?_
          refine (sg_X9_takeWant_20 hv _ _ _ k).trans ?_
          rw [if_pos rfl, sg_X9_takeWant_23 hv]
        · rw [em1, sg_X11_readsItem_206, if_neg (by decide), if_pos (by omega), sg_X11_readsItem_219]
    · refine ⟨k, q, 0, ?_, ?_, TO_0 k q v⟩
      · rw [sg_X9_takeWant_0 hv, if_pos (by omega)]
        refine mm_bi (X_isYard_f (by omega) k) ?_
        refine (sg_X9_takeWant_13 hv _ _ _ k).trans ?_
        rw [if_pos rfl, sg_X9_takeWant_23 hv]
      · rw [sg_X11_readsItem_183, if_neg (by decide), if_neg c1]
        refine mm_bi (M_isYard_f (by omega) q) ?_
        refine (sg_X11_readsItem_206 _ _ q).trans ?_
        rw [if_pos rfl, sg_X11_readsItem_219]
theorem tk_man {k q : mm_H} {v : Nat} (hD : DR k v (q 3)) (l1 : Int) (hN : ∀ j, j < 1 → k 4 j = q 8 j) (hb : ∀ j, j < 1 → 0 ≤ q 8 j) : ∃ k2 q2 r, ex 53 0 [mm_r v, mm_i (k 4 0)] [] k = some (some (mm_i r), k2) ∧ em 15 244 [mm_r 0, mm_i l1, mm_u] [mm_i 1] q = some (some (mm_i r), q2) ∧ TO k k2 q q2 v r := by
  have hv := hD.1
  have hn := hD.2.1.n
  have hw := hD.2.1.w
  have hm := hD.2.1.m
  have v2 : k v 2 = q 3 2 := hD.2.2.1.2.2.1
  rw [hN 0 (by decide)]
  have b0 := hb 0 (by decide)
  by_cases c1 : q 3 2 = 6
  · refine ⟨k, q, 0, ?_, ?_, TO_0 k q v⟩
    · rw [sg_X9_takeMan_0 hv, if_neg (by omega), sg_X9_takeMan_16 hv]
    · rw [sg_X11_readsItem_244, if_neg (by decide), if_pos c1, sg_X11_readsItem_270]
  · by_cases c2 : q 8 0 < 24
    · obtain ⟨q2, m1, m2, m3⟩ := M_manOf (q := q) (by omega) (q 8 0)
      obtain ⟨k2, x1, x2, x3⟩ := X_takeMan_t hD b0 ⟨by omega, c2⟩
      refine ⟨k2, q2, 1, x1, ?_, ⟨Or.inr ⟨rfl, by rw [m2]; exact x2⟩, x3, m3⟩⟩
      rw [sg_X11_readsItem_244, if_neg (by decide), if_neg c1]
      refine mm_bi (M_isYard_t ⟨b0, c2⟩ q) ?_
      refine (sg_X11_readsItem_267 _ _ q).trans ?_
      rw [if_neg (by decide)]
      refine mm_bi m1 ?_
      exact sg_X11_readsItem_282 _ q2
    · refine ⟨k, q, 0, ?_, ?_, TO_0 k q v⟩
      · rw [sg_X9_takeMan_0 hv, if_pos (by omega)]
        refine mm_bi (X_isYard_f (by omega) k) ?_
        refine (sg_X9_takeMan_13 hv _ _ k).trans ?_
        rw [if_pos rfl, sg_X9_takeMan_16 hv]
      · rw [sg_X11_readsItem_244, if_neg (by decide), if_neg c1]
        refine mm_bi (M_isYard_f (by omega) q) ?_
        refine (sg_X11_readsItem_267 _ _ q).trans ?_
        rw [if_pos rfl, sg_X11_readsItem_270]
theorem tk_price {k q : mm_H} {v : Nat} (hD : DR k v (q 3)) (l1 : Int) (hN : ∀ j, j < 2 → k 4 j = q 8 j) (hb : ∀ j, j < 2 → 0 ≤ q 8 j) : ∃ k2 q2 r, ex 54 0 [mm_r v, mm_i (k 4 0), mm_i (k 4 1)] [] k = some (some (mm_i r), k2) ∧ em 15 289 [mm_r 0, mm_i l1, mm_u] [mm_i 1] q = some (some (mm_i r), q2) ∧ TO k k2 q q2 v r := by
  have hv := hD.1
  rw [hN 0 (by decide), hN 1 (by decide)]
  have b0 := hb 0 (by decide)
  have b1 := hb 1 (by decide)
  by_cases c1 : q 8 0 ≤ 9
  · by_cases c2 : q 8 1 ≤ 9
    · obtain ⟨k2, x1, x2, x3⟩ := X_takePrices_t hD b0 b1 ⟨c1, c2⟩
      refine ⟨k2, mm_st (mm_st q 3 3 (q 8 0)) 3 4 (q 8 1), 1, x1, ?_, ⟨Or.inr ⟨rfl, by rw [z_sr, z_sr]; exact x2⟩, x3, ?_⟩⟩
      · rw [sg_X11_readsItem_289, if_neg (by decide), if_neg (by omega), if_neg (by omega), z_sc _ _ (show 8 ≠ 3 by decide)]
      · intro a ha
        rw [z_sc _ _ ha, z_sc _ _ ha]
    · refine ⟨k, q, 0, ?_, ?_, TO_0 k q v⟩
      · rw [sg_X9_takePrices_0 hv, if_neg (by omega), if_neg (by omega), if_neg (by omega), if_pos (by omega), sg_X9_takePrices_20 hv]
      · rw [sg_X11_readsItem_289, if_neg (by decide), if_neg (by omega), if_pos (by omega), sg_X11_readsItem_314]
  · refine ⟨k, q, 0, ?_, ?_, TO_0 k q v⟩
    · rw [sg_X9_takePrices_0 hv, if_neg (by omega), if_pos (by omega), sg_X9_takePrices_20 hv]
    · rw [sg_X11_readsItem_289, if_neg (by decide), if_pos (by omega), sg_X11_readsItem_314]
