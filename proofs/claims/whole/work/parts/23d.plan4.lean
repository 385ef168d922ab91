/-! ===== plan: the class searches ===== -/
theorem X_out_l {h : mm_H} {R S : Nat → Int} {k n : Nat} (hR : VM R) (hk : (k : Int) < R 0) (hD : DS h 25 R S) (hS : SM R S) : ∀ (m i : Nat), i + m = 4 → ex 19 11 [mm_i (R (10 + k)), mm_r 25, mm_i k, mm_i n, mm_i (oh_f R S k n i), mm_i i] [] h = some (some (mm_i (oc_f R S k n)), h)
  | 0, i, hi => by
    rw [sg_X4_outcome_11 rfl, if_neg (by omega), show i = 4 by omega]; rfl
  | m + 1, i, hi => by
    have hn := hR.n
    have hb := oh_b (R := R) (hS.1 k hk) n i
    have hp := (hR.r hk).2.1
    have h10 := hS.2.2.1
    have ih := X_out_l (n := n) hR hk hD hS m (i + 1) (by omega)
    rw [oh_s] at ih
    have go : ∀ s : Int, s = (if i < n then 1 else 0) → ex 19 44 [mm_i (R (10 + k)), mm_r 25, mm_i k, mm_i n, mm_i (oh_f R S k n i), mm_i i] [mm_i s, mm_i (S 10 + i), mm_i (S (5 + k)), mm_i (R (10 + k)), mm_i (oh_f R S k n i)] h = some (some (mm_i (oc_f R S k n)), h) := by
      intro s hs
      rw [sg_X4_outcome_44 rfl]
      refine mm_bi (X_turnsThen hb hp (by rw [hs]; split <;> omega) (by omega) h) ?_
      refine (sg_X4_outcome_47 rfl _ _ _ _ _ _ h).trans ?_
      rw [z_wr (by omega) (by omega), hs]
      exact ih
    rw [sg_X4_outcome_11 rfl, if_pos (by omega), if_pos (by omega), hD.2.1, Int.toNat_natCast, (hD.1 k hk).2, z_add (by omega) (by omega)]
    by_cases c : i < n
    · rw [if_pos (by omega)]; exact go 1 (by rw [if_pos c])
    · rw [if_neg (by omega)]; exact go 0 (by rw [if_neg c])
theorem X_out {h : mm_H} {R S : Nat → Int} {k n : Nat} (hR : VM R) (hk : (k : Int) < R 0) (hD : DS h 25 R S) (hS : SM R S) : ex 19 0 [mm_i (R (10 + k)), mm_r 25, mm_i k, mm_i n, mm_u, mm_u] [] h = some (some (mm_i (oc_f R S k n)), h) := by
  have hn := hR.n
  rw [sg_X4_outcome_0 rfl, if_pos (by omega), Int.toNat_natCast, (hD.1 k hk).1]
  exact X_out_l hR hk hD hS 4 0 (by omega)
def FP (h q : mm_H) : Prop := ∀ a, a ≠ 66 → (a < 71 ∨ 75 < a) → q a = h a
theorem X_fillp {h : mm_H} {v : Nat} {R S : Nat → Int} {k : Nat} (hV : VL h v R) (hk : (k : Int) < R 0) (hD : DS h 25 R S) (hS : SM R S) : ∀ (m j : Nat) (q : mm_H), j + m = 5 → FP h q → (∀ i, i < j → q (71 + k) i = oc_f R S k i) → ∃ q2 l, ex 18 19 [mm_r 66, mm_r v, mm_r 25, mm_i k, mm_i j] [] q = ex 18 8 [mm_r 66, mm_r v, mm_r 25, mm_i ((k : Int) + 1), l] [] q2 ∧ (∀ a, a ≠ 71 + k → q2 a = q a) ∧ ∀ i, i < 5 → q2 (71 + k) i = oc_f R S k i
  | 0, j, q, hj, hq, hr => by
    have hn := hV.2.1.n
    refine ⟨q, mm_i j, ?_, fun _ _ => rfl, by rw [show 5 = j by omega]; exact hr⟩
    rw [sg_X4_search_19 hV.1 rfl, if_pos (by omega), z_wr (by omega) (by omega)]
  | m + 1, j, q, hj, hq, hr => by
    have hn := hV.2.1.n
    have hD2 : DS q 25 R S := DS_up hD (fun a h1 h2 => hq a (by omega) (by omega))
    have e2 : q (v + 2) k = R (10 + k) := by rw [hq _ (by have := hV.1; omega) (by have := hV.1; omega)]; exact (hV.2.2.2.1.2.1 k hk).2.1
    rw [sg_X4_search_19 hV.1 rfl, if_neg (by omega), if_pos (by omega), Int.toNat_natCast, sg_X4_search_31 hV.1 rfl (by omega), if_pos (by omega), Int.toNat_natCast, e2]
    obtain ⟨q2, l, a1, a2, a3⟩ := X_fillp hV hk hD hS m (j + 1) (mm_st q (71 + k) j (oc_f R S k j)) (by omega) (fun a h1 h2 => by rw [z_sc _ _ (by omega)]; exact hq a h1 h2) (fun i hi => by
      by_cases e : i = j
      · rw [e, z_se]
      · rw [z_ss _ _ e]; exact hr i (by omega))
    refine ⟨q2, l, ?_, fun a ha => (a2 a ha).trans (z_sc _ _ ha), a3⟩
    refine mm_bi (X_out hV.2.1 hk hD2 hS) ?_
    refine (sg_X4_search_46 hV.1 rfl (by omega) _ _ _ _ q).trans ?_
    rw [if_pos (by omega), Int.toNat_natCast, z_wr (by omega) (by omega)]
    exact a1
theorem X_fills {h : mm_H} {v : Nat} {R S : Nat → Int} (hV : VL h v R) (hD : DS h 25 R S) (hS : SM R S) : ∀ (m k : Nat) (q : mm_H) (l : mm_V), (k : Int) + m = R 0 → FP h q → (∀ i j : Nat, i < k → j < 5 → q (71 + i) j = oc_f R S i j) → ∃ q2 l2, ex 18 8 [mm_r 66, mm_r v, mm_r 25, mm_i k, l] [] q = ex 18 8 [mm_r 66, mm_r v, mm_r 25, mm_i (R 0), l2] [] q2 ∧ FP h q2 ∧ (∀ i j : Nat, (i : Int) < R 0 → j < 5 → q2 (71 + i) j = oc_f R S i j) ∧ q2 66 0 = q 66 0
  | 0, k, q, l, hk, hq, hr => ⟨q, l, by rw [show R 0 = k by omega], hq, fun i j h1 h2 => hr i j (by omega) h2, rfl⟩
  | m + 1, k, q, l, hk, hq, hr => by
    have hn := hV.2.1.n
    have e0 : q v 0 = R 0 := by rw [hq _ (by have := hV.1; omega) (by have := hV.1; omega)]; exact hV.2.2.2.1.1.1
    obtain ⟨q1, l1, a1, a2, a3⟩ := X_fillp hV (k := k) (by omega) hD hS 5 0 q (by omega) hq (fun i hi => by omega)
    obtain ⟨q2, l2, b1, b2, b3, b4⟩ := X_fills hV hD hS m (k + 1) q1 l1 (by omega) (fun a h1 h2 => by rw [a2 a (by omega)]; exact hq a h1 h2) (fun i j h1 h2 => by
      by_cases e : i = k
      · rw [e]; exact a3 j h2
      · rw [a2 _ (by omega)]; exact hr i j (by omega) h2)
    refine ⟨q2, l2, ?_, b2, b3, by rw [b4, a2 66 (by omega)]⟩
    rw [sg_X4_search_8 hV.1 rfl, e0, if_pos (by omega)]
    exact a1.trans b1
theorem X_search {h : mm_H} {v : Nat} {R S : Nat → Int} {n : Nat} (hn : R 0 = n) (hV : VL h v R) (hD : DS h 25 R S) (hS : SM R S) : ∃ h2, ex 18 0 [mm_r 66, mm_r v, mm_r 25, mm_u, mm_u] [] h = some (none, h2) ∧ QB n h2 (qf_f R (oc_f R S) n 0 (5 ^ n) (-4, -4)) ∧ ∀ a, (a < 66 ∨ 75 < a) → h2 a = h a := by
  obtain ⟨q, l, a1, a2, a3, a4⟩ := X_fills hV hD hS n 0 (mm_st h 66 0 (-4)) mm_u (by omega) (fun a h1 _ => z_sc _ _ h1) (fun i j h1 _ => by omega)
  rw [z_se] at a4
  have hV2 : VL q v R := VL_up hV (fun a h1 h2 => a2 a (by have := hV.1; omega) (by have := hV.1; omega))
  obtain ⟨h2, b1, b2, b3, b4⟩ := X_plan_0 v R (oc_f R S) n n 0 q (-4, -4) hV2 hn ⟨fun i m hi => oh_b (hS.1 i hi) m 4, fun i m h1 h2 => a3 i m (by omega) h2⟩ (by omega) rfl (fun i hi => by omega) ⟨a4, Or.inl ⟨rfl, rfl⟩⟩
  rw [qb_qf, Nat.zero_mul] at b2
  refine ⟨h2, ?_, b2, fun a ha => (b3 a (by omega) (by omega) (by omega) (by omega)).trans (a2 a (by omega) (by omega))⟩
  rw [sg_X4_search_0 hV.1 rfl]
  refine a1.trans ?_
  rw [sg_X4_search_8 hV.1 rfl, hV2.2.2.2.1.1.1, if_neg (by omega)]
  refine mm_bi b1 ?_
  exact sg_X4_search_66 hV.1 rfl _ _ h2
