/-! ===== hours, greasing, undone, kept ===== -/
theorem z_2n {n : Int} (hn : 1 ≤ n ∧ n ≤ 5) : 2 ≤ mm_shl 1 n ∧ mm_shl 1 n ≤ 32 := by
  rcases (show n = 1 ∨ n = 2 ∨ n = 3 ∨ n = 4 ∨ n = 5 by omega) with rfl | rfl | rfl | rfl | rfl <;> decide +kernel
theorem z_disj : ∀ d u : Fin 32, mm_and (d.val : Int) (u.val : Int) = 0 → ∀ j : Fin 5, ¬ (bt_f (d.val : Int) (j.val : Int) = 1 ∧ bt_f (u.val : Int) (j.val : Int) = 1) := by decide +kernel
theorem NO_of {d u : Int} (hd : 0 ≤ d ∧ d < 32) (hu : 0 ≤ u ∧ u < 32) (h : mm_and d u = 0) : NO d u := by
  intro j hj
  have := z_disj ⟨d.toNat, by omega⟩ ⟨u.toNat, by omega⟩
  dsimp only at this
  rw [show ((d.toNat : Nat) : Int) = d by omega, show ((u.toNat : Nat) : Int) = u by omega] at this
  exact this h ⟨j, hj⟩
theorem X_hasSet {h : mm_H} {v : Nat} {R : Nat → Int} (hV : VL h v R) (x : Int) : ex 59 0 [mm_r v, mm_i x] [] h = some (some (mm_i (if 0 ≤ x ∧ x < mm_shl 1 (R 0) then 1 else 0)), h) := by
  rw [sg_X9_hasSet_0 hV.1, X_sets hV]
  change (if x < 0 then _ else ex 59 9 [mm_r v, mm_i x] [mm_i (mm_shl 1 (R 0)), mm_i x] h) = _
  rw [sg_X9_hasSet_9 hV.1, sg_X9_hasSet_16 hV.1, sg_X9_hasSet_17 hV.1, sg_X9_hasSet_17 hV.1, if_pos (Or.inl rfl), if_pos (Or.inr rfl)]
  by_cases c1 : x < 0
  · rw [if_pos c1, if_neg (by omega)]
  · rw [if_neg c1]
    by_cases c2 : x < mm_shl 1 (R 0)
    · rw [if_pos c2, if_pos (by omega)]
    · rw [if_neg c2, if_neg (by omega)]
theorem X_price {h : mm_H} {v : Nat} {R : Nat → Int} (hV : VL h v R) {dn up : Int} (hd : 0 ≤ dn ∧ dn < 256) (hu : 0 ≤ up ∧ up < 256) : ex 60 0 [mm_r v, mm_i dn, mm_i up] [] h = some (some (mm_i (co_f R dn up)), h) := by
  have hc := co_b hV.2.1 dn up
  obtain ⟨e0, e1, e2, e3, e4⟩ := hV.2.2.2.1.1
  rw [sg_X9_price_0 hV.1]
  refine mm_bi (X_bitCount hd h) ?_
  refine (sg_X9_price_8 hV.1 _ _ _ _ h).trans ?_
  refine mm_bi (X_bitCount hu h) ?_
  refine (sg_X9_price_17 hV.1 _ _ _ _ _ h).trans ?_
  rw [e3, e4, z_mul (by omega) (by omega), z_mul (by omega) (by omega), z_add (by omega) (by omega)]
  rfl
/-- Rel when only the dusk, what can be undone, and what is kept have changed -/
theorem Rel_d {h g h2 g2 : mm_H} {v : Nat} (hr : Rel h g v) (eh : ∀ a, ¬ (25 ≤ a ∧ a < 62) → h2 a = h a) (eg : ∀ a, a ≠ 0 → a ≠ 4 → a ≠ 5 → a ≠ 6 → g2 a = g a) (eg0 : ∀ j, j ≠ 6 → j ≠ 8 → g2 0 j = g 0 j) (hD : DS h2 25 (g 2) (g2 4)) (hS : SM (g 2) (g2 4)) (hU : UD h2 g2) (hK : KP h2 g2) : Rel h2 g2 v := by
  have e2 : g2 2 = g 2 := eg 2 (by decide) (by decide) (by decide) (by decide)
  refine ⟨by rw [eh 0 (by decide)]; exact hr.1, ?_, ?_, ?_, ?_, hU, hK, ?_⟩
  · rw [e2]; exact VL_up hr.V (fun a h1 h2 => eh a (by have := hr.V.1; omega))
  · exact TX_k hr.t (eh 1 (by decide)) (eh 2 (by decide)) (eg0 1 (by decide) (by decide)) (eg 1 (by decide) (by decide) (by decide) (by decide))
  · rw [e2]; exact hD
  · rw [e2]; exact hS
  · exact SN_k hr.N (by rw [eh 79 (by decide)]) (eh 80 (by decide)) (eh 81 (by decide)) (eg0 10 (by decide) (by decide)) (eg 7 (by decide) (by decide) (by decide) (by decide))
theorem op_grease {h g : mm_H} {v : Nat} (hr : Rel h g v) (k : Int) : AG (ex 75 0 [mm_r 0, mm_i k, mm_u] [] h) (em 30 0 [mm_r 0, mm_i k, mm_u] [] g) := by
  have hn := hr.M.1.n
  by_cases c : 0 ≤ k ∧ k < g 2 0
  · obtain ⟨h2, g2, p1, p2, p3, p4, p5, p6⟩ := push_U hr
    have e27 : h2 27 = h 27 := p4 27 (by omega)
    have e4 : g2 4 = g 4 := p5 4 (by decide) (by decide)
    have ed := (hr.D.1 k.toNat (by omega)).2
    have hS := hr.S
    refine ⟨g 4 (5 + k.toNat), mm_st h2 27 k.toNat 1, mm_st g2 4 (5 + k.toNat) 1, v, ?_, ?_, ?_⟩
    · rw [sg_X10_grease_0, hr.v, sg_X10_grease_4 hr.V.1]
      refine mm_bi (X_hasRope_t hr.V c) ?_
      refine (sg_X10_grease_8 _ _ h).trans ?_
      rw [if_neg (by decide)]
      refine mm_bi p1 ?_
      refine (sg_X10_grease_24 _ h2).trans ?_
      rw [if_pos (by omega), if_pos (by omega), e27]
      change some (some (mm_i (h (25 + 2) k.toNat)), _) = _
      rw [ed]
    · rw [sg_X11_grease_0]
      refine mm_bi (M_isRope_t hn c) ?_
      refine (sg_X11_grease_5 _ _ g).trans ?_
      rw [if_neg (by decide)]
      refine mm_bi p2 ?_
      refine (sg_X11_grease_14 _ g2).trans ?_
      rw [z_add (by omega) (by omega), if_pos (by omega), if_pos (by omega), show (5 + k).toNat = 5 + k.toNat by omega, e4]
    · have e44 : (mm_st g2 4 (5 + k.toNat) 1) 4 = mm_up (g 4) (5 + k.toNat) 1 := by rw [z_sr, e4]
      refine Rel_d hr (fun a ha => by rw [z_sc _ _ (by omega)]; exact p4 a (by omega)) (fun a h0 h4 h5 h6 => by rw [z_sc _ _ h4]; exact p5 a h0 h5) (fun j h6 h8 => by rw [z_sc _ _ (by decide)]; exact p6 j h6) ?_ ?_ ?_ ?_
      · rw [e44]
        refine ⟨fun j hj => ⟨?_, ?_⟩, ?_, ?_⟩
        · rw [z_sc _ _ (by decide), p4 (25 + 1) (by omega), z_un _ _ (by omega)]; exact (hr.D.1 j hj).1
        · by_cases e : j = k.toNat
          · subst e; rw [z_up]; exact z_se _ _ _ _
          · rw [z_un _ _ (by omega)]
            refine (z_ss h2 1 e).trans ?_
            rw [e27]; exact (hr.D.1 j hj).2
        · rw [z_sc _ _ (by decide), p4 25 (by omega), z_un _ _ (by omega)]; exact hr.D.2.1
        · rw [z_sc _ _ (by decide), p4 25 (by omega), z_un _ _ (by omega)]; exact hr.D.2.2
      · rw [e44]
        refine ⟨fun j hj => by rw [z_un _ _ (by omega)]; exact hS.1 j hj, fun j hj => ?_, by rw [z_un _ _ (by omega)]; exact hS.2.2.1, by rw [z_un _ _ (by omega), z_un _ _ (by omega)]; exact hS.2.2.2⟩
        by_cases e : j = k.toNat
        · subst e; rw [z_up]; omega
        · rw [z_un _ _ (by omega)]; exact hS.2.1 j hj
      · exact UD_k p3 (fun a h1 h2' => z_sc _ _ (by omega)) (by rw [z_sc _ _ (by decide)]) (z_sc _ _ (by decide)) (z_sc _ _ (by decide))
      · exact KP_k hr.K (fun a h1 h2' => by rw [z_sc _ _ (by omega)]; exact p4 a (by omega)) (by rw [z_sc _ _ (by decide)]; exact p6 8 (by decide)) (by rw [z_sc _ _ (by decide)]; exact p5 6 (by decide) (by decide)) (by rw [z_sc _ _ (by decide)]; exact p5 2 (by decide) (by decide))
  · refine AG_0 (r := -1) hr ?_ ?_
    · rw [sg_X10_grease_0, hr.v, sg_X10_grease_4 hr.V.1]
      refine mm_bi (X_hasRope_f hr.V c) ?_
      exact (sg_X10_grease_8 _ _ h).trans (if_pos rfl)
    · rw [sg_X11_grease_0]
      refine mm_bi (M_isRope_f hn c) ?_
      exact (sg_X11_grease_5 _ _ g).trans (if_pos rfl)
theorem M_hour_in {g : mm_H} (hg : MV g) {dn up : Int} (c1 : 0 ≤ dn ∧ dn < mm_shl 1 (g 2 0)) (c2 : 0 ≤ up ∧ up < mm_shl 1 (g 2 0)) : em 29 0 [mm_r 0, mm_i dn, mm_i up] [] g = em 29 25 [mm_r 0, mm_i dn, mm_i up] [mm_i 1] g := by
  have h2 := z_2n ⟨hg.2.1, hg.1.n.2⟩
  rw [sg_X11_hour_0]
  refine mm_bi (M_sets g) ?_
  refine (sg_X11_hour_6 _ _ _ _ _ g).trans ?_
  rw [z_sub (by omega) (by omega)]
  refine mm_bi (M_in_t (by omega) g) ?_
  refine (sg_X11_hour_11 _ _ _ g).trans ?_
  rw [if_neg (by decide)]
  refine mm_bi (M_sets g) ?_
  refine (sg_X11_hour_20 _ _ _ _ _ g).trans ?_
  rw [z_sub (by omega) (by omega)]
  exact mm_bi (M_in_t (by omega) g) rfl
theorem M_hour_out {g : mm_H} (hg : MV g) {dn up : Int} (c : ¬ ((0 ≤ dn ∧ dn < mm_shl 1 (g 2 0)) ∧ (0 ≤ up ∧ up < mm_shl 1 (g 2 0)))) : em 29 0 [mm_r 0, mm_i dn, mm_i up] [] g = some (some (mm_i (-1)), g) := by
  have h2 := z_2n ⟨hg.2.1, hg.1.n.2⟩
  rw [sg_X11_hour_0]
  refine mm_bi (M_sets g) ?_
  refine (sg_X11_hour_6 _ _ _ _ _ g).trans ?_
  rw [z_sub (by omega) (by omega)]
  by_cases c1 : 0 ≤ dn ∧ dn < mm_shl 1 (g 2 0)
  · refine mm_bi (M_in_t (by omega) g) ?_
    refine (sg_X11_hour_11 _ _ _ g).trans ?_
    rw [if_neg (by decide)]
    refine mm_bi (M_sets g) ?_
    refine (sg_X11_hour_20 _ _ _ _ _ g).trans ?_
    rw [z_sub (by omega) (by omega)]
    refine mm_bi (M_in_f (by omega) g) ?_
    exact (sg_X11_hour_25 _ _ _ g).trans ((if_pos rfl).trans (sg_X11_hour_34 _ _ g))
  · refine mm_bi (M_in_f (by omega) g) ?_
    exact (sg_X11_hour_11 _ _ _ g).trans ((if_pos rfl).trans (sg_X11_hour_34 _ _ g))
theorem op_hour {h g : mm_H} {v : Nat} (hr : Rel h g v) (dn up : Int) : AG (ex 74 0 [mm_r 0, mm_i dn, mm_i up, mm_u] [] h) (em 29 0 [mm_r 0, mm_i dn, mm_i up] [] g) := by
  have hn := hr.M.1.n
  have h2n := z_2n ⟨hr.M.2.1, hn.2⟩
  have hS := hr.S
  by_cases c : (0 ≤ dn ∧ dn < mm_shl 1 (g 2 0)) ∧ (0 ≤ up ∧ up < mm_shl 1 (g 2 0))
  · have hx : ex 74 0 [mm_r 0, mm_i dn, mm_i up, mm_u] [] h = ex 74 19 [mm_r 0, mm_i dn, mm_i up, mm_u] [mm_i 1] h := by
      rw [sg_X10_hour_0, hr.v, sg_X10_hour_4 hr.V.1]
      refine mm_bi (X_hasSet hr.V dn) ?_
      refine (sg_X10_hour_8 _ _ _ h).trans ?_
      rw [if_neg (by rw [if_pos c.1]; decide), hr.v, sg_X10_hour_15 hr.V.1]
      refine mm_bi (X_hasSet hr.V up) ?_
      rw [if_pos c.2]; rfl
    rw [hx, M_hour_in hr.M c.1 c.2]
    by_cases c2 : mm_and dn up = 0
    · by_cases c3 : g 4 10 = 99
      · refine AG_0 (r := -2) hr ?_ ?_
        · rw [sg_X10_hour_19, if_neg (by decide), if_pos c2, hr.D.2.1, if_neg (by omega)]
        · rw [sg_X11_hour_25, if_neg (by decide), if_pos c2, if_pos c3]
      · obtain ⟨h2, g2, p1, p2, p3, p4, p5, p6⟩ := push_U hr
        have e4 : g2 4 = g 4 := p5 4 (by decide) (by decide)
        have e2 : g2 2 = g 2 := p5 2 (by decide) (by decide)
        have hV2 : VL h2 v (g 2) := VL_up hr.V (fun a h1 h2 => p4 a (by have := hr.V.1; omega))
        have hD2 : DT h2 25 (g 2) (g 4) := ⟨fun k hk => by rw [p4 (25 + 1) (by omega), p4 (25 + 2) (by omega)]; exact hr.D.1 k hk, by rw [p4 25 (by omega)]; exact hr.D.2.1⟩
        have hno := NO_of (d := dn) (u := up) (by omega) (by omega) c2
        obtain ⟨h3, q1, q2, q3, q4⟩ := X_pass (Or.inl rfl) hV2 hD2 (SM_SB hS) hno (by have := hS.2.2.1; omega)
        have hc := co_b hr.M.1 dn up
        have hS3 := hS.2.2
        have ecost : h3 25 3 = g 4 11 := by rw [q4, p4 25 (by omega)]; exact hr.D.2.2
        have hmg := M_goes (g := g2) (by rw [e2]; exact hr.M.1) (by rw [e2, e4]; exact SM_SB hS) dn up (by rw [e4]; have := hS.2.2.1; omega)
        rw [e2, e4] at hmg
        have e44 : (mm_up g2 4 (gs_f (g 2) (g 4) dn up)) 4 = gs_f (g 2) (g 4) dn up := z_up _ _ _
        refine ⟨co_f (g 2) dn up, mm_st h3 25 3 (g 4 11 + co_f (g 2) dn up), mm_up g2 4 (gs_f (g 2) (g 4) dn up), v, ?_, ?_, ?_⟩
        · rw [sg_X10_hour_19, if_neg (by decide), if_pos c2, hr.D.2.1, if_pos (by omega)]
          refine mm_bi p1 ?_
          refine (sg_X10_hour_56 _ _ h2).trans ?_
          have e02 : (h2 0 2).toNat = v := by rw [p4 0 (by omega)]; exact hr.v
          rw [e02, sg_X10_hour_60 hr.V.1]
          refine mm_bi (X_price hV2 (by omega) (by omega)) ?_
          refine (sg_X10_hour_65 _ _ _ h2).trans ?_
          rw [e02, sg_X10_hour_74 hr.V.1]
          refine mm_bi q1 ?_
          refine (sg_X10_hour_79 _ _ _ h3).trans ?_
          rw [ecost, z_add (by unfold co_f; omega) (by unfold co_f; omega)]
        · rw [sg_X11_hour_25, if_neg (by decide), if_pos c2, if_neg c3]
          refine mm_bi p2 ?_
          refine (sg_X11_hour_55 _ _ g2).trans ?_
          refine mm_bi hmg ?_
          exact sg_X11_hour_61 _ _ _ (mm_up g2 4 (gs_f (g 2) (g 4) dn up))
        · refine Rel_d hr (fun a ha => by rw [z_sc _ _ (by omega), q3 a (by omega) (by omega)]; exact p4 a (by omega)) (fun a h0 h4 h5 h6 => by rw [z_un _ _ h4]; exact p5 a h0 h5) (fun j h6 h8 => by rw [z_un _ _ (by decide)]; exact p6 j h6) ?_ ?_ ?_ ?_
          · rw [e44]
            refine ⟨fun k hk => by rw [z_sc _ _ (by decide), z_sc _ _ (by decide)]; exact q2.1 k hk, by rw [z_ss _ _ (by decide)]; exact q2.2, by rw [z_se]; rfl⟩
          · rw [e44]
            have hsb := gs_SB hr.M.1 (SM_SB hS) dn up (by have := hS.2.2.1; omega)
            refine ⟨hsb.1, hsb.2.1, ⟨hsb.2.2.1.1, ?_⟩, hsb.2.2.2⟩
            show g 4 10 + 1 ≤ 99
            omega
          · exact UD_k p3 (fun a h1 h2' => by rw [z_sc _ _ (by omega), q3 a (by omega) (by omega)]) (by rw [z_un _ _ (by decide)]) (z_un _ _ (by decide)) (z_un _ _ (by decide))
          · exact KP_k hr.K (fun a h1 h2' => by rw [z_sc _ _ (by omega), q3 a (by omega) (by omega)]; exact p4 a (by omega)) (by rw [z_un _ _ (by decide)]; exact p6 8 (by decide)) (by rw [z_un _ _ (by decide)]; exact p5 6 (by decide) (by decide)) (by rw [z_un _ _ (by decide)]; exact e2)
    · refine AG_0 (r := -1) hr ?_ ?_
      · rw [sg_X10_hour_19, if_neg (by decide), if_neg c2, sg_X10_hour_28]
      · rw [sg_X11_hour_25, if_neg (by decide), if_neg c2, sg_X11_hour_34]
  · refine AG_0 (r := -1) hr ?_ (M_hour_out hr.M c)
    rw [sg_X10_hour_0, hr.v, sg_X10_hour_4 hr.V.1]
    refine mm_bi (X_hasSet hr.V dn) ?_
    refine (sg_X10_hour_8 _ _ _ h).trans ?_
    by_cases c1 : 0 ≤ dn ∧ dn < mm_shl 1 (g 2 0)
    · rw [if_neg (by rw [if_pos c1]; decide), hr.v, sg_X10_hour_15 hr.V.1]
      refine mm_bi (X_hasSet hr.V up) ?_
      refine (sg_X10_hour_19 _ _ _ h).trans ?_
      rw [if_pos (by rw [if_neg (fun q => c ⟨c1, q⟩)])]
      exact sg_X10_hour_28 _ _ h
    · rw [if_pos (by rw [if_neg c1])]
      exact sg_X10_hour_28 _ _ h
