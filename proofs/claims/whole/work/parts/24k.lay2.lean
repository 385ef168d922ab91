/-! ===== fault, lay ===== -/
theorem VM_c {R R2 : Nat → Int} (e : ∀ j, j < 47 → R2 j = R j) (h : VM R) : VM R2 := by
  obtain ⟨a1, a2, a3, a4, a5, a6, a7, a8⟩ := h
  refine ⟨?_, ?_, ?_, ?_, ?_, ?_, ?_, ?_⟩
  · rw [e 0 (by decide)]; exact a1
  · rw [e 1 (by decide)]; exact a2
  · rw [e 2 (by decide)]; exact a3
  · rw [e 3 (by decide), e 4 (by decide)]; exact a4
  · intro k hk
    rw [e 0 (by decide)] at hk
    rw [e (5 + k) (by omega), e (10 + k) (by omega), e (15 + k) (by omega), e (20 + k) (by omega)]
    exact a5 k hk
  · intro i j hi hj
    rw [e 0 (by decide)] at hj
    rw [e (5 + i) (by omega), e (5 + j) (by omega)]
    exact a6 i j hi hj
  · intro j hj
    rw [e 1 (by decide)] at hj
    rw [e (25 + j) (by omega), e (33 + j) (by omega)]
    exact a7 j hj
  · intro j hj
    rw [e 2 (by decide)] at hj
    rw [e (41 + j) (by omega)]
    exact a8 j hj
theorem VR_c {R R2 : Nat → Int} (hR : VM R) (e : ∀ j, j < 47 → R2 j = R j) {h : mm_H} {v : Nat} (q : VR h v R) : VR h v R2 := by
  have n := hR.n
  have w := hR.w
  have m := hR.m
  obtain ⟨a1, a2, a3, a4⟩ := q
  refine ⟨?_, ?_, ?_, ?_⟩
  · rw [e 0 (by decide), e 1 (by decide), e 2 (by decide), e 3 (by decide), e 4 (by decide)]; exact a1
  · intro k hk
    rw [e 0 (by decide)] at hk
    rw [e (5 + k) (by omega), e (10 + k) (by omega), e (15 + k) (by omega), e (20 + k) (by omega)]
    exact a2 k hk
  · intro j hj
    rw [e 1 (by decide)] at hj
    rw [e (25 + j) (by omega), e (33 + j) (by omega)]
    exact a3 j hj
  · intro j hj
    rw [e 2 (by decide)] at hj
    rw [e (41 + j) (by omega)]
    exact a4 j hj
theorem nt_c {R R2 : Nat → Int} (e : ∀ j, j < 47 → R2 j = R j) (y sg : Int) : ∀ k : Nat, k ≤ 5 → nt_f R2 y sg k = nt_f R y sg k
  | 0, _ => rfl
  | k + 1, hk => by
    have ih := nt_c e y sg k (by omega)
    have hb := nt_b R y sg k
    unfold nt_f
    rw [ih, e (5 + k) (by omega), e (5 + (nt_f R y sg k).toNat) (by omega)]
theorem NB_c {R R2 : Nat → Int} (hR : VM R) (e : ∀ j, j < 47 → R2 j = R j) {h : mm_H} {v : Nat} (q : NB h v R) : NB h v R2 := by
  have n := hR.n
  intro y hy
  have e1 : na_f R2 y = na_f R y := by unfold na_f; rw [e 0 (by decide)]; exact nt_c e _ _ _ (by omega)
  have e2 : nb_f R2 y = nb_f R y := by unfold nb_f; rw [e 0 (by decide)]; exact nt_c e _ _ _ (by omega)
  rw [e1, e2]
  exact q y hy
/-- a valley that has just been laid -/
theorem Rel_new {h g : mm_H} {v : Nat} {R : Nat → Int} (h0 : h 0 2 = v ∧ h 0 3 = 20 - (v : Int)) (hD : DR h v R) (h1 : 1 ≤ R 0) (hN : NB h v R) (hx : TX h g) (eg : ∀ j, j < 47 → g 2 j = R j) (hb : (∀ k, k < 5 → h 26 k = h (v + 4) k ∧ h 27 k = h (v + 3) k) ∧ h 25 2 = 0 ∧ h 25 3 = 0) (hs : (∀ k, k < 5 → g 4 k = R (20 + k) ∧ g 4 (5 + k) = R (15 + k)) ∧ g 4 10 = 0 ∧ g 4 11 = 0) (hc : h 28 1 = 0 ∧ h 54 1 = 0 ∧ h 79 2 = 0) (gc : g 0 6 = 0 ∧ g 0 8 = 0 ∧ g 0 10 = 0) (hu : (∀ i : Nat, i < 8 → ∃ d : Nat, h 29 i = d ∧ uk_p d) ∧ (∀ i j : Nat, i < j → j < 8 → h 29 i ≠ h 29 j)) (hk : (∀ i : Nat, i < 2 → ∃ d : Nat, h 55 i = d ∧ kk_p d) ∧ (∀ i j : Nat, i < j → j < 2 → h 55 i ≠ h 55 j)) : Rel h g v := by
  have hR := VM_c eg hD.2.1
  have n := hD.2.1.n
  have e0 := eg 0 (by decide)
  have hr : ∀ k : Nat, (k : Int) < g 2 0 → h 26 k = g 4 k ∧ h 27 k = g 4 (5 + k) ∧ (0 ≤ g 4 k ∧ g 4 k ≤ 40) ∧ (0 ≤ g 4 (5 + k) ∧ g 4 (5 + k) ≤ 3) := by
    intro k hk
    have b1 := hb.1 k (by omega)
    have b2 := hD.2.2.2.1 k (by omega)
    have b3 := hs.1 k (by omega)
    have b4 := hD.2.1.r (k := k) (by omega)
    rw [b1.1, b1.2, b3.1, b3.2]
    exact ⟨b2.2.2.2, b2.2.2.1, b4.2.2.2, b4.2.2.1⟩
  refine ⟨h0, ⟨hD.1, hR, by omega, VR_c hD.2.1 eg hD.2.2, NB_c hD.2.1 eg hN⟩, hx, ⟨fun k hk => ⟨(hr k hk).1, (hr k hk).2.1⟩, ?_, ?_⟩, ⟨fun k hk => (hr k hk).2.2.1, fun k hk => (hr k hk).2.2.2, ?_, ?_⟩, ⟨⟨?_, ?_, ?_⟩, hu.1, hu.2, fun i hi => ?_⟩, ⟨⟨?_, ?_, ?_⟩, hk.1, hk.2, fun i hi => ?_⟩, ⟨⟨?_, ?_, ?_⟩, fun i hi => ?_⟩⟩
  · rw [hb.2.1, hs.2.1]
  · rw [hb.2.2, hs.2.2]
  · rw [hs.2.1]; decide
  · rw [hs.2.1, hs.2.2]; decide
  · rw [hc.1, gc.1]
  · omega
  · omega
  · omega
  · rw [hc.2.1, gc.2.1]
  · omega
  · omega
  · omega
  · rw [hc.2.2, gc.2.2]
  · omega
  · omega
  · omega
theorem op_fault {h g : mm_H} {v : Nat} (hr : Rel h g v) : AG (ex 69 0 [mm_r 0] [] h) (em 17 0 [mm_r 0] [] g) := by
  obtain ⟨dv, d1, d2, d3, d4⟩ := hr.dv
  obtain ⟨h2, g2, r, a1, a2, a3, a4, a5⟩ := read_both d1 hr.t
  have hv := hr.V.1
  refine AG_q (r := r) hr ?_ ?_ ⟨fun a ha => a3 a (by omega) (by omega) (by omega), congrFun (a3 79 (by decide) (by decide) (by omega)) 2⟩ ⟨fun a ha => a4.1 a (by omega) (by omega) (by omega), fun j hj => a4.2 j (by omega)⟩
  · rw [sg_X10_fault_0, d3, sg_X10_fault_12 d1]
    refine mm_bi a1 ?_
    exact sg_X10_fault_15 _ h2
  · rw [sg_X11_fault_0]
    refine mm_bi a2 ?_
    exact sg_X11_fault_4 _ g2
theorem X_begin_l {v : Nat} (hv : v = 5 ∨ v = 15) : ∀ (m : Nat) (h0 h : mm_H) (i : Int), 0 ≤ i → i + m = 5 → (∀ a, a ≠ 26 → a ≠ 27 → h a = h0 a) → (∀ k : Nat, (k : Int) < i → h 26 k = h0 (v + 4) k ∧ h 27 k = h0 (v + 3) k) → ∃ h2, ex 14 2 [mm_r 25, mm_r v, mm_i i] [] h = some (none, h2) ∧ (∀ a, a ≠ 25 → a ≠ 26 → a ≠ 27 → h2 a = h0 a) ∧ (∀ k, k < 5 → h2 26 k = h0 (v + 4) k ∧ h2 27 k = h0 (v + 3) k) ∧ h2 25 2 = 0 ∧ h2 25 3 = 0
  | 0, h0, h, i, hi, hm, hf, hk => by
    refine ⟨mm_st (mm_st h 25 2 0) 25 3 0, ?_, fun a h1 h2 h3 => by rw [z_sc _ _ h1, z_sc _ _ h1]; exact hf a h2 h3, fun k h5 => by rw [z_sc _ _ (by decide), z_sc _ _ (by decide), z_sc _ _ (by decide), z_sc _ _ (by decide)]; exact hk k (by omega), by rw [z_ss _ _ (by decide), z_se], z_se _ _ _ _⟩
    rw [sg_X3_begin_2 rfl hv, if_neg (by omega)]
  | m + 1, h0, h, i, hi, hm, hf, hk => by
    have e3 : (mm_st h (25 + 1) i.toNat (h (v + 4) i.toNat)) (v + 3) = h (v + 3) := z_sc _ _ (by omega)
    have hc : 0 ≤ i ∧ i < 5 := by omega
    rw [sg_X3_begin_2 rfl hv, if_pos (by omega), if_pos hc, if_pos hc, if_pos hc, if_pos hc, z_wr (by omega) (by omega), e3]
    refine X_begin_l hv m h0 _ (i + 1) (by omega) (by omega) (fun a h1 h2 => by rw [z_sc _ _ h2, z_sc _ _ h1]; exact hf a h1 h2) (fun k hk2 => ?_)
    rw [hf (v + 4) (by omega) (by omega), hf (v + 3) (by omega) (by omega)]
    by_cases e : k = i.toNat
    · rw [e]
      exact ⟨(congrFun (z_sc _ _ (by decide)) _).trans (z_se _ _ _ _), z_se _ _ _ _⟩
    · have := hk k (by omega)
      refine ⟨(congrFun (z_sc _ _ (by decide)) _).trans ((z_ss _ _ e).trans this.1), (z_ss _ _ e).trans ?_⟩
      exact (congrFun (z_sc _ _ (by decide)) _).trans this.2
theorem X_begin {v : Nat} (hv : v = 5 ∨ v = 15) (h : mm_H) : ∃ h2, ex 14 0 [mm_r 25, mm_r v, mm_u] [] h = some (none, h2) ∧ (∀ a, a ≠ 25 → a ≠ 26 → a ≠ 27 → h2 a = h a) ∧ (∀ k, k < 5 → h2 26 k = h (v + 4) k ∧ h2 27 k = h (v + 3) k) ∧ h2 25 2 = 0 ∧ h2 25 3 = 0 := by
  rw [sg_X3_begin_0 rfl hv]
  exact X_begin_l hv 5 h h 0 (by omega) (by omega) (fun _ _ _ => rfl) (fun k hk => by omega)
theorem M_lays_a : ∀ (m : Nat) (g0 g : mm_H) (i : Int), 0 ≤ i → i + m = 47 → (∀ a, a ≠ 2 → g a = g0 a) → (∀ j : Nat, (j : Int) < i → g 2 j = g0 3 j) → ∃ g2, em 18 2 [mm_r 0, mm_i i] [] g = em 18 28 [mm_r 0, mm_i 0] [] g2 ∧ (∀ a, a ≠ 2 → g2 a = g0 a) ∧ (∀ j, j < 47 → g2 2 j = g0 3 j)
  | 0, g0, g, i, hi, hm, hf, hk => by
    refine ⟨g, ?_, hf, fun j hj => hk j (by omega)⟩
    rw [sg_X11_lays_2, if_neg (by omega)]
  | m + 1, g0, g, i, hi, hm, hf, hk => by
    rw [sg_X11_lays_2, if_pos (by omega), if_pos (by omega), if_pos (by omega), z_wr (by omega) (by omega)]
    refine M_lays_a m g0 _ (i + 1) (by omega) (by omega) (fun a ha => by rw [z_sc _ _ ha]; exact hf a ha) (fun j hj => ?_)
    by_cases e : j = i.toNat
    · rw [e, z_se, hf 3 (by decide)]
    · rw [z_ss _ _ e]; exact hk j (by omega)
def ls_f (R : Nat → Int) (j : Nat) : Int := if j < 5 then R (20 + j) else if j < 10 then R (10 + j) else 0
theorem M_lays_b : ∀ (m : Nat) (g0 g : mm_H) (i : Int), 0 ≤ i → i + m = 12 → (∀ a, a ≠ 4 → g a = g0 a) → (∀ j : Nat, (j : Int) < i → g 4 j = ls_f (g0 2) j) → ∃ g2, em 18 28 [mm_r 0, mm_i i] [] g = some (none, g2) ∧ (∀ a, a ≠ 0 → a ≠ 4 → g2 a = g0 a) ∧ (∀ j, j < 12 → g2 4 j = ls_f (g0 2) j) ∧ (g2 0 6 = 0 ∧ g2 0 8 = 0 ∧ g2 0 10 = 0) ∧ (∀ j, j ≠ 6 → j ≠ 8 → j ≠ 10 → g2 0 j = g0 0 j)
  | 0, g0, g, i, hi, hm, hf, hk => by
    refine ⟨mm_st (mm_st (mm_st g 0 6 0) 0 8 0) 0 10 0, ?_, fun a h1 h2 => by rw [z_sc _ _ h1, z_sc _ _ h1, z_sc _ _ h1]; exact hf a h2, fun j hj => by rw [z_sc _ _ (by decide), z_sc _ _ (by decide), z_sc _ _ (by decide)]; exact hk j (by omega), ⟨by rw [z_ss _ _ (by decide), z_ss _ _ (by decide), z_se], by rw [z_ss _ _ (by decide), z_se], z_se _ _ _ _⟩, fun j h1 h2 h3 => by rw [z_ss _ _ h3, z_ss _ _ h2, z_ss _ _ h1, hf 0 (by decide)]⟩
    rw [sg_X11_lays_28, if_neg (by omega)]
  | m + 1, g0, g, i, hi, hm, hf, hk => by
    have e1 : em 18 28 [mm_r 0, mm_i i] [] g = em 18 77 [mm_r 0, mm_i i] [mm_i (ls_f (g0 2) i.toNat), mm_i i, mm_r 4] g := by
      unfold ls_f
      rw [sg_X11_lays_28, if_pos (by omega), hf 2 (by decide)]
      by_cases c : i < 5
      · rw [if_pos c, if_pos (show i.toNat < 5 by omega), z_add (by omega) (by omega), if_pos (by omega), show (20 + i).toNat = 20 + i.toNat by omega]
      · rw [if_neg c, if_neg (show ¬ i.toNat < 5 by omega)]
        by_cases c2 : i < 10
        · rw [if_pos c2, if_pos (show i.toNat < 10 by omega), z_add (by omega) (by omega), z_sub (by omega) (by omega), if_pos (by omega), show (15 + i - 5).toNat = 10 + i.toNat by omega]
        · rw [if_neg c2, if_neg (show ¬ i.toNat < 10 by omega)]
    rw [e1, sg_X11_lays_77, if_pos (by omega), z_wr (by omega) (by omega)]
    refine M_lays_b m g0 _ (i + 1) (by omega) (by omega) (fun a ha => by rw [z_sc _ _ ha]; exact hf a ha) (fun j hj => ?_)
    by_cases e : j = i.toNat
    · rw [e, z_se]
    · rw [z_ss _ _ e]; exact hk j (by omega)
theorem M_lays (g : mm_H) : ∃ g2, em 18 0 [mm_r 0, mm_u] [] g = some (none, g2) ∧ (∀ a, a ≠ 0 → a ≠ 2 → a ≠ 4 → g2 a = g a) ∧ (∀ j, j < 47 → g2 2 j = g 3 j) ∧ ((∀ k, k < 5 → g2 4 k = g 3 (20 + k) ∧ g2 4 (5 + k) = g 3 (15 + k)) ∧ g2 4 10 = 0 ∧ g2 4 11 = 0) ∧ (g2 0 6 = 0 ∧ g2 0 8 = 0 ∧ g2 0 10 = 0) ∧ (∀ j, j ≠ 6 → j ≠ 8 → j ≠ 10 → g2 0 j = g 0 j) := by
  obtain ⟨g1, a1, a2, a3⟩ := M_lays_a 47 g g 0 (by omega) (by omega) (fun _ _ => rfl) (fun j hj => by omega)
  obtain ⟨g2, b1, b2, b3, b4, b5⟩ := M_lays_b 12 g1 g1 0 (by omega) (by omega) (fun _ _ => rfl) (fun j hj => by omega)
  refine ⟨g2, ?_, fun a h1 h2 h3 => (b2 a h1 h3).trans (a2 a h2), fun j hj => ?_, ⟨fun k hk => ⟨?_, ?_⟩, ?_, ?_⟩, b4, fun j h1 h2 h3 => (b5 j h1 h2 h3).trans (congrFun (a2 0 (by decide)) j)⟩
  · rw [sg_X11_lays_0, a1, b1]
  · rw [b2 2 (by decide) (by decide)]; exact a3 j hj
  · rw [b3 k (by omega)]
    unfold ls_f
    rw [if_pos hk, a3 _ (by omega)]
  · rw [b3 (5 + k) (by omega)]
    unfold ls_f
    rw [if_neg (by omega), if_pos (by omega), a3 _ (by omega), show 10 + (5 + k) = 15 + k by omega]
  · rw [b3 10 (by decide)]; rfl
  · rw [b3 11 (by decide)]; rfl
theorem op_lay {h g : mm_H} {v : Nat} (hr : Rel h g v) : AG (ex 70 0 [mm_r 0, mm_u] [] h) (em 19 0 [mm_r 0] [] g) := by
  obtain ⟨dv, d1, d2, d3, d4⟩ := hr.dv
  obtain ⟨h2, g2, r, a1, a2, a3, a4, a5, a6⟩ := read_both d1 hr.t
  have hv := hr.V.1
  have x1 : ex 70 0 [mm_r 0, mm_u] [] h = ex 70 15 [mm_r 0, mm_u] [mm_i r] h2 := by
    rw [sg_X10_lay_0, d3, sg_X10_lay_12 d1]
    exact mm_bi a1 rfl
  have m1 : em 19 0 [mm_r 0] [] g = em 19 4 [mm_r 0] [mm_i r] g2 := by
    rw [sg_X11_lay_0]
    exact mm_bi a2 rfl
  have no : ex 70 0 [mm_r 0, mm_u] [] h = some (some (mm_i (-2)), h2) → em 19 0 [mm_r 0] [] g = some (some (mm_i (-2)), g2) → AG (ex 70 0 [mm_r 0, mm_u] [] h) (em 19 0 [mm_r 0] [] g) := fun q1 q2 => AG_q (r := -2) hr q1 q2 ⟨fun a ha => a3 a (by omega) (by omega) (by omega), congrFun (a3 79 (by decide) (by decide) (by omega)) 2⟩ ⟨fun a ha => a4.1 a (by omega) (by omega) (by omega), fun j hj => a4.2 j (by omega)⟩
  by_cases c : r = -4
  · obtain ⟨hD, hN⟩ := a5 c
    have e03 : (h2 0 3).toNat = dv := by rw [a3 0 (by decide) (by decide) (by omega)]; exact d3
    have e02 : (h2 0 2).toNat = v := by rw [a3 0 (by decide) (by decide) (by omega)]; exact hr.v
    have n := hD.2.1.n
    have hc0 : h2 dv 0 = g2 3 0 := hD.2.2.1.1
    by_cases c0 : g2 3 0 = 0
    · refine no ?_ ?_
      · rw [x1, sg_X10_lay_15, if_pos c, e03, sg_X10_lay_24 d1, if_pos (by omega), sg_X10_lay_30]
      · rw [m1, sg_X11_lay_4, if_pos c, if_pos c0, sg_X11_lay_18]
    · obtain ⟨g3, b1, b2, b3, b4, b5, b6⟩ := M_lays g2
      obtain ⟨h3, f1, f2, f3, f4, f5⟩ := X_begin d1 (mm_st (mm_st h2 0 2 dv) 0 3 v)
      have e5 : (mm_st (mm_st h2 0 2 (dv : Int)) 0 3 (v : Int)) 0 2 = dv := by rw [z_ss _ _ (by decide), z_se]
      have e6 : (mm_st (mm_st (mm_st h3 28 1 0) 54 1 0) 79 2 0) 0 2 = dv := by rw [z_sc _ _ (by decide), z_sc _ _ (by decide), z_sc _ _ (by decide), f2 0 (by decide) (by decide) (by decide)]; exact e5
      have hq : ∀ a, a ≠ 0 → a ≠ 25 → a ≠ 26 → a ≠ 27 → a ≠ 28 → a ≠ 54 → a ≠ 79 → (mm_st (mm_st (mm_st h3 28 1 0) 54 1 0) 79 2 0) a = h2 a := fun a z0 z1 z2 z3 z4 z5 z6 => by
        rw [z_sc _ _ z6, z_sc _ _ z5, z_sc _ _ z4, f2 a z1 z2 z3, z_sc _ _ z0, z_sc _ _ z0]
      have hD2 : DR (mm_st (mm_st (mm_st h3 28 1 0) 54 1 0) 79 2 0) dv (g2 3) := DR_up hD (fun a q1 q2 => hq a (by omega) (by omega) (by omega) (by omega) (by omega) (by omega) (by omega))
      have hN2 : NB (mm_st (mm_st (mm_st h3 28 1 0) 54 1 0) 79 2 0) dv (g2 3) := NB_up (hN (by omega)) (fun a q1 q2 => hq a (by omega) (by omega) (by omega) (by omega) (by omega) (by omega) (by omega))
      have hq2 : ∀ a, a ≠ 28 → a ≠ 54 → a ≠ 79 → (mm_st (mm_st (mm_st h3 28 1 0) 54 1 0) 79 2 0) a = h3 a := fun a z4 z5 z6 => by
        rw [z_sc _ _ z6, z_sc _ _ z5, z_sc _ _ z4]
      have e29 : (mm_st (mm_st (mm_st h3 28 1 0) 54 1 0) 79 2 0) 29 = h 29 := (hq 29 (by decide) (by decide) (by decide) (by decide) (by decide) (by decide) (by decide)).trans (a3 29 (by decide) (by decide) (by omega))
      have e55 : (mm_st (mm_st (mm_st h3 28 1 0) 54 1 0) 79 2 0) 55 = h 55 := (hq 55 (by decide) (by decide) (by decide) (by decide) (by decide) (by decide) (by decide)).trans (a3 55 (by decide) (by decide) (by omega))
      have ev4 : ∀ t, t ≤ 9 → (mm_st (mm_st h2 0 2 (dv : Int)) 0 3 (v : Int)) (dv + t) = h2 (dv + t) := fun t ht => by rw [z_sc _ _ (by omega), z_sc _ _ (by omega)]
      refine ⟨g2 3 0, mm_st (mm_st (mm_st h3 28 1 0) 54 1 0) 79 2 0, g3, dv, ?_, ?_, ?_⟩
      · rw [x1, sg_X10_lay_15, if_pos c, e03, sg_X10_lay_24 d1, if_neg (by omega), e02, sg_X10_lay_37 hv, e03, sg_X10_lay_43 hv d1, sg_X10_lay_46 hv, sg_X10_lay_48 hv, sg_X10_lay_51 hv, e5, Int.toNat_natCast, sg_lay_59 hv d1]
        refine mm_bi f1 ?_
        refine (sg_X10_lay_62 hv h3).trans ?_
        refine mm_bi (sg_X7_clear_0 (Or.inl rfl) h3) ?_
        refine (sg_X10_lay_69 hv _).trans ?_
        refine mm_bi (sg_X7_clear_0 (Or.inr rfl) _) ?_
        refine (sg_X10_lay_76 hv _).trans ?_
        refine mm_bi (sg_X2_clear_0 _) ?_
        refine (sg_X10_lay_83 hv _).trans ?_
        dsimp only
        rw [e6, Int.toNat_natCast, sg_lay_87 hv d1, hD2.2.2.1.1]
      · rw [m1, sg_X11_lay_4, if_pos c, if_neg c0]
        refine mm_bi b1 ?_
        refine (sg_X11_lay_25 g3).trans ?_
        rw [b3 0 (by decide)]
      · have hu := hr.U
        have hk : KP h g := hr.2.2.2.2.2.2.1
        refine Rel_new (R := g2 3) ⟨e6, ?_⟩ hD2 (by omega) hN2 (TX_k hr.t ?_ ?_ ?_ ?_) b3 ⟨fun k hk => ?_, ?_, ?_⟩ b4 ⟨?_, ?_, z_se _ _ _ _⟩ b5 ⟨?_, ?_⟩ ⟨?_, ?_⟩
        · rw [hq2 0 (by decide) (by decide) (by decide), f2 0 (by decide) (by decide) (by decide), z_se]; omega
        · exact (hq 1 (by decide) (by decide) (by decide) (by decide) (by decide) (by decide) (by decide)).trans (a3 1 (by decide) (by decide) (by omega))
        · exact (hq 2 (by decide) (by decide) (by decide) (by decide) (by decide) (by decide) (by decide)).trans (a3 2 (by decide) (by decide) (by omega))
        · exact (b6 1 (by decide) (by decide) (by decide)).trans (a4.2 1 (by decide))
        · exact (b2 1 (by decide) (by decide) (by decide)).trans (a4.1 1 (by decide) (by decide) (by decide))
        · rw [hq2 26 (by decide) (by decide) (by decide), hq2 27 (by decide) (by decide) (by decide), hq (dv + 4) (by omega) (by omega) (by omega) (by omega) (by omega) (by omega) (by omega), hq (dv + 3) (by omega) (by omega) (by omega) (by omega) (by omega) (by omega) (by omega), ← ev4 4 (by decide), ← ev4 3 (by decide)]
          exact f3 k hk
        · rw [hq2 25 (by decide) (by decide) (by decide)]; exact f4
        · rw [hq2 25 (by decide) (by decide) (by decide)]; exact f5
        · rw [z_sc _ _ (by decide), z_sc _ _ (by decide), z_se]
        · rw [z_sc _ _ (by decide), z_se]
        · rw [e29]; exact hu.2.1
        · rw [e29]; exact hu.2.2.1
        · rw [e55]; exact hk.2.1
        · rw [e55]; exact hk.2.2.1
  · refine no ?_ ?_
    · rw [x1, sg_X10_lay_15, if_neg c, sg_X10_lay_30]
    · rw [m1, sg_X11_lay_4, if_neg c, sg_X11_lay_18]
