/-! ===== soon, grease, paces, evenings ===== -/
theorem SM_SB {R S : Nat → Int} (h : SM R S) : SB R S := ⟨h.1, h.2.1, ⟨h.2.2.1.1, by have := h.2.2.1.2; omega⟩, h.2.2.2⟩
/-- behind i hours of winding all down -/
def ad_f (R S : Nat → Int) : Nat → Nat → Int
  | 0 => S
  | i + 1 => gs_f R (ad_f R S i) (al_f R) 0
theorem ad_s (R S : Nat → Int) (i : Nat) : ad_f R S (i + 1) = gs_f R (ad_f R S i) (al_f R) 0 := rfl
theorem ad_10 (R S : Nat → Int) : ∀ i : Nat, ad_f R S i 10 = S 10 + i
  | 0 => by simp [ad_f]
  | i + 1 => by
    rw [ad_s]
    show ad_f R S i 10 + 1 = _
    rw [ad_10 R S i]
    omega
theorem ad_SB {R S : Nat → Int} (hR : VM R) (hS : SB R S) : ∀ i : Nat, S 10 + i ≤ 1000 → SB R (ad_f R S i)
  | 0, _ => hS
  | i + 1, h => by
    rw [ad_s]
    exact gs_SB hR (ad_SB hR hS i (by omega)) _ _ (by rw [ad_10]; omega)
theorem ad_o {R S : Nat → Int} (hR : VM R) {j : Nat} (hj : 12 ≤ j) : ∀ i : Nat, ad_f R S i j = S j
  | 0 => rfl
  | i + 1 => by rw [ad_s, gs_o hR _ _ hj, ad_o hR hj i]
def so_f (R S : Nat → Int) (y u : Int) : Nat → Int
  | 0 => -4
  | m + 1 => if lf_f (sk_f R (ad_f R S (24 - m)) y) < u then so_f R S y u m else 24 - (m : Int)
theorem so_s (R S : Nat → Int) (y u : Int) (m : Nat) : so_f R S y u (m + 1) = if lf_f (sk_f R (ad_f R S (24 - m)) y) < u then so_f R S y u m else 24 - (m : Int) := rfl
theorem TR_63 {h : mm_H} {R S : Nat → Int} (hD : DT h 63 R S) (hS : SB R S) : TR h 64 R S := ⟨Or.inr (Or.inl rfl), hS.1, fun k hk => (hD.1 k hk).1⟩
theorem VL_k {h h2 : mm_H} {v : Nat} {R : Nat → Int} (hV : VL h v R) (e : ∀ a, a < 62 → h2 a = h a) : VL h2 v R := VL_up hV (fun a h1 h2' => e a (by have := hV.1; omega))
theorem X_until_l {v : Nat} {R S : Nat → Int} {y u : Int} (hS : SB R S) (hh : S 10 ≤ 900) (hy : 0 ≤ y ∧ y < 24) : ∀ (m : Nat) (i : Int) (h : mm_H), VL h v R → DT h 63 R (ad_f R S i.toNat) → 0 ≤ i → i + m = 25 → ∃ h2, ex 0 11 [mm_r 62, mm_r v, mm_r 25, mm_i y, mm_i u, mm_i i] [] h = some (some (mm_i (so_f R S y u m)), h2) ∧ ∀ a, ¬ (63 ≤ a ∧ a ≤ 65) → h2 a = h a
  | 0, i, h, hV, hD, h0, hi => ⟨h, by rw [sg_X0_hoursUntil_11 hV.1 rfl, if_pos (by omega)]; rfl, fun _ _ => rfl⟩
  | m + 1, i, h, hV, hD, h0, hi => by
    have hSi := ad_SB hV.2.1 hS i.toNat (by omega)
    have ei : i.toNat = 24 - m := by omega
    rw [sg_X0_hoursUntil_11 hV.1 rfl, if_neg (by omega)]
    obtain ⟨h2, e1, e2, e3⟩ := X_allDown hV hD hSi (by rw [ad_10]; omega)
    have hV2 : VL h2 v R := VL_k hV (fun a ha => e3 a (by omega) (by omega))
    have e4 : DT h2 63 R (ad_f R S (i + 1).toNat) := by rw [show (i + 1).toNat = i.toNat + 1 by omega]; exact e2
    obtain ⟨h3, f1, f2⟩ := X_until_l hS hh hy m (i + 1) h2 hV2 e4 (by omega) (by omega)
    by_cases c : lf_f (sk_f R (ad_f R S i.toNat) y) < u
    · refine ⟨h3, ?_, fun a ha => (f2 a ha).trans (e3 a (by omega) (by omega))⟩
      refine mm_bi (X_lightOver hV (TR_63 hD hSi) hy) ?_
      refine (sg_X0_hoursUntil_30 hV.1 rfl _ _ _ _ h).trans ?_
      rw [if_pos c]
      refine mm_bi e1 ?_
      refine (sg_X0_hoursUntil_46 hV.1 rfl _ _ _ h2).trans ?_
      rw [z_wr (by omega) (by omega), f1, so_s, ← ei, if_pos c]
    · refine ⟨h, ?_, fun _ _ => rfl⟩
      refine mm_bi (X_lightOver hV (TR_63 hD hSi) hy) ?_
      refine (sg_X0_hoursUntil_30 hV.1 rfl _ _ _ _ h).trans ?_
      rw [if_neg c, so_s, ← ei, if_neg c, show 24 - (m : Int) = i by omega]
theorem DT_of {h h2 : mm_H} {R S : Nat → Int} (hR : VM R) (hD : DS h 25 R S) (e1 : ∀ k, k < 5 → h2 (63 + 1) k = h (25 + 1) k ∧ h2 (63 + 2) k = h (25 + 2) k) (e2 : h2 63 2 = h 25 2) : DT h2 63 R S := by
  have := hR.n
  refine ⟨fun k hk => ?_, e2.trans hD.2.1⟩
  rw [(e1 k (by omega)).1, (e1 k (by omega)).2]
  exact hD.1 k hk
theorem BP_63 : BP 63 25 := Or.inl ⟨rfl, rfl⟩
theorem QX_63 {v : Nat} {h h2 : mm_H} (hv : v = 5 ∨ v = 15) (e : ∀ a, ¬ (63 ≤ a ∧ a ≤ 65) → h2 a = h a) : QX v h h2 := ⟨fun a ha => e a (by omega), by rw [e 79 (by omega)]⟩
theorem M_sets (g : mm_H) : em 3 0 [mm_r 0] [] g = some (some (mm_i (mm_shl 1 (g 2 0))), g) := sg_X11_sets_0 g
theorem M_soon_e {g : mm_H} {S : Nat → Int} (hSo : ∀ j, 12 ≤ j → S j = g 4 j) (y u f i : Int) : em 37 79 [mm_r 0, mm_i y, mm_i u, mm_i f, mm_i i] [] (hd_f g S) = some (some (mm_i f), hd_f g (g 4)) := by
  rw [sg_X11_soon_79]
  refine mm_bi (M_let hSo) ?_
  exact sg_X11_soon_83 _ _ _ _ (hd_f g (g 4))
theorem M_soon_l {g : mm_H} (hg : MV g) (hS : SB (g 2) (g 4)) (hh : g 4 10 ≤ 900) {y u : Int} (hy : 0 ≤ y ∧ y < 24) : ∀ (m : Nat) (i : Int), 0 ≤ i → i + m = 25 → em 37 28 [mm_r 0, mm_i y, mm_i u, mm_i (-4), mm_i i] [] (hd_f g (ad_f (g 2) (g 4) i.toNat)) = some (some (mm_i (so_f (g 2) (g 4) y u m)), hd_f g (g 4))
  | 0, i, h0, hi => by
    rw [sg_X11_soon_28, if_neg (by omega)]
    exact M_soon_e (fun j hj => ad_o hg.1 hj _) _ _ _ _
  | m + 1, i, h0, hi => by
    have hSi := ad_SB hg.1 hS i.toNat (by omega)
    have ei : i.toNat = 24 - m := by omega
    have e2 : hd_f g (ad_f (g 2) (g 4) i.toNat) 2 = g 2 := hd_o _ _ (by decide) (by decide)
    have hgi := MV_hd hg hSi.1
    have hsk := M_sky hgi hy
    rw [e2, hd_4] at hsk
    rw [sg_X11_soon_28, if_pos (by omega), if_pos rfl]
    refine mm_bi hsk ?_
    refine (sg_X11_soon_46 _ _ _ _ _ (hd_f g (ad_f (g 2) (g 4) i.toNat))).trans ?_
    refine mm_bi (M_lightOf (sk_b hg.1 hg.2.1 hSi.1 _) _) ?_
    refine (sg_X11_soon_49 _ _ _ _ _ (hd_f g (ad_f (g 2) (g 4) i.toNat))).trans ?_
    have step : ∀ f : Int, em 37 60 [mm_r 0, mm_i y, mm_i u, mm_i (-4), mm_i i] [mm_i f] (hd_f g (ad_f (g 2) (g 4) i.toNat)) = em 37 28 [mm_r 0, mm_i y, mm_i u, mm_i f, mm_i (i + 1)] [] (hd_f g (ad_f (g 2) (g 4) (i.toNat + 1))) := by
      intro f
      rw [sg_X11_soon_60]
      refine mm_bi (M_sets _) ?_
      refine (sg_X11_soon_66 _ _ _ _ _ (hd_f g (ad_f (g 2) (g 4) i.toNat))).trans ?_
      rw [e2]
      refine mm_bi (M_go hg.1 hSi (al_f (g 2)) 0 (by rw [ad_10]; omega)) ?_
      refine (sg_X11_soon_72 _ _ _ _ _ (hd_f g (gs_f (g 2) (ad_f (g 2) (g 4) i.toNat) (al_f (g 2)) 0))).trans ?_
      rw [z_wr (by omega) (by omega)]
      rfl
    rw [step, step, so_s, ← ei]
    by_cases c : lf_f (sk_f (g 2) (ad_f (g 2) (g 4) i.toNat) y) < u
    · rw [if_pos c, if_pos c]
      have ih := M_soon_l (u := u) hg hS hh hy m (i + 1) (by omega) (by omega)
      rw [show (i + 1).toNat = i.toNat + 1 by omega] at ih
      exact ih
    · rw [if_neg c, if_neg c, sg_X11_soon_28, show 24 - (m : Int) = i by omega]
      have e := M_soon_e (g := g) (S := ad_f (g 2) (g 4) (i.toNat + 1)) (fun j hj => ad_o hg.1 hj _) y u i (i + 1)
      split
      · rw [if_neg (by omega)]; exact e
      · exact e
theorem op_soon {h g : mm_H} {v : Nat} (hr : Rel h g v) (y u : Int) : AG (ex 79 0 [mm_r 0, mm_i y, mm_i u] [] h) (em 37 0 [mm_r 0, mm_i y, mm_i u, mm_u, mm_u] [] g) := by
  by_cases c : 0 ≤ y ∧ y < 24
  · by_cases c2 : 0 ≤ u ∧ u ≤ 3
    · obtain ⟨h2, b1, b2, b3, b4, -⟩ := X_become BP_63 h
      have hV2 : VL h2 v (g 2) := VL_k hr.V (fun a ha => b2 a (by omega))
      have hD2 : DT h2 63 (g 2) (g 4) := DT_of hr.M.1 hr.D b3 b4
      have hSB := SM_SB hr.S
      have hh : g 4 10 ≤ 900 := by have := hr.S.2.2.1; omega
      obtain ⟨h3, e1, e2⟩ := X_until_l (v := v) (u := u) hSB hh c 25 0 h2 hV2 hD2 (by omega) (by omega)
      refine AG_q (h2 := h3) (g2 := hd_f g (g 4)) (r := so_f (g 2) (g 4) y u 25) hr ?_ ?_ (QX_63 hr.V.1 (fun a ha => (e2 a ha).trans (b2 a (by omega)))) (QM_hd g)
      · rw [sg_X10_soon_0]
        refine mm_bi (X_isYard_t c h) ?_
        refine (sg_X10_soon_4 _ _ _ h).trans ?_
        rw [if_neg (by decide)]
        refine mm_bi (X_isLight_t c2 h) ?_
        refine (sg_X10_soon_11 _ _ _ h).trans ?_
        rw [if_neg (by decide), hr.v, sg_X10_soon_24 hr.V.1, sg_X0_hoursUntil_0 hr.V.1 rfl]
        rw [b1]
        show ((ex 0 8 [mm_r 62, mm_r v, mm_r 25, mm_i y, mm_i u, mm_u] [] h2).bind _) = _
        rw [sg_X0_hoursUntil_8 hr.V.1 rfl]
        refine mm_bi e1 ?_
        exact sg_X10_soon_33 _ _ _ h3
      · rw [sg_X11_soon_0]
        refine mm_bi (M_isYard_t c g) ?_
        refine (sg_X11_soon_4 _ _ _ g).trans ?_
        rw [if_neg (by decide)]
        refine mm_bi (M_in_t c2 g) ?_
        refine (sg_X11_soon_13 _ _ _ g).trans ?_
        rw [if_neg (by decide)]
        refine mm_bi (M_hold g) ?_
        refine (sg_X11_soon_22 _ _ (hd_f g (g 4))).trans ?_
        exact M_soon_l hr.M hSB hh c 25 0 (by omega) (by omega)
    · refine AG_0 (r := -1) hr ?_ ?_
      · rw [sg_X10_soon_0]
        refine mm_bi (X_isYard_t c h) ?_
        refine (sg_X10_soon_4 _ _ _ h).trans ?_
        rw [if_neg (by decide)]
        refine mm_bi (X_isLight_f c2 h) ?_
        exact (sg_X10_soon_11 _ _ _ h).trans ((if_pos rfl).trans (sg_X10_soon_14 _ _ h))
      · rw [sg_X11_soon_0]
        refine mm_bi (M_isYard_t c g) ?_
        refine (sg_X11_soon_4 _ _ _ g).trans ?_
        rw [if_neg (by decide)]
        refine mm_bi (M_in_f c2 g) ?_
        exact (sg_X11_soon_13 _ _ _ g).trans ((if_pos rfl).trans (sg_X11_soon_16 _ _ g))
  · refine AG_0 (r := -1) hr ?_ ?_
    · rw [sg_X10_soon_0]
      refine mm_bi (X_isYard_f c h) ?_
      exact (sg_X10_soon_4 _ _ _ h).trans ((if_pos rfl).trans (sg_X10_soon_14 _ _ h))
    · rw [sg_X11_soon_0]
      refine mm_bi (M_isYard_f c g) ?_
      exact (sg_X11_soon_4 _ _ _ g).trans ((if_pos rfl).trans (sg_X11_soon_16 _ _ g))
/-! the rope to grease -/
def bs_f (R S : Nat → Int) (n k : Nat) : Int := yd_f R (ad_f R (mm_up S (5 + k) 1) n) 3 24
def be_f (R S : Nat → Int) (n : Nat) : Nat → Int × Int
  | 0 => (0, -1)
  | k + 1 => if (be_f R S n k).2 < bs_f R S n k then ((k : Int), bs_f R S n k) else be_f R S n k
theorem be_s (R S : Nat → Int) (n k : Nat) : be_f R S n (k + 1) = if (be_f R S n k).2 < bs_f R S n k then ((k : Int), bs_f R S n k) else be_f R S n k := rfl
theorem gr_SB {R S : Nat → Int} (hR : VM R) (hS : SB R S) {k : Nat} (hk : (k : Int) < R 0) : SB R (mm_up S (5 + k) 1) := by
  have hn := hR.n
  obtain ⟨s1, s2, s3, s4⟩ := hS
  refine ⟨fun j hj => ?_, fun j hj => ?_, ?_, ?_⟩
  · rw [z_un _ _ (by omega)]; exact s1 j hj
  · by_cases e : j = k
    · subst e; rw [z_up]; omega
    · rw [z_un _ _ (by omega)]; exact s2 j hj
  · rw [z_un _ _ (by omega)]; exact s3
  · rw [z_un _ _ (by omega), z_un _ _ (by omega)]; exact s4
theorem X_nig_l {v : Nat} {R S : Nat → Int} {k n : Int} (hS : SB R S) (hh : S 10 ≤ 900) (hn : 0 ≤ n ∧ n ≤ 24) : ∀ (m : Nat) (i : Int) (h : mm_H), VL h v R → DT h 63 R (ad_f R S i.toNat) → 0 ≤ i → i + m = n → ∃ h2, ex 1 21 [mm_r 62, mm_r v, mm_r 25, mm_i k, mm_i n, mm_i i] [] h = some (some (mm_i (yd_f R (ad_f R S n.toNat) 3 24)), h2) ∧ ∀ a, ¬ (63 ≤ a ∧ a ≤ 65) → h2 a = h a
  | 0, i, h, hV, hD, h0, hi => by
    have hSi := ad_SB hV.2.1 hS i.toNat (by omega)
    refine ⟨h, ?_, fun _ _ => rfl⟩
    rw [sg_X0_nightsIfGreased_21 hV.1 rfl, if_neg (by omega), show n.toNat = i.toNat by omega]
    refine mm_bi (X_nights hV (TR_63 hD hSi)) ?_
    exact sg_X0_nightsIfGreased_53 hV.1 rfl _ _ _ _ h
  | m + 1, i, h, hV, hD, h0, hi => by
    have hSi := ad_SB hV.2.1 hS i.toNat (by omega)
    obtain ⟨h2, e1, e2, e3⟩ := X_allDown hV hD hSi (by rw [ad_10]; omega)
    have hV2 : VL h2 v R := VL_k hV (fun a ha => e3 a (by omega) (by omega))
    have e4 : DT h2 63 R (ad_f R S (i + 1).toNat) := by rw [show (i + 1).toNat = i.toNat + 1 by omega]; exact e2
    obtain ⟨h3, f1, f2⟩ := X_nig_l (k := k) hS hh hn m (i + 1) h2 hV2 e4 (by omega) (by omega)
    refine ⟨h3, ?_, fun a ha => (f2 a ha).trans (e3 a (by omega) (by omega))⟩
    rw [sg_X0_nightsIfGreased_21 hV.1 rfl, if_pos (by omega)]
    refine mm_bi e1 ?_
    refine (sg_X0_nightsIfGreased_36 hV.1 rfl _ _ _ h2).trans ?_
    rw [z_wr (by omega) (by omega), f1]
theorem X_nig {v : Nat} {R S : Nat → Int} {h : mm_H} {k n : Int} (hV : VL h v R) (hD : DS h 25 R S) (hS : SB R S) (hh : S 10 ≤ 900) (hn : 0 ≤ n ∧ n ≤ 24) (hk : 0 ≤ k ∧ k < R 0) : ∃ h2, ex 1 0 [mm_r 62, mm_r v, mm_r 25, mm_i k, mm_i n, mm_u] [] h = some (some (mm_i (bs_f R S n.toNat k.toNat)), h2) ∧ ∀ a, ¬ (63 ≤ a ∧ a ≤ 65) → h2 a = h a := by
  have hnn := hV.2.1.n
  obtain ⟨h1, b1, b2, b3, b4, -⟩ := X_become BP_63 h
  have hD1 : DT h1 63 R S := DT_of hV.2.1 hD b3 b4
  have hV2 : VL (mm_st h1 65 k.toNat 1) v R := VL_k hV (fun a ha => by rw [z_sc _ _ (by omega)]; exact b2 a (by omega))
  have hD2 : DT (mm_st h1 65 k.toNat 1) 63 R (mm_up S (5 + k.toNat) 1) := by
    refine ⟨fun j hj => ⟨?_, ?_⟩, ?_⟩
    · rw [z_sc _ _ (by omega), z_un _ _ (by omega)]; exact (hD1.1 j hj).1
    · by_cases e : j = k.toNat
      · subst e; rw [z_up]; exact z_se _ _ _ _
      · rw [z_un _ _ (by omega)]
        exact (z_ss h1 _ e).trans (hD1.1 j hj).2
    · rw [z_sc _ _ (by omega), z_un _ _ (by omega)]; exact hD1.2
  obtain ⟨h3, e1, e2⟩ := X_nig_l (v := v) (k := k) (gr_SB hV.2.1 hS (k := k.toNat) (by omega)) (by rw [z_un _ _ (by omega)]; exact hh) hn n.toNat 0 _ hV2 hD2 (by omega) (by omega)
  refine ⟨h3, ?_, fun a ha => ?_⟩
  · rw [sg_X0_nightsIfGreased_0 hV.1 rfl]
    refine mm_bi b1 ?_
    refine (sg_X0_nightsIfGreased_8 hV.1 rfl _ _ h1).trans ?_
    rw [if_pos (by omega)]
    exact e1
  · rw [e2 a ha, z_sc _ _ (by omega)]; exact b2 a (by omega)
theorem X_best_l {v : Nat} {R S : Nat → Int} {n w : Int} (hS : SB R S) (hh : S 10 ≤ 900) (hn : 1 ≤ n ∧ n ≤ 12) : ∀ (m : Nat) (i : Int) (l6 : mm_V) (h : mm_H), (h 0 2).toNat = v → VL h v R → DS h 25 R S → 0 ≤ i → i + m = R 0 → ∃ h2, ex 81 30 [mm_r 0, mm_i n, mm_i w, mm_i (be_f R S n.toNat i.toNat).1, mm_i (be_f R S n.toNat i.toNat).2, mm_i i, l6] [] h = some (some (mm_i (if w = 0 then (be_f R S n.toNat (R 0).toNat).1 else (be_f R S n.toNat (R 0).toNat).2)), h2) ∧ ∀ a, ¬ (63 ≤ a ∧ a ≤ 65) → h2 a = h a
  | 0, i, l6, h, h02, hV, hD, h0, hi => by
    refine ⟨h, ?_, fun _ _ => rfl⟩
    rw [sg_X10_best_30, h02, sg_X10_best_36 hV.1, hV.2.2.2.1.1.1, if_neg (by omega), show (R 0).toNat = i.toNat by omega]
    simp only [sg_X10_best_92]
    split <;> rfl
  | m + 1, i, l6, h, h02, hV, hD, h0, hi => by
    have hnn := hV.2.1.n
    obtain ⟨h2, e1, e2⟩ := X_nig (n := n) (k := i) hV hD hS hh (by omega) (by omega)
    have hV2 : VL h2 v R := VL_k hV (fun a ha => e2 a (by omega))
    have hD2 : DS h2 25 R S := DS_up hD (fun a h1 h2 => e2 a (by omega))
    have h022 : (h2 0 2).toNat = v := by rw [e2 0 (by omega)]; exact h02
    obtain ⟨h3, f1, f2⟩ := X_best_l (w := w) hS hh hn m (i + 1) (mm_i (bs_f R S n.toNat i.toNat)) h2 h022 hV2 hD2 (by omega) (by omega)
    refine ⟨h3, ?_, fun a ha => (f2 a ha).trans (e2 a ha)⟩
    rw [sg_X10_best_30, h02, sg_X10_best_36 hV.1, hV.2.2.2.1.1.1, if_pos (by omega), h02, sg_X10_best_50 hV.1]
    refine mm_bi e1 ?_
    refine (sg_X10_best_60 _ _ _ _ _ _ _ h2).trans ?_
    simp only [sg_X10_best_76]
    rw [z_wr (by omega) (by omega)]
    rw [show (i + 1).toNat = i.toNat + 1 by omega, be_s, show ((i.toNat : Nat) : Int) = i by omega] at f1
    by_cases c : (be_f R S n.toNat i.toNat).2 < bs_f R S n.toNat i.toNat
    · rw [if_pos c] at f1 ⊢; exact f1
    · rw [if_neg c] at f1 ⊢; exact f1
theorem M_bestn {g : mm_H} {S : Nat → Int} (hg : MV g) (hS : SB (g 2) S) (hh : S 10 ≤ 900) {n w f mo k : Int} (hn : 0 ≤ n ∧ n ≤ 24) : ∀ (m : Nat) (i : Int), 0 ≤ i → i + m = n → em 39 57 [mm_r 0, mm_i n, mm_i w, mm_i f, mm_i mo, mm_i k, mm_i i] [] (hd_f g (ad_f (g 2) S i.toNat)) = em 39 86 [mm_r 0, mm_i n, mm_i w, mm_i f, mm_i mo, mm_i k, mm_i n] [mm_i (yd_f (g 2) (ad_f (g 2) S n.toNat) 3 24)] (hd_f g (ad_f (g 2) S n.toNat))
  | 0, i, h0, hi => by
    have e2 : hd_f g (ad_f (g 2) S i.toNat) 2 = g 2 := hd_o _ _ (by decide) (by decide)
    have hSi := ad_SB hg.1 hS i.toNat (by omega)
    have hy := M_yardsOf (MV_hd hg hSi.1) 3
    rw [e2, hd_4] at hy
    rw [sg_X11_best_57, if_neg (by omega), show n = i by omega]
    exact mm_bi hy rfl
  | m + 1, i, h0, hi => by
    have e2 : hd_f g (ad_f (g 2) S i.toNat) 2 = g 2 := hd_o _ _ (by decide) (by decide)
    have hSi := ad_SB hg.1 hS i.toNat (by omega)
    rw [sg_X11_best_57, if_pos (by omega)]
    refine mm_bi (M_sets _) ?_
    refine (sg_X11_best_68 _ _ _ _ _ _ _ (hd_f g (ad_f (g 2) S i.toNat))).trans ?_
    rw [e2]
    refine mm_bi (M_go hg.1 hSi (al_f (g 2)) 0 (by rw [ad_10]; omega)) ?_
    refine (sg_X11_best_74 _ _ _ _ _ _ _ (hd_f g (gs_f (g 2) (ad_f (g 2) S i.toNat) (al_f (g 2)) 0))).trans ?_
    rw [z_wr (by omega) (by omega)]
    have ih := M_bestn (w := w) (f := f) (mo := mo) (k := k) hg hS hh hn m (i + 1) (by omega) (by omega)
    rw [show (i + 1).toNat = i.toNat + 1 by omega] at ih
    exact ih
theorem M_best_l {g : mm_H} (hg : MV g) (hS : SB (g 2) (g 4)) (hh : g 4 10 ≤ 900) {n w : Int} (hn : 1 ≤ n ∧ n ≤ 12) : ∀ (m : Nat) (i : Int) (l6 : mm_V), 0 ≤ i → i + m = g 2 0 → em 39 33 [mm_r 0, mm_i n, mm_i w, mm_i (be_f (g 2) (g 4) n.toNat i.toNat).1, mm_i (be_f (g 2) (g 4) n.toNat i.toNat).2, mm_i i, l6] [] (hd_f g (g 4)) = some (some (mm_i (if w = 0 then (be_f (g 2) (g 4) n.toNat (g 2 0).toNat).1 else (be_f (g 2) (g 4) n.toNat (g 2 0).toNat).2)), hd_f g (g 4))
  | 0, i, l6, h0, hi => by
    have e2 : hd_f g (g 4) 2 = g 2 := hd_o _ _ (by decide) (by decide)
    rw [sg_X11_best_33, e2, if_neg (by omega), show (g 2 0).toNat = i.toNat by omega]
    simp only [sg_X11_best_138]
    split <;> rfl
  | m + 1, i, l6, h0, hi => by
    have e2 : hd_f g (g 4) 2 = g 2 := hd_o _ _ (by decide) (by decide)
    have hnn := hg.1.n
    have hG := gr_SB hg.1 hS (k := i.toNat) (by omega)
    rw [sg_X11_best_33, e2, if_pos (by omega), z_add (by omega) (by omega), if_pos (by omega), show (5 + i).toNat = 5 + i.toNat by omega]
    have e3 : mm_st (hd_f g (g 4)) 4 (5 + i.toNat) 1 = hd_f g (mm_up (g 4) (5 + i.toNat) 1) := by
      unfold mm_st
      rw [hd_4, hd_up]
    rw [e3]
    have b := M_bestn (n := n) (w := w) (f := (be_f (g 2) (g 4) n.toNat i.toNat).1) (mo := (be_f (g 2) (g 4) n.toNat i.toNat).2) (k := i) hg hG (by rw [z_un _ _ (by omega)]; exact hh) (by omega) n.toNat 0 (by omega) (by omega)
    refine Eq.trans b ?_
    rw [sg_X11_best_86]
    simp only [sg_X11_best_101]
    have fin : ∀ f2 mo2 l6 : Int, em 39 116 [mm_r 0, mm_i n, mm_i w, mm_i f2, mm_i (be_f (g 2) (g 4) n.toNat i.toNat).2, mm_i i, mm_i l6] [mm_i mo2] (hd_f g (ad_f (g 2) (mm_up (g 4) (5 + i.toNat) 1) n.toNat)) = em 39 33 [mm_r 0, mm_i n, mm_i w, mm_i f2, mm_i mo2, mm_i (i + 1), mm_i l6] [] (hd_f g (g 4)) := by
      intro f2 mo2 l6
      rw [sg_X11_best_116]
      refine mm_bi (M_let (fun j hj => by rw [ad_o hg.1 hj, z_un _ _ (by omega)])) ?_
      refine (sg_X11_best_122 _ _ _ _ _ _ (hd_f g (g 4))).trans ?_
      rw [z_wr (by omega) (by omega)]
    have ih := M_best_l (w := w) hg hS hh hn m (i + 1) (mm_i (bs_f (g 2) (g 4) n.toNat i.toNat)) (by omega) (by omega)
    rw [show (i + 1).toNat = i.toNat + 1 by omega, be_s, show ((i.toNat : Nat) : Int) = i by omega] at ih
    change (if (be_f (g 2) (g 4) n.toNat i.toNat).2 < bs_f (g 2) (g 4) n.toNat i.toNat then (if (be_f (g 2) (g 4) n.toNat i.toNat).2 < bs_f (g 2) (g 4) n.toNat i.toNat then _ else _) else (if (be_f (g 2) (g 4) n.toNat i.toNat).2 < bs_f (g 2) (g 4) n.toNat i.toNat then _ else _)) = _
    by_cases c : (be_f (g 2) (g 4) n.toNat i.toNat).2 < bs_f (g 2) (g 4) n.toNat i.toNat
    · rw [if_pos c] at ih
      rw [if_pos c, if_pos c]; exact (fin _ _ _).trans ih
    · rw [if_neg c] at ih
      rw [if_neg c, if_neg c]; exact (fin _ _ _).trans ih
theorem op_best {h g : mm_H} {v : Nat} (hr : Rel h g v) (n w : Int) : AG (ex 81 0 [mm_r 0, mm_i n, mm_i w, mm_u, mm_u, mm_u, mm_u] [] h) (em 39 0 [mm_r 0, mm_i n, mm_i w, mm_u, mm_u, mm_u, mm_u] [] g) := by
  by_cases c : 1 ≤ n ∧ n ≤ 12
  · by_cases c2 : 0 ≤ w ∧ w ≤ 1
    · have hSB := SM_SB hr.S
      have hh : g 4 10 ≤ 900 := by have := hr.S.2.2.1; omega
      have hnn := hr.M.1.n
      obtain ⟨h2, e1, e2⟩ := X_best_l (w := w) hSB hh c (g 2 0).toNat 0 mm_u h hr.v hr.V hr.D (by omega) (by omega)
      refine AG_q (h2 := h2) (g2 := hd_f g (g 4)) (r := if w = 0 then (be_f (g 2) (g 4) n.toNat (g 2 0).toNat).1 else (be_f (g 2) (g 4) n.toNat (g 2 0).toNat).2) hr ?_ ?_ (QX_63 hr.V.1 e2) (QM_hd g)
      · rw [sg_X10_best_0, if_neg (by omega), if_neg (by omega), if_neg (by omega), if_neg (by omega)]
        exact e1
      · rw [sg_X11_best_0]
        refine mm_bi (M_in_t c g) ?_
        refine (sg_X11_best_7 _ _ _ g).trans ?_
        rw [if_neg (by decide)]
        refine mm_bi (M_in_t c2 g) ?_
        refine (sg_X11_best_16 _ _ _ g).trans ?_
        rw [if_neg (by decide)]
        refine mm_bi (M_hold g) ?_
        refine (sg_X11_best_25 _ _ (hd_f g (g 4))).trans ?_
        exact M_best_l hr.M hSB hh c (g 2 0).toNat 0 mm_u (by omega) (by omega)
    · refine AG_0 (r := -1) hr ?_ ?_
      · rw [sg_X10_best_0, if_neg (by omega), if_neg (by omega), sg_X10_best_20]
        split
        · rfl
        · rw [if_pos (by omega)]
      · rw [sg_X11_best_0]
        refine mm_bi (M_in_t c g) ?_
        refine (sg_X11_best_7 _ _ _ g).trans ?_
        rw [if_neg (by decide)]
        refine mm_bi (M_in_f c2 g) ?_
        exact (sg_X11_best_16 _ _ _ g).trans ((if_pos rfl).trans (sg_X11_best_19 _ _ g))
  · refine AG_0 (r := -1) hr ?_ ?_
    · rw [sg_X10_best_0, sg_X10_best_20]
      split
      · rfl
      · rw [if_pos (by omega)]
    · rw [sg_X11_best_0]
      refine mm_bi (M_in_f c g) ?_
      exact (sg_X11_best_7 _ _ _ g).trans ((if_pos rfl).trans (sg_X11_best_19 _ _ g))
/-- how many bits the class's library counts -/
def bc_e (a0 : Int) : Int := (mm_and (mm_add (mm_add (mm_and (mm_add (mm_add (mm_and (mm_sub a0 (mm_and (mm_ush a0 1) 1431655765)) 858993459) (mm_and (mm_ush (mm_sub a0 (mm_and (mm_ush a0 1) 1431655765)) 2) 858993459)) (mm_ush (mm_add (mm_and (mm_sub a0 (mm_and (mm_ush a0 1) 1431655765)) 858993459) (mm_and (mm_ush (mm_sub a0 (mm_and (mm_ush a0 1) 1431655765)) 2) 858993459)) 4)) 252645135) (mm_ush (mm_and (mm_add (mm_add (mm_and (mm_sub a0 (mm_and (mm_ush a0 1) 1431655765)) 858993459) (mm_and (mm_ush (mm_sub a0 (mm_and (mm_ush a0 1) 1431655765)) 2) 858993459)) (mm_ush (mm_add (mm_and (mm_sub a0 (mm_and (mm_ush a0 1) 1431655765)) 858993459) (mm_and (mm_ush (mm_sub a0 (mm_and (mm_ush a0 1) 1431655765)) 2) 858993459)) 4)) 252645135) 8)) (mm_ush (mm_add (mm_and (mm_add (mm_add (mm_and (mm_sub a0 (mm_and (mm_ush a0 1) 1431655765)) 858993459) (mm_and (mm_ush (mm_sub a0 (mm_and (mm_ush a0 1) 1431655765)) 2) 858993459)) (mm_ush (mm_add (mm_and (mm_sub a0 (mm_and (mm_ush a0 1) 1431655765)) 858993459) (mm_and (mm_ush (mm_sub a0 (mm_and (mm_ush a0 1) 1431655765)) 2) 858993459)) 4)) 252645135) (mm_ush (mm_and (mm_add (mm_add (mm_and (mm_sub a0 (mm_and (mm_ush a0 1) 1431655765)) 858993459) (mm_and (mm_ush (mm_sub a0 (mm_and (mm_ush a0 1) 1431655765)) 2) 858993459)) (mm_ush (mm_add (mm_and (mm_sub a0 (mm_and (mm_ush a0 1) 1431655765)) 858993459) (mm_and (mm_ush (mm_sub a0 (mm_and (mm_ush a0 1) 1431655765)) 2) 858993459)) 4)) 252645135) 8)) 16)) 63)
theorem bc_ok : ∀ x : Fin 256, bc_e (x.val : Int) = on_f (x.val : Int) 8 := by decide +kernel
theorem X_bitCount {x : Int} (hx : 0 ≤ x ∧ x < 256) (h : mm_H) : ex 102 0 [mm_i x] [] h = some (some (mm_i (on_f x 8)), h) := by
  have := bc_ok ⟨x.toNat, by omega⟩
  dsimp only at this
  rw [show ((x.toNat : Nat) : Int) = x by omega] at this
  rw [sg_J6_bitCount_0f7a4_0, ← this]
  rfl
