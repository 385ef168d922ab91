/-! ===== what calls change ===== -/
theorem UD_k {h g h2 g2 : mm_H} (q : UD h g) (e : ∀ a, 28 ≤ a → a < 54 → h2 a = h a) (f : g2 0 6 = g 0 6) (f5 : g2 5 = g 5) (f2 : g2 2 = g 2) : UD h2 g2 := by
  obtain ⟨⟨u1, u2, u3⟩, u4, u5, u6⟩ := q
  refine ⟨⟨by rw [e 28 (by omega) (by omega), f]; exact u1, by rw [f]; exact u2, by rw [f]; exact u3⟩, ?_, ?_, ?_⟩
  · intro i hi; rw [e 29 (by omega) (by omega)]; exact u4 i hi
  · intro i j hi hj; rw [e 29 (by omega) (by omega)]; exact u5 i j hi hj
  · intro i hi
    rw [f] at hi
    rw [e 29 (by omega) (by omega), f2, f5]
    obtain ⟨d, d1, d2⟩ := u4 i (by omega)
    have d3 : (h 29 i).toNat = d := by rw [d1]; simp
    refine ⟨DS_up (u6 i hi).1 (fun a h1 h2 => e a ?_ ?_), (u6 i hi).2⟩
    · rw [d3] at h1 h2; unfold uk_p at d2; omega
    · rw [d3] at h1 h2; unfold uk_p at d2; omega
theorem KP_k {h g h2 g2 : mm_H} (q : KP h g) (e : ∀ a, 54 ≤ a → a < 62 → h2 a = h a) (f : g2 0 8 = g 0 8) (f6 : g2 6 = g 6) (f2 : g2 2 = g 2) : KP h2 g2 := by
  obtain ⟨⟨u1, u2, u3⟩, u4, u5, u6⟩ := q
  refine ⟨⟨by rw [e 54 (by omega) (by omega), f]; exact u1, by rw [f]; exact u2, by rw [f]; exact u3⟩, ?_, ?_, ?_⟩
  · intro i hi; rw [e 55 (by omega) (by omega)]; exact u4 i hi
  · intro i j hi hj; rw [e 55 (by omega) (by omega)]; exact u5 i j hi hj
  · intro i hi
    rw [f] at hi
    rw [e 55 (by omega) (by omega), f2, f6]
    obtain ⟨d, d1, d2⟩ := u4 i (by omega)
    have d3 : (h 55 i).toNat = d := by rw [d1]; simp
    refine ⟨DS_up (u6 i hi).1 (fun a h1 h2 => e a ?_ ?_), (u6 i hi).2⟩
    · rw [d3] at h1 h2; unfold kk_p at d2; omega
    · rw [d3] at h1 h2; unfold kk_p at d2; omega
theorem SN_k {h g h2 g2 : mm_H} (q : SN h g) (e : h2 79 2 = h 79 2) (e0 : h2 80 = h 80) (e1 : h2 81 = h 81) (f : g2 0 10 = g 0 10) (f7 : g2 7 = g 7) : SN h2 g2 := by
  obtain ⟨⟨s1, s2, s3⟩, s4⟩ := q
  refine ⟨⟨by rw [e, f]; exact s1, by rw [f]; exact s2, by rw [f]; exact s3⟩, fun i hi => ?_⟩
  rw [f] at hi
  rw [e0, e1, f7]
  exact s4 i hi
theorem TX_k {h g h2 g2 : mm_H} (q : TX h g) (e1 : h2 1 = h 1) (e2 : h2 2 = h 2) (f : g2 0 1 = g 0 1) (f1 : g2 1 = g 1) : TX h2 g2 := by
  obtain ⟨r4, r5, r6⟩ := q
  refine ⟨by rw [e1, f]; exact r4, by rw [f]; exact r5, fun j hj => ?_⟩
  rw [f] at hj
  rw [e2, f1]; exact r6 j hj
theorem Rel.t {h g : mm_H} {v : Nat} (hr : Rel h g v) : TX h g := hr.2.2.1
theorem Rel.U {h g : mm_H} {v : Nat} (hr : Rel h g v) : UD h g := hr.2.2.2.2.2.1
theorem Rel.K {h g : mm_H} {v : Nat} (hr : Rel h g v) : KP h g := hr.2.2.2.2.2.2.1
theorem Rel.N {h g : mm_H} {v : Nat} (hr : Rel h g v) : SN h g := hr.2.2.2.2.2.2.2
/-! letters -/
theorem op_write {h g : mm_H} {v : Nat} (hr : Rel h g v) (c : Int) : AG (ex 67 0 [mm_r 0, mm_i c] [] h) (em 5 0 [mm_r 0, mm_i c] [] g) := by
  obtain ⟨r4, r5, r6⟩ := id hr.t
  by_cases c1 : 32 ≤ c ∧ c ≤ 126
  · by_cases c2 : g 0 1 = 200
    · refine AG_0 (r := -3) hr ?_ ?_
      · rw [sg_X10_write_0, if_neg (by omega), if_neg (by omega), sg_X8_isFull_0, r4, if_neg (by omega), sg_X8_isFull_15, if_pos (Or.inr rfl)]
        exact (sg_X10_write_21 _ _ h).trans (if_neg (by decide))
      · rw [sg_X11_write_0]
        refine mm_bi (M_in_t c1 g) ?_
        refine (sg_X11_write_8 _ _ g).trans ?_
        rw [if_neg (by decide), if_pos c2]
    · refine ⟨g 0 1 + 1, mm_st (mm_st h 2 (g 0 1).toNat c) 1 1 (g 0 1 + 1), mm_st (mm_st g 1 (g 0 1).toNat c) 0 1 (g 0 1 + 1), v, ?_, ?_, ?_⟩
      · rw [sg_X10_write_0, if_neg (by omega), if_neg (by omega), sg_X8_isFull_0, r4, if_pos (by omega), sg_X8_isFull_15, if_pos (Or.inl rfl)]
        refine (sg_X10_write_21 _ _ h).trans ?_
        rw [if_pos rfl, show c % 65536 = c by omega, sg_X8_add_0, r4, if_pos (by omega), if_pos (by omega), z_sc _ _ (by decide), r4, z_add (by omega) (by omega), sg_X8_add_30]
        refine (sg_X10_write_36 _ (mm_st (mm_st h 2 (g 0 1).toNat c) 1 1 (g 0 1 + 1))).trans ?_
        refine mm_bi (X_txLen _) ?_
        refine (sg_X10_write_43 _ _ (mm_st (mm_st h 2 (g 0 1).toNat c) 1 1 (g 0 1 + 1))).trans ?_
        rw [z_se]
      · rw [sg_X11_write_0]
        refine mm_bi (M_in_t c1 g) ?_
        refine (sg_X11_write_8 _ _ g).trans ?_
        rw [if_neg (by decide), if_neg c2, if_pos (by omega), z_se, z_sc _ _ (by decide), z_add (by omega) (by omega)]
      · have eh : ∀ a, a ≠ 1 → a ≠ 2 → (mm_st (mm_st h 2 (g 0 1).toNat c) 1 1 (g 0 1 + 1)) a = h a := fun a h1 h2 => by rw [z_sc _ _ h1, z_sc _ _ h2]
        have eg : ∀ a, a ≠ 0 → a ≠ 1 → (mm_st (mm_st g 1 (g 0 1).toNat c) 0 1 (g 0 1 + 1)) a = g a := fun a h1 h2 => by rw [z_sc _ _ h1, z_sc _ _ h2]
        have eg0 : ∀ j, j ≠ 1 → (mm_st (mm_st g 1 (g 0 1).toNat c) 0 1 (g 0 1 + 1)) 0 j = g 0 j := fun j h1 => by rw [z_ss _ _ h1, z_sc _ _ (by decide)]
        refine ⟨by rw [eh 0 (by decide) (by decide)]; exact hr.1, ?_, ?_, ?_, ?_, ?_, ?_, ?_⟩
        · rw [eg 2 (by decide) (by decide)]; exact VL_up hr.V (fun a h1 h2 => eh a (by have := hr.V.1; omega) (by have := hr.V.1; omega))
        · refine ⟨by rw [z_se, z_se], by rw [z_se]; omega, fun j hj => ?_⟩
          rw [z_se] at hj
          rw [z_sc (a := 1) (b := 2) _ _ (by decide), z_sc (a := 0) (b := 1) _ _ (by decide)]
          by_cases e : j = (g 0 1).toNat
          · subst e; rw [z_se, z_se]; omega
          · rw [z_ss _ _ e, z_ss _ _ e]; exact r6 j (by omega)
        · rw [eg 2 (by decide) (by decide), eg 4 (by decide) (by decide)]; exact DS_up hr.D (fun a h1 h2 => eh a (by omega) (by omega))
        · rw [eg 2 (by decide) (by decide), eg 4 (by decide) (by decide)]; exact hr.S
        · exact UD_k hr.U (fun a h1 h2 => eh a (by omega) (by omega)) (eg0 6 (by decide)) (eg 5 (by decide) (by decide)) (eg 2 (by decide) (by decide))
        · exact KP_k hr.K (fun a h1 h2 => eh a (by omega) (by omega)) (eg0 8 (by decide)) (eg 6 (by decide) (by decide)) (eg 2 (by decide) (by decide))
        · exact SN_k hr.N (by rw [eh 79 (by decide) (by decide)]) (eh 80 (by decide) (by decide)) (eh 81 (by decide) (by decide)) (eg0 10 (by decide)) (eg 7 (by decide) (by decide))
  · refine AG_0 (r := -1) hr ?_ ?_
    · rw [sg_X10_write_0, sg_X10_write_12]
      split
      · rfl
      · rw [if_pos (by omega)]
    · rw [sg_X11_write_0]
      refine mm_bi (M_in_f c1 g) ?_
      exact (sg_X11_write_8 _ _ g).trans (if_pos rfl)
theorem op_wipe {h g : mm_H} {v : Nat} (hr : Rel h g v) : AG (ex 68 0 [mm_r 0, mm_u] [] h) (em 6 0 [mm_r 0, mm_u] [] g) := by
  obtain ⟨r4, r5, r6⟩ := id hr.t
  refine ⟨g 0 1, mm_st h 1 1 0, mm_st g 0 1 0, v, ?_, sg_X11_wipe_0 g, ?_⟩
  · rw [sg_X10_wipe_0]
    refine mm_bi (X_txLen h) ?_
    refine (sg_X10_wipe_7 _ h).trans ?_
    refine mm_bi (sg_X8_clear_0 h) ?_
    refine (sg_X10_wipe_15 _ (mm_st h 1 1 0)).trans ?_
    rw [r4]
  · have eh : ∀ a, a ≠ 1 → (mm_st h 1 1 0) a = h a := fun a h1 => z_sc _ _ h1
    have eg : ∀ a, a ≠ 0 → (mm_st g 0 1 0) a = g a := fun a h1 => z_sc _ _ h1
    have eg0 : ∀ j, j ≠ 1 → (mm_st g 0 1 0) 0 j = g 0 j := fun j h1 => z_ss _ _ h1
    refine ⟨by rw [eh 0 (by decide)]; exact hr.1, ?_, ?_, ?_, ?_, ?_, ?_, ?_⟩
    · rw [eg 2 (by decide)]; exact VL_up hr.V (fun a h1 h2 => eh a (by have := hr.V.1; omega))
    · refine ⟨by rw [z_se, z_se], by rw [z_se]; omega, fun j hj => ?_⟩
      rw [z_se] at hj
      omega
    · rw [eg 2 (by decide), eg 4 (by decide)]; exact DS_up hr.D (fun a h1 h2 => eh a (by omega))
    · rw [eg 2 (by decide), eg 4 (by decide)]; exact hr.S
    · exact UD_k hr.U (fun a h1 h2 => eh a (by omega)) (eg0 6 (by decide)) (eg 5 (by decide)) (eg 2 (by decide))
    · exact KP_k hr.K (fun a h1 h2 => eh a (by omega)) (eg0 8 (by decide)) (eg 6 (by decide)) (eg 2 (by decide))
    · exact SN_k hr.N (by rw [eh 79 (by decide)]) (eh 80 (by decide)) (eh 81 (by decide)) (eg0 10 (by decide)) (eg 7 (by decide))
/-! what was seen -/
theorem Rel_s {h g h2 g2 : mm_H} {v : Nat} (hr : Rel h g v) (eh : ∀ a, a ≠ 79 → a ≠ 80 → a ≠ 81 → h2 a = h a) (eg : ∀ a, a ≠ 0 → a ≠ 7 → g2 a = g a) (eg0 : ∀ j, j ≠ 10 → g2 0 j = g 0 j) (hn : SN h2 g2) : Rel h2 g2 v := by
  refine ⟨by rw [eh 0 (by decide) (by decide) (by decide)]; exact hr.1, ?_, ?_, ?_, ?_, ?_, ?_, hn⟩
  · rw [eg 2 (by decide) (by decide)]; exact VL_up hr.V (fun a h1 h2 => eh a (by have := hr.V.1; omega) (by have := hr.V.1; omega) (by have := hr.V.1; omega))
  · exact TX_k hr.t (eh 1 (by decide) (by decide) (by decide)) (eh 2 (by decide) (by decide) (by decide)) (eg0 1 (by decide)) (eg 1 (by decide) (by decide))
  · rw [eg 2 (by decide) (by decide), eg 4 (by decide) (by decide)]; exact DS_up hr.D (fun a h1 h2 => eh a (by omega) (by omega) (by omega))
  · rw [eg 2 (by decide) (by decide), eg 4 (by decide) (by decide)]; exact hr.S
  · exact UD_k hr.U (fun a h1 h2 => eh a (by omega) (by omega) (by omega)) (eg0 6 (by decide)) (eg 5 (by decide) (by decide)) (eg 2 (by decide) (by decide))
  · exact KP_k hr.K (fun a h1 h2 => eh a (by omega) (by omega) (by omega)) (eg0 8 (by decide)) (eg 6 (by decide) (by decide)) (eg 2 (by decide) (by decide))
theorem op_forget {h g : mm_H} {v : Nat} (hr : Rel h g v) : AG (ex 85 0 [mm_r 0, mm_u] [] h) (em 43 0 [mm_r 0, mm_u] [] g) := by
  obtain ⟨⟨s1, s2, s3⟩, s4⟩ := id hr.N
  refine ⟨g 0 10, mm_st h 79 2 0, mm_st g 0 10 0, v, ?_, sg_X11_forget_0 g, ?_⟩
  · rw [sg_X10_forget_0]
    refine mm_bi (X_clSize h) ?_
    refine (sg_X10_forget_7 _ h).trans ?_
    refine mm_bi (sg_X2_clear_0 h) ?_
    refine (sg_X10_forget_15 _ (mm_st h 79 2 0)).trans ?_
    rw [s1]
  · refine Rel_s hr (fun a h1 _ _ => z_sc _ _ h1) (fun a h1 _ => z_sc _ _ h1) (fun j h1 => z_ss _ _ h1) ⟨⟨by rw [z_se, z_se], by rw [z_se]; omega, by rw [z_se]; omega⟩, fun i hi => ?_⟩
    rw [z_se] at hi
    omega
theorem op_seen {h g : mm_H} {v : Nat} (hr : Rel h g v) (y x : Int) : AG (ex 84 0 [mm_r 0, mm_i y, mm_i x] [] h) (em 42 0 [mm_r 0, mm_i y, mm_i x] [] g) := by
  obtain ⟨⟨s1, s2, s3⟩, s4⟩ := id hr.N
  by_cases c : 0 ≤ y ∧ y < 24
  · by_cases c2 : 0 ≤ x ∧ x ≤ 40
    · have hx : ex 84 0 [mm_r 0, mm_i y, mm_i x] [] h = ex 84 23 [mm_r 0, mm_i y, mm_i x] [mm_i (if g 0 10 < 8 then 0 else 1)] h := by
        rw [sg_X10_seen_0]
        refine mm_bi (X_isYard_t c h) ?_
        refine (sg_X10_seen_4 _ _ _ h).trans ?_
        rw [if_neg (by decide)]
        refine mm_bi (X_isLowness_t c2 h) ?_
        refine (sg_X10_seen_11 _ _ _ h).trans ?_
        rw [if_neg (by decide), sg_X2_isFull_0, s1]
        split
        · rw [sg_X2_isFull_14, if_pos (Or.inl rfl)]; rfl
        · rw [sg_X2_isFull_14, if_pos (Or.inr rfl)]; rfl
      have hm : em 42 0 [mm_r 0, mm_i y, mm_i x] [] g = em 42 14 [mm_r 0, mm_i y, mm_i x] [mm_i 1] g := by
        rw [sg_X11_seen_0]
        refine mm_bi (M_isYard_t c g) ?_
        refine (sg_X11_seen_4 _ _ _ g).trans ?_
        rw [if_neg (by decide)]
        exact mm_bi (M_in_t c2 g) rfl
      rw [hx, hm]
      by_cases c3 : g 0 10 = 8
      · refine AG_0 (r := -3) hr ?_ ?_
        · rw [if_neg (by omega), sg_X10_seen_23, if_neg (by decide)]
        · rw [sg_X11_seen_14, if_neg (by decide), if_pos c3]
      · refine ⟨g 0 10 + 1, mm_st (mm_st (mm_st h 80 (g 0 10).toNat y) 81 (g 0 10).toNat x) 79 2 (g 0 10 + 1), mm_st (mm_st g 7 (g 0 10).toNat (100 * y + x)) 0 10 (g 0 10 + 1), v, ?_, ?_, ?_⟩
        · rw [if_pos (by omega), sg_X10_seen_23, if_pos rfl, sg_X2_add_0, s1, if_pos (by omega), if_pos (by omega), z_sc _ _ (by decide), s1, if_pos (by omega), z_sc _ _ (by decide), z_sc _ _ (by decide), s1, z_add (by omega) (by omega), sg_X2_add_39]
          refine (sg_X10_seen_38 _ _ (mm_st (mm_st (mm_st h 80 (g 0 10).toNat y) 81 (g 0 10).toNat x) 79 2 (g 0 10 + 1))).trans ?_
          refine mm_bi (X_clSize _) ?_
          refine (sg_X10_seen_45 _ _ _ (mm_st (mm_st (mm_st h 80 (g 0 10).toNat y) 81 (g 0 10).toNat x) 79 2 (g 0 10 + 1))).trans ?_
          rw [z_se]
        · rw [sg_X11_seen_14, if_neg (by decide), if_neg c3, if_pos (by omega), z_se, z_sc _ _ (by decide), z_mul (by omega) (by omega), z_add (by omega) (by omega), z_add (by omega) (by omega)]
        · refine Rel_s hr (fun a h1 h2 h3 => by rw [z_sc _ _ h1, z_sc _ _ h3, z_sc _ _ h2]) (fun a h1 h2 => by rw [z_sc _ _ h1, z_sc _ _ h2]) (fun j h1 => by rw [z_ss _ _ h1, z_sc _ _ (by decide)]) ⟨⟨by rw [z_se, z_se], by rw [z_se]; omega, by rw [z_se]; omega⟩, fun i hi => ?_⟩
          rw [z_se] at hi
          rw [z_sc (a := 79) (b := 80) _ _ (by decide), z_sc (a := 81) (b := 80) _ _ (by decide), z_sc (a := 79) (b := 81) _ _ (by decide), z_sc (a := 0) (b := 7) _ _ (by decide)]
          by_cases e : i = (g 0 10).toNat
          · subst e; rw [z_se, z_se, z_se]; omega
          · rw [z_ss _ _ e, z_ss _ _ e, z_ss _ _ e, z_sc _ _ (by decide)]; exact s4 i (by omega)
    · refine AG_0 (r := -1) hr ?_ ?_
      · rw [sg_X10_seen_0]
        refine mm_bi (X_isYard_t c h) ?_
        refine (sg_X10_seen_4 _ _ _ h).trans ?_
        rw [if_neg (by decide)]
        refine mm_bi (X_isLowness_f c2 h) ?_
        exact (sg_X10_seen_11 _ _ _ h).trans ((if_pos rfl).trans (sg_X10_seen_14 _ _ h))
      · rw [sg_X11_seen_0]
        refine mm_bi (M_isYard_t c g) ?_
        refine (sg_X11_seen_4 _ _ _ g).trans ?_
        rw [if_neg (by decide)]
        refine mm_bi (M_in_f c2 g) ?_
        exact (sg_X11_seen_14 _ _ _ g).trans ((if_pos rfl).trans (sg_X11_seen_17 _ _ g))
  · refine AG_0 (r := -1) hr ?_ ?_
    · rw [sg_X10_seen_0]
      refine mm_bi (X_isYard_f c h) ?_
      exact (sg_X10_seen_4 _ _ _ h).trans ((if_pos rfl).trans (sg_X10_seen_14 _ _ h))
    · rw [sg_X11_seen_0]
      refine mm_bi (M_isYard_f c g) ?_
      exact (sg_X11_seen_4 _ _ _ g).trans ((if_pos rfl).trans (sg_X11_seen_17 _ _ g))
