/-! ===== undo, keep, back ===== -/
theorem M_undo_l {g : mm_H} (hk : 0 ≤ g 0 6 ∧ g 0 6 ≤ 7) : ∀ (m : Nat) (i : Int), 0 ≤ i → i + m = 12 → em 31 22 [mm_r 0, mm_i i] [] (mm_up g 4 (cc_f (fun j => g 5 (12 * (g 0 6).toNat + j)) (g 4) i.toNat)) = some (some (mm_i (g 0 6)), mm_up g 4 (cc_f (fun j => g 5 (12 * (g 0 6).toNat + j)) (g 4) 12))
  | 0, i, h0, hi => by
    rw [sg_X11_undo_22, if_neg (by omega), z_un (k := 4) (j := 0) _ _ (by decide), show i.toNat = 12 by omega]
  | m + 1, i, h0, hi => by
    rw [sg_X11_undo_22, if_pos (by omega), z_un (k := 4) (j := 0) _ _ (by decide), z_un (k := 4) (j := 5) _ _ (by decide), z_mul (by omega) (by omega), z_add (by omega) (by omega), if_pos (by omega), if_pos (by omega), z_wr (by omega) (by omega)]
    have ih := M_undo_l hk m (i + 1) (by omega) (by omega)
    rw [show (i + 1).toNat = i.toNat + 1 by omega, ← cc_up] at ih
    rw [← ih]
    congr 1
    unfold mm_st
    rw [z_up, z_uu, show (12 * g 0 6 + i).toNat = 12 * (g 0 6).toNat + i.toNat by omega]
theorem M_back_l {g : mm_H} (hk : 0 ≤ g 0 8 ∧ g 0 8 ≤ 1) : ∀ (m : Nat) (i : Int), 0 ≤ i → i + m = 12 → em 53 22 [mm_r 0, mm_i i] [] (mm_up g 4 (cc_f (fun j => g 6 (12 * (g 0 8).toNat + j)) (g 4) i.toNat)) = some (some (mm_i (g 0 8)), mm_st (mm_up g 4 (cc_f (fun j => g 6 (12 * (g 0 8).toNat + j)) (g 4) 12)) 0 6 0)
  | 0, i, h0, hi => by
    rw [sg_X11_back_22, if_neg (by omega), z_ss _ _ (by decide), z_un (k := 4) (j := 0) _ _ (by decide), show i.toNat = 12 by omega]
  | m + 1, i, h0, hi => by
    rw [sg_X11_back_22, if_pos (by omega), z_un (k := 4) (j := 0) _ _ (by decide), z_un (k := 4) (j := 6) _ _ (by decide), z_mul (by omega) (by omega), z_add (by omega) (by omega), if_pos (by omega), if_pos (by omega), z_wr (by omega) (by omega)]
    have ih := M_back_l hk m (i + 1) (by omega) (by omega)
    rw [show (i + 1).toNat = i.toNat + 1 by omega, ← cc_up] at ih
    rw [← ih]
    congr 1
    unfold mm_st
    rw [z_up, z_uu, show (12 * g 0 8 + i).toNat = 12 * (g 0 8).toNat + i.toNat by omega]
theorem M_keep_l {g : mm_H} (hk : 0 ≤ g 0 8 ∧ g 0 8 ≤ 1) : ∀ (m : Nat) (i : Int), 0 ≤ i → i + m = 12 → em 52 13 [mm_r 0, mm_i i] [] (mm_up g 6 (kb_f (g 6) (g 4) (12 * (g 0 8).toNat) i.toNat)) = some (some (mm_i (g 0 8 + 1)), mm_st (mm_up g 6 (kb_f (g 6) (g 4) (12 * (g 0 8).toNat) 12)) 0 8 (g 0 8 + 1))
  | 0, i, h0, hi => by
    rw [sg_X11_keep_13, if_neg (by omega), z_se, z_un (k := 6) (j := 0) _ _ (by decide), z_add (by omega) (by omega), show i.toNat = 12 by omega]
  | m + 1, i, h0, hi => by
    rw [sg_X11_keep_13, if_pos (by omega), if_pos (by omega), z_un (k := 6) (j := 0) _ _ (by decide), z_un (k := 6) (j := 4) _ _ (by decide), z_mul (by omega) (by omega), z_add (by omega) (by omega), if_pos (by omega), z_wr (by omega) (by omega)]
    have ih := M_keep_l hk m (i + 1) (by omega) (by omega)
    rw [show (i + 1).toNat = i.toNat + 1 by omega, ← kb_up] at ih
    rw [← ih]
    congr 1
    unfold mm_st
    rw [z_up, z_uu, show (12 * g 0 8 + i).toNat = 12 * (g 0 8).toNat + i.toNat by omega]
theorem X_pop {h : mm_H} {sk d : Nat} {n : Int} (hs : sk = 28 ∧ n = 8 ∨ sk = 54 ∧ n = 2) (hu : 0 < h sk 1 ∧ h sk 1 ≤ n) (hd : h (sk + 1) (h sk 1 - 1).toNat = d) (hk : dk_p d) : ∃ h2, ex 42 0 [mm_r sk, mm_r 25] [] h = some (none, h2) ∧ (∀ a, a ≠ sk → ¬ (25 ≤ a ∧ a ≤ 27) → h2 a = h a) ∧ h2 sk 1 = h sk 1 - 1 ∧ (∀ j, j ≠ 1 → h2 sk j = h sk j) ∧ (∀ k, k < 5 → h2 (25 + 1) k = h (d + 1) k ∧ h2 (25 + 2) k = h (d + 2) k) ∧ h2 25 2 = h d 2 ∧ h2 25 3 = h d 3 := by
  have hsk : sk = 28 ∨ sk = 54 := by omega
  have hk2 := dk_b hk
  obtain ⟨h2, b1, b2, b3, b4, b5⟩ := X_become (BP_fr hk) (mm_st h sk 1 (h sk 1 - 1))
  have ew : ((wX (sk + 1)).2 : Int) = n := by rcases hs with ⟨rfl, rfl⟩ | ⟨rfl, rfl⟩ <;> rfl
  refine ⟨h2, ?_, ?_, ?_, ?_, ?_, ?_, ?_⟩
  · rw [sg_X7_popInto_0 hsk rfl, if_pos hu.1, z_sub (by omega) (by omega), z_se, ew, if_pos (by omega), z_sc _ _ (by omega), hd, show ((d : Int)).toNat = d by simp, sg_X7_popInto_27 hsk rfl hk]
    refine mm_bi b1 ?_
    exact sg_X7_popInto_30 hsk rfl h2
  · intro a h1 h3
    rw [b2 a h3, z_sc _ _ h1]
  · rw [b2 sk (by omega), z_se]
  · intro j hj
    rw [b2 sk (by omega), z_ss _ _ hj]
  · intro k hk3
    rw [(b3 k hk3).1, (b3 k hk3).2, z_sc _ _ (by omega), z_sc _ _ (by omega)]; exact ⟨rfl, rfl⟩
  · rw [b4, z_sc _ _ (by omega)]
  · rw [b5, z_sc _ _ (by omega)]
theorem DS_n {h h2 : mm_H} {d : Nat} {R S : Nat → Int} (hR : VM R) (hD : DS h d R S) (b3 : ∀ k, k < 5 → h2 (25 + 1) k = h (d + 1) k ∧ h2 (25 + 2) k = h (d + 2) k) (b4 : h2 25 2 = h d 2) (b5 : h2 25 3 = h d 3) : DS h2 25 R S := by
  have := hR.n
  refine ⟨fun k hk => ?_, b4.trans hD.2.1, b5.trans hD.2.2⟩
  rw [(b3 k (by omega)).1, (b3 k (by omega)).2]
  exact hD.1 k hk
theorem op_undo {h g : mm_H} {v : Nat} (hr : Rel h g v) : AG (ex 76 0 [mm_r 0] [] h) (em 31 0 [mm_r 0, mm_u] [] g) := by
  obtain ⟨⟨u1, u2, u3⟩, u4, u5, u6⟩ := id hr.U
  have hR := hr.M.1
  by_cases c : g 0 6 = 0
  · refine AG_0 (r := -2) hr ?_ ?_
    · rw [sg_X10_undo_0]
      refine mm_bi (X_skSize (Or.inl rfl) h) ?_
      refine (sg_X10_undo_7 _ h).trans ?_
      rw [if_pos (by omega)]
    · rw [sg_X11_undo_0, if_pos c]
  · obtain ⟨d, d1, d2⟩ := u4 (g 0 6 - 1).toNat (by omega)
    have d2b := uk_b d2
    obtain ⟨h2, p1, p2, p3, p3b, p4, p5, p6⟩ := X_pop (h := h) (sk := 28) (d := d) (n := 8) (Or.inl ⟨rfl, rfl⟩) (by omega) (by rw [u1]; exact d1) (dk_u d2)
    have e06 : (mm_st g 0 6 (g 0 6 - 1)) 0 6 = g 0 6 - 1 := z_se _ _ _ _
    have e5 : (mm_st g 0 6 (g 0 6 - 1)) 5 = g 5 := z_sc _ _ (by decide)
    have e4 : (mm_st g 0 6 (g 0 6 - 1)) 4 = g 4 := z_sc _ _ (by decide)
    have ml := M_undo_l (g := mm_st g 0 6 (g 0 6 - 1)) (by rw [e06]; omega) 12 0 (by omega) (by omega)
    rw [e06, e5, e4, show (0 : Int).toNat = 0 from rfl, cc_0] at ml
    have ml2 : em 31 22 [mm_r 0, mm_i 0] [] (mm_st g 0 6 (g 0 6 - 1)) = some (some (mm_i (g 0 6 - 1)), mm_up (mm_st g 0 6 (g 0 6 - 1)) 4 (cc_f (fun j => g 5 (12 * (g 0 6 - 1).toNat + j)) (g 4) 12)) := by
      rw [← ml]
      congr 1
      conv => lhs; rw [← z_ui (mm_st g 0 6 (g 0 6 - 1)) 4]
      rw [e4]
    have q := u6 (g 0 6 - 1).toNat (by omega)
    rw [d1, show ((d : Int)).toNat = d by simp] at q
    refine ⟨g 0 6 - 1, h2, mm_up (mm_st g 0 6 (g 0 6 - 1)) 4 (cc_f (fun j => g 5 (12 * (g 0 6 - 1).toNat + j)) (g 4) 12), v, ?_, ?_, ?_⟩
    · rw [sg_X10_undo_0]
      refine mm_bi (X_skSize (Or.inl rfl) h) ?_
      refine (sg_X10_undo_7 _ h).trans ?_
      rw [if_neg (by omega)]
      refine mm_bi p1 ?_
      refine (sg_X10_undo_24 h2).trans ?_
      refine mm_bi (X_skSize (Or.inl rfl) h2) ?_
      refine (sg_X10_undo_31 _ h2).trans ?_
      rw [p3, u1]
    · rw [sg_X11_undo_0, if_neg c, z_sub (by omega) (by omega)]
      exact ml2
    · have e44 : (mm_up (mm_st g 0 6 (g 0 6 - 1)) 4 (cc_f (fun j => g 5 (12 * (g 0 6 - 1).toNat + j)) (g 4) 12)) 4 = cc_f (fun j => g 5 (12 * (g 0 6 - 1).toNat + j)) (g 4) 12 := z_up _ _ _
      have eo : ∀ a, a ≠ 4 → a ≠ 0 → (mm_up (mm_st g 0 6 (g 0 6 - 1)) 4 (cc_f (fun j => g 5 (12 * (g 0 6 - 1).toNat + j)) (g 4) 12)) a = g a := fun a h1 h2 => by rw [z_un _ _ h1, z_sc _ _ h2]
      have e00 : ∀ j, j ≠ 6 → (mm_up (mm_st g 0 6 (g 0 6 - 1)) 4 (cc_f (fun j => g 5 (12 * (g 0 6 - 1).toNat + j)) (g 4) 12)) 0 j = g 0 j := fun j hj => by rw [z_un _ _ (by decide), z_ss _ _ hj]
      have e066 : (mm_up (mm_st g 0 6 (g 0 6 - 1)) 4 (cc_f (fun j => g 5 (12 * (g 0 6 - 1).toNat + j)) (g 4) 12)) 0 6 = g 0 6 - 1 := by rw [z_un _ _ (by decide), z_se]
      refine Rel_d hr (fun a ha => p2 a (by omega) (by omega)) (fun a h0 h4 h5 h6 => eo a h4 h0) (fun j h6 h8 => e00 j h6) ?_ ?_ ?_ ?_
      · rw [e44]; exact DS_c hR (fun j hj => cc_in hj) (DS_n hR q.1 p4 p5 p6)
      · rw [e44]; exact SM_c hR (fun j hj => cc_in hj) q.2
      · have e29 : h2 29 = h 29 := p2 29 (by omega) (by omega)
        refine ⟨⟨by rw [p3, e066, u1], by rw [e066]; omega, by rw [e066]; omega⟩, fun i hi => by rw [e29]; exact u4 i hi, fun i j hi hj => by rw [e29]; exact u5 i j hi hj, fun i hi => ?_⟩
        rw [e066] at hi
        rw [e29, eo 2 (by decide) (by decide), eo 5 (by decide) (by decide)]
        obtain ⟨di, di1, di2⟩ := u4 i (by omega)
        have di2b := uk_b di2
        have qi := u6 i (by omega)
        rw [di1, show ((di : Int)).toNat = di by simp] at qi ⊢
        exact ⟨DS_up qi.1 (fun a h1 h2 => p2 a (by omega) (by omega)), qi.2⟩
      · exact KP_k hr.K (fun a h1 h2 => p2 a (by omega) (by omega)) (e00 8 (by decide)) (eo 6 (by decide) (by decide)) (eo 2 (by decide) (by decide))
theorem op_keep {h g : mm_H} {v : Nat} (hr : Rel h g v) : AG (ex 92 0 [mm_r 0] [] h) (em 52 0 [mm_r 0, mm_u] [] g) := by
  obtain ⟨⟨u1, u2, u3⟩, u4, u5, u6⟩ := id hr.K
  have hR := hr.M.1
  by_cases c : g 0 8 = 2
  · refine AG_0 (r := -3) hr ?_ ?_
    · rw [sg_X10_keep_0]
      refine mm_bi (X_skFull (Or.inr ⟨rfl, rfl⟩)) ?_
      refine (sg_X10_keep_7 _ h).trans ?_
      rw [if_neg (by rw [if_neg (by omega)]; decide)]
    · rw [sg_X11_keep_0, if_pos c]
  · obtain ⟨d, d1, d2⟩ := u4 (g 0 8).toNat (by omega)
    have d2b := kk_b d2
    obtain ⟨h2, p1, p2, p3, p4, p5, p6⟩ := X_put (h := h) (sk := 54) (d := d) (n := 2) (Or.inr ⟨rfl, rfl⟩) (by omega) (by rw [u1]; exact d1) (dk_k d2)
    have ml := M_keep_l (g := g) (by omega) 12 0 (by omega) (by omega)
    rw [show (0 : Int).toNat = 0 from rfl, kb_0, z_ui] at ml
    refine ⟨g 0 8 + 1, h2, mm_st (mm_up g 6 (kb_f (g 6) (g 4) (12 * (g 0 8).toNat) 12)) 0 8 (g 0 8 + 1), v, ?_, ?_, ?_⟩
    · rw [sg_X10_keep_0]
      refine mm_bi (X_skFull (Or.inr ⟨rfl, rfl⟩)) ?_
      refine (sg_X10_keep_7 _ h).trans ?_
      rw [if_pos (by rw [if_pos (by omega)]), sg_X7_push_0 (Or.inr rfl) rfl, X_skFull (Or.inr ⟨rfl, rfl⟩)]
      show ((ex 41 4 [mm_r 54, mm_r 25] [mm_i (if h 54 1 < 2 then 0 else 1)] h).bind _) = _
      rw [sg_X7_push_4 (Or.inr rfl) rfl, if_pos (by rw [if_pos (by omega)])]
      refine mm_bi p1 ?_
      refine (sg_X10_keep_24 h2).trans ?_
      refine mm_bi (X_skSize (Or.inr rfl) h2) ?_
      refine (sg_X10_keep_31 _ h2).trans ?_
      rw [p3, u1]
    · rw [sg_X11_keep_0, if_neg c]; exact ml
    · have eo : ∀ a, a ≠ 6 → a ≠ 0 → (mm_st (mm_up g 6 (kb_f (g 6) (g 4) (12 * (g 0 8).toNat) 12)) 0 8 (g 0 8 + 1)) a = g a := fun a h1 h2 => by rw [z_sc _ _ h2, z_un _ _ h1]
      have e6 : (mm_st (mm_up g 6 (kb_f (g 6) (g 4) (12 * (g 0 8).toNat) 12)) 0 8 (g 0 8 + 1)) 6 = kb_f (g 6) (g 4) (12 * (g 0 8).toNat) 12 := by rw [z_sc _ _ (by decide), z_up]
      have e00 : ∀ j, j ≠ 8 → (mm_st (mm_up g 6 (kb_f (g 6) (g 4) (12 * (g 0 8).toNat) 12)) 0 8 (g 0 8 + 1)) 0 j = g 0 j := fun j hj => by rw [z_ss _ _ hj, z_un _ _ (by decide)]
      have e08 : (mm_st (mm_up g 6 (kb_f (g 6) (g 4) (12 * (g 0 8).toNat) 12)) 0 8 (g 0 8 + 1)) 0 8 = g 0 8 + 1 := z_se _ _ _ _
      refine Rel_d hr (fun a ha => p2 a (by omega) (by omega)) (fun a h0 h4 h5 h6 => eo a h6 h0) (fun j h6 h8 => e00 j h8) ?_ ?_ ?_ ?_
      · rw [eo 4 (by decide) (by decide)]; exact DS_up hr.D (fun a h1 h2 => p2 a (by omega) (by omega))
      · rw [eo 4 (by decide) (by decide)]; exact hr.S
      · exact UD_k hr.U (fun a h1 h2 => p2 a (by omega) (by omega)) (e00 6 (by decide)) (eo 5 (by decide) (by decide)) (eo 2 (by decide) (by decide))
      · have e55 : h2 55 = h 55 := p2 55 (by omega) (by omega)
        refine ⟨⟨by rw [p3, e08, u1], by rw [e08]; omega, by rw [e08]; omega⟩, fun i hi => by rw [e55]; exact u4 i hi, fun i j hi hj => by rw [e55]; exact u5 i j hi hj, fun i hi => ?_⟩
        rw [e08] at hi
        rw [e55, eo 2 (by decide) (by decide), e6]
        by_cases e : i = (g 0 8).toNat
        · subst e
          rw [d1, show ((d : Int)).toNat = d by simp]
          exact ⟨DS_c hR (fun j hj => kb_in hj) (DS_w hR hr.D p4 p5 p6), SM_c hR (fun j hj => kb_in hj) hr.S⟩
        · obtain ⟨di, di1, di2⟩ := u4 i (by omega)
          have hne := u5 i (g 0 8).toNat (by omega) (by omega)
          rw [di1, d1] at hne
          have di2b := kk_b di2
          have qi := u6 i (by omega)
          rw [di1, show ((di : Int)).toNat = di by simp] at qi ⊢
          exact ⟨DS_c hR (fun j hj => kb_out (by omega)) (DS_up qi.1 (fun a h1 h2 => p2 a (by omega) (by omega))), SM_c hR (fun j hj => kb_out (by omega)) qi.2⟩
theorem op_back {h g : mm_H} {v : Nat} (hr : Rel h g v) : AG (ex 93 0 [mm_r 0] [] h) (em 53 0 [mm_r 0, mm_u] [] g) := by
  obtain ⟨⟨u1, u2, u3⟩, u4, u5, u6⟩ := id hr.K
  have hU := hr.U
  have hR := hr.M.1
  by_cases c : g 0 8 = 0
  · refine AG_0 (r := -2) hr ?_ ?_
    · rw [sg_X10_back_0]
      refine mm_bi (X_skSize (Or.inr rfl) h) ?_
      refine (sg_X10_back_7 _ h).trans ?_
      rw [if_pos (by omega)]
    · rw [sg_X11_back_0, if_pos c]
  · obtain ⟨d, d1, d2⟩ := u4 (g 0 8 - 1).toNat (by omega)
    have d2b := kk_b d2
    obtain ⟨h2, p1, p2, p3, p3b, p4, p5, p6⟩ := X_pop (h := h) (sk := 54) (d := d) (n := 2) (Or.inr ⟨rfl, rfl⟩) (by omega) (by rw [u1]; exact d1) (dk_k d2)
    have e08 : (mm_st g 0 8 (g 0 8 - 1)) 0 8 = g 0 8 - 1 := z_se _ _ _ _
    have e6 : (mm_st g 0 8 (g 0 8 - 1)) 6 = g 6 := z_sc _ _ (by decide)
    have e4 : (mm_st g 0 8 (g 0 8 - 1)) 4 = g 4 := z_sc _ _ (by decide)
    have ml := M_back_l (g := mm_st g 0 8 (g 0 8 - 1)) (by rw [e08]; omega) 12 0 (by omega) (by omega)
    rw [e08, e6, e4, show (0 : Int).toNat = 0 from rfl, cc_0] at ml
    have ml2 : em 53 22 [mm_r 0, mm_i 0] [] (mm_st g 0 8 (g 0 8 - 1)) = some (some (mm_i (g 0 8 - 1)), mm_st (mm_up (mm_st g 0 8 (g 0 8 - 1)) 4 (cc_f (fun j => g 6 (12 * (g 0 8 - 1).toNat + j)) (g 4) 12)) 0 6 0) := by
      rw [← ml]
      congr 1
      conv => lhs; rw [← z_ui (mm_st g 0 8 (g 0 8 - 1)) 4]
      rw [e4]
    have q := u6 (g 0 8 - 1).toNat (by omega)
    rw [d1, show ((d : Int)).toNat = d by simp] at q
    refine ⟨g 0 8 - 1, mm_st h2 28 1 0, mm_st (mm_up (mm_st g 0 8 (g 0 8 - 1)) 4 (cc_f (fun j => g 6 (12 * (g 0 8 - 1).toNat + j)) (g 4) 12)) 0 6 0, v, ?_, ?_, ?_⟩
    · rw [sg_X10_back_0]
      refine mm_bi (X_skSize (Or.inr rfl) h) ?_
      refine (sg_X10_back_7 _ h).trans ?_
      rw [if_neg (by omega)]
      refine mm_bi p1 ?_
      refine (sg_X10_back_24 h2).trans ?_
      refine mm_bi (sg_X7_clear_0 (Or.inl rfl) h2) ?_
      refine (sg_X10_back_31 (mm_st h2 28 1 0)).trans ?_
      refine mm_bi (X_skSize (Or.inr rfl) _) ?_
      refine (sg_X10_back_38 _ (mm_st h2 28 1 0)).trans ?_
      rw [z_sc _ _ (by decide), p3, u1]
    · rw [sg_X11_back_0, if_neg c, z_sub (by omega) (by omega)]
      exact ml2
    · generalize hG : mm_st (mm_up (mm_st g 0 8 (g 0 8 - 1)) 4 (cc_f (fun j => g 6 (12 * (g 0 8 - 1).toNat + j)) (g 4) 12)) 0 6 0 = G
      have e44 : G 4 = cc_f (fun j => g 6 (12 * (g 0 8 - 1).toNat + j)) (g 4) 12 := by rw [← hG, z_sc _ _ (by decide), z_up]
      have eo : ∀ a, a ≠ 4 → a ≠ 0 → G a = g a := fun a h1 h2 => by rw [← hG, z_sc _ _ h2, z_un _ _ h1, z_sc _ _ h2]
      have e00 : ∀ j, j ≠ 6 → j ≠ 8 → G 0 j = g 0 j := fun j h6 h8 => by rw [← hG, z_ss _ _ h6, z_un _ _ (by decide), z_ss _ _ h8]
      have e088 : G 0 8 = g 0 8 - 1 := by rw [← hG, z_ss _ _ (by decide), z_un _ _ (by decide), z_se]
      have e066 : G 0 6 = 0 := by rw [← hG, z_se]
      have eh : ∀ a, a ≠ 28 → a ≠ 54 → ¬ (25 ≤ a ∧ a ≤ 27) → (mm_st h2 28 1 0) a = h a := fun a h1 h2 h3 => by rw [z_sc _ _ h1]; exact p2 a h2 h3
      have e29 : (mm_st h2 28 1 0) 29 = h 29 := eh 29 (by decide) (by decide) (by decide)
      have e55 : (mm_st h2 28 1 0) 55 = h 55 := eh 55 (by decide) (by decide) (by decide)
      refine Rel_d hr (fun a ha => eh a (by omega) (by omega) (by omega)) (fun a h0 h4 h5 h6 => eo a h4 h0) (fun j h6 h8 => e00 j h6 h8) ?_ ?_ ?_ ?_
      · rw [e44]
        exact DS_up (DS_c hR (fun j hj => cc_in hj) (DS_n hR q.1 p4 p5 p6)) (fun a h1 h2 => z_sc _ _ (by omega))
      · rw [e44]; exact SM_c hR (fun j hj => cc_in hj) q.2
      · refine ⟨⟨by rw [z_se, e066], by rw [e066]; omega, by rw [e066]; omega⟩, fun i hi => by rw [e29]; exact hU.2.1 i hi, fun i j hi hj => by rw [e29]; exact hU.2.2.1 i j hi hj, fun i hi => ?_⟩
        rw [e066] at hi
        omega
      · refine ⟨⟨by rw [z_sc _ _ (by decide), p3, e088, u1], by rw [e088]; omega, by rw [e088]; omega⟩, fun i hi => by rw [e55]; exact u4 i hi, fun i j hi hj => by rw [e55]; exact u5 i j hi hj, fun i hi => ?_⟩
        rw [e088] at hi
        rw [e55, eo 2 (by decide) (by decide), eo 6 (by decide) (by decide)]
        obtain ⟨di, di1, di2⟩ := u4 i (by omega)
        have di2b := kk_b di2
        have qi := u6 i (by omega)
        rw [di1, show ((di : Int)).toNat = di by simp] at qi ⊢
        exact ⟨DS_up qi.1 (fun a h1 h2 => eh a (by omega) (by omega) (by omega)), qi.2⟩
