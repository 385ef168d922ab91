/-! ===== where to look ===== -/
def ta_f (R S Q : Nat → Int) (y : Int) : Nat → Int × (Nat → Int)
  | 0 => (0, fun _ => 0)
  | i + 1 => (if (ta_f R S Q y i).1 < (ta_f R S Q y i).2 (sk_f R (sl_f S (Q i)) y).toNat + 1 then (ta_f R S Q y i).2 (sk_f R (sl_f S (Q i)) y).toNat + 1 else (ta_f R S Q y i).1, mm_up (ta_f R S Q y i).2 (sk_f R (sl_f S (Q i)) y).toNat ((ta_f R S Q y i).2 (sk_f R (sl_f S (Q i)) y).toNat + 1))
theorem ta_s (R S Q : Nat → Int) (y : Int) (i : Nat) : ta_f R S Q y (i + 1) = (if (ta_f R S Q y i).1 < (ta_f R S Q y i).2 (sk_f R (sl_f S (Q i)) y).toNat + 1 then (ta_f R S Q y i).2 (sk_f R (sl_f S (Q i)) y).toNat + 1 else (ta_f R S Q y i).1, mm_up (ta_f R S Q y i).2 (sk_f R (sl_f S (Q i)) y).toNat ((ta_f R S Q y i).2 (sk_f R (sl_f S (Q i)) y).toNat + 1)) := rfl
theorem ta_b (R S Q : Nat → Int) (y : Int) : ∀ i : Nat, (0 ≤ (ta_f R S Q y i).1 ∧ (ta_f R S Q y i).1 ≤ i) ∧ ∀ j, 0 ≤ (ta_f R S Q y i).2 j ∧ (ta_f R S Q y i).2 j ≤ i
  | 0 => ⟨⟨Int.le_refl 0, Int.le_refl 0⟩, fun _ => ⟨Int.le_refl 0, Int.le_refl 0⟩⟩
  | i + 1 => by
    have ih := ta_b R S Q y i
    have i1 := ih.1
    have i2 := ih.2 (sk_f R (sl_f S (Q i)) y).toNat
    rw [ta_s]
    refine ⟨?_, fun j => ?_⟩
    · dsimp only
      split <;> omega
    · dsimp only
      by_cases e : j = (sk_f R (sl_f S (Q i)) y).toNat
      · rw [e, z_up]; omega
      · rw [z_un _ _ e]; have := ih.2 j; omega
theorem ta_c {R S Q P : Nat → Int} (y : Int) : ∀ i : Nat, (∀ j, j < i → Q j = P j) → ta_f R S Q y i = ta_f R S P y i
  | 0, _ => rfl
  | i + 1, h => by rw [ta_s, ta_s, ta_c y i (fun j hj => h j (by omega)), h i (by omega)]
set_option maxRecDepth 100000 in
theorem sg_fill84_0 (a1 : Int) (h : mm_H) : ex 103 0 [mm_r 84, mm_i a1, mm_u, mm_u] [] h = (ex 103 5 [mm_r 84, mm_i a1, mm_i 0, mm_i 41] [] h) := (congrFun (congrFun (congrFun (mm_ev_fw hShX st_J7_fill_53178 103 300 0) _) _) _).trans rfl
set_option maxRecDepth 100000 in
theorem sg_fill84_5 (l1 : Int) (l2 : Int) (l3 : Int) (h : mm_H) : ex 103 5 [mm_r 84, mm_i l1, mm_i l2, mm_i l3] [] h = (if l2 < l3 then (if 0 ≤ l2 ∧ l2 < 41 then (ex 103 5 [mm_r 84, mm_i l1, mm_i (mm_wr (l2 + 1)), mm_i l3] [] (mm_st h 84 l2.toNat l1)) else none) else (some (none, h))) := (congrFun (congrFun (congrFun (mm_ev_fw hShX st_J7_fill_53178 103 300 5) _) _) _).trans rfl
theorem X_fill84 : ∀ (m : Nat) (i : Int) (k : mm_H), 0 ≤ i → i + m = 41 → (∀ j : Nat, (j : Int) < i → k 84 j = 0) → ∃ k2, ex 103 5 [mm_r 84, mm_i 0, mm_i i, mm_i 41] [] k = some (none, k2) ∧ (∀ j : Nat, j < 41 → k2 84 j = 0) ∧ ∀ a, a ≠ 84 → k2 a = k a
  | 0, i, k, h0, hi, hk => ⟨k, by rw [sg_fill84_5, if_neg (by omega)], fun j hj => hk j (by omega), fun _ _ => rfl⟩
  | m + 1, i, k, h0, hi, hk => by
    rw [sg_fill84_5, if_pos (by omega), if_pos (by omega), z_wr (by omega) (by omega)]
    obtain ⟨k2, a1, a2, a3⟩ := X_fill84 m (i + 1) (mm_st k 84 i.toNat 0) (by omega) (by omega) (fun j hj => by
      by_cases e : j = i.toNat
      · rw [e, z_se]
      · rw [z_ss _ _ e]; exact hk j (by omega))
    exact ⟨k2, a1, a2, fun a ha => (a3 a ha).trans (z_sc _ _ ha)⟩
theorem X_alike_l {h : mm_H} {v : Nat} {R S : Nat → Int} (hV : VL h v R) (hT : TR h 26 R S) {n : Nat} (hn : h 79 4 = n) (hn2 : n ≤ 50) (hQ : ∀ j, j < n → 0 ≤ h 82 j ∧ h 82 j < 10 * R 0) {y : Int} (hy : 0 ≤ y ∧ y < 24) : ∀ (m : Nat) (i : Int) (k : mm_H) (l6 : mm_V), 0 ≤ i → i + m = n → (∀ a, a ≠ 83 → a ≠ 84 → k a = h a) → (∀ j, j < 41 → k 84 j = (ta_f R S (h 82) y i.toNat).2 j) → ∃ k2, ex 11 14 [mm_r 79, mm_r v, mm_r 26, mm_i y, mm_i (ta_f R S (h 82) y i.toNat).1, mm_i i, l6] [] k = some (some (mm_i (ta_f R S (h 82) y n).1), k2) ∧ ∀ a, a ≠ 83 → a ≠ 84 → k2 a = h a
  | 0, i, k, l6, h0, hi, hk, ht => ⟨k, by rw [sg_X2_mostAlike_14 hV.1 (Or.inl rfl), hk 79 (by decide) (by decide), hn, if_neg (by omega), show i.toNat = n by omega], hk⟩
  | m + 1, i, k, l6, h0, hi, hk, ht => by
    have hn0 := hV.2.1.n
    have hq := hQ i.toNat (by omega)
    have hT2 : TR k 26 R S := TR_up hT (hk 26 (by decide) (by decide))
    obtain ⟨k1, a1, a2, a3⟩ := X_slip hV.2.1 hT2 (c := h 82 i.toNat) hq
    have hk1 : ∀ a, a ≠ 83 → a ≠ 84 → k1 a = h a := fun a h1 h2 => (a3 a h1).trans (hk a h1 h2)
    have hV1 : VL k1 v R := VL_up hV (fun a h1 h2 => hk1 a (by have := hV.1; omega) (by have := hV.1; omega))
    have hsb := sk_b hV.2.1 hV.2.2.1 a2.2.1 y
    have htb := ta_b R S (h 82) y i.toNat
    have htb1 := htb.1
    have htb2 := htb.2 (sk_f R (sl_f S (h 82 i.toNat)) y).toNat
    have h84 : k1 84 (sk_f R (sl_f S (h 82 i.toNat)) y).toNat = (ta_f R S (h 82) y i.toNat).2 (sk_f R (sl_f S (h 82 i.toNat)) y).toNat := by rw [a3 84 (by decide)]; exact ht _ (by omega)
    have hs := ta_s R S (h 82) y i.toNat
    have e0 : ex 11 14 [mm_r 79, mm_r v, mm_r 26, mm_i y, mm_i (ta_f R S (h 82) y i.toNat).1, mm_i i, l6] [] k = ex 11 47 [mm_r 79, mm_r v, mm_r 26, mm_i y, mm_i (ta_f R S (h 82) y i.toNat).1, mm_i i, l6] [mm_i (sk_f R (sl_f S (h 82 i.toNat)) y)] k1 := by
      rw [sg_X2_mostAlike_14 hV.1 (Or.inl rfl), hk 79 (by decide) (by decide), hk 82 (by decide) (by decide), hn, if_pos (by omega), if_pos (by omega)]
      refine mm_bi a1 ?_
      refine (sg_X2_mostAlike_35 hV.1 (Or.inl rfl) _ _ _ _ k1).trans ?_
      refine mm_bi (X_low hV1 a2 hy) ?_
      refine (sg_X2_mostAlike_44 hV.1 (Or.inl rfl) _ _ _ _ _ k1).trans ?_
      refine mm_bi (X_within _ k1) ?_
      rw [cl_id hsb]; rfl
    rw [e0, sg_X2_mostAlike_47 hV.1 (Or.inl rfl), if_pos (by omega), if_pos (by omega), if_pos (by omega), z_se, h84, z_add (by omega) (by omega), z_wr (by omega) (by omega)]
    have ih := X_alike_l hV hT hn hn2 hQ hy m (i + 1) (mm_st k1 84 (sk_f R (sl_f S (h 82 i.toNat)) y).toNat ((ta_f R S (h 82) y i.toNat).2 (sk_f R (sl_f S (h 82 i.toNat)) y).toNat + 1)) (mm_i (sk_f R (sl_f S (h 82 i.toNat)) y)) (by omega) (by omega) (fun a h1 h2 => by rw [z_sc _ _ h2]; exact hk1 a h1 h2) (fun j hj => by
      rw [show (i + 1).toNat = i.toNat + 1 by omega, hs, z_sr]
      dsimp only
      by_cases e : j = (sk_f R (sl_f S (h 82 i.toNat)) y).toNat
      · rw [e, z_up, z_up]
      · rw [z_un _ _ e, z_un _ _ e, a3 84 (by decide)]; exact ht j hj)
    rw [show (i + 1).toNat = i.toNat + 1 by omega, hs] at ih
    exact ih
theorem X_alike {h : mm_H} {v : Nat} {R S : Nat → Int} (hV : VL h v R) (hT : TR h 26 R S) {n : Nat} (hn : h 79 4 = n) (hn2 : n ≤ 50) (hQ : ∀ j, j < n → 0 ≤ h 82 j ∧ h 82 j < 10 * R 0) {y : Int} (hy : 0 ≤ y ∧ y < 24) : ∃ k2, ex 11 0 [mm_r 79, mm_r v, mm_r 26, mm_i y, mm_u, mm_u, mm_u] [] h = some (some (mm_i (ta_f R S (h 82) y n).1), k2) ∧ ∀ a, a ≠ 83 → a ≠ 84 → k2 a = h a := by
  obtain ⟨k1, a1, a2, a3⟩ := X_fill84 41 0 h (by omega) (by omega) (fun j hj => by omega)
  obtain ⟨k2, b1, b2⟩ := X_alike_l hV hT hn hn2 hQ hy n 0 k1 mm_u (by omega) (by omega) (fun a _ h2 => a3 a h2) (fun j hj => a2 j hj)
  refine ⟨k2, ?_, b2⟩
  rw [sg_X2_mostAlike_0 hV.1 (Or.inl rfl)]
  refine mm_bi ((sg_fill84_0 _ h).trans a1) ?_
  exact (sg_X2_mostAlike_8 hV.1 (Or.inl rfl) _ k1).trans b1
def lo_f (M : Nat → Int) : Nat → Int × Int
  | 0 => (0, M 0)
  | k + 1 => (if M (k + 1) < (lo_f M k).2 then (k : Int) + 1 else (lo_f M k).1, if M (k + 1) < (lo_f M k).2 then M (k + 1) else (lo_f M k).2)
theorem lo_s (M : Nat → Int) (k : Nat) : lo_f M (k + 1) = (if M (k + 1) < (lo_f M k).2 then (k : Int) + 1 else (lo_f M k).1, if M (k + 1) < (lo_f M k).2 then M (k + 1) else (lo_f M k).2) := rfl
theorem lo_b (M : Nat → Int) : ∀ k : Nat, 0 ≤ (lo_f M k).1
  | 0 => Int.le_refl 0
  | k + 1 => by
    have := lo_b M k
    rw [lo_s]
    dsimp only
    split <;> omega
theorem X_look_s {h : mm_H} {v : Nat} {R S : Nat → Int} (hv : h 0 2 = v) (hV : VL h v R) (hT : TR h 26 R S) {n : Nat} (hn : h 79 4 = n) (hn2 : n ≤ 50) (hQ : ∀ j, j < n → 0 ≤ h 82 j ∧ h 82 j < 10 * R 0) {k : mm_H} (hk : ∀ a, a ≠ 83 → a ≠ 84 → k a = h a) {w a b y : Int} (hy : 0 ≤ y ∧ y < 24) (l5 : mm_V) : ∃ k2 l, ex 87 57 [mm_r 0, mm_i w, mm_i a, mm_i b, mm_i y, l5] [] k = ex 87 57 [mm_r 0, mm_i w, mm_i (if (ta_f R S (h 82) y n).1 < b then y else a), mm_i (if (ta_f R S (h 82) y n).1 < b then (ta_f R S (h 82) y n).1 else b), mm_i (y + 1), l] [] k2 ∧ ∀ a, a ≠ 83 → a ≠ 84 → k2 a = h a := by
  have hV1 : VL k v R := VL_up hV (fun a h1 h2 => hk a (by have := hV.1; omega) (by have := hV.1; omega))
  obtain ⟨k2, b1, b2⟩ := X_alike hV1 (TR_up hT (hk 26 (by decide) (by decide))) (n := n) (by rw [hk 79 (by decide) (by decide)]; exact hn) hn2 (by rw [hk 82 (by decide) (by decide)]; exact hQ) hy
  rw [hk 82 (by decide) (by decide)] at b1
  refine ⟨k2, mm_i (ta_f R S (h 82) y n).1, ?_, fun a h1 h2 => (b2 a h1 h2).trans (hk a h1 h2)⟩
  have ev : (k 0 2).toNat = v := by rw [hk 0 (by decide) (by decide), hv]; simp
  rw [sg_X10_look_57, if_pos (by omega), ev, sg_X10_look_72 hV.1]
  refine mm_bi b1 ?_
  refine (sg_X10_look_84 _ _ _ _ _ _ k2).trans ?_
  rw [sg_X10_look_98, sg_X10_look_98, z_wr (by omega) (by omega)]
  split <;> rfl
theorem X_look_l {h : mm_H} {v : Nat} {R S : Nat → Int} (hv : h 0 2 = v) (hV : VL h v R) (hT : TR h 26 R S) {n : Nat} (hn : h 79 4 = n) (hn2 : n ≤ 50) (hQ : ∀ j, j < n → 0 ≤ h 82 j ∧ h 82 j < 10 * R 0) (w : Int) : ∀ (m : Nat) (y : Int) (k : mm_H) (l5 : mm_V), 1 ≤ y → y + m = 24 → (∀ a, a ≠ 83 → a ≠ 84 → k a = h a) → ∃ k2, ex 87 57 [mm_r 0, mm_i w, mm_i (lo_f (fun y => (ta_f R S (h 82) y n).1) (y - 1).toNat).1, mm_i (lo_f (fun y => (ta_f R S (h 82) y n).1) (y - 1).toNat).2, mm_i y, l5] [] k = some (some (mm_i (if w = 0 then (lo_f (fun y => (ta_f R S (h 82) y n).1) 23).1 else (lo_f (fun y => (ta_f R S (h 82) y n).1) 23).2)), k2) ∧ ∀ a, a ≠ 83 → a ≠ 84 → k2 a = h a
  | 0, y, k, l5, h0, hy, hk => by
    refine ⟨k, ?_, hk⟩
    rw [sg_X10_look_57, if_neg (by omega), sg_X10_look_113, sg_X10_look_113, show (y - 1).toNat = 23 by omega]
    split <;> rfl
  | m + 1, y, k, l5, h0, hy, hk => by
    obtain ⟨k2, l, a1, a2⟩ := X_look_s (w := w) (a := (lo_f (fun y => (ta_f R S (h 82) y n).1) (y - 1).toNat).1) (b := (lo_f (fun y => (ta_f R S (h 82) y n).1) (y - 1).toNat).2) hv hV hT hn hn2 hQ hk (y := y) (by omega) l5
    have ih := X_look_l hv hV hT hn hn2 hQ w m (y + 1) k2 l (by omega) (by omega) a2
    rw [show (y + 1 - 1).toNat = (y - 1).toNat + 1 by omega, lo_s] at ih
    dsimp only at ih
    rw [show (((y - 1).toNat + 1 : Nat) : Int) = y by omega, show ((y - 1).toNat : Int) + 1 = y by omega] at ih
    rw [a1]
    exact ih
theorem M_look_z {g : mm_H} {l1 l2 l3 l4 l5 : Int} (l7 l8 : mm_V) : ∀ (m : Nat) (i : Int) (q : mm_H), 0 ≤ i → i + m = 41 → HQ g q → (∀ j : Nat, (j : Int) < i → q 11 j = 0) → ∃ q2, em 47 43 [mm_r 0, mm_i l1, mm_i l2, mm_i l3, mm_i l4, mm_i l5, mm_i i, l7, l8] [] q = em 47 70 [mm_r 0, mm_i l1, mm_i l2, mm_i l3, mm_i l4, mm_i l5, mm_i 0, mm_i 0, l8] [] q2 ∧ HQ g q2 ∧ q2 10 = q 10 ∧ ∀ j : Nat, j < 41 → q2 11 j = 0
  | 0, i, q, h0, hi, hk, hz => ⟨q, by rw [sg_X11_look_43, if_pos (by omega)], hk, rfl, fun j hj => hz j (by omega)⟩
  | m + 1, i, q, h0, hi, hk, hz => by
    rw [sg_X11_look_43, if_neg (by omega), if_pos (by omega), z_wr (by omega) (by omega)]
    obtain ⟨q2, a1, a2, a3, a4⟩ := M_look_z (g := g) (l1 := l1) (l2 := l2) (l3 := l3) (l4 := l4) (l5 := l5) l7 l8 m (i + 1) (mm_st q 11 i.toNat 0) (by omega) (by omega) ⟨fun a h1 h2 h3 => by rw [z_sc _ _ h3]; exact hk.1 a h1 h2 h3, fun j hj => by rw [z_sc _ _ (by decide)]; exact hk.2 j hj⟩ (fun j hj => by
      by_cases e : j = i.toNat
      · rw [e, z_se]
      · rw [z_ss _ _ e]; exact hz j (by omega))
    exact ⟨q2, a1, a2, a3.trans (z_sc _ _ (by decide)), a4⟩
theorem M_alike_l {g : mm_H} (hg : MV g) {Q : Nat → Int} {n : Nat} (hn2 : n ≤ 50) (hQ : ∀ j, j < n → 0 ≤ Q j ∧ Q j < 10 * g 2 0) {y l1 l3 l4 : Int} (hy : 0 ≤ y ∧ y < 24) : ∀ (m : Nat) (i : Int) (q : mm_H) (l8 : mm_V), 0 ≤ i → i + m = n → HQ g q → q 10 = Q → (∀ j, j < 41 → q 11 j = (ta_f (g 2) (g 4) Q y i.toNat).2 j) → ∃ q2 l, em 47 70 [mm_r 0, mm_i l1, mm_i n, mm_i l3, mm_i l4, mm_i y, mm_i (ta_f (g 2) (g 4) Q y i.toNat).1, mm_i i, l8] [] q = em 47 70 [mm_r 0, mm_i l1, mm_i n, mm_i l3, mm_i l4, mm_i y, mm_i (ta_f (g 2) (g 4) Q y n).1, mm_i n, l] [] q2 ∧ HQ g q2 ∧ q2 10 = Q
  | 0, i, q, l8, h0, hi, hk, h10, ht => ⟨q, l8, by rw [show i.toNat = n by omega, show i = (n : Int) by omega], hk, h10⟩
  | m + 1, i, q, l8, h0, hi, hk, h10, ht => by
    have hn0 := hg.1.n
    have hq := hQ i.toNat (by omega)
    have hSK := sl_SK hg.2.2 (Q i.toNat)
    have hsb := sk_b hg.1 hg.2.1 hSK y
    have htb := ta_b (g 2) (g 4) Q y i.toNat
    have htb1 := htb.1
    have htb2 := htb.2 (sk_f (g 2) (sl_f (g 4) (Q i.toNat)) y).toNat
    have h11 := ht (sk_f (g 2) (sl_f (g 4) (Q i.toNat)) y).toNat (by omega)
    have hs := ta_s (g 2) (g 4) Q y i.toNat
    have e2 : mm_up q 4 (sl_f (g 4) (Q i.toNat)) 2 = g 2 := by rw [z_un _ _ (by decide)]; exact hk.1 2 (by decide) (by decide) (by decide)
    have e4 : mm_up q 4 (sl_f (g 4) (Q i.toNat)) 4 = sl_f (g 4) (Q i.toNat) := z_up _ _ _
    have hsk := M_sky (HQ_V hk hg hSK) hy
    rw [e2, e4] at hsk
    have e0 : em 47 70 [mm_r 0, mm_i l1, mm_i n, mm_i l3, mm_i l4, mm_i y, mm_i (ta_f (g 2) (g 4) Q y i.toNat).1, mm_i i, l8] [] q = em 47 99 [mm_r 0, mm_i l1, mm_i n, mm_i l3, mm_i l4, mm_i y, mm_i (ta_f (g 2) (g 4) Q y i.toNat).1, mm_i i, mm_i (sk_f (g 2) (sl_f (g 4) (Q i.toNat)) y)] [] q := by
      rw [sg_X11_look_70, if_pos (by omega), if_pos (by omega), h10]
      refine mm_bi (M_letsOut hk hg hq) ?_
      refine (sg_X11_look_87 _ _ _ _ _ _ _ _ (mm_up q 4 (sl_f (g 4) (Q i.toNat)))).trans ?_
      refine mm_bi hsk ?_
      refine (sg_X11_look_93 _ _ _ _ _ _ _ _ _ (mm_up q 4 (sl_f (g 4) (Q i.toNat)))).trans ?_
      exact mm_bi (M_lt hk (fun j hj => sl_o (by omega) (by omega))) rfl
    have ih := M_alike_l (l1 := l1) (l3 := l3) (l4 := l4) hg hn2 hQ hy m (i + 1) (mm_st q 11 (sk_f (g 2) (sl_f (g 4) (Q i.toNat)) y).toNat ((ta_f (g 2) (g 4) Q y i.toNat).2 (sk_f (g 2) (sl_f (g 4) (Q i.toNat)) y).toNat + 1)) (mm_i (sk_f (g 2) (sl_f (g 4) (Q i.toNat)) y)) (by omega) (by omega) ⟨fun a h1 h2 h3 => by rw [z_sc _ _ h3]; exact hk.1 a h1 h2 h3, fun j hj => by rw [z_sc _ _ (by decide)]; exact hk.2 j hj⟩ ((z_sc _ _ (by decide)).trans h10) (fun j hj => by
      rw [show (i + 1).toNat = i.toNat + 1 by omega, hs, z_sr]
      dsimp only
      by_cases e : j = (sk_f (g 2) (sl_f (g 4) (Q i.toNat)) y).toNat
      · rw [e, z_up, z_up]
      · rw [z_un _ _ e, z_un _ _ e]; exact ht j hj)
    rw [show (i + 1).toNat = i.toNat + 1 by omega, hs] at ih
    rw [e0, sg_X11_look_99, if_pos (by omega), if_pos (by omega), if_pos (by omega), z_se, h11, z_add (by omega) (by omega)]
    dsimp only at ih
    by_cases c : (ta_f (g 2) (g 4) Q y i.toNat).1 < (ta_f (g 2) (g 4) Q y i.toNat).2 (sk_f (g 2) (sl_f (g 4) (Q i.toNat)) y).toNat + 1
    · rw [if_pos c] at ih ⊢; rw [if_pos (by omega), sg_X11_look_134, z_wr (by omega) (by omega)]; exact ih
    · rw [if_neg c] at ih ⊢; rw [sg_X11_look_134, z_wr (by omega) (by omega)]; exact ih
theorem M_look_s {g : mm_H} (hg : MV g) {Q : Nat → Int} {n : Nat} (hn2 : n ≤ 50) (hQ : ∀ j, j < n → 0 ≤ Q j ∧ Q j < 10 * g 2 0) {y w a b : Int} (hy : 0 ≤ y ∧ y < 24) {q : mm_H} (hk : HQ g q) (h10 : q 10 = Q) (l6 l7 l8 : mm_V) : ∃ q2 m6 m7 m8, em 47 33 [mm_r 0, mm_i w, mm_i n, mm_i a, mm_i b, mm_i y, l6, l7, l8] [] q = em 47 33 [mm_r 0, mm_i w, mm_i n, mm_i (if a = -4 ∨ (ta_f (g 2) (g 4) Q y n).1 < b then y else a), mm_i (if a = -4 ∨ (ta_f (g 2) (g 4) Q y n).1 < b then (ta_f (g 2) (g 4) Q y n).1 else b), mm_i (y + 1), m6, m7, m8] [] q2 ∧ HQ g q2 ∧ q2 10 = Q := by
  obtain ⟨q1, a1, a2, a3, a4⟩ := M_look_z (g := g) (l1 := w) (l2 := n) (l3 := a) (l4 := b) (l5 := y) l7 l8 41 0 q (by omega) (by omega) hk (fun j hj => by omega)
  obtain ⟨q2, l, b1, b2, b3⟩ := M_alike_l (l1 := w) (l3 := a) (l4 := b) hg hn2 hQ hy n 0 q1 l8 (by omega) (by omega) a2 (a3.trans h10) (fun j hj => a4 j hj)
  have b1' : em 47 70 [mm_r 0, mm_i w, mm_i n, mm_i a, mm_i b, mm_i y, mm_i 0, mm_i 0, l8] [] q1 = _ := b1
  have e1 : ∀ s, em 47 160 [mm_r 0, mm_i w, mm_i n, mm_i a, mm_i b, mm_i y, mm_i (ta_f (g 2) (g 4) Q y n).1, mm_i n, l] [mm_i s] q2 = em 47 33 [mm_r 0, mm_i w, mm_i n, mm_i (if s = 0 then a else y), mm_i (if s = 0 then b else (ta_f (g 2) (g 4) Q y n).1), mm_i (y + 1), mm_i (ta_f (g 2) (g 4) Q y n).1, mm_i s, l] [] q2 := by
    intro s
    rw [sg_X11_look_160, sg_X11_look_173, sg_X11_look_173, sg_X11_look_186, sg_X11_look_186, sg_X11_look_186, sg_X11_look_186, z_wr (by omega) (by omega)]
    by_cases c : s = 0
    · simp only [if_pos c]
    · simp only [if_neg c]
  rw [sg_X11_look_33, if_pos (by omega), a1, b1', sg_X11_look_70, if_neg (by omega), sg_X11_look_155, e1, e1]
  by_cases c1 : a = -4
  · refine ⟨q2, mm_i (ta_f (g 2) (g 4) Q y n).1, mm_i 1, l, ?_, b2, b3⟩
    rw [if_pos c1, if_pos (Or.inl c1), if_pos (Or.inl c1), if_neg (by decide), if_neg (by decide)]
  · by_cases c2 : (ta_f (g 2) (g 4) Q y n).1 < b
    · refine ⟨q2, mm_i (ta_f (g 2) (g 4) Q y n).1, mm_i 1, l, ?_, b2, b3⟩
      rw [if_neg c1, if_pos c2, if_pos (Or.inr c2), if_pos (Or.inr c2), if_neg (by decide), if_neg (by decide)]
    · refine ⟨q2, mm_i (ta_f (g 2) (g 4) Q y n).1, mm_i 0, l, ?_, b2, b3⟩
      have c3 : ¬ (a = -4 ∨ (ta_f (g 2) (g 4) Q y n).1 < b) := by omega
      rw [if_neg c1, if_neg c2, if_neg c3, if_neg c3, if_pos rfl, if_pos rfl]
theorem M_look_l {g : mm_H} (hg : MV g) {Q : Nat → Int} {n : Nat} (hn2 : n ≤ 50) (hQ : ∀ j, j < n → 0 ≤ Q j ∧ Q j < 10 * g 2 0) (w : Int) : ∀ (m : Nat) (y : Int) (q : mm_H) (l6 l7 l8 : mm_V), 1 ≤ y → y + m = 24 → HQ g q → q 10 = Q → ∃ q2, em 47 33 [mm_r 0, mm_i w, mm_i n, mm_i (lo_f (fun y => (ta_f (g 2) (g 4) Q y n).1) (y - 1).toNat).1, mm_i (lo_f (fun y => (ta_f (g 2) (g 4) Q y n).1) (y - 1).toNat).2, mm_i y, l6, l7, l8] [] q = some (some (mm_i (if w = 0 then (lo_f (fun y => (ta_f (g 2) (g 4) Q y n).1) 23).1 else (lo_f (fun y => (ta_f (g 2) (g 4) Q y n).1) 23).2)), q2) ∧ HQ g q2
  | 0, y, q, l6, l7, l8, h0, hy, hk, h10 => by
    refine ⟨q, ?_, hk⟩
    rw [sg_X11_look_33, if_neg (by omega), sg_X11_look_204, sg_X11_look_204, show (y - 1).toNat = 23 by omega]
    split <;> rfl
  | m + 1, y, q, l6, l7, l8, h0, hy, hk, h10 => by
    have hb := lo_b (fun y => (ta_f (g 2) (g 4) Q y n).1) (y - 1).toNat
    obtain ⟨q2, m6, m7, m8, a1, a2, a3⟩ := M_look_s (w := w) (a := (lo_f (fun y => (ta_f (g 2) (g 4) Q y n).1) (y - 1).toNat).1) (b := (lo_f (fun y => (ta_f (g 2) (g 4) Q y n).1) (y - 1).toNat).2) hg hn2 hQ (y := y) (by omega) hk h10 l6 l7 l8
    have ih := M_look_l hg hn2 hQ w m (y + 1) q2 m6 m7 m8 (by omega) (by omega) a2 a3
    rw [show (y + 1 - 1).toNat = (y - 1).toNat + 1 by omega, lo_s] at ih
    dsimp only at ih
    rw [show (((y - 1).toNat + 1 : Nat) : Int) = y by omega, show ((y - 1).toNat : Int) + 1 = y by omega] at ih
    rw [a1]
    by_cases c : (ta_f (g 2) (g 4) Q y n).1 < (lo_f (fun y => (ta_f (g 2) (g 4) Q y n).1) (y - 1).toNat).2
    · simp only [if_pos c] at ih
      rw [if_pos (Or.inr c), if_pos (Or.inr c)]; exact ih
    · simp only [if_neg c] at ih
      rw [if_neg (by omega), if_neg (by omega)]; exact ih
theorem op_look {h g : mm_H} {v : Nat} (hr : Rel h g v) (w : Int) : AG (ex 87 0 [mm_r 0, mm_i w, mm_u, mm_u, mm_u, mm_u] [] h) (em 47 0 [mm_r 0, mm_i w, mm_u, mm_u, mm_u, mm_u, mm_u, mm_u, mm_u] [] g) := by
  by_cases c : 0 ≤ w ∧ w ≤ 1
  · have hn := hr.N
    have hR := hr.M.1.n
    obtain ⟨k, a1, a2, a3, a4⟩ := X_find hr.V hr.T (by rw [hn.1.1]; exact hn.1.2) (fun i hi => (hn.2 i (by rw [← hn.1.1]; exact hi)).2.1)
    obtain ⟨q, b1, b2, b3⟩ := M_fits hr.M (SN_R hn)
    rw [hn.1.1] at a3 a4
    have hb := fn_b (g 2) (g 4) (h 80) (h 81) (g 0 10).toNat (10 * g 2 0).toNat
    have hw1 := fw_b (g 2) (g 4) (h 80) (h 81) (g 0 10).toNat (h 82) (10 * g 2 0).toNat
    have hw2 := fw_b (g 2) (g 4) (h 80) (h 81) (g 0 10).toNat (g 10) (10 * g 2 0).toNat
    have hwc := fw_c (g 2) (g 4) (h 80) (h 81) (g 0 10).toNat (h 82) (g 10) (10 * g 2 0).toNat
    rw [← a4] at hw1 hwc
    rw [← b3] at hw2 hwc
    generalize fn_f (g 2) (g 4) (h 80) (h 81) (g 0 10).toNat (10 * g 2 0).toNat = n at a3 b1 hb hw1 hw2 hwc
    by_cases c0 : n = 0
    · refine AG_q (h2 := k) (g2 := q) (r := -4) hr ?_ ?_ (FX_Q hr.V.1 a2) (HQ_Q b2)
      · rw [sg_X10_look_0, if_neg (by omega), if_neg (by omega), hr.v, sg_X10_look_19 hr.V.1]
        refine mm_bi a1 ?_
        refine (sg_X10_look_29 _ k).trans ?_
        rw [if_pos (by omega)]
      · rw [sg_X11_look_0]
        refine mm_bi (M_in_t c g) ?_
        refine (sg_X11_look_6 _ _ g).trans ?_
        rw [if_neg (by decide)]
        refine mm_bi b1 ?_
        refine (sg_X11_look_15 _ _ q).trans ?_
        rw [if_pos (by omega)]
    · have hV2 := FX_V a2 hr.V
      have hT2 : TR k 26 (g 2) (g 4) := TR_up hr.T (a2.1 26 (by decide) (by decide) (by decide) (by decide))
      have hv2 : k 0 2 = v := by rw [a2.1 0 (by decide) (by decide) (by decide) (by decide)]; exact hr.1.1
      have hQ1 : ∀ j, j < n → 0 ≤ k 82 j ∧ k 82 j < 10 * g 2 0 := fun j hj => by have := hw1 j hj; omega
      have hQ2 : ∀ j, j < n → 0 ≤ q 10 j ∧ q 10 j < 10 * g 2 0 := fun j hj => by have := hw2 j hj; omega
      have hta : (fun y : Nat => (ta_f (g 2) (g 4) (q 10) (y : Int) n).1) = fun y : Nat => (ta_f (g 2) (g 4) (k 82) (y : Int) n).1 := by
        funext y
        rw [ta_c (y : Int) n (fun j hj => (hwc j hj).symm)]
      have hta0 := ta_b (g 2) (g 4) (k 82) 0 n
      have hta1 : (ta_f (g 2) (g 4) (q 10) 0 n).1 = (ta_f (g 2) (g 4) (k 82) 0 n).1 := congrFun hta 0
      have hs := X_look_s (w := w) (a := 0) (b := (n : Int) + 1) hv2 hV2 hT2 a3 (by omega) hQ1 (k := k) (fun _ _ _ => rfl) (y := 0) (by omega) mm_u
      obtain ⟨k2, l, c1, c2⟩ := hs
      obtain ⟨k3, d1, d2⟩ := X_look_l hv2 hV2 hT2 a3 (by omega) hQ1 w 23 1 k2 l (by omega) (by omega) c2
      obtain ⟨q2, m6, m7, m8, e1, e2, e3⟩ := M_look_s (w := w) (a := -4) (b := -4) hr.M (n := n) (by omega) hQ2 (y := 0) (by omega) b2 rfl mm_u mm_u mm_u
      obtain ⟨q3, f1, f2⟩ := M_look_l hr.M (n := n) (by omega) hQ2 w 23 1 q2 m6 m7 m8 (by omega) (by omega) e2 e3
      refine AG_q (h2 := k3) (g2 := q3) (r := if w = 0 then (lo_f (fun y => (ta_f (g 2) (g 4) (k 82) y n).1) 23).1 else (lo_f (fun y => (ta_f (g 2) (g 4) (k 82) y n).1) 23).2) hr ?_ ?_ (FX_Q hr.V.1 (FX_t a2 ⟨fun a _ _ h3 h4 => d2 a h3 h4, by rw [d2 79 (by decide) (by decide)]⟩)) (HQ_Q f2)
      · rw [sg_X10_look_0, if_neg (by omega), if_neg (by omega), hr.v, sg_X10_look_19 hr.V.1]
        refine mm_bi a1 ?_
        refine (sg_X10_look_29 _ k).trans ?_
        rw [if_neg (by omega), a3, z_add (by omega) (by omega), c1, if_pos (by omega), if_pos (by omega)]
        exact d1
      · rw [sg_X11_look_0]
        refine mm_bi (M_in_t c g) ?_
        refine (sg_X11_look_6 _ _ g).trans ?_
        rw [if_neg (by decide)]
        refine mm_bi b1 ?_
        refine (sg_X11_look_15 _ _ q).trans ?_
        rw [if_neg (by omega), e1, if_pos (Or.inl rfl), if_pos (Or.inl rfl)]
        rw [hta] at f1
        rw [hta1]
        exact f1
  · refine AG_0 (r := -1) hr ?_ ?_
    · rw [sg_X10_look_0, sg_X10_look_9]
      split
      · rfl
      · rw [if_pos (by omega)]
    · rw [sg_X11_look_0]
      refine mm_bi (M_in_f c g) ?_
      exact (sg_X11_look_6 _ _ g).trans (if_pos rfl)
