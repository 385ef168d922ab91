/-! sums -/
def su_f (p : Nat → Prop) [DecidablePred p] (f : Nat → Int) : Nat → Int
  | 0 => 0
  | k + 1 => su_f p f k + if p k then f k else 0
theorem su_s (p : Nat → Prop) [DecidablePred p] (f : Nat → Int) (k : Nat) : su_f p f (k + 1) = su_f p f k + if p k then f k else 0 := rfl
theorem su_a (p : Nat → Prop) [DecidablePred p] (f : Nat → Int) (s : Nat) (c : Int) : ∀ k, su_f p (fun i => f i + if s = i then c else 0) k = su_f p f k + if s < k ∧ p s then c else 0
  | 0 => by rw [if_neg (by omega)]; rfl
  | k + 1 => by
    rw [su_s, su_s, su_a p f s c k]
    by_cases e : s = k
    · subst e
      rw [if_neg (fun q => absurd q.1 (Nat.lt_irrefl _)), if_pos rfl]
      by_cases hp : p s
      · rw [if_pos hp, if_pos hp, if_pos ⟨Nat.lt_succ_self s, hp⟩]; omega
      · rw [if_neg hp, if_neg hp, if_neg (fun q => hp q.2)]
    · rw [if_neg e, Int.add_zero]
      by_cases hp : s < k ∧ p s
      · have h2 : s < k + 1 ∧ p s := ⟨by omega, hp.2⟩
        rw [if_pos hp, if_pos h2]; omega
      · have h2 : ¬ (s < k + 1 ∧ p s) := fun q => hp ⟨by omega, q.2⟩
        rw [if_neg hp, if_neg h2]; omega
theorem su_z (p : Nat → Prop) [DecidablePred p] (f : Nat → Int) (a : Nat) : ∀ d, (∀ k, a ≤ k → k < a + d → f k = 0) → su_f p f (a + d) = su_f p f a
  | 0, _ => rfl
  | d + 1, h => by
    rw [← Nat.add_assoc, su_s, su_z p f a d (fun k h1 h2 => h k h1 (by omega)), h (a + d) (by omega) (by omega)]
    split <;> omega
theorem su_c (p : Nat → Prop) [DecidablePred p] (f g : Nat → Int) : ∀ k, (∀ i, i < k → f i = g i) → su_f p f k = su_f p g k
  | 0, _ => rfl
  | k + 1, h => by rw [su_s, su_s, su_c p f g k (fun i hi => h i (by omega)), h k (by omega)]
theorem su_b (p : Nat → Prop) [DecidablePred p] (f : Nat → Int) : ∀ k : Nat, (∀ i, i < k → 0 ≤ f i ∧ f i ≤ 1000000) → 0 ≤ su_f p f k ∧ su_f p f k ≤ 1000000 * k
  | 0, _ => ⟨Int.le_refl 0, Int.le_refl 0⟩
  | k + 1, h => by
    have ih := su_b p f k (fun i hi => h i (by omega))
    have := h k (by omega)
    rw [su_s]
    split <;> omega
theorem wy_b {n x : Int} {s : Nat} (hn : 0 ≤ n ∧ n ≤ 6) (hx : 0 ≤ x ∧ x ≤ 10) (hs : s ≤ 6) : 0 ≤ wy_f x n.toNat s ∧ wy_f x n.toNat s ≤ 1000000 ∧ (n.toNat < s → wy_f x n.toNat s = 0) := by
  have := wy_b' ⟨n.toNat, by omega⟩ ⟨x.toNat, by omega⟩ ⟨s, by omega⟩
  dsimp only at this
  rw [show ((x.toNat : Nat) : Int) = x by omega] at this
  exact this
theorem wy_0 (x : Int) (n : Nat) : wy_f x (n + 1) 0 = wy_f x n 0 * (10 - x) := by rw [wy_f]
theorem wy_1 (x : Int) (n s : Nat) : wy_f x (n + 1) (s + 1) = wy_f x n (s + 1) * (10 - x) + wy_f x n s * x := by rw [wy_f]
theorem z_m10 {a x : Int} (ha : 0 ≤ a ∧ a ≤ 1000000) (hx : 0 ≤ x ∧ x ≤ 10) : 0 ≤ a * x ∧ a * x ≤ 10000000 := by
  refine ⟨Int.mul_nonneg ha.1 hx.1, ?_⟩
  have := Int.mul_le_mul ha.2 hx.2 hx.1 (by omega : (0 : Int) ≤ 1000000)
  omega
set_option maxRecDepth 100000 in
theorem sg_fill86_0 (a1 : Int) (h : mm_H) : ex 103 0 [mm_r 86, mm_i a1, mm_u, mm_u] [] h = (ex 103 5 [mm_r 86, mm_i a1, mm_i 0, mm_i 7] [] h) := (congrFun (congrFun (congrFun (mm_ev_fw hShX st_J7_fill_53178 103 300 0) _) _) _).trans rfl
set_option maxRecDepth 100000 in
theorem sg_fill86_5 (l1 : Int) (l2 : Int) (l3 : Int) (h : mm_H) : ex 103 5 [mm_r 86, mm_i l1, mm_i l2, mm_i l3] [] h = (if l2 < l3 then (if 0 ≤ l2 ∧ l2 < 7 then (ex 103 5 [mm_r 86, mm_i l1, mm_i (mm_wr (l2 + 1)), mm_i l3] [] (mm_st h 86 l2.toNat l1)) else none) else (some (none, h))) := (congrFun (congrFun (congrFun (mm_ev_fw hShX st_J7_fill_53178 103 300 5) _) _) _).trans rfl
theorem X_fill86 : ∀ (m : Nat) (i : Int) (k : mm_H), 0 ≤ i → i + m = 7 → (∀ j : Nat, (j : Int) < i → k 86 j = 0) → ∃ k2, ex 103 5 [mm_r 86, mm_i 0, mm_i i, mm_i 7] [] k = some (none, k2) ∧ (∀ j : Nat, j < 7 → k2 86 j = 0) ∧ ∀ a, a ≠ 86 → k2 a = k a
  | 0, i, k, h0, hi, hk => ⟨k, by rw [sg_fill86_5, if_neg (by omega)], fun j hj => hk j (by omega), fun _ _ => rfl⟩
  | m + 1, i, k, h0, hi, hk => by
    rw [sg_fill86_5, if_pos (by omega), if_pos (by omega), z_wr (by omega) (by omega)]
    obtain ⟨k2, a1, a2, a3⟩ := X_fill86 m (i + 1) (mm_st k 86 i.toNat 0) (by omega) (by omega) (fun j hj => by
      by_cases e : j = i.toNat
      · rw [e, z_se]
      · rw [z_ss _ _ e]; exact hk j (by omega))
    exact ⟨k2, a1, a2, fun a ha => (a3 a ha).trans (z_sc _ _ ha)⟩
theorem X_spread_i {n x i : Int} (hi : 0 ≤ i ∧ i < n) (hn : n ≤ 6) (hx : 0 ≤ x ∧ x ≤ 10) : ∀ (t : Nat) (k : mm_H), t ≤ 6 → (∀ s, s ≤ t → k 86 s = wy_f x i.toNat s) → (∀ s, t < s → s ≤ 6 → k 86 s = wy_f x (i.toNat + 1) s) → ∃ k2 l, ex 3 26 [mm_r 85, mm_i n, mm_i x, mm_i i, mm_i t] [] k = ex 3 17 [mm_r 85, mm_i n, mm_i x, mm_i (i + 1), l] [] k2 ∧ (∀ s, s ≤ 6 → k2 86 s = wy_f x (i.toNat + 1) s) ∧ ∀ a, a ≠ 86 → k2 a = k a
  | 0, k, ht, h1, h2 => by
    have b := wy_b (n := i) (by omega) hx (s := 0) (by omega)
    have b2 := z_m10 (a := wy_f x i.toNat 0) (x := 10 - x) ⟨b.1, b.2.1⟩ (by omega)
    refine ⟨mm_st k 86 0 (wy_f x i.toNat 0 * (10 - x)), mm_i ((0 : Nat) : Int), ?_, fun s hs => ?_, fun a ha => z_sc _ _ ha⟩
    · rw [sg_X1_spread_26, if_neg (by omega), z_wr (by omega) (by omega), h1 0 (by omega), z_sub (by omega) (by omega), z_mul (by omega) (by omega)]
    · by_cases e : s = 0
      · subst e; rw [z_se, wy_0]
      · rw [z_ss _ _ e]; exact h2 s (by omega) hs
  | t + 1, k, ht, h1, h2 => by
    have b := wy_b (n := i) (by omega) hx (s := t + 1) (by omega)
    have b' := wy_b (n := i) (by omega) hx (s := t) (by omega)
    have b2 := z_m10 (a := wy_f x i.toNat (t + 1)) (x := 10 - x) ⟨b.1, b.2.1⟩ (by omega)
    have b3 := z_m10 (a := wy_f x i.toNat t) (x := x) ⟨b'.1, b'.2.1⟩ hx
    have e1 : mm_sub ((t + 1 : Nat) : Int) 1 = t := by rw [z_sub (by omega) (by omega)]; omega
    rw [sg_X1_spread_26, if_pos (by omega), if_pos (by omega), e1, if_pos (by omega), if_pos (by omega), z_wr (by omega) (by omega), Int.toNat_natCast, Int.toNat_natCast, h1 (t + 1) (by omega), h1 t (by omega), z_sub (by omega) (by omega), z_mul (by omega) (by omega), z_mul (by omega) (by omega), z_add (by omega) (by omega), show ((t + 1 : Nat) : Int) + -1 = t by omega, ← wy_1]
    obtain ⟨k2, l, a1, a2, a3⟩ := X_spread_i hi hn hx t (mm_st k 86 (t + 1) (wy_f x (i.toNat + 1) (t + 1))) (by omega) (fun s hs => by rw [z_ss _ _ (by omega)]; exact h1 s (by omega)) (fun s hs hs2 => by
      by_cases e : s = t + 1
      · rw [e, z_se]
      · rw [z_ss _ _ e]; exact h2 s (by omega) hs2)
    exact ⟨k2, l, a1, a2, fun a ha => (a3 a ha).trans (z_sc _ _ ha)⟩
theorem X_spread_l {n x : Int} (hn : n ≤ 6) (hx : 0 ≤ x ∧ x ≤ 10) : ∀ (m : Nat) (i : Int) (k : mm_H) (l4 : mm_V), 0 ≤ i → i + m = n → (∀ s, s ≤ 6 → k 86 s = wy_f x i.toNat s) → ∃ k2, ex 3 17 [mm_r 85, mm_i n, mm_i x, mm_i i, l4] [] k = some (none, k2) ∧ (∀ s, s ≤ 6 → k2 86 s = wy_f x n.toNat s) ∧ ∀ a, a ≠ 86 → k2 a = k a
  | 0, i, k, l4, h0, hi, hk => ⟨k, by rw [sg_X1_spread_17, if_neg (by omega)], by rw [show n = i by omega]; exact hk, fun _ _ => rfl⟩
  | m + 1, i, k, l4, h0, hi, hk => by
    rw [sg_X1_spread_17, if_pos (by omega)]
    obtain ⟨k2, l, a1, a2, a3⟩ := X_spread_i (n := n) (x := x) (i := i) (by omega) hn hx 6 k (Nat.le_refl 6) hk (fun s h1 h2 => by omega)
    obtain ⟨k3, b1, b2, b3⟩ := X_spread_l hn hx m (i + 1) k2 l (by omega) (by omega) (by rw [show (i + 1).toNat = i.toNat + 1 by omega]; exact a2)
    exact ⟨k3, (a1.trans b1), b2, fun a ha => (b3 a ha).trans (a3 a ha)⟩
theorem X_spread {n x : Int} (hn : 0 ≤ n ∧ n ≤ 6) (hx : 0 ≤ x ∧ x ≤ 10) (h : mm_H) : ∃ k2, ex 3 0 [mm_r 85, mm_i n, mm_i x, mm_u, mm_u] [] h = some (none, k2) ∧ (∀ s, s ≤ 6 → k2 86 s = wy_f x n.toNat s) ∧ ∀ a, a ≠ 86 → k2 a = h a := by
  obtain ⟨k, a1, a2, a3⟩ := X_fill86 7 0 h (by omega) (by omega) (fun j hj => by omega)
  obtain ⟨k2, b1, b2, b3⟩ := X_spread_l hn.2 hx n.toNat 0 (mm_st k 86 0 1) mm_u (by omega) (by omega) (fun s hs => by
    cases s with
    | zero => rw [z_se]; rfl
    | succ s => rw [z_ss _ _ (by omega), a2 _ (by omega)]; rfl)
  refine ⟨k2, ?_, b2, fun a ha => (b3 a ha).trans ((z_sc _ _ ha).trans (a3 a ha))⟩
  rw [sg_X1_spread_0]
  refine mm_bi ((sg_fill86_0 _ h).trans a1) ?_
  exact (sg_X1_spread_8 _ _ k).trans b1
def lp_p (T u : Int) (s : Nat) : Prop := lf_f (cl_f (T - s)) = u
def lp_d (T u : Int) : DecidablePred (lp_p T u) := fun s => Int.decEq (lf_f (cl_f (T - s))) u
def ab_f (T u : Int) (f : Nat → Int) (k : Nat) : Int := @su_f (lp_p T u) (lp_d T u) f k
theorem ab_s (T u : Int) (f : Nat → Int) (k : Nat) : ab_f T u f (k + 1) = ab_f T u f k + if lf_f (cl_f (T - k)) = u then f k else 0 := rfl
theorem X_ways_l {T n u x : Int} {h : mm_H} (hT : 0 ≤ T ∧ T ≤ 40) (hn : 0 ≤ n ∧ n ≤ 6) (hx : 0 ≤ x ∧ x ≤ 10) (hk : ∀ s, s ≤ 6 → h 86 s = wy_f x n.toNat s) : ∀ (m : Nat) (i : Int), 0 ≤ i → i + m = n + 1 → ex 4 6 [mm_r 85, mm_i T, mm_i n, mm_i u, mm_i (ab_f T u (wy_f x n.toNat) i.toNat), mm_i i] [] h = some (some (mm_i (ab_f T u (wy_f x n.toNat) (n.toNat + 1))), h)
  | 0, i, h0, hi => by rw [sg_X1_waysToLight_6, if_pos (by omega), sg_X1_waysToLight_51, show i.toNat = n.toNat + 1 by omega]
  | m + 1, i, h0, hi => by
    have hb := @su_b (lp_p T u) (lp_d T u) (wy_f x n.toNat) i.toNat (fun s hs => by have := wy_b hn hx (s := s) (by omega); omega)
    change 0 ≤ ab_f T u (wy_f x n.toNat) i.toNat ∧ ab_f T u (wy_f x n.toNat) i.toNat ≤ _ at hb
    have hw := wy_b hn hx (s := i.toNat) (by omega)
    have ih := X_ways_l (u := u) hT hn hx hk m (i + 1) (by omega) (by omega)
    rw [show (i + 1).toNat = i.toNat + 1 by omega, ab_s, show ((i.toNat : Nat) : Int) = i by omega] at ih
    rw [sg_X1_waysToLight_6, if_neg (by omega), if_neg (by omega), z_sub (by omega) (by omega)]
    refine mm_bi (X_within _ h) ?_
    refine (sg_X1_waysToLight_26 _ _ _ _ _ _ h).trans ?_
    refine mm_bi (X_lightAt (cl_b _) h) ?_
    refine (sg_X1_waysToLight_29 _ _ _ _ _ _ h).trans ?_
    by_cases c : lf_f (cl_f (T - i)) = u
    · rw [if_pos c] at ih ⊢
      rw [if_pos (by omega), hk _ (by omega), z_add (by omega) (by omega), sg_X1_waysToLight_45, z_wr (by omega) (by omega)]
      exact ih
    · rw [if_neg c, Int.add_zero] at ih
      rw [if_neg c, sg_X1_waysToLight_45, z_wr (by omega) (by omega)]
      exact ih
theorem z_10 : ∀ n : Fin 7, 1 ≤ (10 : Int) ^ n.val ∧ (10 : Int) ^ n.val ≤ 1000000 := by decide
theorem z_10' {j : Nat} (h : j ≤ 6) : 1 ≤ (10 : Int) ^ j ∧ (10 : Int) ^ j ≤ 1000000 := z_10 ⟨j, by omega⟩
theorem X_all_l {n : Int} (hn : 0 ≤ n ∧ n ≤ 6) (h : mm_H) : ∀ (m : Nat) (i : Int), 0 ≤ i → i + m = n → ex 5 4 [mm_r 85, mm_i n, mm_i ((10 : Int) ^ i.toNat), mm_i i] [] h = some (some (mm_i ((10 : Int) ^ n.toNat)), h)
  | 0, i, h0, hi => by rw [sg_X1_allWays_4, if_neg (by omega), sg_X1_allWays_26, show i = n by omega]
  | m + 1, i, h0, hi => by
    have := z_10' (j := i.toNat) (by omega)
    have ih := X_all_l hn h m (i + 1) (by omega) (by omega)
    rw [show (i + 1).toNat = i.toNat + 1 by omega, Int.pow_succ] at ih
    rw [sg_X1_allWays_4, if_pos (by omega), if_pos (by omega), z_mul (by omega) (by omega), z_wr (by omega) (by omega)]
    exact ih
theorem X_gcd_l {h : mm_H} {a b : Int} : ∀ (k : Nat) (L s : Nat) (t : Int) (l5 : mm_V), s ≤ L → L * s < 2 ^ k → L < 2000000000 → 0 ≤ t → t + k ≤ 63 → ex 101 15 [mm_i a, mm_i b, mm_i L, mm_i s, mm_i t, l5] [] h = some (some (mm_i (Nat.gcd L s)), h)
  | 0, L, s, t, l5, hs, hk, hL, h0, ht => by
    have e : s = 0 := by
      rcases Nat.eq_zero_or_pos s with e | e
      · exact e
      · have := Nat.mul_le_mul (show 1 ≤ L by omega) (show 1 ≤ s by omega); omega
    subst e
    rw [sg_X10_commonDivisor_15, if_pos (by omega), if_neg (by omega), sg_X10_commonDivisor_42, Nat.gcd_zero_right]
  | k + 1, L, s, t, l5, hs, hk, hL, h0, ht => by
    rcases Nat.eq_zero_or_pos s with e | e
    · subst e
      rw [sg_X10_commonDivisor_15, if_pos (by omega), if_neg (by omega), sg_X10_commonDivisor_42, Nat.gcd_zero_right]
    · have hm := Nat.mod_lt L e
      have hd := Nat.div_add_mod L s
      have h1 : 1 ≤ L / s := Nat.div_pos hs e
      have h2 : s * 1 ≤ s * (L / s) := Nat.mul_le_mul (Nat.le_refl s) h1
      have h3 : 2 * (L % s) ≤ L := by omega
      have h4 : s * (2 * (L % s)) ≤ s * L := Nat.mul_le_mul (Nat.le_refl s) h3
      have h5 : s * (2 * (L % s)) = 2 * (s * (L % s)) := by rw [Nat.mul_left_comm]
      have h6 : s * L = L * s := Nat.mul_comm s L
      have h7 : s * (L % s) < 2 ^ k := by rw [Nat.pow_succ] at hk; omega
      have ih := X_gcd_l (h := h) (a := a) (b := b) k s (L % s) (t + 1) (mm_i ((L % s : Nat) : Int)) (by omega) h7 (by omega) (by omega) (by omega)
      have e2 : Int.tmod (L : Int) (s : Int) = ((L % s : Nat) : Int) := by rw [Int.tmod_eq_emod_of_nonneg (by omega)]; exact (Int.natCast_emod L s).symm
      rw [sg_X10_commonDivisor_15, if_pos (by omega), if_pos (by omega), if_neg (by omega), z_wr (by omega) (by omega), e2, ih, Nat.gcd_comm L s, Nat.gcd_rec s L, Nat.gcd_comm s (L % s)]
theorem X_gcd {A B : Nat} (hA : A ≤ 8000000) (hB : B ≤ 1000000) (h : mm_H) : ex 101 0 [mm_i A, mm_i B, mm_u, mm_u, mm_u, mm_u] [] h = some (some (mm_i (Nat.gcd A B)), h) := by
  have hp : A * B ≤ 8000000 * 1000000 := Nat.mul_le_mul hA hB
  rw [sg_X10_commonDivisor_0]
  rcases Nat.lt_trichotomy A B with c | c | c
  · rw [if_pos (by omega), if_neg (by omega), X_gcd_l 43 B A 0 mm_u (by omega) (by rw [Nat.mul_comm]; omega) (by omega) (by omega) (by omega), Nat.gcd_comm]
  · subst c
    rw [if_neg (by omega), X_gcd_l 43 A A 0 mm_u (by omega) (by omega) (by omega) (by omega) (by omega)]
  · rw [if_neg (by omega), if_pos (by omega), X_gcd_l 43 A B 0 mm_u (by omega) (by omega) (by omega) (by omega) (by omega)]
