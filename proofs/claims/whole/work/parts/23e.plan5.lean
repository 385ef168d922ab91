/-! ===== plan: what the codes mean ===== -/
theorem tv_dh (O : Nat → Nat → Int) : ∀ k c i : Nat, i < k → tv_f O k c i = O i (dh_f k c i)
  | 0, c, i, h => absurd h (Nat.not_lt_zero i)
  | k + 1, c, i, h => by
    rw [tv_s, dh_s]
    by_cases e : i = k
    · rw [if_pos e, if_pos e, e]
    · rw [if_neg e, if_neg e]; exact tv_dh O k (c / 5) i (by omega)
theorem vq_all {R : Nat → Int} {O : Nat → Nat → Int} (hR : VM R) (h1 : 1 ≤ R 0) : ∀ k c : Nat, (vq_f R O k c = true ↔ ∀ j : Nat, (j : Int) < R 1 → ne_f R (R (25 + j)) < k → mt_p R (tv_f O k c) j)
  | 0, c => ⟨fun _ j hj hn => absurd hn (by have := ne_b hR h1 (R (25 + j)); omega), fun _ => rfl⟩
  | k + 1, c => by
    have ih := vq_all (O := O) hR h1 k (c / 5)
    have pre : ∀ j : Nat, ne_f R (R (25 + j)) < k → (mt_p R (tv_f O (k + 1) c) j ↔ mt_p R (tv_f O k (c / 5)) j) := fun j hj => by
      have e : sk_f R (tv_f O (k + 1) c) (R (25 + j)) = sk_f R (tv_f O k (c / 5)) (R (25 + j)) := sk_ne hR h1 (fun i hi => by rw [tv_s, if_neg (by omega)])
      unfold mt_p
      rw [e]
    have hw := hR.w
    rw [vq_s, Bool.and_eq_true, decide_eq_true_eq, ih]
    have hm := me_1 (R := R) (S := tv_f O (k + 1) c) (k := (k : Int)) (R 1).toNat
    constructor
    · intro z j hj hn
      by_cases e : ne_f R (R (25 + j)) < k
      · exact (pre j e).mpr (z.1 j hj e)
      · rcases hm with q | q
        · exact q.2 j (by omega) (by omega)
        · omega
    · intro z
      refine ⟨fun j hj hn => (pre j hn).mp (z j hj (by omega)), ?_⟩
      rcases hm with q | q
      · exact q.1
      · obtain ⟨i, i1, i2, i3⟩ := q.2
        exact absurd (z i (by omega) (by omega)) i3
set_option maxRecDepth 100000 in
theorem z_orp : ∀ k : Fin 8, ∀ a : Fin 256, a.val < 2 ^ k.val → mm_or (a.val : Int) (mm_shl 1 (k.val : Int)) = (a.val : Int) + 2 ^ k.val := by decide +kernel
theorem mt_all (R S : Nat → Int) : ∀ k : Nat, k ≤ 8 → (mt_f R S k = (2 : Int) ^ k - 1 ↔ ∀ j, j < k → mt_p R S j)
  | 0, _ => ⟨fun _ j hj => absurd hj (Nat.not_lt_zero j), fun _ => rfl⟩
  | k + 1, hk => by
    have ih := mt_all R S k (by omega)
    have hb := mt_b R S k (by omega)
    have h2 : (2 : Int) ^ (k + 1) = 2 ^ k + 2 ^ k := by rw [Int.pow_succ]; omega
    have hp : (2 : Int) ^ k = ((2 ^ k : Nat) : Int) := by rw [Int.natCast_pow]; rfl
    have hle : 2 ^ k ≤ 2 ^ 7 := Nat.pow_le_pow_right (by omega) (by omega)
    rw [mt_s]
    by_cases c : mt_p R S k
    · have ho := z_orp ⟨k, by omega⟩ ⟨(mt_f R S k).toNat, by omega⟩ (by dsimp only; omega)
      dsimp only at ho
      rw [show (((mt_f R S k).toNat : Nat) : Int) = mt_f R S k by omega] at ho
      rw [if_pos c, ho, h2]
      constructor
      · intro z j hj
        by_cases e : j = k
        · rw [e]; exact c
        · exact ih.mp (by omega) j (by omega)
      · intro z
        have := ih.mpr (fun j hj => z j (by omega))
        omega
    · rw [if_neg c]
      constructor
      · intro z; omega
      · intro z; exact absurd (z k (by omega)) c
theorem mt_w {R S : Nat → Int} (hR : VM R) : (mt_f R S (R 1).toNat = mm_sub (mm_shl 1 (R 1)) 1 ↔ ∀ j : Nat, (j : Int) < R 1 → mt_p R S j) := by
  have hw := hR.w
  have e : mm_sub (mm_shl 1 (R 1)) 1 = (2 : Int) ^ (R 1).toNat - 1 := by
    generalize R 1 = w at hw
    rcases (show w = 0 ∨ w = 1 ∨ w = 2 ∨ w = 3 ∨ w = 4 ∨ w = 5 ∨ w = 6 ∨ w = 7 ∨ w = 8 by omega) with rfl | rfl | rfl | rfl | rfl | rfl | rfl | rfl | rfl <;> decide
  rw [e, mt_all R S _ (by omega)]
  exact ⟨fun z j hj => z j (by omega), fun z j hj => z j (by omega)⟩
def bq_f (i : Nat) : Nat → Nat → Int → Int
  | 0, _, a => a
  | k + 1, c, a => bq_f i k (c / 5) (mm_or a (if i < c % 5 then mm_shl 1 (k : Int) else 0))
theorem bq_s (i k c : Nat) (a : Int) : bq_f i (k + 1) c a = bq_f i k (c / 5) (mm_or a (if i < c % 5 then mm_shl 1 (k : Int) else 0)) := rfl
theorem bq_b (i : Nat) : ∀ (k c : Nat) (a : Int), k ≤ 5 → (0 ≤ a ∧ a < 64) → (0 ≤ bq_f i k c a ∧ bq_f i k c a < 64) ∧ ∀ j : Nat, j < 6 → bt_f (bq_f i k c a) j = if j < k ∧ i < dh_f k c j then 1 else bt_f a j
  | 0, c, a, hk, ha => ⟨ha, fun j hj => by rw [if_neg (by omega)]; rfl⟩
  | k + 1, c, a, hk, ha => by
    rw [bq_s]
    by_cases e : i < c % 5
    · rw [if_pos e]
      have ho := tb_or ha (m := k) (by omega)
      have ih := bq_b i k (c / 5) (mm_or a (mm_shl 1 (k : Int))) (by omega) ho.1
      refine ⟨ih.1, fun j hj => ?_⟩
      rw [ih.2 j hj, ho.2 j hj, dh_s]
      by_cases e2 : j = k
      · have z : ¬ (j < k ∧ i < dh_f k (c / 5) j) := by omega
        have z2 : j < k + 1 ∧ i < (if j = k then c % 5 else dh_f k (c / 5) j) := ⟨by omega, by rw [if_pos e2]; exact e⟩
        rw [if_neg z, if_pos e2, if_pos z2]
      · rw [if_neg e2, if_neg e2]
        by_cases e3 : j < k ∧ i < dh_f k (c / 5) j
        · have z2 : j < k + 1 ∧ i < dh_f k (c / 5) j := ⟨by omega, e3.2⟩
          rw [if_pos e3, if_pos z2]
        · have z2 : ¬ (j < k + 1 ∧ i < dh_f k (c / 5) j) := by omega
          rw [if_neg e3, if_neg z2]
    · rw [if_neg e, z_or0 ⟨by omega, by omega⟩]
      have ih := bq_b i k (c / 5) a (by omega) ha
      refine ⟨ih.1, fun j hj => ?_⟩
      rw [ih.2 j hj, dh_s]
      by_cases e2 : j = k
      · have z : ¬ (j < k ∧ i < dh_f k (c / 5) j) := by omega
        have z2 : ¬ (j < k + 1 ∧ i < (if j = k then c % 5 else dh_f k (c / 5) j)) := by rw [if_pos e2]; omega
        rw [if_neg z, if_neg z2]
      · rw [if_neg e2]
        by_cases e3 : j < k ∧ i < dh_f k (c / 5) j
        · have z2 : j < k + 1 ∧ i < dh_f k (c / 5) j := ⟨by omega, e3.2⟩
          rw [if_pos e3, if_pos z2]
        · have z2 : ¬ (j < k + 1 ∧ i < dh_f k (c / 5) j) := by omega
          rw [if_neg e3, if_neg z2]
/-- the model's dusk after i hours of the plan c -/
def hp_f (R S : Nat → Int) (n c : Nat) : Nat → Nat → Int
  | 0 => S
  | i + 1 => gs_f R (hp_f R S n c i) (bq_f i n c 0) 0
theorem hp_s (R S : Nat → Int) (n c i : Nat) : hp_f R S n c (i + 1) = gs_f R (hp_f R S n c i) (bq_f i n c 0) 0 := rfl
theorem hp_SB {R S : Nat → Int} (hR : VM R) (hS : SB R S) (hh : S 10 ≤ 900) (n c : Nat) : ∀ i : Nat, i ≤ 4 → SB R (hp_f R S n c i) ∧ hp_f R S n c i 10 = S 10 + i
  | 0, _ => ⟨hS, (Int.add_zero _).symm⟩
  | i + 1, hi => by
    have ih := hp_SB hR hS hh n c i (by omega)
    rw [hp_s]
    refine ⟨gs_SB hR ih.1 _ _ (by omega), ?_⟩
    have e : gs_f R (hp_f R S n c i) (bq_f i n c 0) 0 10 = hp_f R S n c i 10 + 1 := rfl
    rw [e, ih.2]
    omega
theorem hp_t {R S : Nat → Int} (hR : VM R) (hS : SB R S) (hh : S 10 ≤ 900) {n : Nat} (hn : R 0 = n) (c : Nat) {j : Nat} (hj : j < n) : ∀ i : Nat, i ≤ 4 → hp_f R S n c i j = oh_f R S j (dh_f n c j) i ∧ hp_f R S n c i (5 + j) = S (5 + j)
  | 0, _ => ⟨rfl, rfl⟩
  | i + 1, hi => by
    have hnn := hR.n
    have ih := hp_t hR hS hh hn c hj i (by omega)
    have h10 := (hp_SB hR hS hh n c i (by omega)).2
    have hb := (bq_b i n c 0 (by omega) (by omega)).2 j (by omega)
    have b0 : ∀ q : Fin 6, bt_f 0 (q.val : Int) = 0 := by decide
    have b1 : bt_f 0 (j : Int) = 0 := b0 ⟨j, by omega⟩
    rw [hp_s, oh_s]
    unfold gs_f gk_f
    refine ⟨?_, ?_⟩
    · rw [if_neg (by omega), if_neg (by omega), if_pos (by omega), ih.1, ih.2, h10]
      congr 1
      unfold sg_f
      rw [hb, b1]
      by_cases e : i < dh_f n c j
      · rw [if_pos ⟨hj, e⟩, if_pos e]; rfl
      · rw [if_neg (fun z => e z.2), if_neg e]; rfl
    · rw [if_neg (by omega), if_neg (by omega), if_neg (by omega)]
      exact ih.2
theorem hp_met {R S : Nat → Int} (hR : VM R) (h1 : 1 ≤ R 0) (hS : SB R S) (hh : S 10 ≤ 900) {n : Nat} (hn : R 0 = n) (c : Nat) : (mt_f R (hp_f R S n c 4) (R 1).toNat = mm_sub (mm_shl 1 (R 1)) 1 ↔ vq_f R (oc_f R S) n c = true) := by
  rw [mt_w hR, vq_all hR h1]
  have e : ∀ j : Nat, (mt_p R (hp_f R S n c 4) j ↔ mt_p R (tv_f (oc_f R S) n c) j) := fun j => by
    have : sk_f R (hp_f R S n c 4) (R (25 + j)) = sk_f R (tv_f (oc_f R S) n c) (R (25 + j)) := sk_c hR h1 (fun k hk => by
      rw [(hp_t hR hS hh hn c (j := k) (by omega) 4 (by omega)).1, tv_dh _ _ _ _ (by omega)]; rfl) _
    unfold mt_p
    rw [this]
  constructor
  · intro z j hj _
    exact (e j).mp (z j hj)
  · intro z j hj
    exact (e j).mpr (z j hj (by have := ne_b hR h1 (R (25 + j)); omega))
