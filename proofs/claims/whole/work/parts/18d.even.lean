/-! ===== paces; evenings ===== -/
def pt_f (S : Nat → Int) (k : Nat) (p : Int) : Nat → Int
  | 0 => S k
  | i + 1 => bh_f (pt_f S k p i) (S (5 + k)) p 1 (S 10 + i)
theorem pt_s (S : Nat → Int) (k : Nat) (p : Int) (i : Nat) : pt_f S k p (i + 1) = bh_f (pt_f S k p i) (S (5 + k)) p 1 (S 10 + i) := rfl
theorem pt_b {S : Nat → Int} {k : Nat} (h : 0 ≤ S k ∧ S k ≤ 40) (p : Int) : ∀ i, 0 ≤ pt_f S k p i ∧ pt_f S k p i ≤ 40
  | 0 => h
  | i + 1 => by rw [pt_s]; exact bh_b _ _ _ _ _
def pe_f (S : Nat → Int) (k n : Nat) (x : Int) : Nat → Int
  | 0 => 0
  | q + 1 => if pt_f S k ((q : Int) + 1) n = x then mm_or (pe_f S k n x q) (mm_shl 1 ((q : Int) + 1)) else pe_f S k n x q
theorem pe_s (S : Nat → Int) (k n : Nat) (x : Int) (q : Nat) : pe_f S k n x (q + 1) = if pt_f S k ((q : Int) + 1) n = x then mm_or (pe_f S k n x q) (mm_shl 1 ((q : Int) + 1)) else pe_f S k n x q := rfl
theorem pe_in (S : Nat → Int) (k n : Nat) (x : Int) : ∀ q, mm_in (pe_f S k n x q)
  | 0 => mm_z_in
  | q + 1 => by
    rw [pe_s]
    split
    · exact mm_toI _
    · exact pe_in S k n x q
theorem X_paces_i {h g : mm_H} {v : Nat} (hr : Rel h g v) {k n x b p : Int} (hk : 0 ≤ k ∧ k < g 2 0) (hn : 1 ≤ n ∧ n ≤ 8) (hp : 1 ≤ p ∧ p ≤ 5) : ∀ (m : Nat) (i : Int), 0 ≤ i → i + m = n → ex 88 57 [mm_r 0, mm_i k, mm_i n, mm_i x, mm_i b, mm_i p, mm_i (pt_f (g 4) k.toNat p i.toNat), mm_i i] [] h = ex 88 113 [mm_r 0, mm_i k, mm_i n, mm_i x, mm_i (if pt_f (g 4) k.toNat p n.toNat = x then mm_or b (mm_shl 1 p) else b), mm_i p, mm_i (pt_f (g 4) k.toNat p n.toNat), mm_i n] [] h
  | 0, i, h0, hi => by
    rw [sg_X10_paces_57, if_neg (by omega), show n = i by omega]
    split <;> rfl
  | m + 1, i, h0, hi => by
    have hnn := hr.M.1.n
    have ed := hr.D.1 k.toNat (by omega)
    have hs := hr.S
    have hb := pt_b (p := p) (hs.1 k.toNat (by omega)) i.toNat
    rw [sg_X10_paces_57, if_pos (by omega), if_pos (by omega), hr.D.2.1]
    change ((ex 100 0 [mm_i (pt_f (g 4) k.toNat p i.toNat), mm_i p, mm_i (h (25 + 2) k.toNat), mm_i (mm_add (g 4 10) i), mm_i 1, mm_u, mm_u] [] h).bind _) = _
    rw [ed.2, z_add (by have := hs.2.2.1; omega) (by have := hs.2.2.1; omega)]
    refine mm_bi (X_turnsThen hb hp (Or.inl rfl) (by have := hs.2.2.1; omega) h) ?_
    refine (sg_X10_paces_90 _ _ _ _ _ _ _ _ h).trans ?_
    rw [z_wr (by omega) (by omega)]
    have ih := X_paces_i (x := x) (b := b) hr hk hn hp m (i + 1) (by omega) (by omega)
    rw [show (i + 1).toNat = i.toNat + 1 by omega, pt_s, show ((i.toNat : Nat) : Int) = i by omega] at ih
    exact ih
theorem X_paces_l {h g : mm_H} {v : Nat} (hr : Rel h g v) {k n x : Int} (hk : 0 ≤ k ∧ k < g 2 0) (hn : 1 ≤ n ∧ n ≤ 8) : ∀ (m : Nat) (p : Int) (l6 l7 : mm_V), 1 ≤ p → p + m = 6 → ex 88 37 [mm_r 0, mm_i k, mm_i n, mm_i x, mm_i (pe_f (g 4) k.toNat n.toNat x (p - 1).toNat), mm_i p, l6, l7] [] h = some (some (mm_i (pe_f (g 4) k.toNat n.toNat x 5)), h)
  | 0, p, l6, l7, h0, hi => by rw [sg_X10_paces_37, if_pos (by omega), show (p - 1).toNat = 5 by omega]
  | m + 1, p, l6, l7, h0, hi => by
    have hnn := hr.M.1.n
    have ed := hr.D.1 k.toNat (by omega)
    rw [sg_X10_paces_37, if_neg (by omega), if_pos (by omega)]
    change ex 88 57 [mm_r 0, mm_i k, mm_i n, mm_i x, mm_i _, mm_i p, mm_i (h (25 + 1) k.toNat), mm_i 0] [] h = _
    rw [ed.1]
    refine (X_paces_i (x := x) (b := pe_f (g 4) k.toNat n.toNat x (p - 1).toNat) hr hk hn (by omega) n.toNat 0 (by omega) (by omega)).trans ?_
    rw [sg_X10_paces_113, z_wr (by omega) (by omega)]
    have ih := X_paces_l (x := x) hr hk hn m (p + 1) (mm_i (pt_f (g 4) k.toNat p n.toNat)) (mm_i n) (by omega) (by omega)
    rw [show (p + 1 - 1).toNat = (p - 1).toNat + 1 by omega, pe_s, show (((p - 1).toNat : Nat) : Int) + 1 = p by omega] at ih
    exact ih
theorem M_paces_i {g : mm_H} (hg : MV g) (hs : SM (g 2) (g 4)) {k n x b p : Int} (hk : 0 ≤ k ∧ k < g 2 0) (hn : 1 ≤ n ∧ n ≤ 8) (hp : 1 ≤ p ∧ p ≤ 5) : ∀ (m : Nat) (i : Int), 0 ≤ i → i + m = n → em 48 54 [mm_r 0, mm_i k, mm_i n, mm_i x, mm_i b, mm_i p, mm_i (pt_f (g 4) k.toNat p i.toNat), mm_i i] [] g = em 48 110 [mm_r 0, mm_i k, mm_i n, mm_i x, mm_i b, mm_i p, mm_i (pt_f (g 4) k.toNat p n.toNat), mm_i n] [mm_i (if pt_f (g 4) k.toNat p n.toNat = x then mm_shl 1 p else 0), mm_i b] g
  | 0, i, h0, hi => by
    rw [sg_X11_paces_54, if_neg (by omega), show n = i by omega]
    split <;> rfl
  | m + 1, i, h0, hi => by
    have hnn := hg.1.n
    have hb := pt_b (p := p) (hs.1 k.toNat (by omega)) i.toNat
    rw [sg_X11_paces_54, if_pos (by omega), z_add (a := 5) (by omega) (by omega), if_pos (by omega), show (5 + k).toNat = 5 + k.toNat by omega, z_add (by have := hs.2.2.1; omega) (by have := hs.2.2.1; omega)]
    refine mm_bi (M_behind hb hp (Or.inl rfl) (by have := hs.2.2.1; omega) g) ?_
    refine (sg_X11_paces_86 _ _ _ _ _ _ _ _ g).trans ?_
    rw [z_wr (by omega) (by omega)]
    have ih := M_paces_i (x := x) (b := b) hg hs hk hn hp m (i + 1) (by omega) (by omega)
    rw [show (i + 1).toNat = i.toNat + 1 by omega, pt_s, show ((i.toNat : Nat) : Int) = i by omega] at ih
    exact ih
theorem M_paces_l {g : mm_H} (hg : MV g) (hs : SM (g 2) (g 4)) {k n x : Int} (hk : 0 ≤ k ∧ k < g 2 0) (hn : 1 ≤ n ∧ n ≤ 8) : ∀ (m : Nat) (p : Int) (l6 l7 : mm_V), 1 ≤ p → p + m = 6 → em 48 36 [mm_r 0, mm_i k, mm_i n, mm_i x, mm_i (pe_f (g 4) k.toNat n.toNat x (p - 1).toNat), mm_i p, l6, l7] [] g = some (some (mm_i (pe_f (g 4) k.toNat n.toNat x 5)), g)
  | 0, p, l6, l7, h0, hi => by rw [sg_X11_paces_36, if_neg (by omega), show (p - 1).toNat = 5 by omega]
  | m + 1, p, l6, l7, h0, hi => by
    have hnn := hg.1.n
    rw [sg_X11_paces_36, if_pos (by omega), if_pos (by omega)]
    refine (M_paces_i (x := x) (b := pe_f (g 4) k.toNat n.toNat x (p - 1).toNat) hg hs hk hn (by omega) n.toNat 0 (by omega) (by omega)).trans ?_
    rw [sg_X11_paces_110, z_wr (by omega) (by omega)]
    have ih := M_paces_l (x := x) hg hs hk hn m (p + 1) (mm_i (pt_f (g 4) k.toNat p n.toNat)) (mm_i n) (by omega) (by omega)
    rw [show (p + 1 - 1).toNat = (p - 1).toNat + 1 by omega, pe_s, show (((p - 1).toNat : Nat) : Int) + 1 = p by omega] at ih
    by_cases c : pt_f (g 4) k.toNat p n.toNat = x
    · rw [if_pos c] at ih ⊢; exact ih
    · rw [if_neg c] at ih ⊢; rw [z_or0 (pe_in _ _ _ _ _)]; exact ih
theorem op_paces {h g : mm_H} {v : Nat} (hr : Rel h g v) (k n x : Int) : AG (ex 88 0 [mm_r 0, mm_i k, mm_i n, mm_i x, mm_u, mm_u, mm_u, mm_u] [] h) (em 48 0 [mm_r 0, mm_i k, mm_i n, mm_i x, mm_u, mm_u, mm_u, mm_u] [] g) := by
  have hnn := hr.M.1.n
  by_cases c : 0 ≤ k ∧ k < g 2 0
  · by_cases c2 : 1 ≤ n ∧ n ≤ 8
    · by_cases c3 : 0 ≤ x ∧ x ≤ 40
      · refine AG_0 (r := pe_f (g 4) k.toNat n.toNat x 5) hr ?_ ?_
        · rw [sg_X10_paces_0, hr.v, sg_X10_paces_4 hr.V.1]
          refine mm_bi (X_hasRope_t hr.V c) ?_
          refine (sg_X10_paces_8 _ _ _ _ h).trans ?_
          rw [if_neg (by decide), if_neg (by omega), if_neg (by omega)]
          refine mm_bi (X_isLowness_t c3 h) ?_
          refine (sg_X10_paces_26 _ _ _ _ h).trans ?_
          rw [if_neg (by decide)]
          exact X_paces_l hr c c2 5 1 _ _ (by omega) (by omega)
        · rw [sg_X11_paces_0]
          refine mm_bi (M_isRope_t hnn c) ?_
          refine (sg_X11_paces_5 _ _ _ _ g).trans ?_
          rw [if_neg (by decide)]
          refine mm_bi (M_in_t c2 g) ?_
          refine (sg_X11_paces_15 _ _ _ _ g).trans ?_
          rw [if_neg (by decide)]
          refine mm_bi (M_in_t c3 g) ?_
          refine (sg_X11_paces_25 _ _ _ _ g).trans ?_
          rw [if_neg (by decide)]
          exact M_paces_l hr.M hr.S c c2 5 1 _ _ (by omega) (by omega)
      · refine AG_0 (r := -1) hr ?_ ?_
        · rw [sg_X10_paces_0, hr.v, sg_X10_paces_4 hr.V.1]
          refine mm_bi (X_hasRope_t hr.V c) ?_
          refine (sg_X10_paces_8 _ _ _ _ h).trans ?_
          rw [if_neg (by decide), if_neg (by omega), if_neg (by omega)]
          refine mm_bi (X_isLowness_f c3 h) ?_
          exact (sg_X10_paces_26 _ _ _ _ h).trans ((if_pos rfl).trans (sg_X10_paces_29 _ _ _ h))
        · rw [sg_X11_paces_0]
          refine mm_bi (M_isRope_t hnn c) ?_
          refine (sg_X11_paces_5 _ _ _ _ g).trans ?_
          rw [if_neg (by decide)]
          refine mm_bi (M_in_t c2 g) ?_
          refine (sg_X11_paces_15 _ _ _ _ g).trans ?_
          rw [if_neg (by decide)]
          refine mm_bi (M_in_f c3 g) ?_
          exact (sg_X11_paces_25 _ _ _ _ g).trans ((if_pos rfl).trans (sg_X11_paces_28 _ _ _ g))
    · refine AG_0 (r := -1) hr ?_ ?_
      · rw [sg_X10_paces_0, hr.v, sg_X10_paces_4 hr.V.1]
        refine mm_bi (X_hasRope_t hr.V c) ?_
        refine (sg_X10_paces_8 _ _ _ _ h).trans ?_
        rw [if_neg (by decide), sg_X10_paces_29]
        split
        · rfl
        · rw [if_pos (by omega)]
      · rw [sg_X11_paces_0]
        refine mm_bi (M_isRope_t hnn c) ?_
        refine (sg_X11_paces_5 _ _ _ _ g).trans ?_
        rw [if_neg (by decide)]
        refine mm_bi (M_in_f c2 g) ?_
        exact (sg_X11_paces_15 _ _ _ _ g).trans ((if_pos rfl).trans (sg_X11_paces_28 _ _ _ g))
  · refine AG_0 (r := -1) hr ?_ ?_
    · rw [sg_X10_paces_0, hr.v, sg_X10_paces_4 hr.V.1]
      refine mm_bi (X_hasRope_f hr.V c) ?_
      exact (sg_X10_paces_8 _ _ _ _ h).trans ((if_pos rfl).trans (sg_X10_paces_29 _ _ _ h))
    · rw [sg_X11_paces_0]
      refine mm_bi (M_isRope_f hnn c) ?_
      exact (sg_X11_paces_5 _ _ _ _ g).trans ((if_pos rfl).trans (sg_X11_paces_28 _ _ _ g))
/-! evenings -/
def dr_f (z H : Int) : Int := ((7919 * z + 6151 * H + 1) * (7919 * z + 6151 * H + 1)) % 65521
theorem z_q {z H : Int} (hz : 0 ≤ z ∧ z ≤ 9999) (hH : 0 ≤ H ∧ H ≤ 1000) : mm_ladd (mm_ladd (mm_lmul 7919 z) (mm_lmul 6151 H)) 1 = 7919 * z + 6151 * H + 1 := by
  rw [z_lmul (by omega) (by omega), z_lmul (by omega) (by omega), z_ladd (a := 7919 * z) (by omega) (by omega), z_ladd (by omega) (by omega)]
theorem z_dr {z H : Int} (hz : 0 ≤ z ∧ z ≤ 9999) (hH : 0 ≤ H ∧ H ≤ 1000) : mm_wr (Int.tmod (mm_lmul (mm_ladd (mm_ladd (mm_lmul 7919 z) (mm_lmul 6151 H)) 1) (mm_ladd (mm_ladd (mm_lmul 7919 z) (mm_lmul 6151 H)) 1)) 65521) = dr_f z H := by
  rw [z_q hz hH]
  have q0 : 0 ≤ 7919 * z + 6151 * H + 1 := by omega
  have q1 : 7919 * z + 6151 * H + 1 ≤ 100000000 := by omega
  unfold dr_f
  generalize 7919 * z + 6151 * H + 1 = q at q0 q1 ⊢
  have h1 : 0 ≤ q * q := Int.mul_nonneg q0 q0
  have h2 : q * q ≤ 100000000 * 100000000 := Int.mul_le_mul q1 q1 q0 (by omega)
  rw [z_lmul (by omega) (by omega), Int.tmod_eq_emod_of_nonneg h1, z_wr (by omega) (by omega)]
theorem dr_b (z H : Int) : 0 ≤ dr_f z H ∧ dr_f z H < 65521 := by unfold dr_f; omega
theorem z_msk {n x : Int} (hn : 1 ≤ n ∧ n ≤ 5) (hx : 0 ≤ x ∧ x < 2147483648) : mm_and x (mm_sub (mm_shl 1 n) 1) = Int.tmod x (mm_shl 1 n) ∧ ¬ mm_shl 1 n = 0 ∧ 0 ≤ mm_and x (mm_sub (mm_shl 1 n) 1) ∧ mm_and x (mm_sub (mm_shl 1 n) 1) < 32 := by
  have key : ∀ (k : Nat) (p : Int), k ≤ 5 → (2 ^ k : Nat) = p → mm_shl 1 n = p → mm_sub p 1 = p - 1 → (Int32.ofInt (p - 1)).toBitVec.toNat = 2 ^ k - 1 → mm_and x (mm_sub (mm_shl 1 n) 1) = x % p := by
    intro k p hk h1 h2 h3 h4
    rw [h2, h3]
    unfold mm_and
    have e : Int32.ofInt x = nI x.toNat := by
      show Int32.ofInt x = Int32.ofNat x.toNat
      rw [← Int32.ofInt_eq_ofNat]
      congr 1
      omega
    have hlt : x.toNat % 2 ^ k < 2 ^ k := Nat.mod_lt _ (Nat.two_pow_pos k)
    have hle : 2 ^ k ≤ 2 ^ 5 := Nat.pow_le_pow_right (by decide) hk
    rw [e, pk_andN (by omega) k h4, nI_toInt (by omega), ← h1]
    have : ((x.toNat % 2 ^ k : Nat) : Int) = (x.toNat : Int) % ((2 ^ k : Nat) : Int) := Int.natCast_emod _ _
    rw [this]
    congr 1
    omega
  rcases (show n = 1 ∨ n = 2 ∨ n = 3 ∨ n = 4 ∨ n = 5 by omega) with rfl | rfl | rfl | rfl | rfl
  · have e : mm_shl 1 1 = 2 := by decide +kernel
    have h := key 1 2 (by decide) (by decide) e (by decide +kernel) (by decide +kernel)
    rw [h, e, Int.tmod_eq_emod_of_nonneg hx.1]; omega
  · have e : mm_shl 1 2 = 4 := by decide +kernel
    have h := key 2 4 (by decide) (by decide) e (by decide +kernel) (by decide +kernel)
    rw [h, e, Int.tmod_eq_emod_of_nonneg hx.1]; omega
  · have e : mm_shl 1 3 = 8 := by decide +kernel
    have h := key 3 8 (by decide) (by decide) e (by decide +kernel) (by decide +kernel)
    rw [h, e, Int.tmod_eq_emod_of_nonneg hx.1]; omega
  · have e : mm_shl 1 4 = 16 := by decide +kernel
    have h := key 4 16 (by decide) (by decide) e (by decide +kernel) (by decide +kernel)
    rw [h, e, Int.tmod_eq_emod_of_nonneg hx.1]; omega
  · have e : mm_shl 1 5 = 32 := by decide +kernel
    have h := key 5 32 (by decide) (by decide) e (by decide +kernel) (by decide +kernel)
    rw [h, e, Int.tmod_eq_emod_of_nonneg hx.1]; omega
theorem z_apart : ∀ d y : Fin 32, ∀ j : Fin 5, ¬ (bt_f (d.val : Int) (j.val : Int) = 1 ∧ bt_f (mm_and (y.val : Int) (mm_xor (d.val : Int) (-1))) (j.val : Int) = 1) := by decide +kernel
theorem NO_ev {d y : Int} (hd : 0 ≤ d ∧ d < 32) (hy : 0 ≤ y ∧ y < 32) : NO d (mm_and y (mm_xor d (-1))) := by
  intro j hj
  have := z_apart ⟨d.toNat, by omega⟩ ⟨y.toNat, by omega⟩ ⟨j, hj⟩
  dsimp only at this
  rw [show ((d.toNat : Nat) : Int) = d by omega, show ((y.toNat : Nat) : Int) = y by omega] at this
  exact this
def ed_f (R : Nat → Int) (z H : Int) : Int := mm_and (dr_f z H) (al_f R)
def eu_f (R : Nat → Int) (z H : Int) : Int := mm_and (mm_and (dr_f z H / 32) (al_f R)) (mm_xor (ed_f R z H) (-1))
def ev_f (R S : Nat → Int) (z : Int) : Nat → Nat → Int
  | 0 => S
  | i + 1 => gs_f R (ev_f R S z i) (ed_f R z (ev_f R S z i 10)) (eu_f R z (ev_f R S z i 10))
theorem ev_s (R S : Nat → Int) (z : Int) (i : Nat) : ev_f R S z (i + 1) = gs_f R (ev_f R S z i) (ed_f R z (ev_f R S z i 10)) (eu_f R z (ev_f R S z i 10)) := rfl
theorem ev_10 (R S : Nat → Int) (z : Int) : ∀ i : Nat, ev_f R S z i 10 = S 10 + i
  | 0 => by simp [ev_f]
  | i + 1 => by
    rw [ev_s]
    show ev_f R S z i 10 + 1 = _
    rw [ev_10 R S z i]
    omega
theorem ev_SB {R S : Nat → Int} (hR : VM R) (hS : SB R S) (z : Int) : ∀ i : Nat, S 10 + i ≤ 1000 → SB R (ev_f R S z i)
  | 0, _ => hS
  | i + 1, h => by
    rw [ev_s]
    exact gs_SB hR (ev_SB hR hS z i (by omega)) _ _ (by rw [ev_10]; omega)
theorem ev_o {R S : Nat → Int} (hR : VM R) (z : Int) {j : Nat} (hj : 12 ≤ j) : ∀ i : Nat, ev_f R S z i j = S j
  | 0 => rfl
  | i + 1 => by rw [ev_s, gs_o hR _ _ hj, ev_o hR z hj i]
theorem ed_b {R : Nat → Int} (hR : VM R) (h1 : 1 ≤ R 0) (z H : Int) : (0 ≤ ed_f R z H ∧ ed_f R z H < 32) ∧ (0 ≤ mm_and (dr_f z H / 32) (al_f R) ∧ mm_and (dr_f z H / 32) (al_f R) < 32) := by
  have hb := dr_b z H
  exact ⟨(z_msk ⟨h1, hR.n.2⟩ (by omega)).2.2, (z_msk ⟨h1, hR.n.2⟩ (by omega)).2.2⟩
theorem X_drawn_l {v : Nat} {R S : Nat → Int} {z n : Int} (hS : SB R S) (hh : S 10 ≤ 900) (hz : 0 ≤ z ∧ z ≤ 9999) (hn : 1 ≤ n ∧ n ≤ 24) : ∀ (m : Nat) (i : Int) (l7 l9 l10 l11 : mm_V) (h : mm_H), VL h v R → DT h 63 R (ev_f R S z i.toNat) → 0 ≤ i → i + m = n → ∃ h2, ex 2 19 [mm_r 62, mm_r v, mm_r 25, mm_i z, mm_i n, mm_i (al_f R), mm_i i, l7, mm_u, l9, l10, l11] [] h = some (some (mm_r 63), h2) ∧ DT h2 63 R (ev_f R S z n.toNat) ∧ ∀ a, ¬ (63 ≤ a ∧ a ≤ 65) → h2 a = h a
  | 0, i, l7, l9, l10, l11, h, hV, hD, h0, hi => ⟨h, by rw [sg_X0_drawn_19 hV.1 rfl, if_neg (by omega)], by rw [show n.toNat = i.toNat by omega]; exact hD, fun _ _ => rfl⟩
  | m + 1, i, l7, l9, l10, l11, h, hV, hD, h0, hi => by
    have hSi := ev_SB hV.2.1 hS z i.toNat (by omega)
    have e10 := ev_10 R S z i.toNat
    have hb := dr_b z (ev_f R S z i.toNat 10)
    have hed := ed_b hV.2.1 hV.2.2.1 z (ev_f R S z i.toNat 10)
    have hq := z_dr hz (show 0 ≤ ev_f R S z i.toNat 10 ∧ ev_f R S z i.toNat 10 ≤ 1000 from hSi.2.2.1)
    have hd2 : mm_wr (Int.tdiv (dr_f z (ev_f R S z i.toNat 10)) 32) = dr_f z (ev_f R S z i.toNat 10) / 32 := by rw [Int.tdiv_eq_ediv_of_nonneg hb.1, z_wr (by omega) (by omega)]
    obtain ⟨h2, e1, e2, e3, -⟩ := X_pass (dn := ed_f R z (ev_f R S z i.toNat 10)) (up := eu_f R z (ev_f R S z i.toNat 10)) (Or.inr rfl) hV hD hSi (NO_ev hed.1 hed.2) (by omega)
    have hV2 : VL h2 v R := VL_k hV (fun a ha => e3 a (by omega) (by omega))
    have e4 : DT h2 63 R (ev_f R S z (i + 1).toNat) := by rw [show (i + 1).toNat = i.toNat + 1 by omega, ev_s]; exact e2
    have ex1 : ∀ (l7 : Int) (l9 l10 l11 : Int), ∃ h3, ex 2 95 [mm_r 62, mm_r v, mm_r 25, mm_i z, mm_i n, mm_i (al_f R), mm_i i, mm_j l7, mm_u, mm_i l9, mm_i l10, mm_i l11] [] h2 = some (some (mm_r 63), h3) ∧ DT h3 63 R (ev_f R S z n.toNat) ∧ ∀ a, ¬ (63 ≤ a ∧ a ≤ 65) → h3 a = h2 a := by
      intro l7 l9 l10 l11
      obtain ⟨h3, f1, f2, f3⟩ := X_drawn_l hS hh hz hn m (i + 1) (mm_j l7) (mm_i l9) (mm_i l10) (mm_i l11) h2 hV2 e4 (by omega) (by omega)
      refine ⟨h3, ?_, f2, f3⟩
      rw [sg_X0_drawn_95 hV.1 rfl, z_wr (by omega) (by omega)]
      exact f1
    rw [sg_X0_drawn_19 hV.1 rfl, if_pos (by omega), hD.2, hq, hd2]
    obtain ⟨h3, f1, f2, f3⟩ := ex1 (mm_ladd (mm_ladd (mm_lmul 7919 z) (mm_lmul 6151 (ev_f R S z i.toNat 10))) 1) (dr_f z (ev_f R S z i.toNat 10)) (mm_and (dr_f z (ev_f R S z i.toNat 10)) (al_f R)) (mm_and (mm_and (dr_f z (ev_f R S z i.toNat 10) / 32) (al_f R)) (mm_xor (mm_and (dr_f z (ev_f R S z i.toNat 10)) (al_f R)) (-1)))
    refine ⟨h3, ?_, f2, fun a ha => (f3 a ha).trans (e3 a (by omega) (by omega))⟩
    exact mm_bi e1 f1
theorem M_even_l {g : mm_H} (hg : MV g) (hS : SB (g 2) (g 4)) (hh : g 4 10 ≤ 900) {z n w : Int} (hz : 0 ≤ z ∧ z ≤ 9999) (hn : 1 ≤ n ∧ n ≤ 24) : ∀ (m : Nat) (i : Int) (l5 l7 l8 : mm_V), 0 ≤ i → i + m = n → em 51 39 [mm_r 0, mm_i z, mm_i n, mm_i w, mm_i i, l5, mm_u, l7, l8] [] (hd_f g (ev_f (g 2) (g 4) z i.toNat)) = some (some (mm_i (if w = 0 then on_f (mt_f (g 2) (ev_f (g 2) (g 4) z n.toNat) (g 2 1).toNat) 8 else yd_f (g 2) (ev_f (g 2) (g 4) z n.toNat) 3 24)), hd_f g (g 4))
  | 0, i, l5, l7, l8, h0, hi => by
    have e2 : hd_f g (ev_f (g 2) (g 4) z i.toNat) 2 = g 2 := hd_o _ _ (by decide) (by decide)
    have hSi := ev_SB hg.1 hS z i.toNat (by omega)
    have hm := M_met (MV_hd hg hSi.1)
    have hy := M_yardsOf (MV_hd hg hSi.1) 3
    rw [e2, hd_4] at hm hy
    have en : n.toNat = i.toNat := by omega
    rw [en]
    have fin : ∀ r : Int, em 51 136 [mm_r 0, mm_i z, mm_i n, mm_i w, mm_i i, l5, mm_u, l7, l8] [mm_i r] (hd_f g (ev_f (g 2) (g 4) z i.toNat)) = some (some (mm_i r), hd_f g (g 4)) := by
      intro r
      rw [sg_X11_evening_136]
      refine mm_bi (M_let (fun j hj => ev_o hg.1 z hj _)) ?_
      exact sg_X11_evening_142 _ _ _ _ _ _ _ (hd_f g (g 4))
    rw [sg_X11_evening_39, if_neg (by omega)]
    split
    · refine mm_bi hm ?_
      refine (sg_X11_evening_125 _ _ _ _ _ _ _ _ (hd_f g (ev_f (g 2) (g 4) z i.toNat))).trans ?_
      refine mm_bi (M_ones _ _) ?_
      exact (sg_X11_evening_128 _ _ _ _ _ _ _ _ (hd_f g (ev_f (g 2) (g 4) z i.toNat))).trans (fin _)
    · exact mm_bi hy (fin _)
  | m + 1, i, l5, l7, l8, h0, hi => by
    have e2 : hd_f g (ev_f (g 2) (g 4) z i.toNat) 2 = g 2 := hd_o _ _ (by decide) (by decide)
    have e4 : hd_f g (ev_f (g 2) (g 4) z i.toNat) 4 = ev_f (g 2) (g 4) z i.toNat := hd_4 _ _
    have hSi := ev_SB hg.1 hS z i.toNat (by omega)
    have e10 := ev_10 (g 2) (g 4) z i.toNat
    have hb := dr_b z (ev_f (g 2) (g 4) z i.toNat 10)
    have hq := z_dr hz (show 0 ≤ ev_f (g 2) (g 4) z i.toNat 10 ∧ ev_f (g 2) (g 4) z i.toNat 10 ≤ 1000 from hSi.2.2.1)
    have hd2 : mm_wr (Int.tdiv (dr_f z (ev_f (g 2) (g 4) z i.toNat 10)) 32) = dr_f z (ev_f (g 2) (g 4) z i.toNat 10) / 32 := by rw [Int.tdiv_eq_ediv_of_nonneg hb.1, z_wr (by omega) (by omega)]
    have k1 := z_msk (x := dr_f z (ev_f (g 2) (g 4) z i.toNat 10)) ⟨hg.2.1, hg.1.n.2⟩ (by omega)
    have k2 := z_msk (x := dr_f z (ev_f (g 2) (g 4) z i.toNat 10) / 32) ⟨hg.2.1, hg.1.n.2⟩ (by omega)
    rw [sg_X11_evening_39, if_pos (by omega), e4, hq]
    refine mm_bi (M_sets _) ?_
    refine (sg_X11_evening_86 _ _ _ _ _ _ _ _ _ (hd_f g (ev_f (g 2) (g 4) z i.toNat))).trans ?_
    rw [e2, if_neg k1.2.1, hd2, ← k1.1]
    refine mm_bi (M_sets _) ?_
    refine (sg_X11_evening_101 _ _ _ _ _ _ _ _ _ _ (hd_f g (ev_f (g 2) (g 4) z i.toNat))).trans ?_
    rw [e2, if_neg k1.2.1, ← k2.1]
    refine mm_bi (M_go hg.1 hSi (ed_f (g 2) z (ev_f (g 2) (g 4) z i.toNat 10)) (eu_f (g 2) z (ev_f (g 2) (g 4) z i.toNat 10)) (by omega)) ?_
    refine (sg_X11_evening_110 _ _ _ _ _ _ _ _ (hd_f g (gs_f (g 2) (ev_f (g 2) (g 4) z i.toNat) (ed_f (g 2) z (ev_f (g 2) (g 4) z i.toNat 10)) (eu_f (g 2) z (ev_f (g 2) (g 4) z i.toNat 10))))).trans ?_
    rw [z_wr (by omega) (by omega)]
    have ih := fun l5 l7 l8 => M_even_l (w := w) hg hS hh hz hn m (i + 1) l5 l7 l8 (by omega) (by omega)
    rw [show (i + 1).toNat = i.toNat + 1 by omega] at ih
    exact ih _ _ _
theorem z_orb : ∀ k : Fin 8, ∀ a : Fin 256, a.val < 2 ^ k.val → 0 ≤ mm_or (a.val : Int) (mm_shl 1 (k.val : Int)) ∧ mm_or (a.val : Int) (mm_shl 1 (k.val : Int)) < 2 ^ (k.val + 1) := by decide +kernel
theorem mt_b (R S : Nat → Int) : ∀ k : Nat, k ≤ 8 → 0 ≤ mt_f R S k ∧ mt_f R S k < (2 : Int) ^ k
  | 0, _ => by simp [mt_f]
  | k + 1, h => by
    have ih := mt_b R S k (by omega)
    have hp : (2 : Int) ^ k ≤ 2 ^ 7 := by
      rcases (show k = 0 ∨ k = 1 ∨ k = 2 ∨ k = 3 ∨ k = 4 ∨ k = 5 ∨ k = 6 ∨ k = 7 by omega) with rfl | rfl | rfl | rfl | rfl | rfl | rfl | rfl <;> decide
    rw [mt_s]
    split
    · have hnat : (mt_f R S k).toNat < 2 ^ k := by
        have : ((2 ^ k : Nat) : Int) = (2 : Int) ^ k := by simp
        omega
      have := z_orb ⟨k, by omega⟩ ⟨(mt_f R S k).toNat, by omega⟩ hnat
      dsimp only at this
      rw [show (((mt_f R S k).toNat : Nat) : Int) = mt_f R S k by omega] at this
      exact this
    · have : (2 : Int) ^ (k + 1) = 2 ^ k * 2 := Int.pow_succ _ _
      omega
theorem op_evening {h g : mm_H} {v : Nat} (hr : Rel h g v) (z n w : Int) : AG (ex 91 0 [mm_r 0, mm_i z, mm_i n, mm_i w, mm_u] [] h) (em 51 0 [mm_r 0, mm_i z, mm_i n, mm_i w, mm_u, mm_u, mm_u, mm_u, mm_u] [] g) := by
  by_cases c : 0 ≤ z ∧ z ≤ 9999
  · by_cases c2 : 1 ≤ n ∧ n ≤ 24
    · by_cases c3 : 0 ≤ w ∧ w ≤ 1
      · have hSB := SM_SB hr.S
        have hh : g 4 10 ≤ 900 := by have := hr.S.2.2.1; omega
        obtain ⟨h2, b1, b2, b3, b4, -⟩ := X_become BP_63 h
        have hV2 : VL h2 v (g 2) := VL_k hr.V (fun a ha => b2 a (by omega))
        have hD2 : DT h2 63 (g 2) (g 4) := DT_of hr.M.1 hr.D b3 b4
        obtain ⟨h3, e1, e2, e3⟩ := X_drawn_l (v := v) hSB hh c c2 n.toNat 0 mm_u mm_u mm_u mm_u h2 hV2 hD2 (by omega) (by omega)
        have hV3 : VL h3 v (g 2) := VL_k hV2 (fun a ha => e3 a (by omega))
        have hT3 := TR_63 e2 (ev_SB hr.M.1 hSB z n.toNat (by omega))
        have h03 : (h3 0 2).toNat = v := by rw [e3 0 (by omega), b2 0 (by omega)]; exact hr.v
        refine AG_q (h2 := h3) (g2 := hd_f g (g 4)) (r := if w = 0 then on_f (mt_f (g 2) (ev_f (g 2) (g 4) z n.toNat) (g 2 1).toNat) 8 else yd_f (g 2) (ev_f (g 2) (g 4) z n.toNat) 3 24) hr ?_ ?_ (QX_63 hr.V.1 (fun a ha => (e3 a ha).trans (b2 a (by omega)))) (QM_hd g)
        · rw [sg_X10_evening_0, if_neg (by omega), if_neg (by omega), if_neg (by omega), if_neg (by omega), if_neg (by omega), if_neg (by omega), hr.v, sg_X10_evening_41 hr.V.1, sg_X0_drawn_0 hr.V.1 rfl, b1]
          show ((ex 2 8 [mm_r 62, mm_r v, mm_r 25, mm_i z, mm_i n, mm_u, mm_u, mm_u, mm_u, mm_u, mm_u, mm_u] [] h2).bind _) = _
          rw [sg_X0_drawn_8 hr.V.1 rfl, X_sets hV2]
          show ((ex 2 12 [mm_r 62, mm_r v, mm_r 25, mm_i z, mm_i n, mm_u, mm_u, mm_u, mm_u, mm_u, mm_u, mm_u] [mm_i (mm_shl 1 (g 2 0))] h2).bind _) = _
          rw [sg_X0_drawn_12 hr.V.1 rfl]
          refine mm_bi e1 ?_
          refine (sg_X10_evening_50 _ _ _ h3).trans ?_
          rw [h03]
          split
          · rw [sg_X10_evening_60 hr.V.1]
            refine mm_bi (X_metBits hV3 hT3) ?_
            refine (sg_X10_evening_68 _ _ _ _ h3).trans ?_
            have hw := hr.M.1.w
            have hmb := mt_b (g 2) (ev_f (g 2) (g 4) z n.toNat) (g 2 1).toNat (by omega)
            have hpw : (2 : Int) ^ (g 2 1).toNat ≤ 2 ^ 8 := by
              rcases (show (g 2 1).toNat = 0 ∨ (g 2 1).toNat = 1 ∨ (g 2 1).toNat = 2 ∨ (g 2 1).toNat = 3 ∨ (g 2 1).toNat = 4 ∨ (g 2 1).toNat = 5 ∨ (g 2 1).toNat = 6 ∨ (g 2 1).toNat = 7 ∨ (g 2 1).toNat = 8 by omega) with e | e | e | e | e | e | e | e | e <;> rw [e] <;> decide
            refine mm_bi (X_bitCount (by omega) h3) ?_
            exact sg_X10_evening_71 _ _ _ _ h3
          · rw [sg_X10_evening_76 hr.V.1]
            refine mm_bi (X_nights hV3 hT3) ?_
            exact sg_X10_evening_84 _ _ _ _ h3
        · rw [sg_X11_evening_0]
          refine mm_bi (M_in_t c g) ?_
          refine (sg_X11_evening_8 _ _ _ _ g).trans ?_
          rw [if_neg (by decide)]
          refine mm_bi (M_in_t c2 g) ?_
          refine (sg_X11_evening_18 _ _ _ _ g).trans ?_
          rw [if_neg (by decide)]
          refine mm_bi (M_in_t c3 g) ?_
          refine (sg_X11_evening_27 _ _ _ _ g).trans ?_
          rw [if_neg (by decide)]
          refine mm_bi (M_hold g) ?_
          refine (sg_X11_evening_36 _ _ _ (hd_f g (g 4))).trans ?_
          exact M_even_l hr.M hSB hh c c2 n.toNat 0 _ _ _ (by omega) (by omega)
      · refine AG_0 (r := -1) hr ?_ ?_
        · rw [sg_X10_evening_0, if_neg (by omega), if_neg (by omega), if_neg (by omega), if_neg (by omega), sg_X10_evening_31]
          split
          · rfl
          · rw [if_pos (by omega)]
        · rw [sg_X11_evening_0]
          refine mm_bi (M_in_t c g) ?_
          refine (sg_X11_evening_8 _ _ _ _ g).trans ?_
          rw [if_neg (by decide)]
          refine mm_bi (M_in_t c2 g) ?_
          refine (sg_X11_evening_18 _ _ _ _ g).trans ?_
          rw [if_neg (by decide)]
          refine mm_bi (M_in_f c3 g) ?_
          exact (sg_X11_evening_27 _ _ _ _ g).trans ((if_pos rfl).trans (sg_X11_evening_30 _ _ _ g))
    · refine AG_0 (r := -1) hr ?_ ?_
      · rw [sg_X10_evening_0, if_neg (by omega), if_neg (by omega), sg_X10_evening_31]
        split
        · rfl
        · rw [if_pos (by omega)]
      · rw [sg_X11_evening_0]
        refine mm_bi (M_in_t c g) ?_
        refine (sg_X11_evening_8 _ _ _ _ g).trans ?_
        rw [if_neg (by decide)]
        refine mm_bi (M_in_f c2 g) ?_
        exact (sg_X11_evening_18 _ _ _ _ g).trans ((if_pos rfl).trans (sg_X11_evening_30 _ _ _ g))
  · refine AG_0 (r := -1) hr ?_ ?_
    · rw [sg_X10_evening_0, sg_X10_evening_31]
      split
      · rfl
      · rw [if_pos (by omega)]
    · rw [sg_X11_evening_0]
      refine mm_bi (M_in_f c g) ?_
      exact (sg_X11_evening_8 _ _ _ _ g).trans ((if_pos rfl).trans (sg_X11_evening_30 _ _ _ g))
