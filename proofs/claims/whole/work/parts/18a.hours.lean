/-! ===== an hour ===== -/
/-- turns of a rope behind an hour -/
def by_f (K P H : Int) : Int := if K = 1 then P + 1 else if K = 3 ∧ H % 2 = 1 then 0 else P
def fr_f (K v : Int) : Int := if K = 2 ∧ v % 3 = 0 ∧ 0 < v then v - 1 else v
def bh_f (T K P sg H : Int) : Int := fr_f K (cl_f (T + sg * by_f K P H))
theorem bh_b (T K P sg H : Int) : 0 ≤ bh_f T K P sg H ∧ bh_f T K P sg H ≤ 40 := by
  have := cl_b (T + sg * by_f K P H)
  unfold bh_f fr_f
  split <;> omega
theorem z_sg {sg P : Int} (hs : sg = 1 ∨ sg = 0 ∨ sg = -1) (hp : 0 ≤ P ∧ P ≤ 6) : -6 ≤ sg * P ∧ sg * P ≤ 6 := by
  rcases hs with rfl | rfl | rfl <;> omega
theorem M_behind {T K P sg H : Int} (hT : 0 ≤ T ∧ T ≤ 40) (hP : 1 ≤ P ∧ P ≤ 5) (hs : sg = 1 ∨ sg = 0 ∨ sg = -1) (hH : 0 ≤ H) (h : mm_H) : em 27 0 [mm_i T, mm_i K, mm_i P, mm_i sg, mm_i H, mm_u, mm_u] [] h = some (some (mm_i (bh_f T K P sg H)), h) := by
  have tail : ∀ s0 : Int, 0 ≤ s0 ∧ s0 ≤ 6 → em 27 29 [mm_i T, mm_i K, mm_i P, mm_i sg, mm_i H, mm_u, mm_u] [mm_i s0] h = some (some (mm_i (fr_f K (cl_f (T + sg * s0)))), h) := by
    intro s0 hs0
    have hm := z_sg hs hs0
    rw [sg_X11_behind_29, z_mul (by omega) (by omega), z_add (by omega) (by omega)]
    have fin : ∀ v : Int, 0 ≤ v ∧ v ≤ 40 → ∀ l6 : Int, em 27 62 [mm_i T, mm_i K, mm_i P, mm_i sg, mm_i H, mm_i s0, mm_i l6] [mm_i v] h = some (some (mm_i (fr_f K v)), h) := by
      intro v hv l6
      unfold fr_f
      rw [sg_X11_behind_62, Int.tmod_eq_emod_of_nonneg hv.1]
      simp only [sg_X11_behind_88, sg_X11_behind_90]
      by_cases c1 : K = 2
      · rw [if_pos c1]
        by_cases c2 : v % 3 = 0
        · rw [if_pos c2]
          by_cases c3 : 0 < v
          · rw [if_pos c3, if_pos ⟨c1, c2, c3⟩, z_sub (by omega) (by omega)]
          · rw [if_neg c3, if_neg (fun q => c3 q.2.2)]
        · rw [if_neg c2, if_neg (fun q => c2 q.2.1)]
      · rw [if_neg c1, if_neg (fun q => c1 q.1)]
    unfold cl_f
    split
    · exact fin 0 (by omega) _
    · split
      · exact fin 40 (by omega) _
      · exact fin _ (by omega) _
  rw [sg_X11_behind_0, Int.tmod_eq_emod_of_nonneg hH]
  simp only [sg_X11_behind_28]
  unfold bh_f
  by_cases c1 : K = 1
  · have e : by_f K P H = P + 1 := if_pos c1
    rw [if_pos c1, e, z_add (by omega) (by omega)]; exact tail _ (by omega)
  · rw [if_neg c1]
    by_cases c2 : K = 3
    · rw [if_pos c2]
      by_cases c3 : H % 2 = 1
      · have e : by_f K P H = 0 := (if_neg c1).trans (if_pos ⟨c2, c3⟩)
        rw [if_pos c3, e]; exact tail _ (by omega)
      · have e : by_f K P H = P := (if_neg c1).trans (if_neg (fun q => c3 q.2))
        rw [if_neg c3, e]; exact tail _ (by omega)
    · have e : by_f K P H = P := (if_neg c1).trans (if_neg (fun q => c2 q.1))
      rw [if_neg c2, e]; exact tail _ (by omega)
theorem X_turnsThen {T K P sg H : Int} (hT : 0 ≤ T ∧ T ≤ 40) (hP : 1 ≤ P ∧ P ≤ 5) (hs : sg = 1 ∨ sg = 0 ∨ sg = -1) (hH : 0 ≤ H) (h : mm_H) : ex 100 0 [mm_i T, mm_i P, mm_i K, mm_i H, mm_i sg, mm_u, mm_u] [] h = some (some (mm_i (bh_f T K P sg H)), h) := by
  have tail : ∀ s0 : Int, 0 ≤ s0 ∧ s0 ≤ 6 → ex 100 27 [mm_i T, mm_i P, mm_i K, mm_i H, mm_i sg, mm_i s0, mm_u] [] h = some (some (mm_i (fr_f K (cl_f (T + sg * s0)))), h) := by
    intro s0 hs0
    have hm := z_sg hs hs0
    rw [sg_X10_turnsThen_27, z_mul (by omega) (by omega), z_add (by omega) (by omega)]
    refine mm_bi (X_within _ h) ?_
    refine (sg_X10_turnsThen_37 _ _ _ _ _ _ _ h).trans ?_
    have hv := cl_b (T + sg * s0)
    generalize cl_f (T + sg * s0) = v at hv ⊢
    rw [Int.tmod_eq_emod_of_nonneg hv.1]
    simp only [sg_X10_turnsThen_59]
    unfold fr_f
    by_cases c1 : K = 2
    · rw [if_pos c1]
      by_cases c2 : v = 0
      · rw [if_pos c2, if_neg (fun q => by omega)]
      · rw [if_neg c2]
        by_cases c3 : v % 3 = 0
        · rw [if_pos c3, if_pos ⟨c1, c3, by omega⟩, z_wr (by omega) (by omega)]; rfl
        · rw [if_neg c3, if_neg (fun q => c3 q.2.1)]
    · rw [if_neg c1, if_neg (fun q => c1 q.1)]
  have mid : ∀ s0 : Int, 0 ≤ s0 ∧ s0 ≤ 6 → ex 100 13 [mm_i T, mm_i P, mm_i K, mm_i H, mm_i sg, mm_i s0, mm_u] [] h = if K = 3 ∧ H % 2 = 1 then ex 100 27 [mm_i T, mm_i P, mm_i K, mm_i H, mm_i sg, mm_i 0, mm_u] [] h else ex 100 27 [mm_i T, mm_i P, mm_i K, mm_i H, mm_i sg, mm_i s0, mm_u] [] h := by
    intro s0 hs0
    rw [sg_X10_turnsThen_13, Int.tmod_eq_emod_of_nonneg hH]
    by_cases c2 : K = 3
    · rw [if_pos c2]
      by_cases c3 : H % 2 = 0
      · rw [if_pos c3, if_neg (fun q => by omega)]
      · rw [if_neg c3, if_pos ⟨c2, by omega⟩]
    · rw [if_neg c2, if_neg (fun q => c2 q.1)]
  rw [sg_X10_turnsThen_0]
  unfold bh_f
  by_cases c1 : K = 1
  · have e : by_f K P H = P + 1 := if_pos c1
    rw [if_pos c1, e, z_add (by omega) (by omega), mid _ (by omega), if_neg (fun q => by omega)]; exact tail _ (by omega)
  · rw [if_neg c1, mid _ (by omega)]
    by_cases c2 : K = 3 ∧ H % 2 = 1
    · have e : by_f K P H = 0 := (if_neg c1).trans (if_pos c2)
      rw [if_pos c2, e]; exact tail _ (by omega)
    · have e : by_f K P H = P := (if_neg c1).trans (if_neg c2)
      rw [if_neg c2, e]; exact tail _ (by omega)
/-! sets of ropes, bit by bit -/
def bt_f (x j : Int) : Int := mm_and (mm_shr x j) 1
theorem z_b1 (x : Int) : mm_and x 1 = 0 ∨ mm_and x 1 = 1 := by
  unfold mm_and
  obtain ⟨j, hj, e⟩ := pk_andE (Int32.ofInt x) (m := Int32.ofInt 1) 1 (by decide)
  rw [e, nI_toInt (by omega)]
  omega
theorem bt_b (x j : Int) : bt_f x j = 0 ∨ bt_f x j = 1 := z_b1 _
def on_f (x : Int) : Nat → Int
  | 0 => 0
  | k + 1 => on_f x k + bt_f x k
theorem on_s (x : Int) (k : Nat) : on_f x (k + 1) = on_f x k + bt_f x k := rfl
theorem on_b (x : Int) : ∀ k : Nat, 0 ≤ on_f x k ∧ on_f x k ≤ k
  | 0 => by simp [on_f]
  | k + 1 => by
    have h1 := on_b x k
    have h2 := bt_b x k
    rw [on_s]
    omega
theorem M_ones_l (x : Int) (h : mm_H) : ∀ (m : Nat) (i : Int), 0 ≤ i → i + m = 8 → em 4 4 [mm_i x, mm_i (on_f x i.toNat), mm_i i] [] h = some (some (mm_i (on_f x 8)), h)
  | 0, i, h0, hi => by
    rw [sg_X11_ones_4, if_neg (by omega), show i.toNat = 8 by omega]
  | m + 1, i, h0, hi => by
    have hb := on_b x i.toNat
    have hc := bt_b x i
    have ih := M_ones_l x h m (i + 1) (by omega) (by omega)
    rw [show (i + 1).toNat = i.toNat + 1 by omega, on_s, show ((i.toNat : Nat) : Int) = i by omega] at ih
    rw [sg_X11_ones_4, if_pos (by omega), z_wr (by omega) (by omega)]
    change em 4 4 [mm_i x, mm_i (mm_add (on_f x i.toNat) (bt_f x i)), mm_i (i + 1)] [] h = _
    rw [z_add (by omega) (by omega)]
    exact ih
theorem M_ones (x : Int) (h : mm_H) : em 4 0 [mm_i x, mm_u, mm_u] [] h = some (some (mm_i (on_f x 8)), h) := by
  rw [sg_X11_ones_0]
  exact M_ones_l x h 8 0 (by omega) (by omega)
def sg_f (dn up : Int) (j : Nat) : Int := bt_f dn j - bt_f up j
theorem sg_b (dn up : Int) (j : Nat) : sg_f dn up j = 1 ∨ sg_f dn up j = 0 ∨ sg_f dn up j = -1 := by
  have h1 := bt_b dn j
  have h2 := bt_b up j
  unfold sg_f
  omega
/-- a dusk's row of the model: turns, kinds, hours, costs -/
def SB (R S : Nat → Int) : Prop := SK R S ∧ (∀ k : Nat, (k : Int) < R 0 → 0 ≤ S (5 + k) ∧ S (5 + k) ≤ 3) ∧ (0 ≤ S 10 ∧ S 10 ≤ 1000) ∧ (0 ≤ S 11 ∧ S 11 ≤ 144 * S 10)
def gk_f (R S : Nat → Int) (dn up : Int) (k j : Nat) : Int := if j < k then bh_f (S j) (S (5 + j)) (R (10 + j)) (sg_f dn up j) (S 10) else S j
def co_f (R : Nat → Int) (dn up : Int) : Int := R 3 * on_f dn 8 + R 4 * on_f up 8
/-- the row behind an hour -/
def gs_f (R S : Nat → Int) (dn up : Int) (j : Nat) : Int := if j = 11 then S 11 + co_f R dn up else if j = 10 then S 10 + 1 else gk_f R S dn up (R 0).toNat j
theorem z_m9 {a b : Int} (ha : 0 ≤ a ∧ a ≤ 9) (hb : 0 ≤ b ∧ b ≤ 8) : 0 ≤ a * b ∧ a * b ≤ 72 := by
  refine ⟨Int.mul_nonneg ha.1 hb.1, ?_⟩
  have := Int.mul_le_mul ha.2 hb.2 hb.1 (by omega : (0 : Int) ≤ 9)
  omega
theorem co_b {R : Nat → Int} (hR : VM R) (dn up : Int) : (0 ≤ R 3 * on_f dn 8 ∧ R 3 * on_f dn 8 ≤ 72) ∧ (0 ≤ R 4 * on_f up 8 ∧ R 4 * on_f up 8 ≤ 72) := ⟨z_m9 hR.pr.1 (on_b dn 8), z_m9 hR.pr.2 (on_b up 8)⟩
theorem gs_SB {R S : Nat → Int} (hR : VM R) (hS : SB R S) (dn up : Int) (hh : S 10 ≤ 999) : SB R (gs_f R S dn up) := by
  obtain ⟨s1, s2, s3, s4⟩ := hS
  have hn := hR.n
  have hc := co_b hR dn up
  refine ⟨fun k hk => ?_, fun k hk => ?_, ?_, ?_⟩
  · unfold gs_f gk_f
    rw [if_neg (by omega), if_neg (by omega), if_pos (by omega)]
    exact bh_b _ _ _ _ _
  · unfold gs_f gk_f
    rw [if_neg (by omega), if_neg (by omega), if_neg (by omega)]
    exact s2 k hk
  · show 0 ≤ gs_f R S dn up 10 ∧ _
    have e : gs_f R S dn up 10 = S 10 + 1 := rfl
    rw [e]; omega
  · have e : gs_f R S dn up 10 = S 10 + 1 := rfl
    have e2 : gs_f R S dn up 11 = S 11 + co_f R dn up := rfl
    rw [e, e2]
    unfold co_f
    omega
theorem gk_up {R S : Nat → Int} {dn up : Int} {k : Nat} {x : Int} (hx : x = bh_f (S k) (S (5 + k)) (R (10 + k)) (sg_f dn up k) (S 10)) : mm_up (gk_f R S dn up k) k x = gk_f R S dn up (k + 1) := by
  funext j
  unfold mm_up gk_f
  by_cases e : j = k
  · subst e
    rw [if_pos rfl, if_pos (by omega), hx]
  · rw [if_neg e]
    by_cases c : j < k
    · rw [if_pos c, if_pos (by omega)]
    · rw [if_neg c, if_neg (by omega)]
theorem M_goes_l {g : mm_H} (hR : VM (g 2)) (hS : SB (g 2) (g 4)) (dn up : Int) (hh : g 4 10 ≤ 999) : ∀ (m : Nat) (i : Int) (l4 : mm_V), 0 ≤ i → i + m = g 2 0 → em 28 2 [mm_r 0, mm_i dn, mm_i up, mm_i i, l4] [] (mm_up g 4 (gk_f (g 2) (g 4) dn up i.toNat)) = some (some (mm_i (co_f (g 2) dn up)), mm_up g 4 (gs_f (g 2) (g 4) dn up))
  | 0, i, l4, h0, hi => by
    obtain ⟨s1, s2, s3, s4⟩ := hS
    have hn := hR.n
    have hc := co_b hR dn up
    have e2 : (mm_up g 4 (gk_f (g 2) (g 4) dn up i.toNat)) 2 = g 2 := z_un _ _ (by decide)
    have e4 : (mm_up g 4 (gk_f (g 2) (g 4) dn up i.toNat)) 4 = gk_f (g 2) (g 4) dn up i.toNat := z_up _ _ _
    rw [sg_X11_goes_2, e2, if_neg (by omega)]
    refine mm_bi (M_ones dn _) ?_
    refine (sg_X11_goes_82 _ _ _ _ _ _ (mm_up g 4 (gk_f (g 2) (g 4) dn up i.toNat))).trans ?_
    refine mm_bi (M_ones up _) ?_
    refine (sg_X11_goes_93 _ _ _ _ _ _ _ (mm_up g 4 (gk_f (g 2) (g 4) dn up i.toNat))).trans ?_
    have q10 : gk_f (g 2) (g 4) dn up i.toNat 10 = g 4 10 := if_neg (by omega)
    have q11 : gk_f (g 2) (g 4) dn up i.toNat 11 = g 4 11 := if_neg (by omega)
    rw [z_ss _ _ (by decide), e2, e4, q10, q11, z_mul (a := g 2 3) (by omega) (by omega), z_mul (a := g 2 4) (by omega) (by omega), z_add (a := g 2 3 * on_f dn 8) (by omega) (by omega), z_add (by omega) (by omega), z_add (by omega) (by omega)]
    have er : i.toNat = (g 2 0).toNat := by omega
    rw [er]
    congr 2
    funext a
    by_cases ea : a = 4
    · subst ea
      rw [z_up, z_sr, z_sr, z_up]
      funext j
      unfold gs_f
      by_cases c1 : j = 11
      · subst c1; rw [z_up, if_pos rfl]; rfl
      · rw [z_un _ _ c1, if_neg c1]
        by_cases c2 : j = 10
        · subst c2; rw [z_up, if_pos rfl]
        · rw [z_un _ _ c2, if_neg c2]
    · rw [z_sc _ _ ea, z_sc _ _ ea, z_un _ _ ea, z_un _ _ ea]
  | m + 1, i, l4, h0, hi => by
    obtain ⟨s1, s2, s3, s4⟩ := id hS
    have hn := hR.n
    have hr := hR.r (k := i.toNat) (by omega)
    have e2 : (mm_up g 4 (gk_f (g 2) (g 4) dn up i.toNat)) 2 = g 2 := z_un _ _ (by decide)
    have e4 : (mm_up g 4 (gk_f (g 2) (g 4) dn up i.toNat)) 4 = gk_f (g 2) (g 4) dn up i.toNat := z_up _ _ _
    have q0 : gk_f (g 2) (g 4) dn up i.toNat i.toNat = g 4 i.toNat := if_neg (by omega)
    have q5 : gk_f (g 2) (g 4) dn up i.toNat (5 + i.toNat) = g 4 (5 + i.toNat) := if_neg (by omega)
    have q10 : gk_f (g 2) (g 4) dn up i.toNat 10 = g 4 10 := if_neg (by omega)
    rw [sg_X11_goes_2, e2, if_pos (by omega), if_pos (by omega), z_add (a := 5) (by omega) (by omega), if_pos (by omega), z_add (a := 10) (by omega) (by omega), if_pos (by omega)]
    rw [show (5 + i).toNat = 5 + i.toNat by omega, show (10 + i).toNat = 10 + i.toNat by omega, e4, q0, q5, q10]
    have esg : mm_sub (mm_and (mm_shr dn i) 1) (mm_and (mm_shr up i) 1) = sg_f dn up i.toNat := by
      have h1 := bt_b dn i
      have h2 := bt_b up i
      unfold sg_f
      rw [show ((i.toNat : Nat) : Int) = i by omega]
      exact z_sub (by unfold bt_f at h1 h2; omega) (by unfold bt_f at h1 h2; omega)
    rw [esg]
    refine mm_bi (M_behind (s1 _ (by omega)) hr.2.1 (sg_b _ _ _) s3.1 _) ?_
    refine (sg_X11_goes_65 _ _ _ _ _ _ (mm_up g 4 (gk_f (g 2) (g 4) dn up i.toNat))).trans ?_
    rw [if_pos (by omega), z_wr (by omega) (by omega)]
    have ih := M_goes_l hR hS dn up hh m (i + 1) (mm_i (sg_f dn up i.toNat)) (by omega) (by omega)
    rw [show (i + 1).toNat = i.toNat + 1 by omega, ← gk_up rfl] at ih
    rw [← ih]
    congr 1
    unfold mm_st
    rw [e4]
    funext a
    by_cases ea : a = 4
    · subst ea; rw [z_up, z_up]
    · rw [z_un _ _ ea, z_un _ _ ea, z_un _ _ ea]
theorem M_goes {g : mm_H} (hR : VM (g 2)) (hS : SB (g 2) (g 4)) (dn up : Int) (hh : g 4 10 ≤ 999) : em 28 0 [mm_r 0, mm_i dn, mm_i up, mm_u, mm_u] [] g = some (some (mm_i (co_f (g 2) dn up)), mm_up g 4 (gs_f (g 2) (g 4) dn up)) := by
  rw [sg_X11_goes_0]
  have := M_goes_l hR hS dn up hh (g 2 0).toNat 0 mm_u (by omega) (by have := hR.n; omega)
  have e : mm_up g 4 (gk_f (g 2) (g 4) dn up (0 : Int).toNat) = g := by
    funext a
    by_cases ea : a = 4
    · subst ea; rw [z_up]; funext j; exact if_neg (by simp)
    · rw [z_un _ _ ea]
  rw [e] at this
  exact this
