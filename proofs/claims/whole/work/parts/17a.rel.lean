/-! ===== THE CLASS'S HEAP AND THE MODEL'S ===== -/
def DS (h : mm_H) (d : Nat) (R S : Nat → Int) : Prop := (∀ k : Nat, (k : Int) < R 0 → h (d + 1) k = S k ∧ h (d + 2) k = S (5 + k)) ∧ h d 2 = S 10 ∧ h d 3 = S 11
def SM (R S : Nat → Int) : Prop := SK R S ∧ (∀ k : Nat, (k : Int) < R 0 → 0 ≤ S (5 + k) ∧ S (5 + k) ≤ 3) ∧ (0 ≤ S 10 ∧ S 10 ≤ 99) ∧ (0 ≤ S 11 ∧ S 11 ≤ 144 * S 10)
def uk_p (d : Nat) : Prop := d = 30 ∨ d = 33 ∨ d = 36 ∨ d = 39 ∨ d = 42 ∨ d = 45 ∨ d = 48 ∨ d = 51
def kk_p (d : Nat) : Prop := d = 56 ∨ d = 59
def UD (h g : mm_H) : Prop := (h 28 1 = g 0 6 ∧ 0 ≤ g 0 6 ∧ g 0 6 ≤ 8) ∧ (∀ i : Nat, i < 8 → ∃ d : Nat, h 29 i = d ∧ uk_p d) ∧ (∀ i j : Nat, i < j → j < 8 → h 29 i ≠ h 29 j) ∧ ∀ i : Nat, (i : Int) < g 0 6 → DS h (h 29 i).toNat (g 2) (fun j => g 5 (12 * i + j)) ∧ SM (g 2) (fun j => g 5 (12 * i + j))
def KP (h g : mm_H) : Prop := (h 54 1 = g 0 8 ∧ 0 ≤ g 0 8 ∧ g 0 8 ≤ 2) ∧ (∀ i : Nat, i < 2 → ∃ d : Nat, h 55 i = d ∧ kk_p d) ∧ (∀ i j : Nat, i < j → j < 2 → h 55 i ≠ h 55 j) ∧ ∀ i : Nat, (i : Int) < g 0 8 → DS h (h 55 i).toNat (g 2) (fun j => g 6 (12 * i + j)) ∧ SM (g 2) (fun j => g 6 (12 * i + j))
def SN (h g : mm_H) : Prop := (h 79 2 = g 0 10 ∧ 0 ≤ g 0 10 ∧ g 0 10 ≤ 8) ∧ ∀ i : Nat, (i : Int) < g 0 10 → g 7 i = 100 * h 80 i + h 81 i ∧ (0 ≤ h 80 i ∧ h 80 i < 24) ∧ (0 ≤ h 81 i ∧ h 81 i ≤ 40)
def TX (h g : mm_H) : Prop := h 1 1 = g 0 1 ∧ (0 ≤ g 0 1 ∧ g 0 1 ≤ 200) ∧ ∀ j : Nat, (j : Int) < g 0 1 → h 2 j = g 1 j ∧ 32 ≤ g 1 j ∧ g 1 j ≤ 126
def Rel (h g : mm_H) (v : Nat) : Prop := (h 0 2 = v ∧ h 0 3 = 20 - (v : Int)) ∧ VL h v (g 2) ∧ TX h g ∧ DS h 25 (g 2) (g 4) ∧ SM (g 2) (g 4) ∧ UD h g ∧ KP h g ∧ SN h g
def AG (ox om : Option mm_R) : Prop := ∃ (r : Int) (h g : mm_H) (v : Nat), ox = some (some (mm_i r), h) ∧ om = some (some (mm_i r), g) ∧ Rel h g v
theorem DS_up {h h2 : mm_H} {d : Nat} {R S : Nat → Int} (q : DS h d R S) (e : ∀ a, d ≤ a → a ≤ d + 2 → h2 a = h a) : DS h2 d R S := by
  obtain ⟨q1, q2, q3⟩ := q
  refine ⟨fun k hk => ?_, ?_, ?_⟩
  · rw [e (d + 1) (by omega) (by omega), e (d + 2) (by omega) (by omega)]; exact q1 k hk
  · rw [e d (by omega) (by omega)]; exact q2
  · rw [e d (by omega) (by omega)]; exact q3
def QX (v : Nat) (h h2 : mm_H) : Prop := (∀ a, (a < 3 ∨ (v ≤ a ∧ a ≤ v + 9) ∨ (25 ≤ a ∧ a < 62) ∨ a = 80 ∨ a = 81) → h2 a = h a) ∧ h2 79 2 = h 79 2
def QM (g g2 : mm_H) : Prop := (∀ a, (a = 1 ∨ a = 2 ∨ a = 4 ∨ a = 5 ∨ a = 6 ∨ a = 7) → g2 a = g a) ∧ (∀ j, (j = 1 ∨ j = 6 ∨ j = 8 ∨ j = 10) → g2 0 j = g 0 j)
theorem QX_r (v : Nat) (h : mm_H) : QX v h h := ⟨fun _ _ => rfl, rfl⟩
theorem QM_r (g : mm_H) : QM g g := ⟨fun _ _ => rfl, fun _ _ => rfl⟩
theorem QX_t {v : Nat} {h h2 h3 : mm_H} (p : QX v h h2) (q : QX v h2 h3) : QX v h h3 := ⟨fun a ha => (q.1 a ha).trans (p.1 a ha), q.2.trans p.2⟩
theorem QM_t {h h2 h3 : mm_H} (p : QM h h2) (q : QM h2 h3) : QM h h3 := ⟨fun a ha => (q.1 a ha).trans (p.1 a ha), fun j hj => (q.2 j hj).trans (p.2 j hj)⟩
theorem Rel_Q {h g h2 g2 : mm_H} {v : Nat} (hr : Rel h g v) (hx : QX v h h2) (hm : QM g g2) : Rel h2 g2 v := by
  obtain ⟨⟨r1, r2⟩, r3, ⟨r4, r5, r6⟩, r7, r8, ⟨⟨u1, u2, u3⟩, u4, u5, u6⟩, ⟨⟨k1, k2, k3⟩, k4, k5, k6⟩, ⟨⟨s1, s2, s3⟩, s4⟩⟩ := hr
  obtain ⟨x1, x2⟩ := hx
  obtain ⟨m1, m2⟩ := hm
  have e2 := m1 2 (by omega)
  have e4 := m1 4 (by omega)
  have e5 := m1 5 (by omega)
  have e6 := m1 6 (by omega)
  have e7 := m1 7 (by omega)
  have e1 := m1 1 (by omega)
  have f1 := m2 1 (by omega)
  have f6 := m2 6 (by omega)
  have f8 := m2 8 (by omega)
  have f10 := m2 10 (by omega)
  refine ⟨⟨by rw [x1 0 (by omega)]; exact r1, by rw [x1 0 (by omega)]; exact r2⟩, ?_, ?_, ?_, ?_, ?_, ?_, ?_⟩
  · rw [e2]; exact VL_up r3 (fun a h1 h2 => x1 a (by omega))
  · refine ⟨by rw [x1 1 (by omega), f1]; exact r4, by rw [f1]; exact r5, fun j hj => ?_⟩
    rw [f1] at hj
    rw [x1 2 (by omega), e1]; exact r6 j hj
  · rw [e2, e4]; exact DS_up r7 (fun a h1 h2 => x1 a (by omega))
  · rw [e2, e4]; exact r8
  · refine ⟨⟨by rw [x1 28 (by omega), f6]; exact u1, by rw [f6]; exact u2, by rw [f6]; exact u3⟩, ?_, ?_, ?_⟩
    · intro i hi; rw [x1 29 (by omega)]; exact u4 i hi
    · intro i j hi hj; rw [x1 29 (by omega)]; exact u5 i j hi hj
    · intro i hi
      rw [f6] at hi
      rw [x1 29 (by omega), e2, e5]
      obtain ⟨d, d1, d2⟩ := u4 i (by omega)
      have d3 : (h 29 i).toNat = d := by rw [d1]; simp
      refine ⟨DS_up (u6 i hi).1 (fun a h1 h2 => x1 a ?_), (u6 i hi).2⟩
      rw [d3] at h1 h2
      unfold uk_p at d2
      omega
  · refine ⟨⟨by rw [x1 54 (by omega), f8]; exact k1, by rw [f8]; exact k2, by rw [f8]; exact k3⟩, ?_, ?_, ?_⟩
    · intro i hi; rw [x1 55 (by omega)]; exact k4 i hi
    · intro i j hi hj; rw [x1 55 (by omega)]; exact k5 i j hi hj
    · intro i hi
      rw [f8] at hi
      rw [x1 55 (by omega), e2, e6]
      obtain ⟨d, d1, d2⟩ := k4 i (by omega)
      have d3 : (h 55 i).toNat = d := by rw [d1]; simp
      refine ⟨DS_up (k6 i hi).1 (fun a h1 h2 => x1 a ?_), (k6 i hi).2⟩
      rw [d3] at h1 h2
      unfold kk_p at d2
      omega
  · refine ⟨⟨by rw [x2, f10]; exact s1, by rw [f10]; exact s2, by rw [f10]; exact s3⟩, ?_⟩
    intro i hi
    rw [f10] at hi
    rw [x1 80 (by omega), x1 81 (by omega), e7]
    exact s4 i hi
theorem AG_q {h g h2 g2 : mm_H} {v : Nat} {ox om : Option mm_R} {r : Int} (hr : Rel h g v) (h1 : ox = some (some (mm_i r), h2)) (h2' : om = some (some (mm_i r), g2)) (hx : QX v h h2) (hm : QM g g2) : AG ox om := ⟨r, h2, g2, v, h1, h2', Rel_Q hr hx hm⟩
theorem AG_0 {h g : mm_H} {v : Nat} {ox om : Option mm_R} {r : Int} (hr : Rel h g v) (h1 : ox = some (some (mm_i r), h)) (h2 : om = some (some (mm_i r), g)) : AG ox om := ⟨r, h, g, v, h1, h2, hr⟩
theorem Rel.v {h g : mm_H} {v : Nat} (hr : Rel h g v) : (h 0 2).toNat = v := by rw [hr.1.1]; simp
theorem Rel.V {h g : mm_H} {v : Nat} (hr : Rel h g v) : VL h v (g 2) := hr.2.1
theorem Rel.T {h g : mm_H} {v : Nat} (hr : Rel h g v) : TR h 26 (g 2) (g 4) := ⟨Or.inl rfl, hr.2.2.2.2.1.1, fun k hk => (hr.2.2.2.1.1 k hk).1⟩
theorem Rel.M {h g : mm_H} {v : Nat} (hr : Rel h g v) : MV g := ⟨hr.2.1.2.1, hr.2.1.2.2.1, hr.2.2.2.2.1.1⟩
theorem Rel.D {h g : mm_H} {v : Nat} (hr : Rel h g v) : DS h 25 (g 2) (g 4) := hr.2.2.2.1
theorem Rel.S {h g : mm_H} {v : Nat} (hr : Rel h g v) : SM (g 2) (g 4) := hr.2.2.2.2.1
theorem op_sky {h g : mm_H} {v : Nat} (hr : Rel h g v) (y : Int) : AG (ex 72 0 [mm_r 0, mm_i y] [] h) (em 24 0 [mm_r 0, mm_i y] [] g) := by
  by_cases c : 0 ≤ y ∧ y < 24
  · refine AG_0 (r := sk_f (g 2) (g 4) y) hr ?_ ?_
    · rw [sg_X10_sky_0]
      refine mm_bi (X_isYard_t c h) ?_
      refine (sg_X10_sky_4 _ _ h).trans ?_
      rw [if_neg (by omega), hr.v, sg_X10_sky_11 hr.V.1]
      refine mm_bi (X_low hr.V hr.T c) ?_
      exact (sg_X10_sky_22 _ _ h).trans (sg_X10_sky_26 _ _ h)
    · rw [sg_X11_sky_0]
      refine mm_bi (M_isYard_t c g) ?_
      refine (sg_X11_sky_4 _ _ g).trans ?_
      rw [if_neg (by omega)]
      refine mm_bi (M_sky hr.M c) ?_
      exact (sg_X11_sky_12 _ _ g).trans (sg_X11_sky_16 _ _ g)
  · refine AG_0 (r := -1) hr ?_ ?_
    · rw [sg_X10_sky_0]
      refine mm_bi (X_isYard_f c h) ?_
      refine (sg_X10_sky_4 _ _ h).trans ?_
      rw [if_pos rfl]
      exact sg_X10_sky_26 _ _ h
    · rw [sg_X11_sky_0]
      refine mm_bi (M_isYard_f c g) ?_
      refine (sg_X11_sky_4 _ _ g).trans ?_
      rw [if_pos rfl]
      exact sg_X11_sky_16 _ _ g
theorem op_light {h g : mm_H} {v : Nat} (hr : Rel h g v) (y : Int) : AG (ex 73 0 [mm_r 0, mm_i y] [] h) (em 25 0 [mm_r 0, mm_i y] [] g) := by
  by_cases c : 0 ≤ y ∧ y < 24
  · refine AG_0 (r := lf_f (sk_f (g 2) (g 4) y)) hr ?_ ?_
    · rw [sg_X10_light_0]
      refine mm_bi (X_isYard_t c h) ?_
      refine (sg_X10_light_4 _ _ h).trans ?_
      rw [if_neg (by omega), hr.v, sg_X10_light_11 hr.V.1]
      refine mm_bi (X_lightOver hr.V hr.T c) ?_
      exact (sg_X10_light_22 _ _ h).trans (sg_X10_light_26 _ _ h)
    · rw [sg_X11_light_0]
      refine mm_bi (M_isYard_t c g) ?_
      refine (sg_X11_light_4 _ _ g).trans ?_
      rw [if_neg (by omega)]
      refine mm_bi (M_sky hr.M c) ?_
      refine (sg_X11_light_12 _ _ g).trans ?_
      refine mm_bi (M_lightOf (sk_b hr.M.1 hr.M.2.1 hr.M.2.2 _) g) ?_
      exact (sg_X11_light_15 _ _ g).trans (sg_X11_light_19 _ _ g)
  · refine AG_0 (r := -1) hr ?_ ?_
    · rw [sg_X10_light_0]
      refine mm_bi (X_isYard_f c h) ?_
      refine (sg_X10_light_4 _ _ h).trans ?_
      rw [if_pos rfl]
      exact sg_X10_light_26 _ _ h
    · rw [sg_X11_light_0]
      refine mm_bi (M_isYard_f c g) ?_
      refine (sg_X11_light_4 _ _ g).trans ?_
      rw [if_pos rfl]
      exact sg_X11_light_19 _ _ g
theorem op_met {h g : mm_H} {v : Nat} (hr : Rel h g v) : AG (ex 77 0 [mm_r 0] [] h) (em 32 0 [mm_r 0, mm_u, mm_u] [] g) := by
  refine AG_0 (r := mt_f (g 2) (g 4) (g 2 1).toNat) hr ?_ (M_met hr.M)
  rw [sg_X10_met_0, hr.v, sg_X10_met_4 hr.V.1]
  refine mm_bi (X_metBits hr.V hr.T) ?_
  exact sg_X10_met_14 _ h
theorem X_hasRope_t {h : mm_H} {v : Nat} {R : Nat → Int} {k : Int} (hV : VL h v R) (q : 0 ≤ k ∧ k < R 0) : ex 57 0 [mm_r v, mm_i k] [] h = some (some (mm_i 1), h) := by
  rw [sg_X9_hasRope_0 hV.1, if_neg (by omega), hV.2.2.2.1.1.1, if_pos (by omega), sg_X9_hasRope_17 hV.1, if_pos (Or.inr rfl)]
theorem X_hasRope_f {h : mm_H} {v : Nat} {R : Nat → Int} {k : Int} (hV : VL h v R) (q : ¬ (0 ≤ k ∧ k < R 0)) : ex 57 0 [mm_r v, mm_i k] [] h = some (some (mm_i 0), h) := by
  rw [sg_X9_hasRope_0 hV.1]
  split
  · rw [sg_X9_hasRope_16 hV.1, sg_X9_hasRope_17 hV.1, if_pos (Or.inl rfl)]
  · rw [hV.2.2.2.1.1.1, if_neg (by omega), sg_X9_hasRope_16 hV.1, sg_X9_hasRope_17 hV.1, if_pos (Or.inl rfl)]
theorem op_rope {h g : mm_H} {v : Nat} (hr : Rel h g v) (k w : Int) : AG (ex 71 0 [mm_r 0, mm_i k, mm_i w] [] h) (em 20 0 [mm_r 0, mm_i k, mm_i w] [] g) := by
  have hn := hr.M.1.n
  by_cases c : 0 ≤ k ∧ k < g 2 0
  · have ey := hr.V.2.2.2.1.2.1 k.toNat (by omega)
    have ed := hr.D.1 k.toNat (by omega)
    have h1 : ex 71 0 [mm_r 0, mm_i k, mm_i w] [] h = ex 71 8 [mm_r 0, mm_i k, mm_i w] [mm_i 1] h := by
      rw [sg_X10_rope_0, hr.v, sg_X10_rope_4 hr.V.1]
      exact mm_bi (X_hasRope_t hr.V c) rfl
    have h2 : em 20 0 [mm_r 0, mm_i k, mm_i w] [] g = em 20 5 [mm_r 0, mm_i k, mm_i w] [mm_i 1] g := by
      rw [sg_X11_rope_0]
      exact mm_bi (M_isRope_t hn c) rfl
    rw [h1, h2]
    by_cases c2 : 0 ≤ w ∧ w ≤ 3
    · have h3 : em 20 5 [mm_r 0, mm_i k, mm_i w] [mm_i 1] g = em 20 14 [mm_r 0, mm_i k, mm_i w] [mm_i 1] g := by
        rw [sg_X11_rope_5, if_neg (by decide)]
        exact mm_bi (M_in_t c2 g) rfl
      rw [h3]
      rcases (show w = 0 ∨ w = 1 ∨ w = 2 ∨ w = 3 by omega) with rfl | rfl | rfl | rfl
      · refine AG_0 (r := g 2 (5 + k.toNat)) hr ?_ ?_
        · rw [sg_X10_rope_8, if_neg (by decide), if_pos rfl, hr.v, sg_X10_rope_48 hr.V.1, if_pos (by omega), ey.1]
        · rw [sg_X11_rope_14, if_neg (by decide), if_pos (by decide), z_mul (by omega) (by omega), z_add (a := 5) (by omega) (by omega), z_add (by omega) (by omega), if_pos (by omega), show (5 + 5 * 0 + k).toNat = 5 + k.toNat by omega, sg_X11_rope_61]
      · refine AG_0 (r := g 2 (10 + k.toNat)) hr ?_ ?_
        · rw [sg_X10_rope_8, if_neg (by decide), if_neg (by decide), if_pos rfl, hr.v, sg_X10_rope_58 hr.V.1, if_pos (by omega), ey.2.1]
        · rw [sg_X11_rope_14, if_neg (by decide), if_pos (by decide), z_mul (by omega) (by omega), z_add (a := 5) (by omega) (by omega), z_add (by omega) (by omega), if_pos (by omega), show (5 + 5 * 1 + k).toNat = 10 + k.toNat by omega, sg_X11_rope_61]
      · refine AG_0 (r := g 4 (5 + k.toNat)) hr ?_ ?_
        · rw [sg_X10_rope_8, if_neg (by decide), if_neg (by decide), if_neg (by decide), if_pos rfl, if_pos (by omega)]
          show some (some (mm_i (h (25 + 2) k.toNat)), h) = _
          rw [ed.2]
        · rw [sg_X11_rope_14, if_neg (by decide), if_neg (by decide), if_pos rfl, z_add (by omega) (by omega), if_pos (by omega), show (5 + k).toNat = 5 + k.toNat by omega, sg_X11_rope_61]
      · refine AG_0 (r := g 4 k.toNat) hr ?_ ?_
        · rw [sg_X10_rope_8, if_neg (by decide), if_neg (by decide), if_neg (by decide), if_neg (by decide), if_pos rfl, if_pos (by omega)]
          show some (some (mm_i (h (25 + 1) k.toNat)), h) = _
          rw [ed.1]
        · rw [sg_X11_rope_14, if_neg (by decide), if_neg (by decide), if_neg (by decide), if_pos (by omega), sg_X11_rope_61]
    · refine AG_0 (r := -1) hr ?_ ?_
      · rw [sg_X10_rope_8, if_neg (by decide), if_neg (by omega), if_neg (by omega), if_neg (by omega), if_neg (by omega)]
      · rw [sg_X11_rope_5, if_neg (by decide)]
        refine mm_bi (M_in_f c2 g) ?_
        exact (sg_X11_rope_14 _ _ _ g).trans ((if_pos rfl).trans (sg_X11_rope_17 _ _ g))
  · refine AG_0 (r := -1) hr ?_ ?_
    · rw [sg_X10_rope_0, hr.v, sg_X10_rope_4 hr.V.1]
      refine mm_bi (X_hasRope_f hr.V c) ?_
      exact (sg_X10_rope_8 _ _ _ h).trans (if_pos rfl)
    · rw [sg_X11_rope_0]
      refine mm_bi (M_isRope_f hn c) ?_
      exact (sg_X11_rope_5 _ _ _ g).trans ((if_pos rfl).trans (sg_X11_rope_17 _ _ g))
theorem op_spent {h g : mm_H} {v : Nat} (hr : Rel h g v) (w : Int) : AG (ex 90 0 [mm_r 0, mm_i w] [] h) (em 50 0 [mm_r 0, mm_i w] [] g) := by
  by_cases c : 0 ≤ w ∧ w ≤ 1
  · refine AG_0 (r := if w = 0 then g 4 11 else g 4 10) hr ?_ ?_
    · rw [sg_X10_spent_0, if_neg (by omega), if_neg (by omega), hr.D.2.1, hr.D.2.2]
      simp only [sg_X10_spent_32]
      split <;> rfl
    · rw [sg_X11_spent_0]
      refine mm_bi (M_in_t c g) ?_
      refine (sg_X11_spent_6 _ _ g).trans ?_
      rw [if_neg (by decide)]
      simp only [sg_X11_spent_34]
      split <;> rfl
  · refine AG_0 (r := -1) hr ?_ ?_
    · rw [sg_X10_spent_0, sg_X10_spent_9]
      split
      · rfl
      · rw [if_pos (by omega)]
    · rw [sg_X11_spent_0]
      refine mm_bi (M_in_f c g) ?_
      exact (sg_X11_spent_6 _ _ g).trans ((if_pos rfl).trans (sg_X11_spent_34 _ _ g))
theorem X_clSize (h : mm_H) : ex 6 0 [mm_r 79] [] h = some (some (mm_i (h 79 2)), h) := sg_X2_size_0 h
theorem X_skSize {sk : Nat} (hs : sk = 28 ∨ sk = 54) (h : mm_H) : ex 38 0 [mm_r sk] [] h = some (some (mm_i (h sk 1)), h) := sg_X7_size_0 hs h
theorem X_txLen (h : mm_H) : ex 47 0 [mm_r 1] [] h = some (some (mm_i (h 1 1)), h) := sg_X8_length_0 h
theorem op_count {h g : mm_H} {v : Nat} (hr : Rel h g v) (w : Int) : AG (ex 94 0 [mm_r 0, mm_i w] [] h) (em 54 0 [mm_r 0, mm_i w] [] g) := by
  obtain ⟨-, r3, ⟨r4, -, -⟩, -, -, ⟨⟨u1, -, -⟩, -⟩, ⟨⟨k1, -, -⟩, -⟩, ⟨⟨s1, -, -⟩, -⟩⟩ := id hr
  obtain ⟨w1, w2, w3, -⟩ := r3.2.2.2.1.1
  rw [sg_X10_count_0, sg_X11_count_0, hr.v, sg_X10_count_48 r3.1, sg_X10_count_56 r3.1, sg_X10_count_64 r3.1, X_clSize, X_skSize (Or.inl rfl), X_skSize (Or.inr rfl), X_txLen]
  show AG (if w = 0 then _ else if w = 1 then _ else if w = 2 then _ else if w = 3 then ex 94 75 [mm_r 0, mm_i w] [mm_i (h 79 2)] h else if w = 4 then ex 94 83 [mm_r 0, mm_i w] [mm_i (h 28 1)] h else if w = 5 then ex 94 91 [mm_r 0, mm_i w] [mm_i (h 54 1)] h else if w = 6 then ex 94 99 [mm_r 0, mm_i w] [mm_i (h 1 1)] h else _) _
  rw [sg_X10_count_75, sg_X10_count_83, sg_X10_count_91, sg_X10_count_99, w1, w2, w3, s1, u1, k1, r4]
  split
  · exact AG_0 hr rfl rfl
  · split
    · exact AG_0 hr rfl rfl
    · split
      · exact AG_0 hr rfl rfl
      · split
        · exact AG_0 hr rfl rfl
        · split
          · exact AG_0 hr rfl rfl
          · split
            · exact AG_0 hr rfl rfl
            · split
              · exact AG_0 hr rfl rfl
              · exact AG_0 hr rfl rfl
