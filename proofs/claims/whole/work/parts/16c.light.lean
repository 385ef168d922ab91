/-! ===== light, wants, nights ===== -/
theorem X_isYard_f {y : Int} (q : ¬ (0 ≤ y ∧ y < 24)) (h : mm_H) : ex 95 0 [mm_i y] [] h = some (some (mm_i 0), h) := by
  rw [sg_X10_isYard_0]
  split
  · rw [sg_X10_isYard_14, sg_X10_isYard_15, if_pos (Or.inl rfl)]
  · rw [if_neg (by omega), sg_X10_isYard_14, sg_X10_isYard_15, if_pos (Or.inl rfl)]
theorem X_isLight_t {y : Int} (q : 0 ≤ y ∧ y ≤ 3) (h : mm_H) : ex 96 0 [mm_i y] [] h = some (some (mm_i 1), h) := by
  rw [sg_X10_isLight_0, if_neg (by omega), if_neg (by omega), sg_X10_isLight_14, if_pos (Or.inr rfl)]
theorem X_isLight_f {y : Int} (q : ¬ (0 ≤ y ∧ y ≤ 3)) (h : mm_H) : ex 96 0 [mm_i y] [] h = some (some (mm_i 0), h) := by
  rw [sg_X10_isLight_0]
  split
  · rw [sg_X10_isLight_13, sg_X10_isLight_14, if_pos (Or.inl rfl)]
  · rw [if_pos (by omega), sg_X10_isLight_13, sg_X10_isLight_14, if_pos (Or.inl rfl)]
theorem X_isLowness_t {y : Int} (q : 0 ≤ y ∧ y ≤ 40) (h : mm_H) : ex 97 0 [mm_i y] [] h = some (some (mm_i 1), h) := by
  rw [sg_X10_isLowness_0, if_neg (by omega), if_neg (by omega), sg_X10_isLowness_15, if_pos (Or.inr rfl)]
theorem X_isLowness_f {y : Int} (q : ¬ (0 ≤ y ∧ y ≤ 40)) (h : mm_H) : ex 97 0 [mm_i y] [] h = some (some (mm_i 0), h) := by
  rw [sg_X10_isLowness_0]
  split
  · rw [sg_X10_isLowness_14, sg_X10_isLowness_15, if_pos (Or.inl rfl)]
  · rw [if_pos (by omega), sg_X10_isLowness_14, sg_X10_isLowness_15, if_pos (Or.inl rfl)]
/-- kept within 0 and 40 -/
def cl_f (x : Int) : Int := if x < 0 then 0 else if 40 < x then 40 else x
theorem cl_b (x : Int) : 0 ≤ cl_f x ∧ cl_f x ≤ 40 := by unfold cl_f; split; omega; split <;> omega
theorem cl_id {x : Int} (h : 0 ≤ x ∧ x ≤ 40) : cl_f x = x := by unfold cl_f; rw [if_neg (by omega), if_neg (by omega)]
theorem X_within (x : Int) (h : mm_H) : ex 98 0 [mm_i x] [] h = some (some (mm_i (cl_f x)), h) := by
  rw [sg_X10_within_0]
  have e : (if 0 < (if x < 40 then x else 40) then (if x < 40 then x else 40) else 0) = cl_f x := by
    unfold cl_f
    by_cases c1 : x < 40
    · rw [if_pos c1]
      by_cases c2 : 0 < x
      · rw [if_pos c2, if_neg (by omega), if_neg (by omega)]
      · rw [if_neg c2]
        by_cases c3 : x < 0
        · rw [if_pos c3]
        · rw [if_neg c3, if_neg (by omega)]; omega
    · rw [if_neg c1, if_pos (by omega), if_neg (by omega)]
      by_cases c3 : 40 < x
      · rw [if_pos c3]
      · rw [if_neg c3]; omega
  rw [e]
/-- a valley of the class, against a row of the model -/
def VR (h : mm_H) (v : Nat) (R : Nat → Int) : Prop := (h v 0 = R 0 ∧ h v 1 = R 1 ∧ h v 2 = R 2 ∧ h v 10 = R 3 ∧ h v 11 = R 4) ∧ (∀ k : Nat, (k : Int) < R 0 → h (v + 1) k = R (5 + k) ∧ h (v + 2) k = R (10 + k) ∧ h (v + 3) k = R (15 + k) ∧ h (v + 4) k = R (20 + k)) ∧ (∀ j : Nat, (j : Int) < R 1 → h (v + 5) j = R (25 + j) ∧ h (v + 6) j = R (33 + j)) ∧ (∀ j : Nat, (j : Int) < R 2 → h (v + 7) j = R (41 + j))
/-- a valley that is laid -/
def VL (h : mm_H) (v : Nat) (R : Nat → Int) : Prop := (v = 5 ∨ v = 15) ∧ VM R ∧ 1 ≤ R 0 ∧ VR h v R ∧ NB h v R
def TR (h : mm_H) (t : Nat) (R S : Nat → Int) : Prop := (t = 26 ∨ t = 64 ∨ t = 69 ∨ t = 83) ∧ SK R S ∧ ∀ k : Nat, (k : Int) < R 0 → h t k = S k
theorem VR_up {h h2 : mm_H} {v : Nat} {R : Nat → Int} (q : VR h v R) (e : ∀ a, v ≤ a → a ≤ v + 9 → h2 a = h a) : VR h2 v R := by
  obtain ⟨⟨q1, q2, q3, q4, q5⟩, q6, q7, q8⟩ := q
  refine ⟨⟨?_, ?_, ?_, ?_, ?_⟩, fun k hk => ?_, fun j hj => ?_, fun j hj => ?_⟩
  · rw [e v (by omega) (by omega)]; exact q1
  · rw [e v (by omega) (by omega)]; exact q2
  · rw [e v (by omega) (by omega)]; exact q3
  · rw [e v (by omega) (by omega)]; exact q4
  · rw [e v (by omega) (by omega)]; exact q5
  · rw [e (v + 1) (by omega) (by omega), e (v + 2) (by omega) (by omega), e (v + 3) (by omega) (by omega), e (v + 4) (by omega) (by omega)]; exact q6 k hk
  · rw [e (v + 5) (by omega) (by omega), e (v + 6) (by omega) (by omega)]; exact q7 j hj
  · rw [e (v + 7) (by omega) (by omega)]; exact q8 j hj
theorem NB_up {h h2 : mm_H} {v : Nat} {R : Nat → Int} (q : NB h v R) (e : ∀ a, v ≤ a → a ≤ v + 9 → h2 a = h a) : NB h2 v R := by
  intro y hy
  rw [e (v + 8) (by omega) (by omega), e (v + 9) (by omega) (by omega)]
  exact q y hy
theorem VL_up {h h2 : mm_H} {v : Nat} {R : Nat → Int} (q : VL h v R) (e : ∀ a, v ≤ a → a ≤ v + 9 → h2 a = h a) : VL h2 v R := ⟨q.1, q.2.1, q.2.2.1, VR_up q.2.2.2.1 e, NB_up q.2.2.2.2 e⟩
theorem TR_up {h h2 : mm_H} {t : Nat} {R S : Nat → Int} (q : TR h t R S) (e : h2 t = h t) : TR h2 t R S := ⟨q.1, q.2.1, fun k hk => by rw [e]; exact q.2.2 k hk⟩
theorem X_low {h : mm_H} {v t : Nat} {R S : Nat → Int} {y : Int} (hV : VL h v R) (hT : TR h t R S) (hy : 0 ≤ y ∧ y < 24) : ex 61 0 [mm_r v, mm_r t, mm_i y, mm_u, mm_u, mm_u] [] h = some (some (mm_i (sk_f R S y)), h) :=
  X_lowness hV.1 hT.1 hV.2.1 hV.2.2.1 hT.2.1 hy hV.2.2.2.1.1.1 hV.2.2.2.2 (fun k hk => (hV.2.2.2.1.2.1 k hk).1) hT.2.2
theorem X_lightOver {h : mm_H} {v t : Nat} {R S : Nat → Int} {y : Int} (hV : VL h v R) (hT : TR h t R S) (hy : 0 ≤ y ∧ y < 24) : ex 62 0 [mm_r v, mm_r t, mm_i y] [] h = some (some (mm_i (lf_f (sk_f R S y))), h) := by
  rw [sg_X9_lightOver_0 hV.1 hT.1]
  refine mm_bi (X_low hV hT hy) ?_
  refine (sg_X9_lightOver_6 hV.1 hT.1 _ _ h).trans ?_
  refine mm_bi (X_lightAt (sk_b hV.2.1 hV.2.2.1 hT.2.1 y) h) ?_
  exact sg_X9_lightOver_9 hV.1 hT.1 _ _ h
/-- want j is met -/
abbrev mt_p (R S : Nat → Int) (j : Nat) : Prop := lf_f (sk_f R S (R (25 + j))) = R (33 + j)
theorem X_isMet {h : mm_H} {v t : Nat} {R S : Nat → Int} {j : Int} (hV : VL h v R) (hT : TR h t R S) (hj : 0 ≤ j ∧ j < R 1) : ex 63 0 [mm_r v, mm_r t, mm_i j] [] h = some (some (mm_i (if mt_p R S j.toNat then 1 else 0)), h) := by
  have hw := hV.2.1.w
  have hw2 := hV.2.1.wt (j := j.toNat) (by omega)
  obtain ⟨e1, e2⟩ := hV.2.2.2.1.2.2.1 j.toNat (by omega)
  rw [sg_X9_isMet_0 hV.1 hT.1, if_pos (by omega), e1]
  refine mm_bi (X_lightOver hV hT hw2.1) ?_
  refine (sg_X9_isMet_11 hV.1 hT.1 _ _ h).trans ?_
  rw [if_pos (by omega), e2]
  simp only [sg_X9_isMet_25 hV.1 hT.1]
  split
  · exact if_pos (by simp)
  · exact if_pos (by simp)
def mt_f (R S : Nat → Int) : Nat → Int
  | 0 => 0
  | k + 1 => if mt_p R S k then mm_or (mt_f R S k) (mm_shl 1 k) else mt_f R S k
theorem mt_s (R S : Nat → Int) (k : Nat) : mt_f R S (k + 1) = if mt_p R S k then mm_or (mt_f R S k) (mm_shl 1 k) else mt_f R S k := rfl
theorem mt_in (R S : Nat → Int) : ∀ k, mm_in (mt_f R S k)
  | 0 => mm_z_in
  | k + 1 => by
    unfold mt_f
    split
    · exact mm_toI _
    · exact mt_in R S k
theorem X_metBits_l {h : mm_H} {v t : Nat} {R S : Nat → Int} (hV : VL h v R) (hT : TR h t R S) : ∀ (m : Nat) (i : Int), 0 ≤ i → i + m = R 1 → ex 64 4 [mm_r v, mm_r t, mm_i (mt_f R S i.toNat), mm_i i] [] h = some (some (mm_i (mt_f R S (R 1).toNat)), h)
  | 0, i, h0, hi => by
    rw [sg_X9_metBits_4 hV.1 hT.1, hV.2.2.2.1.1.2.1, if_neg (by omega), show (R 1).toNat = i.toNat by omega]
  | m + 1, i, h0, hi => by
    have hw := hV.2.1.w
    rw [sg_X9_metBits_4 hV.1 hT.1, hV.2.2.2.1.1.2.1, if_pos (by omega)]
    refine mm_bi (X_isMet hV hT (by omega)) ?_
    refine (sg_X9_metBits_18 hV.1 hT.1 _ _ _ h).trans ?_
    simp only [sg_X9_metBits_27 hV.1 hT.1]
    have ih := X_metBits_l hV hT m (i + 1) (by omega) (by omega)
    rw [show (i + 1).toNat = i.toNat + 1 by omega] at ih
    rw [z_wr (by omega) (by omega)]
    rw [mt_s] at ih
    by_cases c : mt_p R S i.toNat
    · rw [if_pos c] at ih
      rw [if_pos c, if_neg (by omega)]
      rw [show ((i.toNat : Nat) : Int) = i by omega] at ih
      exact ih
    · rw [if_neg c] at ih
      rw [if_neg c, if_pos rfl]
      exact ih
theorem X_metBits {h : mm_H} {v t : Nat} {R S : Nat → Int} (hV : VL h v R) (hT : TR h t R S) : ex 64 0 [mm_r v, mm_r t, mm_u, mm_u] [] h = some (some (mm_i (mt_f R S (R 1).toNat)), h) := by
  rw [sg_X9_metBits_0 hV.1 hT.1]
  exact X_metBits_l hV hT (R 1).toNat 0 (by omega) (by have := hV.2.1.w; omega)
theorem z_or0 {x : Int} (h : mm_in x) : mm_or x 0 = x := by
  unfold mm_or
  rw [show Int32.ofInt 0 = 0 from rfl, Int32.or_zero, mm_to h]
/-- the model's valley and dusk -/
def MV (g : mm_H) : Prop := VM (g 2) ∧ 1 ≤ g 2 0 ∧ SK (g 2) (g 4)
theorem M_sky {g : mm_H} (hg : MV g) {y : Int} (hy : 0 ≤ y ∧ y < 24) : em 22 0 [mm_r 0, mm_i y, mm_u, mm_u, mm_u, mm_u] [] g = some (some (mm_i (sk_f (g 2) (g 4) y)), g) := M_skyOver hg.1 hg.2.1 hg.2.2 hy
theorem M_met_l {g : mm_H} (hg : MV g) : ∀ (m : Nat) (i : Int), 0 ≤ i → i + m = g 2 1 → em 32 4 [mm_r 0, mm_i (mt_f (g 2) (g 4) i.toNat), mm_i i] [] g = some (some (mm_i (mt_f (g 2) (g 4) (g 2 1).toNat)), g)
  | 0, i, h0, hi => by
    rw [sg_X11_met_4, if_neg (by omega), show (g 2 1).toNat = i.toNat by omega]
  | m + 1, i, h0, hi => by
    have hw := hg.1.w
    have hw2 := hg.1.wt (j := i.toNat) (by omega)
    rw [sg_X11_met_4, if_pos (by omega), z_add (a := 25) (by omega) (by omega), if_pos (by omega), show (25 + i).toNat = 25 + i.toNat by omega]
    refine mm_bi (M_sky hg hw2.1) ?_
    refine (sg_X11_met_28 _ _ _ _ g).trans ?_
    refine mm_bi (M_lightOf (sk_b hg.1 hg.2.1 hg.2.2 _) g) ?_
    refine (sg_X11_met_31 _ _ _ _ g).trans ?_
    rw [z_add (a := 33) (by omega) (by omega), if_pos (by omega), show (33 + i).toNat = 33 + i.toNat by omega]
    simp only [sg_X11_met_50]
    have ih := M_met_l hg m (i + 1) (by omega) (by omega)
    rw [show (i + 1).toNat = i.toNat + 1 by omega] at ih
    rw [z_wr (by omega) (by omega)]
    rw [mt_s] at ih
    by_cases c : mt_p (g 2) (g 4) i.toNat
    · rw [if_pos c] at ih
      rw [if_pos c]
      rw [show ((i.toNat : Nat) : Int) = i by omega] at ih
      exact ih
    · rw [if_neg c] at ih
      rw [if_neg c, z_or0 (mt_in _ _ _)]
      exact ih
theorem M_met {g : mm_H} (hg : MV g) : em 32 0 [mm_r 0, mm_u, mm_u] [] g = some (some (mm_i (mt_f (g 2) (g 4) (g 2 1).toNat)), g) := by
  rw [sg_X11_met_0]
  exact M_met_l hg (g 2 1).toNat 0 (by omega) (by have := hg.1.w; omega)
/-- how many of the first k yards have light u -/
def yd_f (R S : Nat → Int) (u : Int) : Nat → Int
  | 0 => 0
  | k + 1 => if lf_f (sk_f R S k) = u then yd_f R S u k + 1 else yd_f R S u k
theorem yd_s (R S : Nat → Int) (u : Int) (k : Nat) : yd_f R S u (k + 1) = if lf_f (sk_f R S k) = u then yd_f R S u k + 1 else yd_f R S u k := rfl
theorem yd_b (R S : Nat → Int) (u : Int) : ∀ k : Nat, 0 ≤ yd_f R S u k ∧ yd_f R S u k ≤ k
  | 0 => by simp [yd_f]
  | k + 1 => by
    have := yd_b R S u k
    unfold yd_f
    split <;> omega
theorem X_nights_l {h : mm_H} {v t : Nat} {R S : Nat → Int} (hV : VL h v R) (hT : TR h t R S) : ∀ (m : Nat) (i : Int), 0 ≤ i → i + m = 24 → ex 66 4 [mm_r v, mm_r t, mm_i (yd_f R S 3 i.toNat), mm_i i] [] h = some (some (mm_i (yd_f R S 3 24)), h)
  | 0, i, h0, hi => by
    rw [sg_X9_nights_4 hV.1 hT.1, if_neg (by omega), show i.toNat = 24 by omega]
  | m + 1, i, h0, hi => by
    rw [sg_X9_nights_4 hV.1 hT.1, if_pos (by omega)]
    refine mm_bi (X_lightOver hV hT (by omega)) ?_
    refine (sg_X9_nights_16 hV.1 hT.1 _ _ _ h).trans ?_
    simp only [sg_X9_nights_23 hV.1 hT.1]
    have hb := yd_b R S 3 i.toNat
    have ih := X_nights_l hV hT m (i + 1) (by omega) (by omega)
    rw [show (i + 1).toNat = i.toNat + 1 by omega] at ih
    rw [z_wr (x := i + 1) (by omega) (by omega)]
    rw [yd_s] at ih
    rw [show ((i.toNat : Nat) : Int) = i by omega] at ih
    by_cases c : lf_f (sk_f R S i) = 3
    · rw [if_pos c] at ih
      rw [if_pos c, z_wr (by omega) (by omega)]
      exact ih
    · rw [if_neg c] at ih
      rw [if_neg c]
      exact ih
theorem X_nights {h : mm_H} {v t : Nat} {R S : Nat → Int} (hV : VL h v R) (hT : TR h t R S) : ex 66 0 [mm_r v, mm_r t, mm_u, mm_u] [] h = some (some (mm_i (yd_f R S 3 24)), h) := by
  rw [sg_X9_nights_0 hV.1 hT.1]
  exact X_nights_l hV hT 24 0 (by omega) (by omega)
theorem M_yardsOf_l {g : mm_H} (hg : MV g) (u : Int) : ∀ (m : Nat) (i : Int), 0 ≤ i → i + m = 24 → em 33 4 [mm_r 0, mm_i u, mm_i (yd_f (g 2) (g 4) u i.toNat), mm_i i] [] g = some (some (mm_i (yd_f (g 2) (g 4) u 24)), g)
  | 0, i, h0, hi => by
    rw [sg_X11_yardsOf_4, if_neg (by omega), show i.toNat = 24 by omega]
  | m + 1, i, h0, hi => by
    rw [sg_X11_yardsOf_4, if_pos (by omega)]
    refine mm_bi (M_sky hg (by omega)) ?_
    refine (sg_X11_yardsOf_16 _ _ _ _ _ g).trans ?_
    refine mm_bi (M_lightOf (sk_b hg.1 hg.2.1 hg.2.2 _) g) ?_
    refine (sg_X11_yardsOf_19 _ _ _ _ _ g).trans ?_
    simp only [sg_X11_yardsOf_28]
    have hb := yd_b (g 2) (g 4) u i.toNat
    have ih := M_yardsOf_l hg u m (i + 1) (by omega) (by omega)
    rw [show (i + 1).toNat = i.toNat + 1 by omega] at ih
    rw [z_wr (x := i + 1) (by omega) (by omega)]
    rw [yd_s] at ih
    rw [show ((i.toNat : Nat) : Int) = i by omega] at ih
    by_cases c : lf_f (sk_f (g 2) (g 4) i) = u
    · rw [if_pos c] at ih
      rw [if_pos c, z_add (by omega) (by omega)]
      exact ih
    · rw [if_neg c] at ih
      rw [if_neg c, z_add (by omega) (by omega), Int.add_zero]
      exact ih
theorem M_yardsOf {g : mm_H} (hg : MV g) (u : Int) : em 33 0 [mm_r 0, mm_i u, mm_u, mm_u] [] g = some (some (mm_i (yd_f (g 2) (g 4) u 24)), g) := by
  rw [sg_X11_yardsOf_0]
  exact M_yardsOf_l hg u 24 0 (by omega) (by omega)
