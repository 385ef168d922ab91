/-! ===== hours told ahead ===== -/
theorem z_uu {α : Type} (f : Nat → α) (k : Nat) (v w : α) : mm_up (mm_up f k v) k w = mm_up f k w := by
  funext j
  unfold mm_up
  split <;> rfl
theorem z_ui {α : Type} (f : Nat → α) (k : Nat) : mm_up f k (f k) = f := by
  funext j
  unfold mm_up
  split
  · rename_i e; rw [e]
  · rfl
theorem z_uc {α : Type} (f : Nat → α) {k j : Nat} (v w : α) (e : k ≠ j) : mm_up (mm_up f k v) j w = mm_up (mm_up f j w) k v := by
  funext i
  unfold mm_up
  split
  · rename_i e1
    split
    · rename_i e2; exact absurd (e2.symm.trans e1) e
    · rfl
  · rfl
/-- the first k of a, the rest of b -/
def cc_f (a b : Nat → Int) (k j : Nat) : Int := if j < k then a j else b j
theorem cc_up (a b : Nat → Int) (k : Nat) : mm_up (cc_f a b k) k (a k) = cc_f a b (k + 1) := by
  funext j
  unfold mm_up cc_f
  by_cases e : j = k
  · subst e; rw [if_pos rfl, if_pos (by omega)]
  · rw [if_neg e]
    by_cases c : j < k
    · rw [if_pos c, if_pos (by omega)]
    · rw [if_neg c, if_neg (by omega)]
theorem cc_0 (a b : Nat → Int) : cc_f a b 0 = b := by funext j; exact if_neg (by omega)
theorem cc_in {a b : Nat → Int} {k j : Nat} (h : j < k) : cc_f a b k j = a j := if_pos h
theorem cc_out {a b : Nat → Int} {k j : Nat} (h : ¬ j < k) : cc_f a b k j = b j := if_neg h
theorem M_holds_l (g : mm_H) : ∀ (m : Nat) (i : Int), 0 ≤ i → i + m = 12 → em 35 2 [mm_r 0, mm_i i] [] (mm_up g 9 (cc_f (g 4) (g 9) i.toNat)) = some (none, mm_up g 9 (cc_f (g 4) (g 9) 12))
  | 0, i, h0, hi => by rw [sg_X11_holds_2, if_neg (by omega), show i.toNat = 12 by omega]
  | m + 1, i, h0, hi => by
    rw [sg_X11_holds_2, if_pos (by omega), if_pos (by omega), if_pos (by omega), z_wr (by omega) (by omega)]
    have ih := M_holds_l g m (i + 1) (by omega) (by omega)
    rw [show (i + 1).toNat = i.toNat + 1 by omega, ← cc_up] at ih
    rw [← ih]
    unfold mm_st
    rw [z_up, z_un (k := 9) (j := 4) _ _ (by decide), z_uu]
theorem M_holds (g : mm_H) : em 35 0 [mm_r 0, mm_u] [] g = some (none, mm_up g 9 (cc_f (g 4) (g 9) 12)) := by
  rw [sg_X11_holds_0]
  have := M_holds_l g 12 0 (by omega) (by omega)
  rw [show (0 : Int).toNat = 0 from rfl, cc_0, z_ui] at this
  exact this
theorem M_lets_l (g : mm_H) : ∀ (m : Nat) (i : Int), 0 ≤ i → i + m = 12 → em 36 2 [mm_r 0, mm_i i] [] (mm_up g 4 (cc_f (g 9) (g 4) i.toNat)) = some (none, mm_up g 4 (cc_f (g 9) (g 4) 12))
  | 0, i, h0, hi => by rw [sg_X11_lets_2, if_neg (by omega), show i.toNat = 12 by omega]
  | m + 1, i, h0, hi => by
    rw [sg_X11_lets_2, if_pos (by omega), if_pos (by omega), if_pos (by omega), z_wr (by omega) (by omega)]
    have ih := M_lets_l g m (i + 1) (by omega) (by omega)
    rw [show (i + 1).toNat = i.toNat + 1 by omega, ← cc_up] at ih
    rw [← ih]
    unfold mm_st
    rw [z_up, z_un (k := 4) (j := 9) _ _ (by decide), z_uu]
theorem M_lets (g : mm_H) : em 36 0 [mm_r 0, mm_u] [] g = some (none, mm_up g 4 (cc_f (g 9) (g 4) 12)) := by
  rw [sg_X11_lets_0]
  have := M_lets_l g 12 0 (by omega) (by omega)
  rw [show (0 : Int).toNat = 0 from rfl, cc_0, z_ui] at this
  exact this
/-- the model while it looks ahead: its dusk is S, what it holds is its own -/
def hd_f (g : mm_H) (S : Nat → Int) : mm_H := mm_up (mm_up g 9 (cc_f (g 4) (g 9) 12)) 4 S
theorem hd_4 (g : mm_H) (S : Nat → Int) : hd_f g S 4 = S := z_up _ _ _
theorem hd_9 (g : mm_H) (S : Nat → Int) : hd_f g S 9 = cc_f (g 4) (g 9) 12 := by unfold hd_f; rw [z_un _ _ (by decide), z_up]
theorem hd_o (g : mm_H) (S : Nat → Int) {a : Nat} (h1 : a ≠ 4) (h2 : a ≠ 9) : hd_f g S a = g a := by unfold hd_f; rw [z_un _ _ h1, z_un _ _ h2]
theorem hd_up (g : mm_H) (S S2 : Nat → Int) : mm_up (hd_f g S) 4 S2 = hd_f g S2 := z_uu _ _ _ _
theorem hd_0 (g : mm_H) : mm_up g 9 (cc_f (g 4) (g 9) 12) = hd_f g (g 4) := by
  unfold hd_f
  conv => rhs; rw [show g 4 = (mm_up g 9 (cc_f (g 4) (g 9) 12)) 4 from (z_un _ _ (by decide)).symm]
  exact (z_ui _ 4).symm
theorem hd_let {g : mm_H} {S : Nat → Int} (h : ∀ j, 12 ≤ j → S j = g 4 j) : mm_up (hd_f g S) 4 (cc_f (hd_f g S 9) (hd_f g S 4) 12) = hd_f g (g 4) := by
  rw [hd_up, hd_9, hd_4]
  congr 1
  funext j
  by_cases c : j < 12
  · rw [cc_in c, cc_in c]
  · rw [cc_out c]; exact h j (by omega)
theorem M_let {g : mm_H} {S : Nat → Int} (h : ∀ j, 12 ≤ j → S j = g 4 j) : em 36 0 [mm_r 0, mm_u] [] (hd_f g S) = some (none, hd_f g (g 4)) := by rw [M_lets, hd_let h]
theorem M_hold (g : mm_H) : em 35 0 [mm_r 0, mm_u] [] g = some (none, hd_f g (g 4)) := by rw [M_holds, hd_0]
theorem QM_hd (g : mm_H) : QM g (hd_f g (g 4)) := by
  refine ⟨fun a ha => ?_, fun j hj => by rw [hd_o _ _ (by decide) (by decide)]⟩
  by_cases e : a = 4
  · subst e; exact hd_4 _ _
  · exact hd_o _ _ e (by omega)
theorem gs_o {R S : Nat → Int} (hR : VM R) (dn up : Int) {j : Nat} (h : 12 ≤ j) : gs_f R S dn up j = S j := by
  have := hR.n
  unfold gs_f gk_f
  rw [if_neg (by omega), if_neg (by omega), if_neg (by omega)]
theorem M_go {g : mm_H} {S : Nat → Int} (hR : VM (g 2)) (hS : SB (g 2) S) (dn up : Int) (hh : S 10 ≤ 999) : em 28 0 [mm_r 0, mm_i dn, mm_i up, mm_u, mm_u] [] (hd_f g S) = some (some (mm_i (co_f (g 2) dn up)), hd_f g (gs_f (g 2) S dn up)) := by
  have e2 : hd_f g S 2 = g 2 := hd_o _ _ (by decide) (by decide)
  have := M_goes (g := hd_f g S) (by rw [e2]; exact hR) (by rw [e2, hd_4]; exact hS) dn up (by rw [hd_4]; exact hh)
  rw [e2, hd_4, hd_up] at this
  exact this
theorem MV_hd {g : mm_H} {S : Nat → Int} (hg : MV g) (hS : SK (g 2) S) : MV (hd_f g S) := by
  have e2 : hd_f g S 2 = g 2 := hd_o _ _ (by decide) (by decide)
  refine ⟨by rw [e2]; exact hg.1, by rw [e2]; exact hg.2.1, by rw [e2, hd_4]; exact hS⟩
/-! the class -/
def BP (d e : Nat) : Prop := (d = 63 ∧ e = 25) ∨ (d = 30 ∧ e = 25) ∨ (d = 33 ∧ e = 25) ∨ (d = 36 ∧ e = 25) ∨ (d = 39 ∧ e = 25) ∨ (d = 42 ∧ e = 25) ∨ (d = 45 ∧ e = 25) ∨ (d = 48 ∧ e = 25) ∨ (d = 51 ∧ e = 25) ∨ (d = 56 ∧ e = 25) ∨ (d = 59 ∧ e = 25) ∨ (d = 25 ∧ e = 30) ∨ (d = 25 ∧ e = 33) ∨ (d = 25 ∧ e = 36) ∨ (d = 25 ∧ e = 39) ∨ (d = 25 ∧ e = 42) ∨ (d = 25 ∧ e = 45) ∨ (d = 25 ∧ e = 48) ∨ (d = 25 ∧ e = 51) ∨ (d = 25 ∧ e = 56) ∨ (d = 25 ∧ e = 59)
theorem BP_a {d e : Nat} (h : BP d e) : d + 2 < e ∨ e + 2 < d := by unfold BP at h; omega
def bc_f (h : mm_H) (d e k : Nat) : mm_H := mm_up (mm_up h (d + 1) (cc_f (h (e + 1)) (h (d + 1)) k)) (d + 2) (cc_f (h (e + 2)) (h (d + 2)) k)
theorem bc_1 (h : mm_H) (d e k : Nat) : bc_f h d e k (d + 1) = cc_f (h (e + 1)) (h (d + 1)) k := by unfold bc_f; rw [z_un _ _ (by omega), z_up]
theorem bc_2 (h : mm_H) (d e k : Nat) : bc_f h d e k (d + 2) = cc_f (h (e + 2)) (h (d + 2)) k := z_up _ _ _
theorem bc_o (h : mm_H) (d e k : Nat) {a : Nat} (h1 : a ≠ d + 1) (h2 : a ≠ d + 2) : bc_f h d e k a = h a := by unfold bc_f; rw [z_un _ _ h2, z_un _ _ h1]
theorem X_become_l {h : mm_H} {d e : Nat} (hp : BP d e) : ∀ (m : Nat) (i : Int), 0 ≤ i → i + m = 5 → ex 15 2 [mm_r d, mm_r e, mm_i i] [] (bc_f h d e i.toNat) = some (none, mm_st (mm_st (bc_f h d e 5) d 2 (h e 2)) d 3 (h e 3))
  | 0, i, h0, hi => by
    have ha := BP_a hp
    rw [sg_X3_become_2 hp, if_neg (by omega), show i.toNat = 5 by omega, z_sc _ _ (by omega), bc_o _ _ _ _ (by omega) (by omega)]
  | m + 1, i, h0, hi => by
    have ha := BP_a hp
    rw [sg_X3_become_2 hp, if_pos (by omega), if_pos (by omega), if_pos (by omega), if_pos (by omega), if_pos (by omega), z_wr (by omega) (by omega)]
    have ih := X_become_l (h := h) hp m (i + 1) (by omega) (by omega)
    rw [show (i + 1).toNat = i.toNat + 1 by omega] at ih
    rw [← ih]
    congr 1
    rw [bc_o _ _ _ _ (a := e + 1) (by omega) (by omega), z_sc _ _ (by omega), bc_o _ _ _ _ (a := e + 2) (by omega) (by omega)]
    funext a
    by_cases e2 : a = d + 2
    · subst e2
      rw [z_sr, z_sc _ _ (by omega), bc_2, bc_2, cc_up]
    · rw [z_sc _ _ e2]
      by_cases e1 : a = d + 1
      · subst e1
        rw [z_sr, bc_1, bc_1, cc_up]
      · rw [z_sc _ _ e1, bc_o _ _ _ _ e1 e2, bc_o _ _ _ _ e1 e2]
def DT (h : mm_H) (d : Nat) (R S : Nat → Int) : Prop := (∀ k : Nat, (k : Int) < R 0 → h (d + 1) k = S k ∧ h (d + 2) k = S (5 + k)) ∧ h d 2 = S 10
theorem X_become {d e : Nat} (hp : BP d e) (h : mm_H) : ∃ h2, ex 15 0 [mm_r d, mm_r e, mm_u] [] h = some (none, h2) ∧ (∀ a, ¬ (d ≤ a ∧ a ≤ d + 2) → h2 a = h a) ∧ (∀ k, k < 5 → h2 (d + 1) k = h (e + 1) k ∧ h2 (d + 2) k = h (e + 2) k) ∧ h2 d 2 = h e 2 ∧ h2 d 3 = h e 3 := by
  refine ⟨mm_st (mm_st (bc_f h d e 5) d 2 (h e 2)) d 3 (h e 3), ?_, ?_⟩
  · rw [sg_X3_become_0 hp]
    have := X_become_l (h := h) hp 5 0 (by omega) (by omega)
    rw [show bc_f h d e (0 : Int).toNat = h by
      unfold bc_f
      rw [show (0 : Int).toNat = 0 from rfl, cc_0, cc_0, z_ui]
      exact z_ui _ _] at this
    exact this
  · have ha := BP_a hp
    refine ⟨fun a h1 => ?_, fun k hk => ?_, ?_, ?_⟩
    · rw [z_sc _ _ (by omega), z_sc _ _ (by omega), bc_o _ _ _ _ (by omega) (by omega)]
    · rw [z_sc _ _ (by omega), z_sc _ _ (by omega), bc_1, cc_in hk, z_sc _ _ (by omega), z_sc _ _ (by omega), bc_2, cc_in hk]; exact ⟨rfl, rfl⟩
    · rw [z_ss _ _ (by decide), z_se]
    · rw [z_se]
/-- the class's turns behind k ropes of an hour -/
def pk_f (T R S : Nat → Int) (dn up : Int) (k j : Nat) : Int := if j < k then bh_f (S j) (S (5 + j)) (R (10 + j)) (sg_f dn up j) (S 10) else T j
theorem pk_up {T R S : Nat → Int} {dn up : Int} {k : Nat} : mm_up (pk_f T R S dn up k) k (bh_f (S k) (S (5 + k)) (R (10 + k)) (sg_f dn up k) (S 10)) = pk_f T R S dn up (k + 1) := by
  funext j
  unfold mm_up pk_f
  by_cases e : j = k
  · subst e
    rw [if_pos rfl, if_pos (by omega)]
  · rw [if_neg e]
    by_cases c : j < k
    · rw [if_pos c, if_pos (by omega)]
    · rw [if_neg c, if_neg (by omega)]
def NO (dn up : Int) : Prop := ∀ j : Nat, j < 5 → ¬ (bt_f dn j = 1 ∧ bt_f up j = 1)
theorem X_pass_l {h : mm_H} {d v : Nat} {R S : Nat → Int} {dn up : Int} (hd : d = 25 ∨ d = 63) (hV : VL h v R) (hD : DT h d R S) (hS : SB R S) (hno : NO dn up) (hh : S 10 ≤ 999) : ∀ (m : Nat) (i : Int) (l5 : mm_V), 0 ≤ i → i + m = R 0 → ex 16 3 [mm_r d, mm_r v, mm_i dn, mm_i up, mm_i i, l5] [] (mm_up h (d + 1) (pk_f (h (d + 1)) R S dn up i.toNat)) = some (none, mm_st (mm_up h (d + 1) (pk_f (h (d + 1)) R S dn up (R 0).toNat)) d 2 (S 10 + 1))
  | 0, i, l5, h0, hi => by
    have hv := hV.1
    have ev : (mm_up h (d + 1) (pk_f (h (d + 1)) R S dn up i.toNat)) v = h v := z_un _ _ (by omega)
    have ed : (mm_up h (d + 1) (pk_f (h (d + 1)) R S dn up i.toNat)) d = h d := z_un _ _ (by omega)
    rw [sg_X3_pass_3 hd hv, ev, hV.2.2.2.1.1.1, if_neg (by omega), ed, hD.2, z_add (by have := hS.2.2.1; omega) (by omega), show (R 0).toNat = i.toNat by omega]
  | m + 1, i, l5, h0, hi => by
    have hv := hV.1
    have hn := hV.2.1.n
    have hr := hV.2.1.r (k := i.toNat) (by omega)
    have hvr := hV.2.2.2.1.2.1 i.toNat (by omega)
    obtain ⟨hd1, hd2⟩ := hD.1 i.toNat (by omega)
    have ev : (mm_up h (d + 1) (pk_f (h (d + 1)) R S dn up i.toNat)) v = h v := z_un _ _ (by omega)
    have ev2 : (mm_up h (d + 1) (pk_f (h (d + 1)) R S dn up i.toNat)) (v + 2) = h (v + 2) := z_un _ _ (by omega)
    have ed : (mm_up h (d + 1) (pk_f (h (d + 1)) R S dn up i.toNat)) d = h d := z_un _ _ (by omega)
    have ed2 : (mm_up h (d + 1) (pk_f (h (d + 1)) R S dn up i.toNat)) (d + 2) = h (d + 2) := z_un _ _ (by omega)
    have ed1 : (mm_up h (d + 1) (pk_f (h (d + 1)) R S dn up i.toNat)) (d + 1) = pk_f (h (d + 1)) R S dn up i.toNat := z_up _ _ _
    have q0 : pk_f (h (d + 1)) R S dn up i.toNat i.toNat = S i.toNat := (if_neg (by omega)).trans hd1
    have b1 := bt_b dn i
    have b2 := bt_b up i
    have hn0 := hno i.toNat (by omega)
    rw [show ((i.toNat : Nat) : Int) = i by omega] at hn0
    have key : ∀ w : Int, w = sg_f dn up i.toNat → ex 16 42 [mm_r d, mm_r v, mm_i dn, mm_i up, mm_i i, mm_i w] [] (mm_up h (d + 1) (pk_f (h (d + 1)) R S dn up i.toNat)) = some (none, mm_st (mm_up h (d + 1) (pk_f (h (d + 1)) R S dn up (R 0).toNat)) d 2 (S 10 + 1)) := by
      intro w hw
      subst hw
      rw [sg_X3_pass_42 hd hv, if_pos (by omega), if_pos (by omega), if_pos (by omega), ed1, ev2, ed2, ed, q0, hvr.2.1, hd2, hD.2]
      refine mm_bi (X_turnsThen (hS.1 _ (by omega)) hr.2.1 (sg_b _ _ _) hS.2.2.1.1 _) ?_
      refine (sg_X3_pass_78 hd hv _ _ _ _ _ _ (mm_up h (d + 1) (pk_f (h (d + 1)) R S dn up i.toNat))).trans ?_
      rw [if_pos (by omega), z_wr (by omega) (by omega)]
      have ih := X_pass_l hd hV hD hS hno hh m (i + 1) (mm_i (sg_f dn up i.toNat)) (by omega) (by omega)
      rw [show (i + 1).toNat = i.toNat + 1 by omega, ← pk_up] at ih
      rw [← ih]
      congr 1
      unfold mm_st
      rw [ed1, z_uu]
    rw [sg_X3_pass_3 hd hv, ev, hV.2.2.2.1.1.1, if_pos (by omega)]
    change (if bt_f dn i = 0 then (if bt_f up i = 0 then _ else _) else _) = _
    have es : sg_f dn up i.toNat = bt_f dn i - bt_f up i := by unfold sg_f; rw [show ((i.toNat : Nat) : Int) = i by omega]
    split
    · split
      · exact key 0 (by rw [es]; omega)
      · exact key (-1) (by rw [es]; omega)
    · exact key 1 (by rw [es]; omega)
theorem X_pass {h : mm_H} {d v : Nat} {R S : Nat → Int} {dn up : Int} (hd : d = 25 ∨ d = 63) (hV : VL h v R) (hD : DT h d R S) (hS : SB R S) (hno : NO dn up) (hh : S 10 ≤ 999) : ∃ h2, ex 16 0 [mm_r d, mm_r v, mm_i dn, mm_i up, mm_u, mm_u] [] h = some (none, h2) ∧ DT h2 d R (gs_f R S dn up) ∧ (∀ a, a ≠ d → a ≠ d + 1 → h2 a = h a) ∧ h2 d 3 = h d 3 := by
  have hn := hV.2.1.n
  refine ⟨mm_st (mm_up h (d + 1) (pk_f (h (d + 1)) R S dn up (R 0).toNat)) d 2 (S 10 + 1), ?_, ?_⟩
  · rw [sg_X3_pass_0 hd hV.1]
    have := X_pass_l hd hV hD hS hno hh (R 0).toNat 0 mm_u (by omega) (by omega)
    rw [show mm_up h (d + 1) (pk_f (h (d + 1)) R S dn up (0 : Int).toNat) = h by
      rw [show pk_f (h (d + 1)) R S dn up (0 : Int).toNat = h (d + 1) from funext fun j => if_neg (by simp)]
      exact z_ui _ _] at this
    exact this
  · refine ⟨⟨fun k hk => ⟨?_, ?_⟩, ?_⟩, fun a h1 h2 => ?_, ?_⟩
    · rw [z_sc _ _ (by omega), z_up]
      unfold pk_f gs_f gk_f
      rw [if_pos (by omega), if_neg (by omega), if_neg (by omega), if_pos (by omega)]
    · rw [z_sc _ _ (by omega), z_un _ _ (by omega)]
      unfold gs_f gk_f
      rw [if_neg (by omega), if_neg (by omega), if_neg (by omega)]
      exact (hD.1 k hk).2
    · rw [z_se]; rfl
    · rw [z_sc _ _ h1, z_un _ _ h2]
    · rw [z_ss _ _ (by decide), z_un _ _ (by omega)]
def al_f (R : Nat → Int) : Int := mm_sub (mm_shl 1 (R 0)) 1
theorem z_bt0 : ∀ j : Nat, j < 8 → bt_f 0 j = 0 := by
  intro j hj
  rcases (show j = 0 ∨ j = 1 ∨ j = 2 ∨ j = 3 ∨ j = 4 ∨ j = 5 ∨ j = 6 ∨ j = 7 by omega) with rfl | rfl | rfl | rfl | rfl | rfl | rfl | rfl <;> decide +kernel
theorem NO_0 (dn : Int) : NO dn 0 := fun j hj q => by
  have := z_bt0 j (by omega)
  omega
theorem X_sets {h : mm_H} {v : Nat} {R : Nat → Int} (hV : VL h v R) : ex 58 0 [mm_r v] [] h = some (some (mm_i (mm_shl 1 (R 0))), h) := by rw [sg_X9_sets_0 hV.1, hV.2.2.2.1.1.1]
theorem X_allDown {h : mm_H} {v : Nat} {R S : Nat → Int} (hV : VL h v R) (hD : DT h 63 R S) (hS : SB R S) (hh : S 10 ≤ 999) : ∃ h2, ex 17 0 [mm_r 63, mm_r v] [] h = some (none, h2) ∧ DT h2 63 R (gs_f R S (al_f R) 0) ∧ (∀ a, a ≠ 63 → a ≠ 64 → h2 a = h a) := by
  obtain ⟨h2, e1, e2, e3, -⟩ := X_pass (dn := al_f R) (up := 0) (Or.inr rfl) hV hD hS (NO_0 _) hh
  refine ⟨h2, ?_, e2, e3⟩
  rw [sg_X3_passAllDown_0 rfl hV.1]
  refine mm_bi (X_sets hV) ?_
  refine (sg_X3_passAllDown_6 rfl hV.1 _ h).trans ?_
  refine mm_bi e1 ?_
  exact sg_X3_passAllDown_12 rfl hV.1 h2
