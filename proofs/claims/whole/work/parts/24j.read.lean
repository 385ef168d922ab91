/-! ===== items and the whole text: both ===== -/
theorem xn_b {T : Nat → Int} {n w p : Int} {m : Nat} (h : rp_f T n w p m ≠ none) : ∀ j, j < m → 0 ≤ xn_f T n w p j := by
  intro j hj
  have h1 : rp_f T n w p (j + 1) ≠ none := fun e => by
    have := rp_n e (m - (j + 1))
    rw [show j + 1 + (m - (j + 1)) = m by omega] at this
    exact h this
  unfold xn_f
  rw [rp_s] at h1
  cases e : rp_f T n w p j with
  | none => rw [e] at h1; exact absurd rfl h1
  | some q =>
    rw [e] at h1
    have h2 : (if (nu_f T n q).1 < 0 then none else if lt_f T n (nu_f T n q).2 0 = (if (j : Int) + 1 < w then 44 else 59) then some ((nu_f T n q).2 + 1) else none) ≠ none := h1
    by_cases c : (nu_f T n q).1 < 0
    · rw [if_pos c] at h2; exact absurd rfl h2
    · show 0 ≤ (nu_f T n q).1
      omega
theorem X_readNumbers {k g : mm_H} (hx : TX k g) {p w : Int} (hp : 0 ≤ p ∧ p ≤ 800) (k3 : k 3 1 = p) (hw : 1 ≤ w ∧ w ≤ 4) : ∃ k2, ex 35 0 [mm_r 3, mm_r 1, mm_i w, mm_u, mm_u, mm_u] [] k = some (some (mm_i (if rp_f (g 1) (g 0 1) w (p + 1) w.toNat = none then 0 else 1)), k2) ∧ (∀ a, a ≠ 3 → a ≠ 4 → k2 a = k a) ∧ (rp_f (g 1) (g 0 1) w (p + 1) w.toNat ≠ none → rp_f (g 1) (g 0 1) w (p + 1) w.toNat = some (k2 3 1) ∧ ∀ j, j < w.toNat → k2 4 j = xn_f (g 1) (g 0 1) w (p + 1) j) := by
  obtain ⟨k2, a1, a2, a3⟩ := X_reads_l hx (w := w) (p := p + 1) hw (by omega) w.toNat 0 (mm_st k 3 1 (p + 1)) mm_u mm_u (by omega) (fun a h1 _ => z_sc _ _ h1) (by rw [z_se]; rfl) (by rw [z_se]; omega) (fun j hj => by omega)
  refine ⟨k2, ?_, a2, a3⟩
  rw [sg_X6_readNumbers_0, if_neg (by omega), if_neg (by omega), k3, z_add (by omega) (by omega)]
  exact a1
theorem M_readsN {k g q : mm_H} (hx : TX k g) (e1 : q 1 = g 1) (e0 : q 0 1 = g 0 1) {p w : Int} (hp : 0 ≤ p ∧ p ≤ 800) (q11 : q 0 11 = p + 1) (hw : 1 ≤ w ∧ w ≤ 4) : ∃ q2, em 10 0 [mm_r 0, mm_i w, mm_u, mm_u] [] q = some (some (mm_i (if rp_f (g 1) (g 0 1) w (p + 1) w.toNat = none then 0 else 1)), q2) ∧ (∀ a, a ≠ 0 → a ≠ 8 → q2 a = q a) ∧ (∀ j, j ≠ 11 → q2 0 j = q 0 j) ∧ (rp_f (g 1) (g 0 1) w (p + 1) w.toNat ≠ none → rp_f (g 1) (g 0 1) w (p + 1) w.toNat = some (q2 0 11) ∧ ∀ j, j < w.toNat → q2 8 j = xn_f (g 1) (g 0 1) w (p + 1) j) := by
  obtain ⟨q2, a1, a2⟩ := M_reads_l hx (w := w) (p := p + 1) hw (by omega) w.toNat 0 q (by omega) e1 e0 (Or.inl ⟨rfl, q11⟩) (fun j hj => by omega)
  refine ⟨q2, ?_, a2⟩
  rw [sg_X11_reads_0]
  exact a1
def IW (c w : Int) : Prop := (c = 99 ∧ w = 2) ∨ (c = 109 ∧ w = 1) ∨ (c = 114 ∧ w = 4) ∨ (c = 119 ∧ w = 2)
theorem X_nBehind {c w : Int} (h : IW c w) (k : mm_H) : ex 34 0 [mm_i c] [] k = some (some (mm_i w), k) := by
  rcases h with ⟨rfl, rfl⟩ | ⟨rfl, rfl⟩ | ⟨rfl, rfl⟩ | ⟨rfl, rfl⟩ <;> rw [sg_X6_numbersBehind_0] <;> rfl
theorem X_nBehind0 {c : Int} (h : c ≠ 99 ∧ c ≠ 109 ∧ c ≠ 114 ∧ c ≠ 119) (k : mm_H) : ex 34 0 [mm_i c] [] k = some (some (mm_i 0), k) := by
  rw [sg_X6_numbersBehind_0, if_neg h.1, if_neg h.2.1, if_neg h.2.2.1, if_neg h.2.2.2]
theorem tk_all {v : Nat} {c w : Int} (h : IW c w) : ∃ pc, (∀ q, em 15 0 [mm_r 0, mm_i c, mm_u] [] q = (em 10 0 [mm_r 0, mm_i w, mm_u, mm_u] [] q).bind fun z => em 15 pc [mm_r 0, mm_i c, mm_u] (z.1.toList ++ []) z.2) ∧ (∀ q, em 15 pc [mm_r 0, mm_i c, mm_u] [mm_i 0] q = some (some (mm_i 0), q)) ∧ ∀ k q : mm_H, DR k v (q 3) → (∀ j, j < w.toNat → k 4 j = q 8 j) → (∀ j, j < w.toNat → 0 ≤ q 8 j) → ∃ k2 q2 r, ex 50 0 [mm_r v, mm_i c, mm_r 4] [] k = some (some (mm_i r), k2) ∧ em 15 pc [mm_r 0, mm_i c, mm_u] [mm_i 1] q = some (some (mm_i r), q2) ∧ TO k k2 q q2 v r := by
  rcases h with ⟨rfl, rfl⟩ | ⟨rfl, rfl⟩ | ⟨rfl, rfl⟩ | ⟨rfl, rfl⟩
  · refine ⟨289, fun q => by rw [sg_X11_readsItem_0, if_pos rfl], fun q => by rw [sg_X11_readsItem_289, if_pos rfl, sg_X11_readsItem_314], fun k q hD hN hb => ?_⟩
    obtain ⟨k2, q2, r, a1, a2, a3⟩ := tk_price hD 99 hN hb
    refine ⟨k2, q2, r, ?_, a2, a3⟩
    rw [sg_X9_take_0 hD.1, if_neg (by decide), if_pos rfl]
    refine mm_bi a1 ?_
    refine (sg_X9_take_98 hD.1 _ _ k2).trans ?_
    rw [if_pos (a3.1.imp id And.left)]
  · refine ⟨244, fun q => by rw [sg_X11_readsItem_0, if_neg (by decide), if_pos rfl], fun q => by rw [sg_X11_readsItem_244, if_pos rfl, sg_X11_readsItem_270], fun k q hD hN hb => ?_⟩
    obtain ⟨k2, q2, r, a1, a2, a3⟩ := tk_man hD 109 hN hb
    refine ⟨k2, q2, r, ?_, a2, a3⟩
    rw [sg_X9_take_0 hD.1, if_neg (by decide), if_neg (by decide), if_pos rfl]
    refine mm_bi a1 ?_
    refine (sg_X9_take_87 hD.1 _ _ k2).trans ?_
    rw [if_pos (a3.1.imp id And.left)]
  · refine ⟨49, fun q => by rw [sg_X11_readsItem_0, if_neg (by decide), if_neg (by decide), if_pos rfl], fun q => by rw [sg_X11_readsItem_49, if_pos rfl, sg_X11_readsItem_109], fun k q hD hN hb => ?_⟩
    obtain ⟨k2, q2, r, a1, a2, a3⟩ := tk_rope hD 114 hN hb
    refine ⟨k2, q2, r, ?_, a2, a3⟩
    rw [sg_X9_take_0 hD.1, if_neg (by decide), if_neg (by decide), if_neg (by decide), if_pos rfl]
    refine mm_bi a1 ?_
    refine (sg_X9_take_68 hD.1 _ _ k2).trans ?_
    rw [if_pos (a3.1.imp id And.left)]
  · refine ⟨183, fun q => by rw [sg_X11_readsItem_0, if_neg (by decide), if_neg (by decide), if_neg (by decide), if_pos rfl], fun q => by rw [sg_X11_readsItem_183, if_pos rfl, sg_X11_readsItem_219], fun k q hD hN hb => ?_⟩
    obtain ⟨k2, q2, r, a1, a2, a3⟩ := tk_want hD 119 hN hb
    refine ⟨k2, q2, r, ?_, a2, a3⟩
    rw [sg_X9_take_0 hD.1, if_neg (by decide), if_neg (by decide), if_neg (by decide), if_neg (by decide), if_pos rfl]
    refine mm_bi a1 ?_
    refine (sg_X9_take_79 hD.1 _ _ k2).trans ?_
    rw [if_pos (a3.1.imp id And.left)]
def FK (v : Nat) (k k2 : mm_H) : Prop := ∀ a, a ≠ 3 → a ≠ 4 → (a < v ∨ v + 7 < a) → k2 a = k a
def FQ (q q2 : mm_H) : Prop := (∀ a, a ≠ 0 → a ≠ 3 → a ≠ 8 → q2 a = q a) ∧ ∀ j, j ≠ 11 → q2 0 j = q 0 j
theorem FK_t {v : Nat} {k k2 k3 : mm_H} (a : FK v k k2) (b : FK v k2 k3) : FK v k k3 := fun x h1 h2 h3 => (b x h1 h2 h3).trans (a x h1 h2 h3)
theorem FQ_t {k k2 k3 : mm_H} (a : FQ k k2) (b : FQ k2 k3) : FQ k k3 := ⟨fun x h1 h2 h3 => (b.1 x h1 h2 h3).trans (a.1 x h1 h2 h3), fun j hj => (b.2 j hj).trans (a.2 j hj)⟩
/-- an item, from its letter on -/
theorem item_c {k q g : mm_H} {v : Nat} (hx : TX k g) (e1 : q 1 = g 1) (e0 : q 0 1 = g 0 1) (hD : DR k v (q 3)) {p : Int} (hp : 0 ≤ p ∧ p ≤ 800) (k3 : k 3 1 = p) (q11 : q 0 11 = p + 1) (c i : Int) (hi : 0 ≤ i ∧ i < 1000) (l5 : mm_V) : ∃ k2 q2 r, ex 33 41 [mm_r 3, mm_r 1, mm_r v, mm_i i, mm_i p, l5] [mm_i c] k = (if r = 0 then some (some (mm_i p), k2) else ex 33 11 [mm_r 3, mm_r 1, mm_r v, mm_i (i + 1), mm_i p, mm_i c] [] k2) ∧ em 15 0 [mm_r 0, mm_i c, mm_u] [] q = some (some (mm_i r), q2) ∧ FK v k k2 ∧ FQ q q2 ∧ (r = 0 ∨ (r = 1 ∧ DR k2 v (q2 3) ∧ (p + 1 ≤ k2 3 1 ∧ k2 3 1 ≤ p + 13) ∧ q2 0 11 = k2 3 1)) := by
  have hv := hD.1
  by_cases hc : ∃ w, IW c w
  · obtain ⟨w, hw⟩ := hc
    have hw2 : 1 ≤ w ∧ w ≤ 4 := by unfold IW at hw; omega
    obtain ⟨k1, x1, x2, x3⟩ := X_readNumbers hx (p := p) hp k3 hw2
    obtain ⟨q1, y1, y2, y3, y4⟩ := M_readsN hx e1 e0 (p := p) hp q11 hw2
    obtain ⟨pc, t1, t2, t3⟩ := tk_all (v := v) hw
    have e41 : ex 33 41 [mm_r 3, mm_r 1, mm_r v, mm_i i, mm_i p, l5] [mm_i c] k = ex 33 53 [mm_r 3, mm_r 1, mm_r v, mm_i i, mm_i p, mm_i c] [mm_i (if rp_f (g 1) (g 0 1) w (p + 1) w.toNat = none then 0 else 1)] k1 := by
      rw [sg_X6_read_41 hv]
      refine mm_bi (X_nBehind hw k) ?_
      refine (sg_X6_read_50 hv _ _ _ _ k).trans ?_
      exact mm_bi x1 rfl
    have m0 : em 15 0 [mm_r 0, mm_i c, mm_u] [] q = em 15 pc [mm_r 0, mm_i c, mm_u] [mm_i (if rp_f (g 1) (g 0 1) w (p + 1) w.toNat = none then 0 else 1)] q1 := by
      rw [t1]
      exact mm_bi y1 rfl
    by_cases cz : rp_f (g 1) (g 0 1) w (p + 1) w.toNat = none
    · refine ⟨k1, q1, 0, ?_, ?_, fun a h1 h2 _ => x2 a h1 h2, ⟨fun a h1 _ h3 => y2 a h1 h3, y3⟩, Or.inl rfl⟩
      · rw [e41, if_pos cz, sg_X6_read_53 hv, if_pos rfl, sg_X6_read_69 hv, if_pos rfl]
      · rw [m0, if_pos cz, t2]
    · obtain ⟨x4, x5⟩ := x3 cz
      obtain ⟨y5, y6⟩ := y4 cz
      have hb := rp_b _ _ x4
      have e11 : k1 3 1 = q1 0 11 := Option.some.inj (x4.symm.trans y5)
      have hv5 : v = 5 ∨ v = 15 := hv
      have hD1 : DR k1 v (q1 3) := by
        rw [y2 3 (by decide) (by decide)]
        exact DR_up hD (fun a h1 h2 => x2 a (by omega) (by omega))
      obtain ⟨k2, q2, r, b1, b2, b3, b4, b5⟩ := t3 k1 q1 hD1 (fun j hj => (x5 j hj).trans (y6 j hj).symm) (fun j hj => by rw [y6 j hj]; exact xn_b cz j hj)
      refine ⟨k2, q2, r, ?_, ?_, fun a h1 h2 h3 => (b4 a h3).trans (x2 a h1 h2), ⟨fun a h1 h2 h3 => (b5 a h2).trans (y2 a h1 h3), fun j hj => (congrFun (b5 0 (by decide)) j).trans (y3 j hj)⟩, ?_⟩
      · rw [e41, if_neg cz, sg_X6_read_53 hv, if_neg (by decide)]
        refine mm_bi b1 ?_
        refine (sg_X6_read_66 hv _ _ _ _ k2).trans ?_
        rw [sg_X6_read_69 hv, z_wr (by omega) (by omega)]
      · rw [m0, if_neg cz, b2]
      · rcases b3 with b3 | b3
        · exact Or.inl b3
        · refine Or.inr ⟨b3.1, b3.2, ?_, ?_⟩
          · rw [b4 3 (by omega)]; omega
          · rw [b4 3 (by omega), b5 0 (by decide)]; exact e11.symm
  · have hc2 : c ≠ 99 ∧ c ≠ 109 ∧ c ≠ 114 ∧ c ≠ 119 := by
      refine ⟨fun e => hc ⟨2, Or.inl ⟨e, rfl⟩⟩, fun e => hc ⟨1, Or.inr (Or.inl ⟨e, rfl⟩)⟩, fun e => hc ⟨4, Or.inr (Or.inr (Or.inl ⟨e, rfl⟩))⟩, fun e => hc ⟨2, Or.inr (Or.inr (Or.inr ⟨e, rfl⟩))⟩⟩
    refine ⟨k, q, 0, ?_, ?_, fun _ _ _ _ => rfl, ⟨fun _ _ _ _ => rfl, fun _ _ => rfl⟩, Or.inl rfl⟩
    · rw [sg_X6_read_41 hv]
      refine mm_bi (X_nBehind0 hc2 k) ?_
      refine (sg_X6_read_50 hv _ _ _ _ k).trans ?_
      have : ex 35 0 [mm_r 3, mm_r 1, mm_i 0, mm_u, mm_u, mm_u] [] k = some (some (mm_i 0), k) := by
        rw [sg_X6_readNumbers_0, if_pos (by decide), sg_X6_readNumbers_10]
      refine mm_bi this ?_
      refine (sg_X6_read_53 hv _ _ _ _ k).trans ?_
      rw [if_pos rfl, sg_X6_read_69 hv, if_pos rfl]
    · rw [sg_X11_readsItem_0, if_neg hc2.1, if_neg hc2.2.1, if_neg hc2.2.2.1, if_neg hc2.2.2.2]
theorem FK_3 {v : Nat} {k k2 : mm_H} (hv : v = 5 ∨ v = 15) (h : FK v k k2) {g : mm_H} (hx : TX k g) : TX k2 g := TX_k hx (h 1 (by decide) (by decide) (by omega)) (h 2 (by decide) (by decide) (by omega)) rfl rfl
/-- the whole text -/
theorem read_l {g : mm_H} {v : Nat} : ∀ (m : Nat) (k q : mm_H) (i : Int) (l4 l5 l1 : mm_V), TX k g → q 1 = g 1 → q 0 1 = g 0 1 → DR k v (q 3) → 0 ≤ i ∧ i ≤ k 3 1 → k 3 1 ≤ 300 → g 0 1 - k 3 1 ≤ m → q 0 11 = k 3 1 → ∃ k2 q2 r, ex 33 11 [mm_r 3, mm_r 1, mm_r v, mm_i i, l4, l5] [] k = some (some (mm_i r), k2) ∧ em 16 9 [mm_r 0, l1] [] q = some (some (mm_i r), q2) ∧ (∀ a, a ≠ 3 → a ≠ 4 → (a < v ∨ v + 9 < a) → k2 a = k a) ∧ FQ q q2 ∧ (r = -4 → DR k2 v (q2 3) ∧ (1 ≤ q2 3 0 → NB k2 v (q2 3))) ∧ (r = -4 ∨ 0 ≤ r) := by
  intro m
  induction m with
  | zero =>
    intro k q i l4 l5 l1 hx e1 e0 hD hi h3 hm q11
    have hn := hx.2.1
    obtain ⟨k2, a1, a2, a3⟩ := X_findNeighbours hD
    refine ⟨k2, q, -4, ?_, ?_, fun a _ _ h => a2 a (by omega) (by omega), ⟨fun _ _ _ _ => rfl, fun _ _ => rfl⟩, fun _ => ⟨DR_up hD (fun a h1 h2 => a2 a (by omega) (by omega)), a3⟩, Or.inl rfl⟩
    · have e78 : ∀ l4 l5, ex 33 78 [mm_r 3, mm_r 1, mm_r v, mm_i i, l4, l5] [] k = some (some (mm_i (-4)), k2) := fun l4 l5 => by
        rw [sg_X6_read_78 hD.1]
        refine mm_bi a1 ?_
        exact sg_X6_read_82 hD.1 _ _ _ k2
      rw [sg_X6_read_11 hD.1]
      by_cases c : i < 200
      · rw [if_pos c]
        refine mm_bi (X_txLen k) ?_
        refine (sg_X6_read_26 hD.1 _ _ _ _ _ k).trans ?_
        rw [hx.1, if_neg (by omega)]
        exact e78 _ _
      · rw [if_neg c]; exact e78 _ _
    · rw [sg_X11_readsAll_9, e0, if_neg (by omega)]
  | succ m ih =>
    intro k q i l4 l5 l1 hx e1 e0 hD hi h3 hm q11
    have hn := hx.2.1
    by_cases hp : k 3 1 < g 0 1
    · have hv := hD.1
      have hq2 : mm_st q 0 11 (q 0 11 + 1) 3 = q 3 := z_sc _ _ (by decide)
      obtain ⟨k2, q2, r, a1, a2, a3, a4, a5⟩ := item_c (k := k) (q := mm_st q 0 11 (q 0 11 + 1)) (g := g) (v := v) hx ((z_sc _ _ (by decide)).trans e1) ((z_ss _ _ (by decide)).trans e0) (by rw [hq2]; exact hD) (p := k 3 1) (by omega) rfl (by rw [z_se, q11]) (g 1 (k 3 1).toNat) i (by omega) l5
      have x1 : ex 33 11 [mm_r 3, mm_r 1, mm_r v, mm_i i, l4, l5] [] k = ex 33 41 [mm_r 3, mm_r 1, mm_r v, mm_i i, mm_i (k 3 1), l5] [mm_i (g 1 (k 3 1).toNat)] k := by
        rw [sg_X6_read_11 hv, if_pos (by omega)]
        refine mm_bi (X_txLen k) ?_
        refine (sg_X6_read_26 hv _ _ _ _ _ k).trans ?_
        rw [hx.1, if_pos hp]
        refine mm_bi (X_letter hx (by omega)) ?_
        unfold lt_f
        rw [if_pos hp]; rfl
      have m1 : em 16 9 [mm_r 0, l1] [] q = em 16 45 [mm_r 0, mm_i (k 3 1)] [mm_i r] q2 := by
        rw [sg_X11_readsAll_9, e0, q11, if_pos hp, if_pos (by omega), z_add (by omega) (by omega), z_sc _ _ (show 1 ≠ 0 by decide), e1]
        rw [q11] at a2
        exact mm_bi a2 rfl
      have fq : FQ q q2 := ⟨fun a h1 h2 h3 => (a4.1 a h1 h2 h3).trans (z_sc _ _ h1), fun j hj => (a4.2 j hj).trans (z_ss _ _ hj)⟩
      rw [x1, m1, a1, sg_X11_readsAll_45]
      rcases a5 with a5 | ⟨a5, a6, a7, a8⟩
      · refine ⟨k2, q2, k 3 1, if_pos a5, if_pos a5, fun a h1 h2 h3 => a3 a h1 h2 (by omega), fq, fun z => by omega, Or.inr (by omega)⟩
      · rw [if_neg (by omega), if_neg (by omega)]
        obtain ⟨k3, q3, r3, b1, b2, b3, b4, b5, b6⟩ := ih k2 q2 (i + 1) (mm_i (k 3 1)) (mm_i (g 1 (k 3 1).toNat)) (mm_i (k 3 1)) (FK_3 hv a3 hx) ((fq.1 1 (by decide) (by decide) (by decide)).trans e1) ((fq.2 1 (by decide)).trans e0) a6 (by omega) (by omega) (by omega) a8
        exact ⟨k3, q3, r3, b1, b2, fun a h1 h2 h3 => (b3 a h1 h2 h3).trans (a3 a h1 h2 (by omega)), FQ_t fq b4, b5, b6⟩
    · have hn := hx.2.1
      obtain ⟨k2, a1, a2, a3⟩ := X_findNeighbours hD
      refine ⟨k2, q, -4, ?_, ?_, fun a _ _ h => a2 a (by omega) (by omega), ⟨fun _ _ _ _ => rfl, fun _ _ => rfl⟩, fun _ => ⟨DR_up hD (fun a h1 h2 => a2 a (by omega) (by omega)), a3⟩, Or.inl rfl⟩
      · have e78 : ∀ l4 l5, ex 33 78 [mm_r 3, mm_r 1, mm_r v, mm_i i, l4, l5] [] k = some (some (mm_i (-4)), k2) := fun l4 l5 => by
          rw [sg_X6_read_78 hD.1]
          refine mm_bi a1 ?_
          exact sg_X6_read_82 hD.1 _ _ _ k2
        rw [sg_X6_read_11 hD.1]
        by_cases c : i < 200
        · rw [if_pos c]
          refine mm_bi (X_txLen k) ?_
          refine (sg_X6_read_26 hD.1 _ _ _ _ _ k).trans ?_
          rw [hx.1, if_neg (by omega)]
          exact e78 _ _
        · rw [if_neg c]; exact e78 _ _
      · rw [sg_X11_readsAll_9, e0, if_neg (by omega)]
/-- the draft at the start -/
theorem M_begins_l : ∀ (m : Nat) (q : mm_H) (i : Int), 0 ≤ i → i + m = 47 → (∀ j : Nat, (j : Int) < i → q 3 j = 0) → ∃ q2, em 11 2 [mm_r 0, mm_i i] [] q = some (none, q2) ∧ (∀ a, a ≠ 3 → q2 a = q a) ∧ (∀ j, j < 47 → j ≠ 3 → j ≠ 4 → q2 3 j = 0) ∧ q2 3 3 = 1 ∧ q2 3 4 = 2
  | 0, q, i, h0, hi, hz => by
    refine ⟨mm_st (mm_st q 3 3 1) 3 4 2, ?_, fun a ha => by rw [z_sc _ _ ha, z_sc _ _ ha], fun j hj h3 h4 => by rw [z_ss _ _ h4, z_ss _ _ h3]; exact hz j (by omega), by rw [z_ss _ _ (by decide), z_se], z_se _ _ _ _⟩
    rw [sg_X11_begins_2, if_neg (by omega)]
  | m + 1, q, i, h0, hi, hz => by
    obtain ⟨q2, a1, a2, a3⟩ := M_begins_l m (mm_st q 3 i.toNat 0) (i + 1) (by omega) (by omega) (fun j hj => by
      by_cases e : j = i.toNat
      · rw [e, z_se]
      · rw [z_ss _ _ e]; exact hz j (by omega))
    refine ⟨q2, ?_, fun a ha => (a2 a ha).trans (z_sc _ _ ha), a3⟩
    rw [sg_X11_begins_2, if_pos (by omega), if_pos (by omega), z_wr (by omega) (by omega)]
    exact a1
theorem M_begins (q : mm_H) : ∃ q2, em 11 0 [mm_r 0, mm_u] [] q = some (none, q2) ∧ (∀ a, a ≠ 3 → q2 a = q a) ∧ (∀ j, j < 47 → j ≠ 3 → j ≠ 4 → q2 3 j = 0) ∧ q2 3 3 = 1 ∧ q2 3 4 = 2 := by
  rw [sg_X11_begins_0]
  exact M_begins_l 47 q 0 (by omega) (by omega) (fun j hj => by omega)
theorem X_clear {v : Nat} (hv : v = 5 ∨ v = 15) {R : Nat → Int} (hz : ∀ j, j < 47 → j ≠ 3 → j ≠ 4 → R j = 0) (h3 : R 3 = 1) (h4 : R 4 = 2) (k : mm_H) : ∃ k2, ex 49 0 [mm_r v] [] k = some (none, k2) ∧ (∀ a, a ≠ v → k2 a = k a) ∧ DR k2 v R := by
  have r0 := hz 0 (by decide) (by decide) (by decide)
  have r1 := hz 1 (by decide) (by decide) (by decide)
  have r2 := hz 2 (by decide) (by decide) (by decide)
  refine ⟨_, sg_X9_clear_0 hv k, fun a ha => by rw [z_sc _ _ ha, z_sc _ _ ha, z_sc _ _ ha, z_sc _ _ ha, z_sc _ _ ha], hv, ?_, ?_⟩
  · refine ⟨by omega, by omega, by omega, by omega, fun k hk => by omega, fun i j _ hj => by omega, fun j hj => by omega, fun j hj => by omega⟩
  · refine ⟨⟨?_, ?_, ?_, ?_, ?_⟩, fun k hk => by omega, fun j hj => by omega, fun j hj => by omega⟩
    · rw [z_ss _ _ (by decide), z_ss _ _ (by decide), z_ss _ _ (by decide), z_ss _ _ (by decide), z_se, r0]
    · rw [z_ss _ _ (by decide), z_ss _ _ (by decide), z_ss _ _ (by decide), z_se, r1]
    · rw [z_ss _ _ (by decide), z_ss _ _ (by decide), z_se, r2]
    · rw [z_ss _ _ (by decide), z_se, h3]
    · rw [z_se, h4]
theorem read_both {k g : mm_H} {v : Nat} (hv : v = 5 ∨ v = 15) (hx : TX k g) : ∃ k2 g2 r, ex 33 0 [mm_r 3, mm_r 1, mm_r v, mm_u, mm_u, mm_u] [] k = some (some (mm_i r), k2) ∧ em 16 0 [mm_r 0, mm_u] [] g = some (some (mm_i r), g2) ∧ (∀ a, a ≠ 3 → a ≠ 4 → (a < v ∨ v + 9 < a) → k2 a = k a) ∧ FQ g g2 ∧ (r = -4 → DR k2 v (g2 3) ∧ (1 ≤ g2 3 0 → NB k2 v (g2 3))) ∧ (r = -4 ∨ 0 ≤ r) := by
  obtain ⟨g1, m1, m2, m3, m4, m5⟩ := M_begins g
  obtain ⟨k1, x1, x2, x3⟩ := X_clear hv m3 m4 m5 k
  have hx1 : TX (mm_st k1 3 1 0) g := TX_k hx ((z_sc _ _ (by decide)).trans (x2 1 (by omega))) ((z_sc _ _ (by decide)).trans (x2 2 (by omega))) rfl rfl
  have hD1 : DR (mm_st k1 3 1 0) v (mm_st g1 0 11 0 3) := by
    rw [z_sc _ _ (show 3 ≠ 0 by decide)]
    exact DR_up x3 (fun a h1 h2 => z_sc _ _ (by omega))
  obtain ⟨k2, g2, r, a1, a2, a3, a4, a5⟩ := read_l 200 (mm_st k1 3 1 0) (mm_st g1 0 11 0) 0 mm_u mm_u mm_u hx1 ((z_sc _ _ (by decide)).trans (m2 1 (by decide))) ((z_ss _ _ (by decide)).trans (congrFun (m2 0 (by decide)) 1)) hD1 (by rw [z_se]; omega) (by rw [z_se]; omega) (by rw [z_se]; have := hx.2.1; omega) (by rw [z_se, z_se])
  refine ⟨k2, g2, r, ?_, ?_, fun a h1 h2 h3 => (a3 a h1 h2 h3).trans ((z_sc _ _ h1).trans (x2 a (by omega))), ⟨fun a h1 h2 h3 => (a4.1 a h1 h2 h3).trans ((z_sc _ _ h1).trans (m2 a h2)), fun j hj => (a4.2 j hj).trans ((z_ss _ _ hj).trans (congrFun (m2 0 (by decide)) j))⟩, a5⟩
  · rw [sg_X6_read_0 hv]
    refine mm_bi x1 ?_
    refine (sg_X6_read_4 hv k1).trans ?_
    exact a1
  · rw [sg_X11_readsAll_0]
    refine mm_bi m1 ?_
    refine (sg_X11_readsAll_4 g1).trans ?_
    exact a2
