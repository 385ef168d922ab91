/-! ===== plan: the model ===== -/
theorem qf_b (R : Nat → Int) (O : Nat → Nat → Int) (n : Nat) : ∀ L : Nat, ((qf_f R O n 0 L (-4, -4)).1 = -4 ∧ (qf_f R O n 0 L (-4, -4)).2 = -4) ∨ ((0 ≤ (qf_f R O n 0 L (-4, -4)).1 ∧ (qf_f R O n 0 L (-4, -4)).1 < L) ∧ 0 ≤ (qf_f R O n 0 L (-4, -4)).2)
  | 0 => Or.inl ⟨rfl, rfl⟩
  | L + 1 => by
    have ih := qf_b R O n L
    rw [qf_s]
    unfold qs_f
    split
    · have := sd_b n (0 + L)
      refine Or.inr ⟨⟨?_, ?_⟩, this.1⟩
      · dsimp only; omega
      · dsimp only; omega
    · omega
theorem z_t5 {c : Nat} (hc : c < 100000) : mm_wr (Int.tdiv (c : Int) 5) = ((c / 5 : Nat) : Int) ∧ Int.tmod (c : Int) 5 = ((c % 5 : Nat) : Int) := by
  refine ⟨?_, ?_⟩
  · rw [Int.tdiv_eq_ediv_of_nonneg (by omega), z_wr (by omega) (by omega)]; omega
  · rw [Int.tmod_eq_emod_of_nonneg (by omega)]; omega
theorem sd_0 : ∀ k : Nat, sd_f k 0 = 0
  | 0 => rfl
  | k + 1 => by rw [sd_s, show 0 / 5 = 0 from rfl, sd_0 k]; rfl
theorem M_plan_d {q : mm_H} {l1 l2 l3 l4 l5 : Int} (l8 l9 l10 : mm_V) (k : Nat) : ∀ (c : Nat) (s : Int), c < 5 ^ k → c < 100000 → 0 ≤ s → s ≤ 1000 - 4 * k → em 38 66 [mm_r 0, mm_i l1, mm_i l2, mm_i l3, mm_i l4, mm_i l5, mm_i s, mm_i c, l8, l9, l10] [] q = em 38 66 [mm_r 0, mm_i l1, mm_i l2, mm_i l3, mm_i l4, mm_i l5, mm_i (s + sd_f k c), mm_i 0, l8, l9, l10] [] q := by
  induction k with
  | zero =>
    intro c s h1 h2 h3 h4
    have e : c = 0 := by
      rw [Nat.pow_zero] at h1
      omega
    rw [e, sd_0, Int.add_zero, show ((0 : Nat) : Int) = 0 from rfl]
  | succ k ih0 =>
    intro c s h1 h2 h3 h4
    by_cases e : c = 0
    · rw [e, sd_0, Int.add_zero, show ((0 : Nat) : Int) = 0 from rfl]
    · have z := z_t5 h2
      have h5 : c / 5 < 5 ^ k := by
        rw [Nat.pow_succ] at h1
        omega
      have ih := ih0 (c / 5) (s + ((c % 5 : Nat) : Int)) h5 (by omega) (by omega) (by omega)
      have e3 : s + sd_f (k + 1) c = s + ((c % 5 : Nat) : Int) + sd_f k (c / 5) := by rw [sd_s]; omega
      rw [e3, ← ih]
      refine (sg_X11_plan_66 _ _ _ _ _ _ _ _ _ _ q).trans ?_
      rw [if_pos (by omega), z.1, z.2, z_add (by omega) (by omega)]
theorem M_plan_b {q : mm_H} {l1 l2 l3 l4 l5 l6 : Int} {i : Nat} : ∀ (k c : Nat) (a : Int), k ≤ 5 → c < 100000 → ∃ c', em 38 129 [mm_r 0, mm_i l1, mm_i l2, mm_i l3, mm_i l4, mm_i l5, mm_i l6, mm_i i, mm_i a, mm_i c, mm_i ((k : Int) - 1)] [] q = em 38 129 [mm_r 0, mm_i l1, mm_i l2, mm_i l3, mm_i l4, mm_i l5, mm_i l6, mm_i i, mm_i (bq_f i k c a), mm_i c', mm_i (-1)] [] q
  | 0, c, a, hk, hc => ⟨c, rfl⟩
  | k + 1, c, a, hk, hc => by
    have z := z_t5 hc
    obtain ⟨c', ih⟩ := M_plan_b (q := q) (l1 := l1) (l2 := l2) (l3 := l3) (l4 := l4) (l5 := l5) (l6 := l6) (i := i) k (c / 5) (mm_or a (if i < c % 5 then mm_shl 1 (k : Int) else 0)) (by omega) (by omega)
    refine ⟨c', ?_⟩
    rw [bq_s]
    refine Eq.trans ?_ ih
    rw [sg_X11_plan_129, if_neg (by omega), z.2, sg_X11_plan_153, sg_X11_plan_153, z.1, show ((k + 1 : Nat) : Int) - 1 = k by omega, z_wr (by omega) (by omega), show (k : Int) + -1 = k - 1 by omega]
    by_cases e : i < c % 5
    · rw [if_pos (by omega), if_pos e]
    · rw [if_neg (by omega), if_neg e]
theorem M_plan_h {g : mm_H} (hg : MV g) (hS : SB (g 2) (g 4)) (hh : g 4 10 ≤ 900) {n : Nat} (hn : g 2 0 = n) {l1 l2 l3 l4 l6 : Int} {c : Nat} (hc : c < 100000) : ∀ (m i : Nat) (l8 l9 l10 : mm_V), i + m = 4 → ∃ m8 m9 m10, em 38 106 [mm_r 0, mm_i l1, mm_i l2, mm_i l3, mm_i l4, mm_i c, mm_i l6, mm_i i, l8, l9, l10] [] (hd_f g (hp_f (g 2) (g 4) n c i)) = em 38 106 [mm_r 0, mm_i l1, mm_i l2, mm_i l3, mm_i l4, mm_i c, mm_i l6, mm_i 4, m8, m9, m10] [] (hd_f g (hp_f (g 2) (g 4) n c 4))
  | 0, i, l8, l9, l10, hi => by
    have e : i = 4 := by omega
    subst e
    exact ⟨l8, l9, l10, rfl⟩
  | m + 1, i, l8, l9, l10, hi => by
    have hnn := hg.1.n
    have hb := hp_SB hg.1 hS hh n c i (by omega)
    have e2 : hd_f g (hp_f (g 2) (g 4) n c i) 2 = g 2 := hd_o _ _ (by decide) (by decide)
    obtain ⟨c', a1⟩ := M_plan_b (q := hd_f g (hp_f (g 2) (g 4) n c i)) (l1 := l1) (l2 := l2) (l3 := l3) (l4 := l4) (l5 := c) (l6 := l6) (i := i) n c 0 (by omega) hc
    obtain ⟨m8, m9, m10, ih⟩ := M_plan_h hg hS hh hn (l1 := l1) (l2 := l2) (l3 := l3) (l4 := l4) (l6 := l6) hc m (i + 1) (mm_i (bq_f i n c 0)) (mm_i c') (mm_i (-1)) (by omega)
    refine ⟨m8, m9, m10, ?_⟩
    rw [sg_X11_plan_106, if_pos (by omega), e2, hn, z_sub (by omega) (by omega), a1, sg_X11_plan_129, if_pos (by omega)]
    refine mm_bi (M_go hg.1 hb.1 _ _ (by omega)) ?_
    refine (sg_X11_plan_175 _ _ _ _ _ _ _ _ _ _ _ (hd_f g (gs_f (g 2) (hp_f (g 2) (g 4) n c i) (bq_f i n c 0) 0))).trans ?_
    rw [z_wr (by omega) (by omega)]
    exact ih
theorem hp_o {R S : Nat → Int} (hR : VM R) (n c : Nat) {j : Nat} (hj : 12 ≤ j) : ∀ i, hp_f R S n c i j = S j
  | 0 => rfl
  | i + 1 => by rw [hp_s, gs_o hR _ _ hj, hp_o hR n c hj i]
theorem M_plan_c {g : mm_H} (hg : MV g) (hS : SB (g 2) (g 4)) (hh : g 4 10 ≤ 900) {n : Nat} (hn : g 2 0 = n) {w : Int} {L c : Nat} (hL : L ≤ 3125) (hc : c < L) (hc5 : c < 5 ^ n) (b : Int × Int) (hb : (b.1 = -4 ∧ b.2 = -4) ∨ (0 ≤ b.1 ∧ 0 ≤ b.2)) (l6 l7 l8 l9 l10 : mm_V) : ∃ m6 m7 m8 m9 m10, em 38 53 [mm_r 0, mm_i w, mm_i L, mm_i b.1, mm_i b.2, mm_i c, l6, l7, l8, l9, l10] [] (hd_f g (g 4)) = em 38 53 [mm_r 0, mm_i w, mm_i L, mm_i (qs_f (g 2) (oc_f (g 2) (g 4)) n c b).1, mm_i (qs_f (g 2) (oc_f (g 2) (g 4)) n c b).2, mm_i ((c : Int) + 1), m6, m7, m8, m9, m10] [] (hd_f g (g 4)) := by
  have hnn := hg.1.n
  have hd := M_plan_d (q := hd_f g (g 4)) (l1 := w) (l2 := L) (l3 := b.1) (l4 := b.2) (l5 := c) l8 l9 l10 n c 0 hc5 (by omega) (by omega) (by omega)
  rw [Int.zero_add] at hd
  have e0 : em 38 53 [mm_r 0, mm_i w, mm_i L, mm_i b.1, mm_i b.2, mm_i c, l6, l7, l8, l9, l10] [] (hd_f g (g 4)) = em 38 66 [mm_r 0, mm_i w, mm_i L, mm_i b.1, mm_i b.2, mm_i c, mm_i (sd_f n c), mm_i 0, l8, l9, l10] [] (hd_f g (g 4)) := by
    rw [sg_X11_plan_53, if_pos (by omega)]
    exact hd
  obtain ⟨m8, m9, m10, a1⟩ := M_plan_h hg hS hh hn (l1 := w) (l2 := L) (l3 := b.1) (l4 := b.2) (l6 := sd_f n c) (c := c) (by omega) 4 0 l8 l9 l10 (by omega)
  have hm := hp_met hg.1 hg.2.1 hS hh hn c
  have h4 := (hp_SB hg.1 hS hh n c 4 (by omega)).1
  have e2 : hd_f g (hp_f (g 2) (g 4) n c 4) 2 = g 2 := hd_o _ _ (by decide) (by decide)
  have e4 : hd_f g (hp_f (g 2) (g 4) n c 4) 4 = hp_f (g 2) (g 4) n c 4 := hd_4 _ _
  have hmet := M_met (MV_hd hg h4.1)
  rw [e2, e4] at hmet
  have fin : ∀ s f x : Int, f = (if s = 0 then b.1 else (c : Int)) → x = (if s = 0 then b.2 else sd_f n c) → em 38 204 [mm_r 0, mm_i w, mm_i L, mm_i b.1, mm_i b.2, mm_i c, mm_i (sd_f n c), mm_i 4, m8, m9, m10] [mm_i s] (hd_f g (hp_f (g 2) (g 4) n c 4)) = em 38 53 [mm_r 0, mm_i w, mm_i L, mm_i f, mm_i x, mm_i ((c : Int) + 1), mm_i (sd_f n c), mm_i s, m8, m9, m10] [] (hd_f g (g 4)) := by
    intro s f x hf hx
    have go : em 38 230 [mm_r 0, mm_i w, mm_i L, mm_i f, mm_i b.2, mm_i c, mm_i (sd_f n c), mm_i s, m8, m9, m10] [mm_i x] (hd_f g (hp_f (g 2) (g 4) n c 4)) = em 38 53 [mm_r 0, mm_i w, mm_i L, mm_i f, mm_i x, mm_i ((c : Int) + 1), mm_i (sd_f n c), mm_i s, m8, m9, m10] [] (hd_f g (g 4)) := by
      rw [sg_X11_plan_230]
      refine mm_bi (M_let (fun j hj => hp_o hg.1 n c hj 4)) ?_
      refine (sg_X11_plan_236 _ _ _ _ _ _ _ _ _ _ (hd_f g (g 4))).trans ?_
      rw [z_wr (by omega) (by omega)]
    rw [sg_X11_plan_204, sg_X11_plan_217, sg_X11_plan_217]
    by_cases z : s = 0
    · rw [if_pos z] at hf hx ⊢
      rw [if_pos z, ← go, hf, hx]
    · rw [if_neg z] at hf hx ⊢
      rw [if_neg z, ← go, hf, hx]
  have f1 : em 38 103 [mm_r 0, mm_i w, mm_i L, mm_i b.1, mm_i b.2, mm_i c, mm_i (sd_f n c), mm_i 0, l8, l9, l10] [] (hd_f g (g 4)) = (if mt_f (g 2) (hp_f (g 2) (g 4) n c 4) (g 2 1).toNat = mm_sub (mm_shl 1 (g 2 1)) 1 then em 38 53 [mm_r 0, mm_i w, mm_i L, mm_i c, mm_i (sd_f n c), mm_i ((c : Int) + 1), mm_i (sd_f n c), mm_i 1, m8, m9, m10] [] (hd_f g (g 4)) else em 38 53 [mm_r 0, mm_i w, mm_i L, mm_i b.1, mm_i b.2, mm_i ((c : Int) + 1), mm_i (sd_f n c), mm_i 0, m8, m9, m10] [] (hd_f g (g 4))) := by
    rw [sg_X11_plan_103]
    refine a1.trans ?_
    rw [sg_X11_plan_106, if_neg (by decide)]
    refine mm_bi hmet ?_
    refine (sg_X11_plan_186 _ _ _ _ _ _ _ _ _ _ _ (hd_f g (hp_f (g 2) (g 4) n c 4))).trans ?_
    rw [e2, fin 1 c (sd_f n c) (by rw [if_neg (by decide)]) (by rw [if_neg (by decide)]), fin 0 b.1 b.2 (by rw [if_pos rfl]) (by rw [if_pos rfl])]
  rw [e0, sg_X11_plan_66, if_neg (by decide)]
  by_cases q : b.1 = -4 ∨ sd_f n c < b.2
  · have go : (if b.2 = -4 then em 38 103 [mm_r 0, mm_i w, mm_i L, mm_i b.1, mm_i b.2, mm_i c, mm_i (sd_f n c), mm_i 0, l8, l9, l10] [] (hd_f g (g 4)) else if sd_f n c < b.2 then em 38 103 [mm_r 0, mm_i w, mm_i L, mm_i b.1, mm_i b.2, mm_i c, mm_i (sd_f n c), mm_i 0, l8, l9, l10] [] (hd_f g (g 4)) else em 38 236 [mm_r 0, mm_i w, mm_i L, mm_i b.1, mm_i b.2, mm_i c, mm_i (sd_f n c), mm_i 0, l8, l9, l10] [] (hd_f g (g 4))) = em 38 103 [mm_r 0, mm_i w, mm_i L, mm_i b.1, mm_i b.2, mm_i c, mm_i (sd_f n c), mm_i 0, l8, l9, l10] [] (hd_f g (g 4)) := by
      by_cases q1 : b.2 = -4
      · rw [if_pos q1]
      · rw [if_neg q1, if_pos (by omega)]
    rw [go, f1]
    by_cases v : vq_f (g 2) (oc_f (g 2) (g 4)) n c = true
    · have ep : qs_f (g 2) (oc_f (g 2) (g 4)) n c b = ((c : Int), sd_f n c) := if_pos ⟨v, q⟩
      rw [if_pos (hm.mpr v), ep]
      exact ⟨mm_i (sd_f n c), mm_i 1, m8, m9, m10, rfl⟩
    · have ep : qs_f (g 2) (oc_f (g 2) (g 4)) n c b = b := if_neg (fun z => v z.1)
      rw [if_neg (fun z => v (hm.mp z)), ep]
      exact ⟨mm_i (sd_f n c), mm_i 0, m8, m9, m10, rfl⟩
  · have ep : qs_f (g 2) (oc_f (g 2) (g 4)) n c b = b := if_neg (fun z => q z.2)
    rw [ep, if_neg (by omega), if_neg (by omega), sg_X11_plan_236, z_wr (by omega) (by omega)]
    exact ⟨mm_i (sd_f n c), mm_i 0, l8, l9, l10, rfl⟩
