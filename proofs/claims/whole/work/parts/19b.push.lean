/-! ===== dusks that are put by ===== -/
theorem DS_c {h : mm_H} {d : Nat} {R S S2 : Nat → Int} (hR : VM R) (e : ∀ j, j < 12 → S2 j = S j) (q : DS h d R S) : DS h d R S2 := by
  have := hR.n
  refine ⟨fun k hk => ?_, ?_, ?_⟩
  · rw [e k (by omega), e (5 + k) (by omega)]; exact q.1 k hk
  · rw [e 10 (by decide)]; exact q.2.1
  · rw [e 11 (by decide)]; exact q.2.2
theorem SM_c {R S S2 : Nat → Int} (hR : VM R) (e : ∀ j, j < 12 → S2 j = S j) (q : SM R S) : SM R S2 := by
  have := hR.n
  refine ⟨fun k hk => ?_, fun k hk => ?_, ?_, ?_⟩
  · rw [e k (by omega)]; exact q.1 k hk
  · rw [e (5 + k) (by omega)]; exact q.2.1 k hk
  · rw [e 10 (by decide)]; exact q.2.2.1
  · rw [e 10 (by decide), e 11 (by decide)]; exact q.2.2.2
def kb_f (P S : Nat → Int) (b k j : Nat) : Int := if b ≤ j ∧ j < b + k then S (j - b) else P j
theorem kb_up (P S : Nat → Int) (b k : Nat) : mm_up (kb_f P S b k) (b + k) (S k) = kb_f P S b (k + 1) := by
  funext j
  unfold mm_up kb_f
  by_cases e : j = b + k
  · subst e; rw [if_pos rfl, if_pos (by omega), show b + k - b = k by omega]
  · rw [if_neg e]
    by_cases c : b ≤ j ∧ j < b + k
    · rw [if_pos c, if_pos (by omega)]
    · rw [if_neg c, if_neg (by omega)]
theorem kb_0 (P S : Nat → Int) (b : Nat) : kb_f P S b 0 = P := by funext j; exact if_neg (by omega)
theorem kb_in {P S : Nat → Int} {b k j : Nat} (h : j < k) : kb_f P S b k (b + j) = S j := by unfold kb_f; rw [if_pos (by omega), show b + j - b = j by omega]
theorem kb_out {P S : Nat → Int} {b k j : Nat} (h : ¬ (b ≤ j ∧ j < b + k)) : kb_f P S b k j = P j := if_neg h
theorem M_keeps2 {g : mm_H} (hk : 0 ≤ g 0 6 ∧ g 0 6 ≤ 7) : ∀ (m : Nat) (i : Int), 0 ≤ i → i + m = 12 → em 26 50 [mm_r 0, mm_i i] [] (mm_up g 5 (kb_f (g 5) (g 4) (12 * (g 0 6).toNat) i.toNat)) = some (none, mm_st (mm_up g 5 (kb_f (g 5) (g 4) (12 * (g 0 6).toNat) 12)) 0 6 (g 0 6 + 1))
  | 0, i, h0, hi => by
    rw [sg_X11_keeps_50, if_neg (by omega), z_un (k := 5) (j := 0) _ _ (by decide), z_add (by omega) (by omega), show i.toNat = 12 by omega]
  | m + 1, i, h0, hi => by
    rw [sg_X11_keeps_50, if_pos (by omega), if_pos (by omega), z_un (k := 5) (j := 0) _ _ (by decide), z_un (k := 5) (j := 4) _ _ (by decide), z_mul (by omega) (by omega), z_add (by omega) (by omega), if_pos (by omega), z_wr (by omega) (by omega)]
    have ih := M_keeps2 hk m (i + 1) (by omega) (by omega)
    rw [show (i + 1).toNat = i.toNat + 1 by omega, ← kb_up] at ih
    rw [← ih]
    congr 1
    unfold mm_st
    rw [z_up, z_uu, show (12 * g 0 6 + i).toNat = 12 * (g 0 6).toNat + i.toNat by omega]
def sh_f (P : Nat → Int) (i j : Nat) : Int := if j < i then P (j + 12) else P j
theorem sh_up (P : Nat → Int) (i : Nat) : mm_up (sh_f P i) i (P (i + 12)) = sh_f P (i + 1) := by
  funext j
  unfold mm_up sh_f
  by_cases e : j = i
  · subst e; rw [if_pos rfl, if_pos (by omega)]
  · rw [if_neg e]
    by_cases c : j < i
    · rw [if_pos c, if_pos (by omega)]
    · rw [if_neg c, if_neg (by omega)]
theorem M_keeps1 {g : mm_H} (hk : g 0 6 = 8) : ∀ (m : Nat) (i : Int), 0 ≤ i → i + m = 84 → em 26 11 [mm_r 0, mm_i i] [] (mm_up g 5 (sh_f (g 5) i.toNat)) = em 26 48 [mm_r 0, mm_i 84] [] (mm_st (mm_up g 5 (sh_f (g 5) 84)) 0 6 7)
  | 0, i, h0, hi => by
    rw [sg_X11_keeps_11, if_neg (by omega), z_un (k := 5) (j := 0) _ _ (by decide), hk, show mm_sub 8 1 = 7 by decide +kernel, show i.toNat = 84 by omega, show i = 84 by omega]
  | m + 1, i, h0, hi => by
    rw [sg_X11_keeps_11, if_pos (by omega), z_add (by omega) (by omega), if_pos (by omega), if_pos (by omega), z_wr (by omega) (by omega)]
    have ih := M_keeps1 hk m (i + 1) (by omega) (by omega)
    rw [show (i + 1).toNat = i.toNat + 1 by omega, ← sh_up] at ih
    rw [← ih]
    congr 1
    unfold mm_st
    rw [z_up, z_uu, show (i + 12).toNat = i.toNat + 12 by omega]
    congr 2
    exact if_neg (by omega)
/-- behind 'keeps': the newest is the dusk, the others have moved by off -/
theorem M_keeps {g : mm_H} (hk : 0 ≤ g 0 6 ∧ g 0 6 ≤ 8) : ∃ (g2 : mm_H) (off kn : Nat), em 26 0 [mm_r 0, mm_u] [] g = some (none, g2) ∧ (∀ a, a ≠ 0 → a ≠ 5 → g2 a = g a) ∧ (∀ j, j ≠ 6 → g2 0 j = g 0 j) ∧ g2 0 6 = (kn : Int) + 1 ∧ (g 0 6 < 8 ∧ off = 0 ∧ g 0 6 = kn ∨ g 0 6 = 8 ∧ off = 1 ∧ kn = 7) ∧ (∀ i, i < kn → ∀ j, j < 12 → g2 5 (12 * i + j) = g 5 (12 * (i + off) + j)) ∧ ∀ j, j < 12 → g2 5 (12 * kn + j) = g 4 j := by
  by_cases c : g 0 6 = 8
  · have e5 : (mm_st (mm_up g 5 (sh_f (g 5) 84)) 0 6 7) 5 = sh_f (g 5) 84 := by rw [z_sc _ _ (by decide), z_up]
    have e4 : (mm_st (mm_up g 5 (sh_f (g 5) 84)) 0 6 7) 4 = g 4 := by rw [z_sc _ _ (by decide), z_un _ _ (by decide)]
    have e6 : (mm_st (mm_up g 5 (sh_f (g 5) 84)) 0 6 7) 0 6 = 7 := z_se _ _ _ _
    have k2 := M_keeps2 (g := mm_st (mm_up g 5 (sh_f (g 5) 84)) 0 6 7) (by rw [e6]; omega) 12 0 (by omega) (by omega)
    rw [e5, e4, e6, show (0 : Int).toNat = 0 from rfl, kb_0] at k2
    refine ⟨mm_st (mm_up (mm_st (mm_up g 5 (sh_f (g 5) 84)) 0 6 7) 5 (kb_f (sh_f (g 5) 84) (g 4) (12 * (7 : Int).toNat) 12)) 0 6 (7 + 1), 1, 7, ?_, ?_, ?_, ?_, Or.inr ⟨c, rfl, rfl⟩, ?_, ?_⟩
    · rw [sg_X11_keeps_0, if_pos c]
      have k1 := M_keeps1 c 84 0 (by omega) (by omega)
      rw [show sh_f (g 5) (0 : Int).toNat = g 5 from funext fun j => if_neg (by simp), z_ui] at k1
      rw [k1, sg_X11_keeps_48, ← k2]
      congr 1
      conv => lhs; rw [← z_ui (mm_st (mm_up g 5 (sh_f (g 5) 84)) 0 6 7) 5]
      rw [e5]
    · intro a h1 h2
      rw [z_sc _ _ h1, z_un _ _ h2, z_sc _ _ h1, z_un _ _ h2]
    · intro j h1
      rw [z_ss _ _ h1, z_un _ _ (by decide), z_ss _ _ h1, z_un _ _ (by decide)]
    · rw [z_se]; rfl
    · intro i hi j hj
      rw [z_sc _ _ (by decide), z_up, kb_out (by simp; omega)]
      unfold sh_f
      rw [if_pos (by omega)]
      congr 1
      omega
    · intro j hj
      rw [z_sc _ _ (by decide), z_up]
      exact kb_in hj
  · have k2 := M_keeps2 (g := g) (by omega) 12 0 (by omega) (by omega)
    rw [show (0 : Int).toNat = 0 from rfl, kb_0, z_ui] at k2
    refine ⟨mm_st (mm_up g 5 (kb_f (g 5) (g 4) (12 * (g 0 6).toNat) 12)) 0 6 (g 0 6 + 1), 0, (g 0 6).toNat, ?_, ?_, ?_, ?_, Or.inl ⟨by omega, rfl, by omega⟩, ?_, ?_⟩
    · rw [sg_X11_keeps_0, if_neg c, sg_X11_keeps_48, k2]
    · intro a h1 h2
      rw [z_sc _ _ h1, z_un _ _ h2]
    · intro j h1
      rw [z_ss _ _ h1, z_un _ _ (by decide)]
    · rw [z_se]; omega
    · intro i hi j hj
      rw [z_sc _ _ (by decide), z_up, kb_out (by omega), Nat.add_zero]
    · intro j hj
      rw [z_sc _ _ (by decide), z_up]
      exact kb_in hj
/-! the class's shelf -/
def dk_p (d : Nat) : Prop := d = 30 ∨ d = 33 ∨ d = 36 ∨ d = 39 ∨ d = 42 ∨ d = 45 ∨ d = 48 ∨ d = 51 ∨ d = 56 ∨ d = 59
theorem dk_u {d : Nat} (h : uk_p d) : dk_p d := by unfold uk_p at h; unfold dk_p; omega
theorem dk_k {d : Nat} (h : kk_p d) : dk_p d := by unfold kk_p at h; unfold dk_p; omega
theorem uk_b {d : Nat} (h : uk_p d) : 30 ≤ d ∧ d ≤ 51 ∧ d % 3 = 0 := by unfold uk_p at h; omega
theorem kk_b {d : Nat} (h : kk_p d) : 56 ≤ d ∧ d ≤ 59 ∧ d % 3 = 2 := by unfold kk_p at h; omega
theorem dk_b {d : Nat} (h : dk_p d) : 30 ≤ d ∧ d ≤ 59 ∧ (d ≤ 51 ∨ 56 ≤ d) := by unfold dk_p at h; omega
theorem BP_to {d : Nat} (h : dk_p d) : BP d 25 := by
  rcases h with rfl | rfl | rfl | rfl | rfl | rfl | rfl | rfl | rfl | rfl <;> (unfold BP; decide)
theorem BP_fr {d : Nat} (h : dk_p d) : BP 25 d := by
  rcases h with rfl | rfl | rfl | rfl | rfl | rfl | rfl | rfl | rfl | rfl <;> (unfold BP; decide)
theorem X_put {h : mm_H} {sk d : Nat} {n : Int} (hs : sk = 28 ∧ n = 8 ∨ sk = 54 ∧ n = 2) (hu : 0 ≤ h sk 1 ∧ h sk 1 < n) (hd : h (sk + 1) (h sk 1).toNat = d) (hk : dk_p d) : ∃ h2, ex 41 11 [mm_r sk, mm_r 25] [] h = some (none, h2) ∧ (∀ a, a ≠ sk → ¬ (d ≤ a ∧ a ≤ d + 2) → h2 a = h a) ∧ h2 sk 1 = h sk 1 + 1 ∧ (∀ k, k < 5 → h2 (d + 1) k = h (25 + 1) k ∧ h2 (d + 2) k = h (25 + 2) k) ∧ h2 d 2 = h 25 2 ∧ h2 d 3 = h 25 3 := by
  have hsk : sk = 28 ∨ sk = 54 := by omega
  have hk2 := dk_b hk
  obtain ⟨h1, b1, b2, b3, b4, b5⟩ := X_become (BP_to hk) h
  have e1 : h1 sk = h sk := b2 sk (by omega)
  refine ⟨mm_st h1 sk 1 (h sk 1 + 1), ?_, ?_, ?_, ?_, ?_, ?_⟩
  · have ew : ((wX (sk + 1)).2 : Int) = n := by rcases hs with ⟨rfl, rfl⟩ | ⟨rfl, rfl⟩ <;> rfl
    rw [sg_X7_push_11 hsk rfl, ew, if_pos hu, hd, show ((d : Int)).toNat = d by simp, sg_X7_push_20 hsk rfl hk]
    refine mm_bi b1 ?_
    refine (sg_X7_push_24 hsk rfl h1).trans ?_
    rw [e1, z_add (by omega) (by omega)]
  · intro a h2 h3
    rw [z_sc _ _ h2]; exact b2 a h3
  · rw [z_se]
  · intro k hk3
    rw [z_sc _ _ (by omega), z_sc _ _ (by omega)]; exact b3 k hk3
  · rw [z_sc _ _ (by omega)]; exact b4
  · rw [z_sc _ _ (by omega)]; exact b5
def sf_f (P : Nat → Int) (m j : Nat) : Int := if j < m then P (j + 1) else P j
theorem sf_up (P : Nat → Int) (i : Nat) : mm_up (sf_f P i) i (P (i + 1)) = sf_f P (i + 1) := by
  funext j
  unfold mm_up sf_f
  by_cases e : j = i
  · subst e; rw [if_pos rfl, if_pos (by omega)]
  · rw [if_neg e]
    by_cases c : j < i
    · rw [if_pos c, if_pos (by omega)]
    · rw [if_neg c, if_neg (by omega)]
theorem X_drop_l {h : mm_H} {rd : Nat} (hrd : dk_p rd) (u4 : ∀ i : Nat, i < 8 → ∃ d : Nat, h 29 i = d ∧ uk_p d) (hu : h 28 1 = 8) : ∀ (m : Nat) (i : Int), 1 ≤ i → i + m = 8 → ex 43 9 [mm_r 28, mm_r rd, mm_i i] [] (mm_up h 29 (sf_f (h 29) (i - 1).toNat)) = some (none, mm_st (mm_up h 29 (mm_up (sf_f (h 29) 7) 7 rd)) 28 1 7)
  | 0, i, h0, hi => by
    have ew : ((wX (28 + 1)).2 : Int) = 8 := rfl
    rw [sg_X7_dropOldest_9 (Or.inl rfl) hrd, ew, if_neg (by omega), show mm_sub 8 1 = 7 by decide +kernel, sg_X7_dropOldest_50 (Or.inl rfl) hrd, ew, if_pos (by decide), sg_X7_dropOldest_51 (Or.inl rfl) hrd]
    rw [z_sc _ _ (by decide), z_un (k := 29) (j := 28) _ _ (by decide), hu, show mm_sub 8 1 = 7 by decide +kernel, show (i - 1).toNat = 7 by omega]
    congr 3
    unfold mm_st
    rw [z_up, z_uu]
    rfl
  | m + 1, i, h0, hi => by
    have ew : ((wX (28 + 1)).2 : Int) = 8 := rfl
    obtain ⟨d, d1, d2⟩ := u4 i.toNat (by omega)
    have es : sf_f (h 29) (i - 1).toNat i.toNat = d := (if_neg (by omega)).trans d1
    rw [sg_X7_dropOldest_9 (Or.inl rfl) hrd, ew, if_pos (by omega), if_pos (by omega)]
    change ex 43 31 [mm_r 28, mm_r rd, mm_i i] [mm_r ((mm_up h 29 (sf_f (h 29) (i - 1).toNat)) 29 i.toNat).toNat, mm_i (mm_sub i 1), mm_r (28 + 1)] _ = _
    rw [z_up, es, show ((d : Int)).toNat = d by simp, z_sub (by omega) (by omega), sg_X7_dropOldest_31 (Or.inl rfl) hrd (dk_u d2), ew, if_pos (by omega), sg_X7_dropOldest_32 (Or.inl rfl) hrd, z_wr (by omega) (by omega)]
    have ih := X_drop_l hrd u4 hu m (i + 1) (by omega) (by omega)
    rw [show (i + 1 - 1).toNat = (i - 1).toNat + 1 by omega, ← sf_up, show (i - 1).toNat + 1 = i.toNat by omega, d1] at ih
    rw [← ih]
    congr 1
    unfold mm_st
    change mm_up (mm_up h 29 (sf_f (h 29) (i - 1).toNat)) 29 (mm_up ((mm_up h 29 (sf_f (h 29) (i - 1).toNat)) 29) (i - 1).toNat d) = _
    rw [z_up, z_uu]
theorem X_drop {h : mm_H} (u4 : ∀ i : Nat, i < 8 → ∃ d : Nat, h 29 i = d ∧ uk_p d) (hu : h 28 1 = 8) : ex 43 0 [mm_r 28, mm_u, mm_u] [] h = some (none, mm_st (mm_up h 29 (mm_up (sf_f (h 29) 7) 7 (h 29 0))) 28 1 7) := by
  obtain ⟨d, d1, d2⟩ := u4 0 (by omega)
  have ew : ((wX (28 + 1)).2 : Int) = 8 := rfl
  rw [sg_X7_dropOldest_0 (Or.inl rfl), ew, if_pos (by decide)]
  change ex 43 6 [mm_r 28, mm_u, mm_u] [mm_r (h 29 0).toNat] h = _
  rw [d1, show ((d : Int)).toNat = d by simp, sg_X7_dropOldest_6 (Or.inl rfl) (dk_u d2)]
  have := X_drop_l (dk_u d2) u4 hu 7 1 (by omega) (by omega)
  rw [show sf_f (h 29) ((1 : Int) - 1).toNat = h 29 from funext fun j => if_neg (by simp), z_ui] at this
  exact this
theorem X_skFull {h : mm_H} {sk : Nat} {n : Int} (hs : sk = 28 ∧ n = 8 ∨ sk = 54 ∧ n = 2) : ex 39 0 [mm_r sk] [] h = some (some (mm_i (if h sk 1 < n then 0 else 1)), h) := by
  have hsk : sk = 28 ∨ sk = 54 := by omega
  have ew : ((wX (sk + 1)).2 : Int) = n := by rcases hs with ⟨rfl, rfl⟩ | ⟨rfl, rfl⟩ <;> rfl
  rw [sg_X7_isFull_0 hsk, ew]
  split
  · rw [sg_X7_isFull_17 hsk, if_pos (Or.inl rfl)]
  · rw [sg_X7_isFull_17 hsk, if_pos (Or.inr rfl)]
theorem DS_w {h h2 : mm_H} {d : Nat} {R S : Nat → Int} (hR : VM R) (hD : DS h 25 R S) (b3 : ∀ k, k < 5 → h2 (d + 1) k = h (25 + 1) k ∧ h2 (d + 2) k = h (25 + 2) k) (b4 : h2 d 2 = h 25 2) (b5 : h2 d 3 = h 25 3) : DS h2 d R S := by
  have := hR.n
  refine ⟨fun k hk => ?_, b4.trans hD.2.1, b5.trans hD.2.2⟩
  rw [(b3 k (by omega)).1, (b3 k (by omega)).2]
  exact hD.1 k hk
/-- an hour or a greasing begins: both put the dusk by -/
theorem push_U {h g : mm_H} {v : Nat} (hr : Rel h g v) : ∃ h2 g2, ex 41 0 [mm_r 28, mm_r 25] [] h = some (none, h2) ∧ em 26 0 [mm_r 0, mm_u] [] g = some (none, g2) ∧ UD h2 g2 ∧ (∀ a, ¬ (28 ≤ a ∧ a < 54) → h2 a = h a) ∧ (∀ a, a ≠ 0 → a ≠ 5 → g2 a = g a) ∧ (∀ j, j ≠ 6 → g2 0 j = g 0 j) := by
  obtain ⟨⟨u1, u2, u3⟩, u4, u5, u6⟩ := id hr.U
  have hR := hr.M.1
  obtain ⟨g2, off, kn, m1, m2, m3, m4, m5, m6, m7⟩ := M_keeps (g := g) ⟨u2, u3⟩
  rcases m5 with ⟨c, rfl, ck⟩ | ⟨c, rfl, rfl⟩
  · obtain ⟨d, d1, d2⟩ := u4 kn (by omega)
    have d2' := uk_b d2
    obtain ⟨h2, p1, p2, p3, p4, p5, p6⟩ := X_put (h := h) (sk := 28) (d := d) (n := 8) (Or.inl ⟨rfl, rfl⟩) (by omega) (by rw [u1, ck]; exact d1) (dk_u d2)
    refine ⟨h2, g2, ?_, m1, ?_, fun a ha => p2 a (by omega) (by omega), m2, m3⟩
    · rw [sg_X7_push_0 (Or.inl rfl) rfl]
      refine mm_bi (X_skFull (Or.inl ⟨rfl, rfl⟩)) ?_
      refine (sg_X7_push_4 (Or.inl rfl) rfl _ h).trans ?_
      rw [if_pos (by rw [if_pos (by omega)])]
      exact p1
    · have e29 : h2 29 = h 29 := p2 29 (by omega) (by omega)
      refine ⟨⟨by rw [p3, m4, u1, ck], by rw [m4]; omega, by rw [m4]; omega⟩, fun i hi => by rw [e29]; exact u4 i hi, fun i j hi hj => by rw [e29]; exact u5 i j hi hj, fun i hi => ?_⟩
      rw [m4] at hi
      rw [e29, m2 2 (by decide) (by decide)]
      by_cases e : i = kn
      · subst e
        rw [d1, show ((d : Int)).toNat = d by simp]
        exact ⟨DS_c hR (fun j hj => m7 j hj) (DS_w hR hr.D p4 p5 p6), SM_c hR (fun j hj => m7 j hj) hr.S⟩
      · obtain ⟨di, di1, di2⟩ := u4 i (by omega)
        have hne := u5 i kn (by omega) (by omega)
        rw [di1, d1] at hne
        have di2' := uk_b di2
        have q := u6 i (by omega)
        rw [di1, show ((di : Int)).toNat = di by simp] at q
        rw [di1, show ((di : Int)).toNat = di by simp]
        exact ⟨DS_c hR (fun j hj => m6 i (by omega) j hj) (DS_up q.1 (fun a h1 h2 => p2 a (by omega) (by omega))), SM_c hR (fun j hj => m6 i (by omega) j hj) q.2⟩
  · have u18 : h 28 1 = 8 := by omega
    obtain ⟨d, d1, d2⟩ := u4 0 (by omega)
    have d2' := uk_b d2
    have r29 : (mm_st (mm_up h 29 (mm_up (sf_f (h 29) 7) 7 (h 29 0))) 28 1 7) 29 = mm_up (sf_f (h 29) 7) 7 (h 29 0) := by rw [z_sc _ _ (by decide), z_up]
    have r28 : (mm_st (mm_up h 29 (mm_up (sf_f (h 29) 7) 7 (h 29 0))) 28 1 7) 28 1 = 7 := z_se _ _ _ _
    have ro : ∀ a, a ≠ 28 → a ≠ 29 → (mm_st (mm_up h 29 (mm_up (sf_f (h 29) 7) 7 (h 29 0))) 28 1 7) a = h a := fun a h1 h2 => by rw [z_sc _ _ h1, z_un _ _ h2]
    obtain ⟨h2, p1, p2, p3, p4, p5, p6⟩ := X_put (h := mm_st (mm_up h 29 (mm_up (sf_f (h 29) 7) 7 (h 29 0))) 28 1 7) (sk := 28) (d := d) (n := 8) (Or.inl ⟨rfl, rfl⟩) (by rw [r28]; omega) (by
      show (mm_st (mm_up h 29 (mm_up (sf_f (h 29) 7) 7 (h 29 0))) 28 1 7) 29 _ = _
      rw [r29, r28]
      exact (z_up _ _ _).trans d1) (dk_u d2)
    rw [ro 25 (by decide) (by decide)] at p5 p6
    rw [ro (25 + 1) (by decide) (by decide), ro (25 + 2) (by decide) (by decide)] at p4
    have hrow : ∀ i, i < 7 → h2 29 i = h 29 (i + 1) := fun i hi => by
      rw [p2 29 (by omega) (by omega), r29, z_un _ _ (by omega)]
      exact if_pos hi
    have hrow7 : h2 29 7 = h 29 0 := by rw [p2 29 (by omega) (by omega), r29, z_up]
    refine ⟨h2, g2, ?_, m1, ?_, fun a ha => (p2 a (by omega) (by omega)).trans (ro a (by omega) (by omega)), m2, m3⟩
    · rw [sg_X7_push_0 (Or.inl rfl) rfl]
      refine mm_bi (X_skFull (Or.inl ⟨rfl, rfl⟩)) ?_
      refine (sg_X7_push_4 (Or.inl rfl) rfl _ h).trans ?_
      rw [if_neg (by rw [if_neg (by omega)]; decide)]
      refine mm_bi (X_drop u4 u18) ?_
      exact p1
    · refine ⟨⟨by rw [p3, m4, r28]; rfl, by rw [m4]; omega, by rw [m4]; omega⟩, fun i hi => ?_, fun i j hi hj => ?_, fun i hi => ?_⟩
      · by_cases e : i < 7
        · rw [hrow i e]; exact u4 (i + 1) (by omega)
        · rw [show i = 7 by omega, hrow7]; exact u4 0 (by omega)
      · by_cases e : j < 7
        · rw [hrow i (by omega), hrow j e]; exact u5 (i + 1) (j + 1) (by omega) (by omega)
        · rw [hrow i (by omega), show j = 7 by omega, hrow7]
          exact fun q => u5 0 (i + 1) (by omega) (by omega) q.symm
      · rw [m4] at hi
        rw [m2 2 (by decide) (by decide)]
        by_cases e : i < 7
        · rw [hrow i e]
          obtain ⟨di, di1, di2⟩ := u4 (i + 1) (by omega)
          have hne := u5 0 (i + 1) (by omega) (by omega)
          rw [di1, d1] at hne
          have di2' := uk_b di2
          have q := u6 (i + 1) (by omega)
          rw [di1, show ((di : Int)).toNat = di by simp] at q
          rw [di1, show ((di : Int)).toNat = di by simp]
          exact ⟨DS_c hR (fun j hj => m6 i e j hj) (DS_up q.1 (fun a h1 h2 => (p2 a (by omega) (by omega)).trans (ro a (by omega) (by omega)))), SM_c hR (fun j hj => m6 i e j hj) q.2⟩
        · have e7 : i = 7 := by omega
          subst e7
          rw [hrow7, d1, show ((d : Int)).toNat = d by simp]
          exact ⟨DS_c hR (fun j hj => m7 j hj) (DS_w hR hr.D p4 p5 p6), SM_c hR (fun j hj => m7 j hj) hr.S⟩
