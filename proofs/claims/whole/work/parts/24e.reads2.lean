/-! ===== numbers behind a letter: the model ===== -/
theorem lt_k (T : Nat → Int) (n p k : Int) (hk : 1 ≤ k) : (lt_f T n p (-1) = k ↔ lt_f T n p 0 = k) := by
  unfold lt_f
  split
  · exact Iff.rfl
  · omega
theorem M_reads_0 {q : mm_H} {w i : Int} (hq : 0 ≤ q 0 11 ∧ q 0 11 ≤ 2000) : em 10 4 [mm_r 0, mm_i w, mm_i 0, mm_i i] [] q = some (some (mm_i 0), mm_st q 0 11 (q 0 11)) := by
  rw [sg_X11_reads_4, if_pos rfl, sg_X11_reads_97, if_pos rfl, sg_X11_reads_118, sg_X11_reads_119, if_pos rfl, sg_X11_reads_134, if_pos (Or.inl rfl), z_add (by omega) (by omega), Int.add_zero]
  split <;> rfl
/-- the place at which the model stands before number i -/
def MA (T : Nat → Int) (n w p : Int) (i : Nat) (at' : Int) : Prop := (i = 0 ∧ at' = p) ∨ ∃ j q, i = j + 1 ∧ rp_f T n w p j = some q ∧ 0 ≤ (nu_f T n q).1 ∧ at' = (nu_f T n q).2
/-- one number: the model reads number i at place r -/
theorem M_reads_n {h g q : mm_H} (hx : TX h g) {w : Int} {i : Nat} (hi : i < 4) {r d : Int} (hr : 0 ≤ r ∧ r ≤ 1000) (hd : q 0 11 + d = r) (hd2 : d = 0 ∨ d = 1) (e1 : q 1 = g 1) (e0 : q 0 1 = g 0 1) : ∃ q2, em 10 54 [mm_r 0, mm_i w, mm_i 1, mm_i i] [mm_i d, mm_i (q 0 11), mm_r 0] q = em 10 4 [mm_r 0, mm_i w, mm_i (if (nu_f (g 1) (g 0 1) r).1 < 0 then 0 else 1), mm_i ((i : Int) + 1)] [] q2 ∧ q2 0 11 = (nu_f (g 1) (g 0 1) r).2 ∧ q2 8 i = (nu_f (g 1) (g 0 1) r).1 ∧ (∀ a, a ≠ 0 → a ≠ 8 → q2 a = q a) ∧ (∀ j, j ≠ 11 → q2 0 j = q 0 j) ∧ ∀ j, j ≠ i → q2 8 j = q 8 j := by
  obtain ⟨q1, a1, a2, a3, a4⟩ := M_number (q := mm_st q 0 11 r) hx ((z_sc _ _ (by decide)).trans e1) ((z_ss _ _ (by decide)).trans e0) (fun j hj => (hx.2.2 j hj).2) (by rw [z_se]; exact hr)
  rw [z_se] at a1 a2
  refine ⟨mm_st q1 8 i (nu_f (g 1) (g 0 1) r).1, ?_, (congrFun (z_sc _ _ (by decide)) 11).trans a2, z_se _ _ _ _, fun a h1 h2 => by rw [z_sc _ _ h2, a3 a h1, z_sc _ _ h1], fun j hj => by rw [z_sc _ _ (by decide), a4 j hj, z_ss _ _ hj], fun j hj => by rw [z_ss _ _ hj, a3 8 (by decide), z_sc _ _ (by decide)]⟩
  rw [sg_X11_reads_54, if_neg (by decide), z_add (by omega) (by omega), hd]
  refine mm_bi a1 ?_
  refine (sg_X11_reads_71 _ _ _ _ _ q1).trans ?_
  rw [sg_X11_reads_75, if_pos (by omega), if_pos (by omega), Int.toNat_natCast, z_se, sg_X11_reads_90, sg_X11_reads_90, z_wr (by omega) (by omega)]
  split <;> rfl
