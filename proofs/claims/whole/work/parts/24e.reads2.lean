/-! ===== numbers behind a letter: the model ===== -/
theorem lt_k (T : Nat → Int) (n p k : Int) (hk : 1 ≤ k) : (lt_f T n p (-1) = k ↔ lt_f T n p 0 = k) := by
  unfold lt_f
  split
  · exact Iff.rfl
  · omega
theorem M_reads_0 {q : mm_H} {w i : Int} (hq : 0 ≤ q 0 11 ∧ q 0 11 ≤ 2000) : em 10 4 [mm_r 0, mm_i w, mm_i 0, mm_i i] [] q = some (some (mm_i 0), mm_st q 0 11 (q 0 11)) := by
  rw [sg_X11_reads_4, if_pos rfl, sg_X11_reads_97, if_pos rfl, sg_X11_reads_118, sg_X11_reads_119, if_pos rfl, sg_X11_reads_134, if_pos (Or.inl rfl), z_add (by omega) (by omega), Int.add_zero]
  split <;> rfl
