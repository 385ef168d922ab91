def st_X6_figure : Nat → Bool := fun p => Nat.beq p 19 || Nat.beq p 20
set_option maxRecDepth 100000 in
theorem sg_X6_figure_0   (a0 : Int) (h : mm_H) : ex 37 0 [mm_i a0] [] h = (if a0 < 48 then (ex 37 19 [mm_i a0] [] h) else (if 57 < a0 then (ex 37 19 [mm_i a0] [] h) else (ex 37 20 [mm_i a0] [mm_i (mm_sub a0 48)] h))) := (congrFun (congrFun (congrFun (mm_ev_fw hShX st_X6_figure 37 300 0) _) _) _).trans rfl
set_option maxRecDepth 100000 in
theorem sg_X6_figure_19   (l0 : Int) (h : mm_H) : ex 37 19 [mm_i l0] [] h = (ex 37 20 [mm_i l0] [mm_i (-1)] h) := (congrFun (congrFun (congrFun (mm_ev_fw hShX st_X6_figure 37 300 19) _) _) _).trans rfl
set_option maxRecDepth 100000 in
theorem sg_X6_figure_20   (l0 : Int) (s0 : Int) (h : mm_H) : ex 37 20 [mm_i l0] [mm_i s0] h = (some (some (mm_i s0), h)) := (congrFun (congrFun (congrFun (mm_ev_fw hShX st_X6_figure 37 300 20) _) _) _).trans rfl
def st_X7_size : Nat → Bool := fun p => false
set_option maxRecDepth 100000 in
theorem sg_X7_size_0 {sk : Nat} (hsk : sk = 28 ∨ sk = 54)  (h : mm_H) : ex 38 0 [mm_r sk] [] h = (some (some (mm_i (h sk 1)), h)) := by
  rcases hsk with rfl | rfl <;> exact (congrFun (congrFun (congrFun (mm_ev_fw hShX st_X7_size 38 300 0) _) _) _).trans rfl
def st_X7_isFull : Nat → Bool := fun p => Nat.beq p 17
set_option maxRecDepth 100000 in
theorem sg_X7_isFull_0 {sk : Nat} (hsk : sk = 28 ∨ sk = 54)  (h : mm_H) : ex 39 0 [mm_r sk] [] h = (if (h sk 1) < ((wX (sk + 1)).2 : Int) then (ex 39 17 [mm_r sk] [mm_i 0] h) else (ex 39 17 [mm_r sk] [mm_i 1] h)) := by
  rcases hsk with rfl | rfl <;> exact (congrFun (congrFun (congrFun (mm_ev_fw hShX st_X7_isFull 39 300 0) _) _) _).trans rfl
set_option maxRecDepth 100000 in
theorem sg_X7_isFull_17 {sk : Nat} (hsk : sk = 28 ∨ sk = 54) (s0 : Int) (h : mm_H) : ex 39 17 [mm_r sk] [mm_i s0] h = (if s0 = 0 ∨ s0 = 1 then some (some (mm_i s0), h) else none) := by
  rcases hsk with rfl | rfl <;> exact (congrFun (congrFun (congrFun (mm_ev_fw hShX st_X7_isFull 39 300 17) _) _) _).trans rfl
def st_X7_clear : Nat → Bool := fun p => false
set_option maxRecDepth 100000 in
theorem sg_X7_clear_0 {sk : Nat} (hsk : sk = 28 ∨ sk = 54)  (h : mm_H) : ex 40 0 [mm_r sk] [] h = (some (none, (mm_st h sk 1 0))) := by
  rcases hsk with rfl | rfl <;> exact (congrFun (congrFun (congrFun (mm_ev_fw hShX st_X7_clear 40 300 0) _) _) _).trans rfl
def st_X7_push : Nat → Bool := fun p => Nat.beq p 4 || Nat.beq p 11 || Nat.beq p 20 || Nat.beq p 24
set_option maxRecDepth 100000 in
theorem sg_X7_push_0 {sk : Nat} {e : Nat} (hsk : sk = 28 ∨ sk = 54) (he : e = 25)  (h : mm_H) : ex 41 0 [mm_r sk, mm_r e] [] h = ((ex 39 0 [mm_r sk] [] h).bind fun q => ex 41 4 [mm_r sk, mm_r e] (q.1.toList ++ []) q.2) := by
  rcases hsk with rfl | rfl <;> subst he <;> exact (congrFun (congrFun (congrFun (mm_ev_fw hShX st_X7_push 41 300 0) _) _) _).trans rfl
set_option maxRecDepth 100000 in
theorem sg_X7_push_4 {sk : Nat} {e : Nat} (hsk : sk = 28 ∨ sk = 54) (he : e = 25) (s0 : Int) (h : mm_H) : ex 41 4 [mm_r sk, mm_r e] [mm_i s0] h = (if s0 = 0 then (ex 41 11 [mm_r sk, mm_r e] [] h) else ((ex 43 0 [mm_r sk, mm_u, mm_u] [] h).bind fun q => ex 41 11 [mm_r sk, mm_r e] (q.1.toList ++ []) q.2)) := by
  rcases hsk with rfl | rfl <;> subst he <;> exact (congrFun (congrFun (congrFun (mm_ev_fw hShX st_X7_push 41 300 4) _) _) _).trans rfl
set_option maxRecDepth 100000 in
theorem sg_X7_push_11 {sk : Nat} {e : Nat} (hsk : sk = 28 ∨ sk = 54) (he : e = 25)  (h : mm_H) : ex 41 11 [mm_r sk, mm_r e] [] h = (if 0 ≤ (h sk 1) ∧ (h sk 1) < ((wX (sk + 1)).2 : Int) then (ex 41 20 [mm_r sk, mm_r e] [mm_r (h (sk + 1) (h sk 1).toNat).toNat] h) else none) := by
  rcases hsk with rfl | rfl <;> subst he <;> exact (congrFun (congrFun (congrFun (mm_ev_fw hShX st_X7_push 41 300 11) _) _) _).trans rfl
set_option maxRecDepth 100000 in
theorem sg_X7_push_20 {sk : Nat} {e : Nat} {rd : Nat} (hsk : sk = 28 ∨ sk = 54) (he : e = 25) (hrd : rd = 30 ∨ rd = 33 ∨ rd = 36 ∨ rd = 39 ∨ rd = 42 ∨ rd = 45 ∨ rd = 48 ∨ rd = 51 ∨ rd = 56 ∨ rd = 59)  (h : mm_H) : ex 41 20 [mm_r sk, mm_r e] [mm_r rd] h = ((ex 15 0 [mm_r rd, mm_r e, mm_u] [] h).bind fun q => ex 41 24 [mm_r sk, mm_r e] (q.1.toList ++ []) q.2) := by
  rcases hsk with rfl | rfl <;> subst he <;> rcases hrd with rfl | rfl | rfl | rfl | rfl | rfl | rfl | rfl | rfl | rfl <;> exact (congrFun (congrFun (congrFun (mm_ev_fw hShX st_X7_push 41 300 20) _) _) _).trans rfl
set_option maxRecDepth 100000 in
theorem sg_X7_push_24 {sk : Nat} {e : Nat} (hsk : sk = 28 ∨ sk = 54) (he : e = 25)  (h : mm_H) : ex 41 24 [mm_r sk, mm_r e] [] h = (some (none, (mm_st h sk 1 (mm_add (h sk 1) 1)))) := by
  rcases hsk with rfl | rfl <;> subst he <;> exact (congrFun (congrFun (congrFun (mm_ev_fw hShX st_X7_push 41 300 24) _) _) _).trans rfl
def st_X7_popInto : Nat → Bool := fun p => Nat.beq p 27 || Nat.beq p 30
set_option maxRecDepth 100000 in
theorem sg_X7_popInto_0 {sk : Nat} {e : Nat} (hsk : sk = 28 ∨ sk = 54) (he : e = 25)  (h : mm_H) : ex 42 0 [mm_r sk, mm_r e] [] h = (if 0 < (h sk 1) then (if 0 ≤ ((mm_st h sk 1 (mm_sub (h sk 1) 1)) sk 1) ∧ ((mm_st h sk 1 (mm_sub (h sk 1) 1)) sk 1) < ((wX (sk + 1)).2 : Int) then (ex 42 27 [mm_r sk, mm_r e] [mm_r ((mm_st h sk 1 (mm_sub (h sk 1) 1)) (sk + 1) ((mm_st h sk 1 (mm_sub (h sk 1) 1)) sk 1).toNat).toNat, mm_r e] (mm_st h sk 1 (mm_sub (h sk 1) 1))) else none) else (ex 42 30 [mm_r sk, mm_r e] [] h)) := by
  rcases hsk with rfl | rfl <;> subst he <;> exact (congrFun (congrFun (congrFun (mm_ev_fw hShX st_X7_popInto 42 300 0) _) _) _).trans rfl
set_option maxRecDepth 100000 in
theorem sg_X7_popInto_27 {sk : Nat} {e : Nat} {rd : Nat} (hsk : sk = 28 ∨ sk = 54) (he : e = 25) (hrd : rd = 30 ∨ rd = 33 ∨ rd = 36 ∨ rd = 39 ∨ rd = 42 ∨ rd = 45 ∨ rd = 48 ∨ rd = 51 ∨ rd = 56 ∨ rd = 59)  (h : mm_H) : ex 42 27 [mm_r sk, mm_r e] [mm_r rd, mm_r e] h = ((ex 15 0 [mm_r e, mm_r rd, mm_u] [] h).bind fun q => ex 42 30 [mm_r sk, mm_r e] (q.1.toList ++ []) q.2) := by
  rcases hsk with rfl | rfl <;> subst he <;> rcases hrd with rfl | rfl | rfl | rfl | rfl | rfl | rfl | rfl | rfl | rfl <;> exact (congrFun (congrFun (congrFun (mm_ev_fw hShX st_X7_popInto 42 300 27) _) _) _).trans rfl
set_option maxRecDepth 100000 in
theorem sg_X7_popInto_30 {sk : Nat} {e : Nat} (hsk : sk = 28 ∨ sk = 54) (he : e = 25)  (h : mm_H) : ex 42 30 [mm_r sk, mm_r e] [] h = (some (none, h)) := by
  rcases hsk with rfl | rfl <;> subst he <;> exact (congrFun (congrFun (congrFun (mm_ev_fw hShX st_X7_popInto 42 300 30) _) _) _).trans rfl
def st_X7_dropOldest : Nat → Bool := fun p => Nat.beq p 6 || Nat.beq p 9 || Nat.beq p 31 || Nat.beq p 32 || Nat.beq p 50 || Nat.beq p 51
set_option maxRecDepth 100000 in
theorem sg_X7_dropOldest_0 {sk : Nat} (hsk : sk = 28 ∨ sk = 54)  (h : mm_H) : ex 43 0 [mm_r sk, mm_u, mm_u] [] h = (if 0 ≤ 0 ∧ 0 < ((wX (sk + 1)).2 : Int) then (ex 43 6 [mm_r sk, mm_u, mm_u] [mm_r (h (sk + 1) 0).toNat] h) else none) := by
  rcases hsk with rfl | rfl <;> exact (congrFun (congrFun (congrFun (mm_ev_fw hShX st_X7_dropOldest 43 300 0) _) _) _).trans rfl
set_option maxRecDepth 100000 in
theorem sg_X7_dropOldest_6 {sk : Nat} {rd : Nat} (hsk : sk = 28 ∨ sk = 54) (hrd : rd = 30 ∨ rd = 33 ∨ rd = 36 ∨ rd = 39 ∨ rd = 42 ∨ rd = 45 ∨ rd = 48 ∨ rd = 51 ∨ rd = 56 ∨ rd = 59)  (h : mm_H) : ex 43 6 [mm_r sk, mm_u, mm_u] [mm_r rd] h = (ex 43 9 [mm_r sk, mm_r rd, mm_i 1] [] h) := by
  rcases hsk with rfl | rfl <;> rcases hrd with rfl | rfl | rfl | rfl | rfl | rfl | rfl | rfl | rfl | rfl <;> exact (congrFun (congrFun (congrFun (mm_ev_fw hShX st_X7_dropOldest 43 300 6) _) _) _).trans rfl
set_option maxRecDepth 100000 in
theorem sg_X7_dropOldest_9 {sk : Nat} {rd : Nat} (hsk : sk = 28 ∨ sk = 54) (hrd : rd = 30 ∨ rd = 33 ∨ rd = 36 ∨ rd = 39 ∨ rd = 42 ∨ rd = 45 ∨ rd = 48 ∨ rd = 51 ∨ rd = 56 ∨ rd = 59) (l2 : Int) (h : mm_H) : ex 43 9 [mm_r sk, mm_r rd, mm_i l2] [] h = (if l2 < ((wX (sk + 1)).2 : Int) then (if 0 ≤ l2 ∧ l2 < ((wX (sk + 1)).2 : Int) then (ex 43 31 [mm_r sk, mm_r rd, mm_i l2] [mm_r (h (sk + 1) l2.toNat).toNat, mm_i (mm_sub l2 1), mm_r (sk + 1)] h) else none) else (ex 43 50 [mm_r sk, mm_r rd, mm_i l2] [mm_r rd, mm_i (mm_sub ((wX (sk + 1)).2 : Int) 1), mm_r (sk + 1)] h)) := by
  rcases hsk with rfl | rfl <;> rcases hrd with rfl | rfl | rfl | rfl | rfl | rfl | rfl | rfl | rfl | rfl <;> exact (congrFun (congrFun (congrFun (mm_ev_fw hShX st_X7_dropOldest 43 300 9) _) _) _).trans rfl
set_option maxRecDepth 100000 in
theorem sg_X7_dropOldest_31 {sk : Nat} {rd : Nat} {rb : Nat} (hsk : sk = 28 ∨ sk = 54) (hrd : rd = 30 ∨ rd = 33 ∨ rd = 36 ∨ rd = 39 ∨ rd = 42 ∨ rd = 45 ∨ rd = 48 ∨ rd = 51 ∨ rd = 56 ∨ rd = 59) (hrb : rb = 30 ∨ rb = 33 ∨ rb = 36 ∨ rb = 39 ∨ rb = 42 ∨ rb = 45 ∨ rb = 48 ∨ rb = 51 ∨ rb = 56 ∨ rb = 59) (l2 : Int) (s1 : Int) (h : mm_H) : ex 43 31 [mm_r sk, mm_r rd, mm_i l2] [mm_r rb, mm_i s1, mm_r (sk + 1)] h = (if 0 ≤ s1 ∧ s1 < ((wX (sk + 1)).2 : Int) then (ex 43 32 [mm_r sk, mm_r rd, mm_i l2] [] (mm_st h (sk + 1) s1.toNat rb)) else none) := by
  rcases hsk with rfl | rfl <;> rcases hrd with rfl | rfl | rfl | rfl | rfl | rfl | rfl | rfl | rfl | rfl <;> rcases hrb with rfl | rfl | rfl | rfl | rfl | rfl | rfl | rfl | rfl | rfl <;> exact (congrFun (congrFun (congrFun (mm_ev_fw hShX st_X7_dropOldest 43 300 31) _) _) _).trans rfl
set_option maxRecDepth 100000 in
theorem sg_X7_dropOldest_32 {sk : Nat} {rd : Nat} (hsk : sk = 28 ∨ sk = 54) (hrd : rd = 30 ∨ rd = 33 ∨ rd = 36 ∨ rd = 39 ∨ rd = 42 ∨ rd = 45 ∨ rd = 48 ∨ rd = 51 ∨ rd = 56 ∨ rd = 59) (l2 : Int) (h : mm_H) : ex 43 32 [mm_r sk, mm_r rd, mm_i l2] [] h = (ex 43 9 [mm_r sk, mm_r rd, mm_i (mm_wr (l2 + 1))] [] h) := by
  rcases hsk with rfl | rfl <;> rcases hrd with rfl | rfl | rfl | rfl | rfl | rfl | rfl | rfl | rfl | rfl <;> exact (congrFun (congrFun (congrFun (mm_ev_fw hShX st_X7_dropOldest 43 300 32) _) _) _).trans rfl
set_option maxRecDepth 100000 in
theorem sg_X7_dropOldest_50 {sk : Nat} {rd : Nat} (hsk : sk = 28 ∨ sk = 54) (hrd : rd = 30 ∨ rd = 33 ∨ rd = 36 ∨ rd = 39 ∨ rd = 42 ∨ rd = 45 ∨ rd = 48 ∨ rd = 51 ∨ rd = 56 ∨ rd = 59) (l2 : Int) (s1 : Int) (h : mm_H) : ex 43 50 [mm_r sk, mm_r rd, mm_i l2] [mm_r rd, mm_i s1, mm_r (sk + 1)] h = (if 0 ≤ s1 ∧ s1 < ((wX (sk + 1)).2 : Int) then (ex 43 51 [mm_r sk, mm_r rd, mm_i l2] [] (mm_st h (sk + 1) s1.toNat rd)) else none) := by
  rcases hsk with rfl | rfl <;> rcases hrd with rfl | rfl | rfl | rfl | rfl | rfl | rfl | rfl | rfl | rfl <;> exact (congrFun (congrFun (congrFun (mm_ev_fw hShX st_X7_dropOldest 43 300 50) _) _) _).trans rfl
set_option maxRecDepth 100000 in
theorem sg_X7_dropOldest_51 {sk : Nat} {rd : Nat} (hsk : sk = 28 ∨ sk = 54) (hrd : rd = 30 ∨ rd = 33 ∨ rd = 36 ∨ rd = 39 ∨ rd = 42 ∨ rd = 45 ∨ rd = 48 ∨ rd = 51 ∨ rd = 56 ∨ rd = 59) (l2 : Int) (h : mm_H) : ex 43 51 [mm_r sk, mm_r rd, mm_i l2] [] h = (some (none, (mm_st h sk 1 (mm_sub (h sk 1) 1)))) := by
  rcases hsk with rfl | rfl <;> rcases hrd with rfl | rfl | rfl | rfl | rfl | rfl | rfl | rfl | rfl | rfl <;> exact (congrFun (congrFun (congrFun (mm_ev_fw hShX st_X7_dropOldest 43 300 51) _) _) _).trans rfl
def st_X8_isFull : Nat → Bool := fun p => Nat.beq p 15
set_option maxRecDepth 100000 in
theorem sg_X8_isFull_0    (h : mm_H) : ex 44 0 [mm_r 1] [] h = (if (h 1 1) < 200 then (ex 44 15 [mm_r 1] [mm_i 0] h) else (ex 44 15 [mm_r 1] [mm_i 1] h)) := (congrFun (congrFun (congrFun (mm_ev_fw hShX st_X8_isFull 44 300 0) _) _) _).trans rfl
set_option maxRecDepth 100000 in
theorem sg_X8_isFull_15   (s0 : Int) (h : mm_H) : ex 44 15 [mm_r 1] [mm_i s0] h = (if s0 = 0 ∨ s0 = 1 then some (some (mm_i s0), h) else none) := (congrFun (congrFun (congrFun (mm_ev_fw hShX st_X8_isFull 44 300 15) _) _) _).trans rfl
def st_X8_add : Nat → Bool := fun p => Nat.beq p 30
set_option maxRecDepth 100000 in
theorem sg_X8_add_0   (a1 : Int) (h : mm_H) : ex 45 0 [mm_r 1, mm_i a1] [] h = (if (h 1 1) < 200 then (if (0 ≤ (h 1 1) ∧ (h 1 1) < 200) ∧ 0 ≤ a1 ∧ a1 < 65536 then (ex 45 30 [mm_r 1, mm_i a1] [] (mm_st (mm_st h 2 (h 1 1).toNat a1) 1 1 (mm_add ((mm_st h 2 (h 1 1).toNat a1) 1 1) 1))) else none) else (ex 45 30 [mm_r 1, mm_i a1] [] h)) := (congrFun (congrFun (congrFun (mm_ev_fw hShX st_X8_add 45 300 0) _) _) _).trans rfl
set_option maxRecDepth 100000 in
theorem sg_X8_add_30   (l1 : Int) (h : mm_H) : ex 45 30 [mm_r 1, mm_i l1] [] h = (some (none, h)) := (congrFun (congrFun (congrFun (mm_ev_fw hShX st_X8_add 45 300 30) _) _) _).trans rfl
def st_X8_clear : Nat → Bool := fun p => false
set_option maxRecDepth 100000 in
theorem sg_X8_clear_0    (h : mm_H) : ex 46 0 [mm_r 1] [] h = (some (none, (mm_st h 1 1 0))) := (congrFun (congrFun (congrFun (mm_ev_fw hShX st_X8_clear 46 300 0) _) _) _).trans rfl
def st_X8_length : Nat → Bool := fun p => false
set_option maxRecDepth 100000 in
theorem sg_X8_length_0    (h : mm_H) : ex 47 0 [mm_r 1] [] h = (some (some (mm_i (h 1 1)), h)) := (congrFun (congrFun (congrFun (mm_ev_fw hShX st_X8_length 47 300 0) _) _) _).trans rfl
def st_X8_letterAt : Nat → Bool := fun p => Nat.beq p 21 || Nat.beq p 22
set_option maxRecDepth 100000 in
theorem sg_X8_letterAt_0   (a1 : Int) (h : mm_H) : ex 48 0 [mm_r 1, mm_i a1] [] h = (if a1 < 0 then (ex 48 21 [mm_r 1, mm_i a1] [] h) else (if a1 < (h 1 1) then (if 0 ≤ a1 ∧ a1 < 200 then (ex 48 22 [mm_r 1, mm_i a1] [mm_i (h 2 a1.toNat)] h) else none) else (ex 48 21 [mm_r 1, mm_i a1] [] h))) := (congrFun (congrFun (congrFun (mm_ev_fw hShX st_X8_letterAt 48 300 0) _) _) _).trans rfl
set_option maxRecDepth 100000 in
theorem sg_X8_letterAt_21   (l1 : Int) (h : mm_H) : ex 48 21 [mm_r 1, mm_i l1] [] h = (ex 48 22 [mm_r 1, mm_i l1] [mm_i 0] h) := (congrFun (congrFun (congrFun (mm_ev_fw hShX st_X8_letterAt 48 300 21) _) _) _).trans rfl
set_option maxRecDepth 100000 in
theorem sg_X8_letterAt_22   (l1 : Int) (s0 : Int) (h : mm_H) : ex 48 22 [mm_r 1, mm_i l1] [mm_i s0] h = (some (some (mm_i s0), h)) := (congrFun (congrFun (congrFun (mm_ev_fw hShX st_X8_letterAt 48 300 22) _) _) _).trans rfl
def st_X9_clear : Nat → Bool := fun p => false
set_option maxRecDepth 100000 in
theorem sg_X9_clear_0 {v : Nat} (hv : v = 5 ∨ v = 15)  (h : mm_H) : ex 49 0 [mm_r v] [] h = (some (none, (mm_st (mm_st (mm_st (mm_st (mm_st h v 0 0) v 1 0) v 2 0) v 10 1) v 11 2))) := by
  rcases hv with rfl | rfl <;> exact (congrFun (congrFun (congrFun (mm_ev_fw hShX st_X9_clear 49 300 0) _) _) _).trans rfl
def st_X9_take : Nat → Bool := fun p => Nat.beq p 68 || Nat.beq p 79 || Nat.beq p 87 || Nat.beq p 98
set_option maxRecDepth 100000 in
theorem sg_X9_take_0 {v : Nat} (hv : v = 5 ∨ v = 15) (a1 : Int) (h : mm_H) : ex 50 0 [mm_r v, mm_i a1, mm_r 4] [] h = (if 4 < 4 then (some (some (mm_i 0), h)) else (if a1 = 99 then ((ex 54 0 [mm_r v, mm_i (h 4 0), mm_i (h 4 1)] [] h).bind fun q => ex 50 98 [mm_r v, mm_i a1, mm_r 4] (q.1.toList ++ []) q.2) else (if a1 = 109 then ((ex 53 0 [mm_r v, mm_i (h 4 0)] [] h).bind fun q => ex 50 87 [mm_r v, mm_i a1, mm_r 4] (q.1.toList ++ []) q.2) else (if a1 = 114 then ((ex 51 0 [mm_r v, mm_i (h 4 0), mm_i (h 4 1), mm_i (h 4 2), mm_i (h 4 3)] [] h).bind fun q => ex 50 68 [mm_r v, mm_i a1, mm_r 4] (q.1.toList ++ []) q.2) else (if a1 = 119 then ((ex 52 0 [mm_r v, mm_i (h 4 0), mm_i (h 4 1)] [] h).bind fun q => ex 50 79 [mm_r v, mm_i a1, mm_r 4] (q.1.toList ++ []) q.2) else (some (some (mm_i 0), h))))))) := by
  rcases hv with rfl | rfl <;> exact (congrFun (congrFun (congrFun (mm_ev_fw hShX st_X9_take 50 300 0) _) _) _).trans rfl
set_option maxRecDepth 100000 in
theorem sg_X9_take_68 {v : Nat} (hv : v = 5 ∨ v = 15) (l1 : Int) (s0 : Int) (h : mm_H) : ex 50 68 [mm_r v, mm_i l1, mm_r 4] [mm_i s0] h = (if s0 = 0 ∨ s0 = 1 then some (some (mm_i s0), h) else none) := by
  rcases hv with rfl | rfl <;> exact (congrFun (congrFun (congrFun (mm_ev_fw hShX st_X9_take 50 300 68) _) _) _).trans rfl
set_option maxRecDepth 100000 in
theorem sg_X9_take_79 {v : Nat} (hv : v = 5 ∨ v = 15) (l1 : Int) (s0 : Int) (h : mm_H) : ex 50 79 [mm_r v, mm_i l1, mm_r 4] [mm_i s0] h = (if s0 = 0 ∨ s0 = 1 then some (some (mm_i s0), h) else none) := by
  rcases hv with rfl | rfl <;> exact (congrFun (congrFun (congrFun (mm_ev_fw hShX st_X9_take 50 300 79) _) _) _).trans rfl
set_option maxRecDepth 100000 in
theorem sg_X9_take_87 {v : Nat} (hv : v = 5 ∨ v = 15) (l1 : Int) (s0 : Int) (h : mm_H) : ex 50 87 [mm_r v, mm_i l1, mm_r 4] [mm_i s0] h = (if s0 = 0 ∨ s0 = 1 then some (some (mm_i s0), h) else none) := by
  rcases hv with rfl | rfl <;> exact (congrFun (congrFun (congrFun (mm_ev_fw hShX st_X9_take 50 300 87) _) _) _).trans rfl
set_option maxRecDepth 100000 in
theorem sg_X9_take_98 {v : Nat} (hv : v = 5 ∨ v = 15) (l1 : Int) (s0 : Int) (h : mm_H) : ex 50 98 [mm_r v, mm_i l1, mm_r 4] [mm_i s0] h = (if s0 = 0 ∨ s0 = 1 then some (some (mm_i s0), h) else none) := by
  rcases hv with rfl | rfl <;> exact (congrFun (congrFun (congrFun (mm_ev_fw hShX st_X9_take 50 300 98) _) _) _).trans rfl
def st_X9_takeRope : Nat → Bool := fun p => Nat.beq p 12 || Nat.beq p 20 || Nat.beq p 25 || Nat.beq p 51 || Nat.beq p 54
set_option maxRecDepth 100000 in
theorem sg_X9_takeRope_0 {v : Nat} (hv : v = 5 ∨ v = 15) (a1 : Int) (a2 : Int) (a3 : Int) (a4 : Int) (h : mm_H) : ex 51 0 [mm_r v, mm_i a1, mm_i a2, mm_i a3, mm_i a4] [] h = (if (h v 0) < 5 then ((ex 95 0 [mm_i a1] [] h).bind fun q => ex 51 12 [mm_r v, mm_i a1, mm_i a2, mm_i a3, mm_i a4] (q.1.toList ++ []) q.2) else (ex 51 25 [mm_r v, mm_i a1, mm_i a2, mm_i a3, mm_i a4] [] h)) := by
  rcases hv with rfl | rfl <;> exact (congrFun (congrFun (congrFun (mm_ev_fw hShX st_X9_takeRope 51 300 0) _) _) _).trans rfl
set_option maxRecDepth 100000 in
theorem sg_X9_takeRope_12 {v : Nat} (hv : v = 5 ∨ v = 15) (l1 : Int) (l2 : Int) (l3 : Int) (l4 : Int) (s0 : Int) (h : mm_H) : ex 51 12 [mm_r v, mm_i l1, mm_i l2, mm_i l3, mm_i l4] [mm_i s0] h = (if s0 = 0 then (ex 51 25 [mm_r v, mm_i l1, mm_i l2, mm_i l3, mm_i l4] [] h) else ((ex 55 0 [mm_r v, mm_i l1, mm_u] [] h).bind fun q => ex 51 20 [mm_r v, mm_i l1, mm_i l2, mm_i l3, mm_i l4] (q.1.toList ++ []) q.2)) := by
  rcases hv with rfl | rfl <;> exact (congrFun (congrFun (congrFun (mm_ev_fw hShX st_X9_takeRope 51 300 12) _) _) _).trans rfl
set_option maxRecDepth 100000 in
theorem sg_X9_takeRope_20 {v : Nat} (hv : v = 5 ∨ v = 15) (l1 : Int) (l2 : Int) (l3 : Int) (l4 : Int) (s0 : Int) (h : mm_H) : ex 51 20 [mm_r v, mm_i l1, mm_i l2, mm_i l3, mm_i l4] [mm_i s0] h = (if s0 = (-4) then (if l2 < 1 then (ex 51 54 [mm_r v, mm_i l1, mm_i l2, mm_i l3, mm_i l4] [] h) else (if 5 < l2 then (ex 51 54 [mm_r v, mm_i l1, mm_i l2, mm_i l3, mm_i l4] [] h) else (if l3 < 0 then (ex 51 54 [mm_r v, mm_i l1, mm_i l2, mm_i l3, mm_i l4] [] h) else (if 3 < l3 then (ex 51 54 [mm_r v, mm_i l1, mm_i l2, mm_i l3, mm_i l4] [] h) else ((ex 97 0 [mm_i l4] [] h).bind fun q => ex 51 51 [mm_r v, mm_i l1, mm_i l2, mm_i l3, mm_i l4] (q.1.toList ++ []) q.2))))) else (ex 51 25 [mm_r v, mm_i l1, mm_i l2, mm_i l3, mm_i l4] [] h)) := by
  rcases hv with rfl | rfl <;> exact (congrFun (congrFun (congrFun (mm_ev_fw hShX st_X9_takeRope 51 300 20) _) _) _).trans rfl
set_option maxRecDepth 100000 in
theorem sg_X9_takeRope_25 {v : Nat} (hv : v = 5 ∨ v = 15) (l1 : Int) (l2 : Int) (l3 : Int) (l4 : Int) (h : mm_H) : ex 51 25 [mm_r v, mm_i l1, mm_i l2, mm_i l3, mm_i l4] [] h = (some (some (mm_i 0), h)) := by
  rcases hv with rfl | rfl <;> exact (congrFun (congrFun (congrFun (mm_ev_fw hShX st_X9_takeRope 51 300 25) _) _) _).trans rfl
set_option maxRecDepth 100000 in
theorem sg_X9_takeRope_51 {v : Nat} (hv : v = 5 ∨ v = 15) (l1 : Int) (l2 : Int) (l3 : Int) (l4 : Int) (s0 : Int) (h : mm_H) : ex 51 51 [mm_r v, mm_i l1, mm_i l2, mm_i l3, mm_i l4] [mm_i s0] h = (if s0 = 0 then (ex 51 54 [mm_r v, mm_i l1, mm_i l2, mm_i l3, mm_i l4] [] h) else (if 0 ≤ (h v 0) ∧ (h v 0) < 5 then (if 0 ≤ ((mm_st h (v + 1) (h v 0).toNat l1) v 0) ∧ ((mm_st h (v + 1) (h v 0).toNat l1) v 0) < 5 then (if 0 ≤ ((mm_st (mm_st h (v + 1) (h v 0).toNat l1) (v + 2) ((mm_st h (v + 1) (h v 0).toNat l1) v 0).toNat l2) v 0) ∧ ((mm_st (mm_st h (v + 1) (h v 0).toNat l1) (v + 2) ((mm_st h (v + 1) (h v 0).toNat l1) v 0).toNat l2) v 0) < 5 then (if 0 ≤ ((mm_st (mm_st (mm_st h (v + 1) (h v 0).toNat l1) (v + 2) ((mm_st h (v + 1) (h v 0).toNat l1) v 0).toNat l2) (v + 3) ((mm_st (mm_st h (v + 1) (h v 0).toNat l1) (v + 2) ((mm_st h (v + 1) (h v 0).toNat l1) v 0).toNat l2) v 0).toNat l3) v 0) ∧ ((mm_st (mm_st (mm_st h (v + 1) (h v 0).toNat l1) (v + 2) ((mm_st h (v + 1) (h v 0).toNat l1) v 0).toNat l2) (v + 3) ((mm_st (mm_st h (v + 1) (h v 0).toNat l1) (v + 2) ((mm_st h (v + 1) (h v 0).toNat l1) v 0).toNat l2) v 0).toNat l3) v 0) < 5 then (some (some (mm_i 1), (mm_st (mm_st (mm_st (mm_st (mm_st h (v + 1) (h v 0).toNat l1) (v + 2) ((mm_st h (v + 1) (h v 0).toNat l1) v 0).toNat l2) (v + 3) ((mm_st (mm_st h (v + 1) (h v 0).toNat l1) (v + 2) ((mm_st h (v + 1) (h v 0).toNat l1) v 0).toNat l2) v 0).toNat l3) (v + 4) ((mm_st (mm_st (mm_st h (v + 1) (h v 0).toNat l1) (v + 2) ((mm_st h (v + 1) (h v 0).toNat l1) v 0).toNat l2) (v + 3) ((mm_st (mm_st h (v + 1) (h v 0).toNat l1) (v + 2) ((mm_st h (v + 1) (h v 0).toNat l1) v 0).toNat l2) v 0).toNat l3) v 0).toNat l4) v 0 (mm_add ((mm_st (mm_st (mm_st (mm_st h (v + 1) (h v 0).toNat l1) (v + 2) ((mm_st h (v + 1) (h v 0).toNat l1) v 0).toNat l2) (v + 3) ((mm_st (mm_st h (v + 1) (h v 0).toNat l1) (v + 2) ((mm_st h (v + 1) (h v 0).toNat l1) v 0).toNat l2) v 0).toNat l3) (v + 4) ((mm_st (mm_st (mm_st h (v + 1) (h v 0).toNat l1) (v + 2) ((mm_st h (v + 1) (h v 0).toNat l1) v 0).toNat l2) (v + 3) ((mm_st (mm_st h (v + 1) (h v 0).toNat l1) (v + 2) ((mm_st h (v + 1) (h v 0).toNat l1) v 0).toNat l2) v 0).toNat l3) v 0).toNat l4) v 0) 1)))) else none) else none) else none) else none)) := by
  rcases hv with rfl | rfl <;> exact (congrFun (congrFun (congrFun (mm_ev_fw hShX st_X9_takeRope 51 300 51) _) _) _).trans rfl
set_option maxRecDepth 100000 in
theorem sg_X9_takeRope_54 {v : Nat} (hv : v = 5 ∨ v = 15) (l1 : Int) (l2 : Int) (l3 : Int) (l4 : Int) (h : mm_H) : ex 51 54 [mm_r v, mm_i l1, mm_i l2, mm_i l3, mm_i l4] [] h = (some (some (mm_i 0), h)) := by
  rcases hv with rfl | rfl <;> exact (congrFun (congrFun (congrFun (mm_ev_fw hShX st_X9_takeRope 51 300 54) _) _) _).trans rfl
def st_X9_takeWant : Nat → Bool := fun p => Nat.beq p 13 || Nat.beq p 20 || Nat.beq p 23
set_option maxRecDepth 100000 in
theorem sg_X9_takeWant_0 {v : Nat} (hv : v = 5 ∨ v = 15) (a1 : Int) (a2 : Int) (h : mm_H) : ex 52 0 [mm_r v, mm_i a1, mm_i a2] [] h = (if (h v 1) < 8 then ((ex 95 0 [mm_i a1] [] h).bind fun q => ex 52 13 [mm_r v, mm_i a1, mm_i a2] (q.1.toList ++ []) q.2) else (ex 52 23 [mm_r v, mm_i a1, mm_i a2] [] h)) := by
  rcases hv with rfl | rfl <;> exact (congrFun (congrFun (congrFun (mm_ev_fw hShX st_X9_takeWant 52 300 0) _) _) _).trans rfl
set_option maxRecDepth 100000 in
theorem sg_X9_takeWant_13 {v : Nat} (hv : v = 5 ∨ v = 15) (l1 : Int) (l2 : Int) (s0 : Int) (h : mm_H) : ex 52 13 [mm_r v, mm_i l1, mm_i l2] [mm_i s0] h = (if s0 = 0 then (ex 52 23 [mm_r v, mm_i l1, mm_i l2] [] h) else ((ex 96 0 [mm_i l2] [] h).bind fun q => ex 52 20 [mm_r v, mm_i l1, mm_i l2] (q.1.toList ++ []) q.2)) := by
  rcases hv with rfl | rfl <;> exact (congrFun (congrFun (congrFun (mm_ev_fw hShX st_X9_takeWant 52 300 13) _) _) _).trans rfl
set_option maxRecDepth 100000 in
theorem sg_X9_takeWant_20 {v : Nat} (hv : v = 5 ∨ v = 15) (l1 : Int) (l2 : Int) (s0 : Int) (h : mm_H) : ex 52 20 [mm_r v, mm_i l1, mm_i l2] [mm_i s0] h = (if s0 = 0 then (ex 52 23 [mm_r v, mm_i l1, mm_i l2] [] h) else (if 0 ≤ (h v 1) ∧ (h v 1) < 8 then (if 0 ≤ ((mm_st h (v + 5) (h v 1).toNat l1) v 1) ∧ ((mm_st h (v + 5) (h v 1).toNat l1) v 1) < 8 then (some (some (mm_i 1), (mm_st (mm_st (mm_st h (v + 5) (h v 1).toNat l1) (v + 6) ((mm_st h (v + 5) (h v 1).toNat l1) v 1).toNat l2) v 1 (mm_add ((mm_st (mm_st h (v + 5) (h v 1).toNat l1) (v + 6) ((mm_st h (v + 5) (h v 1).toNat l1) v 1).toNat l2) v 1) 1)))) else none) else none)) := by
  rcases hv with rfl | rfl <;> exact (congrFun (congrFun (congrFun (mm_ev_fw hShX st_X9_takeWant 52 300 20) _) _) _).trans rfl
set_option maxRecDepth 100000 in
theorem sg_X9_takeWant_23 {v : Nat} (hv : v = 5 ∨ v = 15) (l1 : Int) (l2 : Int) (h : mm_H) : ex 52 23 [mm_r v, mm_i l1, mm_i l2] [] h = (some (some (mm_i 0), h)) := by
  rcases hv with rfl | rfl <;> exact (congrFun (congrFun (congrFun (mm_ev_fw hShX st_X9_takeWant 52 300 23) _) _) _).trans rfl
def st_X9_takeMan : Nat → Bool := fun p => Nat.beq p 13 || Nat.beq p 16
set_option maxRecDepth 100000 in
theorem sg_X9_takeMan_0 {v : Nat} (hv : v = 5 ∨ v = 15) (a1 : Int) (h : mm_H) : ex 53 0 [mm_r v, mm_i a1] [] h = (if (h v 2) < 6 then ((ex 95 0 [mm_i a1] [] h).bind fun q => ex 53 13 [mm_r v, mm_i a1] (q.1.toList ++ []) q.2) else (ex 53 16 [mm_r v, mm_i a1] [] h)) := by
  rcases hv with rfl | rfl <;> exact (congrFun (congrFun (congrFun (mm_ev_fw hShX st_X9_takeMan 53 300 0) _) _) _).trans rfl
set_option maxRecDepth 100000 in
theorem sg_X9_takeMan_13 {v : Nat} (hv : v = 5 ∨ v = 15) (l1 : Int) (s0 : Int) (h : mm_H) : ex 53 13 [mm_r v, mm_i l1] [mm_i s0] h = (if s0 = 0 then (ex 53 16 [mm_r v, mm_i l1] [] h) else (if 0 ≤ (h v 2) ∧ (h v 2) < 6 then (some (some (mm_i 1), (mm_st (mm_st h (v + 7) (h v 2).toNat l1) v 2 (mm_add ((mm_st h (v + 7) (h v 2).toNat l1) v 2) 1)))) else none)) := by
  rcases hv with rfl | rfl <;> exact (congrFun (congrFun (congrFun (mm_ev_fw hShX st_X9_takeMan 53 300 13) _) _) _).trans rfl
set_option maxRecDepth 100000 in
theorem sg_X9_takeMan_16 {v : Nat} (hv : v = 5 ∨ v = 15) (l1 : Int) (h : mm_H) : ex 53 16 [mm_r v, mm_i l1] [] h = (some (some (mm_i 0), h)) := by
  rcases hv with rfl | rfl <;> exact (congrFun (congrFun (congrFun (mm_ev_fw hShX st_X9_takeMan 53 300 16) _) _) _).trans rfl
def st_X9_takePrices : Nat → Bool := fun p => Nat.beq p 20
set_option maxRecDepth 100000 in
theorem sg_X9_takePrices_0 {v : Nat} (hv : v = 5 ∨ v = 15) (a1 : Int) (a2 : Int) (h : mm_H) : ex 54 0 [mm_r v, mm_i a1, mm_i a2] [] h = (if a1 < 0 then (ex 54 20 [mm_r v, mm_i a1, mm_i a2] [] h) else (if 9 < a1 then (ex 54 20 [mm_r v, mm_i a1, mm_i a2] [] h) else (if a2 < 0 then (ex 54 20 [mm_r v, mm_i a1, mm_i a2] [] h) else (if 9 < a2 then (ex 54 20 [mm_r v, mm_i a1, mm_i a2] [] h) else (some (some (mm_i 1), (mm_st (mm_st h v 10 a1) v 11 a2))))))) := by
  rcases hv with rfl | rfl <;> exact (congrFun (congrFun (congrFun (mm_ev_fw hShX st_X9_takePrices 54 300 0) _) _) _).trans rfl
set_option maxRecDepth 100000 in
theorem sg_X9_takePrices_20 {v : Nat} (hv : v = 5 ∨ v = 15) (l1 : Int) (l2 : Int) (h : mm_H) : ex 54 20 [mm_r v, mm_i l1, mm_i l2] [] h = (some (some (mm_i 0), h)) := by
  rcases hv with rfl | rfl <;> exact (congrFun (congrFun (congrFun (mm_ev_fw hShX st_X9_takePrices 54 300 20) _) _) _).trans rfl
def st_X9_ropeOver : Nat → Bool := fun p => Nat.beq p 2
set_option maxRecDepth 100000 in
theorem sg_X9_ropeOver_0 {v : Nat} (hv : v = 5 ∨ v = 15) (a1 : Int) (h : mm_H) : ex 55 0 [mm_r v, mm_i a1, mm_u] [] h = (ex 55 2 [mm_r v, mm_i a1, mm_i 0] [] h) := by
  rcases hv with rfl | rfl <;> exact (congrFun (congrFun (congrFun (mm_ev_fw hShX st_X9_ropeOver 55 300 0) _) _) _).trans rfl
set_option maxRecDepth 100000 in
theorem sg_X9_ropeOver_2 {v : Nat} (hv : v = 5 ∨ v = 15) (l1 : Int) (l2 : Int) (h : mm_H) : ex 55 2 [mm_r v, mm_i l1, mm_i l2] [] h = (if l2 < (h v 0) then (if 0 ≤ l2 ∧ l2 < 5 then (if (h (v + 1) l2.toNat) = l1 then (some (some (mm_i l2), h)) else (ex 55 2 [mm_r v, mm_i l1, mm_i (mm_wr (l2 + 1))] [] h)) else none) else (some (some (mm_i (-4)), h))) := by
  rcases hv with rfl | rfl <;> exact (congrFun (congrFun (congrFun (mm_ev_fw hShX st_X9_ropeOver 55 300 2) _) _) _).trans rfl
def st_X9_findNeighbours : Nat → Bool := fun p => Nat.beq p 5 || Nat.beq p 16 || Nat.beq p 28 || Nat.beq p 48 || Nat.beq p 57 || Nat.beq p 72 || Nat.beq p 94 || Nat.beq p 121
set_option maxRecDepth 100000 in
theorem sg_X9_findNeighbours_0 {v : Nat} (hv : v = 5 ∨ v = 15)  (h : mm_H) : ex 56 0 [mm_r v, mm_u, mm_u, mm_u, mm_u] [] h = (ex 56 5 [mm_r v, mm_i (-4), mm_i 0, mm_u, mm_u] [] h) := by
  rcases hv with rfl | rfl <;> exact (congrFun (congrFun (congrFun (mm_ev_fw hShX st_X9_findNeighbours 56 300 0) _) _) _).trans rfl
set_option maxRecDepth 100000 in
theorem sg_X9_findNeighbours_5 {v : Nat} (hv : v = 5 ∨ v = 15) (l1 : Int) (l2 : Int) (l3 : mm_V) (h : mm_H) : ex 56 5 [mm_r v, mm_i l1, mm_i l2, l3, mm_u] [] h = (if l2 < 24 then ((ex 55 0 [mm_r v, mm_i l2, mm_u] [] h).bind fun q => ex 56 16 [mm_r v, mm_i l1, mm_i l2, l3, mm_u] (q.1.toList ++ []) q.2) else (ex 56 48 [mm_r v, mm_i l1, mm_i (-4), mm_i 23, mm_u] [] h)) := by
  rcases hv with rfl | rfl <;> exact (congrFun (congrFun (congrFun (mm_ev_fw hShX st_X9_findNeighbours 56 300 5) _) _) _).trans rfl
set_option maxRecDepth 100000 in
theorem sg_X9_findNeighbours_16 {v : Nat} (hv : v = 5 ∨ v = 15) (l1 : Int) (l2 : Int) (l3 : mm_V) (s0 : Int) (h : mm_H) : ex 56 16 [mm_r v, mm_i l1, mm_i l2, l3, mm_u] [mm_i s0] h = (if s0 = (-4) then (ex 56 28 [mm_r v, mm_i l1, mm_i l2, mm_i s0, mm_u] [mm_i l1] h) else (ex 56 28 [mm_r v, mm_i l1, mm_i l2, mm_i s0, mm_u] [mm_i s0] h)) := by
  rcases hv with rfl | rfl <;> exact (congrFun (congrFun (congrFun (mm_ev_fw hShX st_X9_findNeighbours 56 300 16) _) _) _).trans rfl
set_option maxRecDepth 100000 in
theorem sg_X9_findNeighbours_28 {v : Nat} (hv : v = 5 ∨ v = 15) (l1 : Int) (l2 : Int) (l3 : Int) (s0 : Int) (h : mm_H) : ex 56 28 [mm_r v, mm_i l1, mm_i l2, mm_i l3, mm_u] [mm_i s0] h = (if 0 ≤ l2 ∧ l2 < 24 then (ex 56 5 [mm_r v, mm_i s0, mm_i (mm_wr (l2 + 1)), mm_i l3, mm_u] [] (mm_st h (v + 8) l2.toNat s0)) else none) := by
  rcases hv with rfl | rfl <;> exact (congrFun (congrFun (congrFun (mm_ev_fw hShX st_X9_findNeighbours 56 300 28) _) _) _).trans rfl
set_option maxRecDepth 100000 in
theorem sg_X9_findNeighbours_48 {v : Nat} (hv : v = 5 ∨ v = 15) (l1 : Int) (l2 : Int) (l3 : Int) (l4 : mm_V) (h : mm_H) : ex 56 48 [mm_r v, mm_i l1, mm_i l2, mm_i l3, l4] [] h = (if l3 < 0 then (some (none, h)) else ((ex 55 0 [mm_r v, mm_i l3, mm_u] [] h).bind fun q => ex 56 57 [mm_r v, mm_i l1, mm_i l2, mm_i l3, l4] (q.1.toList ++ []) q.2)) := by
  rcases hv with rfl | rfl <;> exact (congrFun (congrFun (congrFun (mm_ev_fw hShX st_X9_findNeighbours 56 300 48) _) _) _).trans rfl
set_option maxRecDepth 100000 in
theorem sg_X9_findNeighbours_57 {v : Nat} (hv : v = 5 ∨ v = 15) (l1 : Int) (l2 : Int) (l3 : Int) (l4 : mm_V) (s0 : Int) (h : mm_H) : ex 56 57 [mm_r v, mm_i l1, mm_i l2, mm_i l3, l4] [mm_i s0] h = (if s0 = (-4) then (ex 56 72 [mm_r v, mm_i l1, mm_i l2, mm_i l3, mm_i s0] [mm_i l2] h) else (ex 56 72 [mm_r v, mm_i l1, mm_i l2, mm_i l3, mm_i s0] [mm_i s0] h)) := by
  rcases hv with rfl | rfl <;> exact (congrFun (congrFun (congrFun (mm_ev_fw hShX st_X9_findNeighbours 56 300 57) _) _) _).trans rfl
set_option maxRecDepth 100000 in
theorem sg_X9_findNeighbours_72 {v : Nat} (hv : v = 5 ∨ v = 15) (l1 : Int) (l2 : Int) (l3 : Int) (l4 : Int) (s0 : Int) (h : mm_H) : ex 56 72 [mm_r v, mm_i l1, mm_i l2, mm_i l3, mm_i l4] [mm_i s0] h = (if s0 = (-4) then (if 0 ≤ l3 ∧ l3 < 24 then (ex 56 94 [mm_r v, mm_i l1, mm_i s0, mm_i l3, mm_i l4] [mm_i (h (v + 8) l3.toNat), mm_i l3, mm_r (v + 9)] h) else none) else (ex 56 94 [mm_r v, mm_i l1, mm_i s0, mm_i l3, mm_i l4] [mm_i s0, mm_i l3, mm_r (v + 9)] h)) := by
  rcases hv with rfl | rfl <;> exact (congrFun (congrFun (congrFun (mm_ev_fw hShX st_X9_findNeighbours 56 300 72) _) _) _).trans rfl
set_option maxRecDepth 100000 in
theorem sg_X9_findNeighbours_94 {v : Nat} (hv : v = 5 ∨ v = 15) (l1 : Int) (l2 : Int) (l3 : Int) (l4 : Int) (s0 : Int) (s1 : Int) (h : mm_H) : ex 56 94 [mm_r v, mm_i l1, mm_i l2, mm_i l3, mm_i l4] [mm_i s0, mm_i s1, mm_r (v + 9)] h = (if 0 ≤ s1 ∧ s1 < 24 then (if 0 ≤ l3 ∧ l3 < 24 then (if ((mm_st h (v + 9) s1.toNat s0) (v + 8) l3.toNat) = (-4) then (ex 56 121 [mm_r v, mm_i l1, mm_i l2, mm_i l3, mm_i l4] [mm_i l2, mm_i l3, mm_r (v + 8)] (mm_st h (v + 9) s1.toNat s0)) else (if 0 ≤ l3 ∧ l3 < 24 then (ex 56 121 [mm_r v, mm_i l1, mm_i l2, mm_i l3, mm_i l4] [mm_i ((mm_st h (v + 9) s1.toNat s0) (v + 8) l3.toNat), mm_i l3, mm_r (v + 8)] (mm_st h (v + 9) s1.toNat s0)) else none)) else none) else none) := by
  rcases hv with rfl | rfl <;> exact (congrFun (congrFun (congrFun (mm_ev_fw hShX st_X9_findNeighbours 56 300 94) _) _) _).trans rfl
set_option maxRecDepth 100000 in
theorem sg_X9_findNeighbours_121 {v : Nat} (hv : v = 5 ∨ v = 15) (l1 : Int) (l2 : Int) (l3 : Int) (l4 : Int) (s0 : Int) (s1 : Int) (h : mm_H) : ex 56 121 [mm_r v, mm_i l1, mm_i l2, mm_i l3, mm_i l4] [mm_i s0, mm_i s1, mm_r (v + 8)] h = (if 0 ≤ s1 ∧ s1 < 24 then (ex 56 48 [mm_r v, mm_i l1, mm_i l2, mm_i (mm_wr (l3 + (-1))), mm_i l4] [] (mm_st h (v + 8) s1.toNat s0)) else none) := by
  rcases hv with rfl | rfl <;> exact (congrFun (congrFun (congrFun (mm_ev_fw hShX st_X9_findNeighbours 56 300 121) _) _) _).trans rfl
def st_X9_hasRope : Nat → Bool := fun p => Nat.beq p 16 || Nat.beq p 17
set_option maxRecDepth 100000 in
theorem sg_X9_hasRope_0 {v : Nat} (hv : v = 5 ∨ v = 15) (a1 : Int) (h : mm_H) : ex 57 0 [mm_r v, mm_i a1] [] h = (if a1 < 0 then (ex 57 16 [mm_r v, mm_i a1] [] h) else (if a1 < (h v 0) then (ex 57 17 [mm_r v, mm_i a1] [mm_i 1] h) else (ex 57 16 [mm_r v, mm_i a1] [] h))) := by
  rcases hv with rfl | rfl <;> exact (congrFun (congrFun (congrFun (mm_ev_fw hShX st_X9_hasRope 57 300 0) _) _) _).trans rfl
set_option maxRecDepth 100000 in
theorem sg_X9_hasRope_16 {v : Nat} (hv : v = 5 ∨ v = 15) (l1 : Int) (h : mm_H) : ex 57 16 [mm_r v, mm_i l1] [] h = (ex 57 17 [mm_r v, mm_i l1] [mm_i 0] h) := by
  rcases hv with rfl | rfl <;> exact (congrFun (congrFun (congrFun (mm_ev_fw hShX st_X9_hasRope 57 300 16) _) _) _).trans rfl
set_option maxRecDepth 100000 in
theorem sg_X9_hasRope_17 {v : Nat} (hv : v = 5 ∨ v = 15) (l1 : Int) (s0 : Int) (h : mm_H) : ex 57 17 [mm_r v, mm_i l1] [mm_i s0] h = (if s0 = 0 ∨ s0 = 1 then some (some (mm_i s0), h) else none) := by
  rcases hv with rfl | rfl <;> exact (congrFun (congrFun (congrFun (mm_ev_fw hShX st_X9_hasRope 57 300 17) _) _) _).trans rfl
def st_X9_sets : Nat → Bool := fun p => false
set_option maxRecDepth 100000 in
theorem sg_X9_sets_0 {v : Nat} (hv : v = 5 ∨ v = 15)  (h : mm_H) : ex 58 0 [mm_r v] [] h = (some (some (mm_i (mm_shl 1 (h v 0))), h)) := by
  rcases hv with rfl | rfl <;> exact (congrFun (congrFun (congrFun (mm_ev_fw hShX st_X9_sets 58 300 0) _) _) _).trans rfl
def st_X9_hasSet : Nat → Bool := fun p => Nat.beq p 9 || Nat.beq p 16 || Nat.beq p 17
set_option maxRecDepth 100000 in
theorem sg_X9_hasSet_0 {v : Nat} (hv : v = 5 ∨ v = 15) (a1 : Int) (h : mm_H) : ex 59 0 [mm_r v, mm_i a1] [] h = (if a1 < 0 then (ex 59 16 [mm_r v, mm_i a1] [] h) else ((ex 58 0 [mm_r v] [] h).bind fun q => ex 59 9 [mm_r v, mm_i a1] (q.1.toList ++ [mm_i a1]) q.2)) := by
  rcases hv with rfl | rfl <;> exact (congrFun (congrFun (congrFun (mm_ev_fw hShX st_X9_hasSet 59 300 0) _) _) _).trans rfl
set_option maxRecDepth 100000 in
theorem sg_X9_hasSet_9 {v : Nat} (hv : v = 5 ∨ v = 15) (l1 : Int) (s0 : Int) (s1 : Int) (h : mm_H) : ex 59 9 [mm_r v, mm_i l1] [mm_i s0, mm_i s1] h = (if s1 < s0 then (ex 59 17 [mm_r v, mm_i l1] [mm_i 1] h) else (ex 59 16 [mm_r v, mm_i l1] [] h)) := by
  rcases hv with rfl | rfl <;> exact (congrFun (congrFun (congrFun (mm_ev_fw hShX st_X9_hasSet 59 300 9) _) _) _).trans rfl
set_option maxRecDepth 100000 in
theorem sg_X9_hasSet_16 {v : Nat} (hv : v = 5 ∨ v = 15) (l1 : Int) (h : mm_H) : ex 59 16 [mm_r v, mm_i l1] [] h = (ex 59 17 [mm_r v, mm_i l1] [mm_i 0] h) := by
  rcases hv with rfl | rfl <;> exact (congrFun (congrFun (congrFun (mm_ev_fw hShX st_X9_hasSet 59 300 16) _) _) _).trans rfl
set_option maxRecDepth 100000 in
theorem sg_X9_hasSet_17 {v : Nat} (hv : v = 5 ∨ v = 15) (l1 : Int) (s0 : Int) (h : mm_H) : ex 59 17 [mm_r v, mm_i l1] [mm_i s0] h = (if s0 = 0 ∨ s0 = 1 then some (some (mm_i s0), h) else none) := by
  rcases hv with rfl | rfl <;> exact (congrFun (congrFun (congrFun (mm_ev_fw hShX st_X9_hasSet 59 300 17) _) _) _).trans rfl
def st_X9_price : Nat → Bool := fun p => Nat.beq p 8 || Nat.beq p 17
set_option maxRecDepth 100000 in
theorem sg_X9_price_0 {v : Nat} (hv : v = 5 ∨ v = 15) (a1 : Int) (a2 : Int) (h : mm_H) : ex 60 0 [mm_r v, mm_i a1, mm_i a2] [] h = ((ex 102 0 [mm_i a1] [] h).bind fun q => ex 60 8 [mm_r v, mm_i a1, mm_i a2] (q.1.toList ++ [mm_i (h v 10)]) q.2) := by
  rcases hv with rfl | rfl <;> exact (congrFun (congrFun (congrFun (mm_ev_fw hShX st_X9_price 60 300 0) _) _) _).trans rfl
set_option maxRecDepth 100000 in
theorem sg_X9_price_8 {v : Nat} (hv : v = 5 ∨ v = 15) (l1 : Int) (l2 : Int) (s0 : Int) (s1 : Int) (h : mm_H) : ex 60 8 [mm_r v, mm_i l1, mm_i l2] [mm_i s0, mm_i s1] h = ((ex 102 0 [mm_i l2] [] h).bind fun q => ex 60 17 [mm_r v, mm_i l1, mm_i l2] (q.1.toList ++ [mm_i (h v 11), mm_i (mm_mul s1 s0)]) q.2) := by
  rcases hv with rfl | rfl <;> exact (congrFun (congrFun (congrFun (mm_ev_fw hShX st_X9_price 60 300 8) _) _) _).trans rfl
set_option maxRecDepth 100000 in
theorem sg_X9_price_17 {v : Nat} (hv : v = 5 ∨ v = 15) (l1 : Int) (l2 : Int) (s0 : Int) (s1 : Int) (s2 : Int) (h : mm_H) : ex 60 17 [mm_r v, mm_i l1, mm_i l2] [mm_i s0, mm_i s1, mm_i s2] h = (some (some (mm_i (mm_add s2 (mm_mul s1 s0))), h)) := by
  rcases hv with rfl | rfl <;> exact (congrFun (congrFun (congrFun (mm_ev_fw hShX st_X9_price 60 300 17) _) _) _).trans rfl
def st_X9_lowness : Nat → Bool := fun p => Nat.beq p 4 || Nat.beq p 29 || Nat.beq p 38 || Nat.beq p 41
set_option maxRecDepth 100000 in
theorem sg_X9_lowness_0 {v : Nat} {t : Nat} (hv : v = 5 ∨ v = 15) (ht : t = 26 ∨ t = 64 ∨ t = 69 ∨ t = 83) (a2 : Int) (h : mm_H) : ex 61 0 [mm_r v, mm_r t, mm_i a2, mm_u, mm_u, mm_u] [] h = ((ex 95 0 [mm_i a2] [] h).bind fun q => ex 61 4 [mm_r v, mm_r t, mm_i a2, mm_u, mm_u, mm_u] (q.1.toList ++ []) q.2) := by
  rcases hv with rfl | rfl <;> rcases ht with rfl | rfl | rfl | rfl <;> exact (congrFun (congrFun (congrFun (mm_ev_fw hShX st_X9_lowness 61 300 0) _) _) _).trans rfl
set_option maxRecDepth 100000 in
theorem sg_X9_lowness_4 {v : Nat} {t : Nat} (hv : v = 5 ∨ v = 15) (ht : t = 26 ∨ t = 64 ∨ t = 69 ∨ t = 83) (l2 : Int) (s0 : Int) (h : mm_H) : ex 61 4 [mm_r v, mm_r t, mm_i l2, mm_u, mm_u, mm_u] [mm_i s0] h = (if s0 = 0 then (some (some (mm_i 0), h)) else (if 0 ≤ l2 ∧ l2 < 24 then (if 0 ≤ l2 ∧ l2 < 24 then ((ex 57 0 [mm_r v, mm_i (h (v + 8) l2.toNat)] [] h).bind fun q => ex 61 29 [mm_r v, mm_r t, mm_i l2, mm_i (h (v + 8) l2.toNat), mm_i (h (v + 9) l2.toNat), mm_u] (q.1.toList ++ []) q.2) else none) else none)) := by
  rcases hv with rfl | rfl <;> rcases ht with rfl | rfl | rfl | rfl <;> exact (congrFun (congrFun (congrFun (mm_ev_fw hShX st_X9_lowness 61 300 4) _) _) _).trans rfl
set_option maxRecDepth 100000 in
theorem sg_X9_lowness_29 {v : Nat} {t : Nat} (hv : v = 5 ∨ v = 15) (ht : t = 26 ∨ t = 64 ∨ t = 69 ∨ t = 83) (l2 : Int) (l3 : Int) (l4 : Int) (s0 : Int) (h : mm_H) : ex 61 29 [mm_r v, mm_r t, mm_i l2, mm_i l3, mm_i l4, mm_u] [mm_i s0] h = (if s0 = 0 then (ex 61 41 [mm_r v, mm_r t, mm_i l2, mm_i l3, mm_i l4, mm_u] [] h) else ((ex 57 0 [mm_r v, mm_i l4] [] h).bind fun q => ex 61 38 [mm_r v, mm_r t, mm_i l2, mm_i l3, mm_i l4, mm_u] (q.1.toList ++ []) q.2)) := by
  rcases hv with rfl | rfl <;> rcases ht with rfl | rfl | rfl | rfl <;> exact (congrFun (congrFun (congrFun (mm_ev_fw hShX st_X9_lowness 61 300 29) _) _) _).trans rfl
set_option maxRecDepth 100000 in
theorem sg_X9_lowness_38 {v : Nat} {t : Nat} (hv : v = 5 ∨ v = 15) (ht : t = 26 ∨ t = 64 ∨ t = 69 ∨ t = 83) (l2 : Int) (l3 : Int) (l4 : Int) (s0 : Int) (h : mm_H) : ex 61 38 [mm_r v, mm_r t, mm_i l2, mm_i l3, mm_i l4, mm_u] [mm_i s0] h = (if s0 = 0 then (ex 61 41 [mm_r v, mm_r t, mm_i l2, mm_i l3, mm_i l4, mm_u] [] h) else (if 0 ≤ l4 ∧ l4 < 5 then (if 0 ≤ l3 ∧ l3 < 5 then (if 0 < (mm_sub (h (v + 1) l4.toNat) (h (v + 1) l3.toNat)) then (if 0 ≤ l3 ∧ l3 < 5 then (if 0 ≤ l4 ∧ l4 < 5 then (if 0 ≤ l4 ∧ l4 < 5 then (if 0 ≤ l3 ∧ l3 < 5 then (if (mm_sub (h (v + 1) l4.toNat) (h (v + 1) l3.toNat)) = 0 then none else (some (some (mm_i (mm_wr (Int.tdiv (mm_add (mm_mul (h t l3.toNat) (mm_sub (h (v + 1) l4.toNat) l2)) (mm_mul (h t l4.toNat) (mm_sub l2 (h (v + 1) l3.toNat)))) (mm_sub (h (v + 1) l4.toNat) (h (v + 1) l3.toNat))))), h))) else none) else none) else none) else none) else (if 0 ≤ l3 ∧ l3 < 5 then (some (some (mm_i (h t l3.toNat)), h)) else none)) else none) else none)) := by
  rcases hv with rfl | rfl <;> rcases ht with rfl | rfl | rfl | rfl <;> exact (congrFun (congrFun (congrFun (mm_ev_fw hShX st_X9_lowness 61 300 38) _) _) _).trans rfl
set_option maxRecDepth 100000 in
theorem sg_X9_lowness_41 {v : Nat} {t : Nat} (hv : v = 5 ∨ v = 15) (ht : t = 26 ∨ t = 64 ∨ t = 69 ∨ t = 83) (l2 : Int) (l3 : Int) (l4 : Int) (h : mm_H) : ex 61 41 [mm_r v, mm_r t, mm_i l2, mm_i l3, mm_i l4, mm_u] [] h = (some (some (mm_i 0), h)) := by
  rcases hv with rfl | rfl <;> rcases ht with rfl | rfl | rfl | rfl <;> exact (congrFun (congrFun (congrFun (mm_ev_fw hShX st_X9_lowness 61 300 41) _) _) _).trans rfl
def st_X9_lightOver : Nat → Bool := fun p => Nat.beq p 6 || Nat.beq p 9
set_option maxRecDepth 100000 in
theorem sg_X9_lightOver_0 {v : Nat} {t : Nat} (hv : v = 5 ∨ v = 15) (ht : t = 26 ∨ t = 64 ∨ t = 69 ∨ t = 83) (a2 : Int) (h : mm_H) : ex 62 0 [mm_r v, mm_r t, mm_i a2] [] h = ((ex 61 0 [mm_r v, mm_r t, mm_i a2, mm_u, mm_u, mm_u] [] h).bind fun q => ex 62 6 [mm_r v, mm_r t, mm_i a2] (q.1.toList ++ []) q.2) := by
  rcases hv with rfl | rfl <;> rcases ht with rfl | rfl | rfl | rfl <;> exact (congrFun (congrFun (congrFun (mm_ev_fw hShX st_X9_lightOver 62 300 0) _) _) _).trans rfl
set_option maxRecDepth 100000 in
theorem sg_X9_lightOver_6 {v : Nat} {t : Nat} (hv : v = 5 ∨ v = 15) (ht : t = 26 ∨ t = 64 ∨ t = 69 ∨ t = 83) (l2 : Int) (s0 : Int) (h : mm_H) : ex 62 6 [mm_r v, mm_r t, mm_i l2] [mm_i s0] h = ((ex 99 0 [mm_i s0] [] h).bind fun q => ex 62 9 [mm_r v, mm_r t, mm_i l2] (q.1.toList ++ []) q.2) := by
  rcases hv with rfl | rfl <;> rcases ht with rfl | rfl | rfl | rfl <;> exact (congrFun (congrFun (congrFun (mm_ev_fw hShX st_X9_lightOver 62 300 6) _) _) _).trans rfl
set_option maxRecDepth 100000 in
theorem sg_X9_lightOver_9 {v : Nat} {t : Nat} (hv : v = 5 ∨ v = 15) (ht : t = 26 ∨ t = 64 ∨ t = 69 ∨ t = 83) (l2 : Int) (s0 : Int) (h : mm_H) : ex 62 9 [mm_r v, mm_r t, mm_i l2] [mm_i s0] h = (some (some (mm_i s0), h)) := by
  rcases hv with rfl | rfl <;> rcases ht with rfl | rfl | rfl | rfl <;> exact (congrFun (congrFun (congrFun (mm_ev_fw hShX st_X9_lightOver 62 300 9) _) _) _).trans rfl
def st_X9_isMet : Nat → Bool := fun p => Nat.beq p 11 || Nat.beq p 25
set_option maxRecDepth 100000 in
theorem sg_X9_isMet_0 {v : Nat} {t : Nat} (hv : v = 5 ∨ v = 15) (ht : t = 26 ∨ t = 64 ∨ t = 69 ∨ t = 83) (a2 : Int) (h : mm_H) : ex 63 0 [mm_r v, mm_r t, mm_i a2] [] h = (if 0 ≤ a2 ∧ a2 < 8 then ((ex 62 0 [mm_r v, mm_r t, mm_i (h (v + 5) a2.toNat)] [] h).bind fun q => ex 63 11 [mm_r v, mm_r t, mm_i a2] (q.1.toList ++ []) q.2) else none) := by
  rcases hv with rfl | rfl <;> rcases ht with rfl | rfl | rfl | rfl <;> exact (congrFun (congrFun (congrFun (mm_ev_fw hShX st_X9_isMet 63 300 0) _) _) _).trans rfl
set_option maxRecDepth 100000 in
theorem sg_X9_isMet_11 {v : Nat} {t : Nat} (hv : v = 5 ∨ v = 15) (ht : t = 26 ∨ t = 64 ∨ t = 69 ∨ t = 83) (l2 : Int) (s0 : Int) (h : mm_H) : ex 63 11 [mm_r v, mm_r t, mm_i l2] [mm_i s0] h = (if 0 ≤ l2 ∧ l2 < 8 then (if s0 = (h (v + 6) l2.toNat) then (ex 63 25 [mm_r v, mm_r t, mm_i l2] [mm_i 1] h) else (ex 63 25 [mm_r v, mm_r t, mm_i l2] [mm_i 0] h)) else none) := by
  rcases hv with rfl | rfl <;> rcases ht with rfl | rfl | rfl | rfl <;> exact (congrFun (congrFun (congrFun (mm_ev_fw hShX st_X9_isMet 63 300 11) _) _) _).trans rfl
set_option maxRecDepth 100000 in
theorem sg_X9_isMet_25 {v : Nat} {t : Nat} (hv : v = 5 ∨ v = 15) (ht : t = 26 ∨ t = 64 ∨ t = 69 ∨ t = 83) (l2 : Int) (s0 : Int) (h : mm_H) : ex 63 25 [mm_r v, mm_r t, mm_i l2] [mm_i s0] h = (if s0 = 0 ∨ s0 = 1 then some (some (mm_i s0), h) else none) := by
  rcases hv with rfl | rfl <;> rcases ht with rfl | rfl | rfl | rfl <;> exact (congrFun (congrFun (congrFun (mm_ev_fw hShX st_X9_isMet 63 300 25) _) _) _).trans rfl
def st_X9_metBits : Nat → Bool := fun p => Nat.beq p 4 || Nat.beq p 18 || Nat.beq p 27
set_option maxRecDepth 100000 in
theorem sg_X9_metBits_0 {v : Nat} {t : Nat} (hv : v = 5 ∨ v = 15) (ht : t = 26 ∨ t = 64 ∨ t = 69 ∨ t = 83)  (h : mm_H) : ex 64 0 [mm_r v, mm_r t, mm_u, mm_u] [] h = (ex 64 4 [mm_r v, mm_r t, mm_i 0, mm_i 0] [] h) := by
  rcases hv with rfl | rfl <;> rcases ht with rfl | rfl | rfl | rfl <;> exact (congrFun (congrFun (congrFun (mm_ev_fw hShX st_X9_metBits 64 300 0) _) _) _).trans rfl
set_option maxRecDepth 100000 in
theorem sg_X9_metBits_4 {v : Nat} {t : Nat} (hv : v = 5 ∨ v = 15) (ht : t = 26 ∨ t = 64 ∨ t = 69 ∨ t = 83) (l2 : Int) (l3 : Int) (h : mm_H) : ex 64 4 [mm_r v, mm_r t, mm_i l2, mm_i l3] [] h = (if l3 < (h v 1) then ((ex 63 0 [mm_r v, mm_r t, mm_i l3] [] h).bind fun q => ex 64 18 [mm_r v, mm_r t, mm_i l2, mm_i l3] (q.1.toList ++ []) q.2) else (some (some (mm_i l2), h))) := by
  rcases hv with rfl | rfl <;> rcases ht with rfl | rfl | rfl | rfl <;> exact (congrFun (congrFun (congrFun (mm_ev_fw hShX st_X9_metBits 64 300 4) _) _) _).trans rfl
set_option maxRecDepth 100000 in
theorem sg_X9_metBits_18 {v : Nat} {t : Nat} (hv : v = 5 ∨ v = 15) (ht : t = 26 ∨ t = 64 ∨ t = 69 ∨ t = 83) (l2 : Int) (l3 : Int) (s0 : Int) (h : mm_H) : ex 64 18 [mm_r v, mm_r t, mm_i l2, mm_i l3] [mm_i s0] h = (if s0 = 0 then (ex 64 27 [mm_r v, mm_r t, mm_i l2, mm_i l3] [] h) else (ex 64 27 [mm_r v, mm_r t, mm_i (mm_or l2 (mm_shl 1 l3)), mm_i l3] [] h)) := by
  rcases hv with rfl | rfl <;> rcases ht with rfl | rfl | rfl | rfl <;> exact (congrFun (congrFun (congrFun (mm_ev_fw hShX st_X9_metBits 64 300 18) _) _) _).trans rfl
set_option maxRecDepth 100000 in
theorem sg_X9_metBits_27 {v : Nat} {t : Nat} (hv : v = 5 ∨ v = 15) (ht : t = 26 ∨ t = 64 ∨ t = 69 ∨ t = 83) (l2 : Int) (l3 : Int) (h : mm_H) : ex 64 27 [mm_r v, mm_r t, mm_i l2, mm_i l3] [] h = (ex 64 4 [mm_r v, mm_r t, mm_i l2, mm_i (mm_wr (l3 + 1))] [] h) := by
  rcases hv with rfl | rfl <;> rcases ht with rfl | rfl | rfl | rfl <;> exact (congrFun (congrFun (congrFun (mm_ev_fw hShX st_X9_metBits 64 300 27) _) _) _).trans rfl
def st_X9_meetsWantsEndingAt : Nat → Bool := fun p => Nat.beq p 2 || Nat.beq p 45 || Nat.beq p 50
set_option maxRecDepth 100000 in
theorem sg_X9_meetsWantsEndingAt_0 {v : Nat} {t : Nat} (hv : v = 5 ∨ v = 15) (ht : t = 26 ∨ t = 64 ∨ t = 69 ∨ t = 83) (a1 : Int) (h : mm_H) : ex 65 0 [mm_r v, mm_i a1, mm_r t, mm_u, mm_u] [] h = (ex 65 2 [mm_r v, mm_i a1, mm_r t, mm_i 0, mm_u] [] h) := by
  rcases hv with rfl | rfl <;> rcases ht with rfl | rfl | rfl | rfl <;> exact (congrFun (congrFun (congrFun (mm_ev_fw hShX st_X9_meetsWantsEndingAt 65 300 0) _) _) _).trans rfl
set_option maxRecDepth 100000 in
theorem sg_X9_meetsWantsEndingAt_2 {v : Nat} {t : Nat} (hv : v = 5 ∨ v = 15) (ht : t = 26 ∨ t = 64 ∨ t = 69 ∨ t = 83) (l1 : Int) (l3 : Int) (l4 : mm_V) (h : mm_H) : ex 65 2 [mm_r v, mm_i l1, mm_r t, mm_i l3, l4] [] h = (if l3 < (h v 1) then (if 0 ≤ l3 ∧ l3 < 8 then (if 0 ≤ (h (v + 5) l3.toNat) ∧ (h (v + 5) l3.toNat) < 24 then (if 0 ≤ (h (v + 5) l3.toNat) ∧ (h (v + 5) l3.toNat) < 24 then (if (if (h (v + 8) (h (v + 5) l3.toNat).toNat) < (h (v + 9) (h (v + 5) l3.toNat).toNat) then (h (v + 9) (h (v + 5) l3.toNat).toNat) else (h (v + 8) (h (v + 5) l3.toNat).toNat)) = l1 then ((ex 63 0 [mm_r v, mm_r t, mm_i l3] [] h).bind fun q => ex 65 45 [mm_r v, mm_i l1, mm_r t, mm_i l3, mm_i (h (v + 5) l3.toNat)] (q.1.toList ++ []) q.2) else (ex 65 50 [mm_r v, mm_i l1, mm_r t, mm_i l3, mm_i (h (v + 5) l3.toNat)] [] h)) else none) else none) else none) else (some (some (mm_i 1), h))) := by
  rcases hv with rfl | rfl <;> rcases ht with rfl | rfl | rfl | rfl <;> exact (congrFun (congrFun (congrFun (mm_ev_fw hShX st_X9_meetsWantsEndingAt 65 300 2) _) _) _).trans rfl
set_option maxRecDepth 100000 in
theorem sg_X9_meetsWantsEndingAt_45 {v : Nat} {t : Nat} (hv : v = 5 ∨ v = 15) (ht : t = 26 ∨ t = 64 ∨ t = 69 ∨ t = 83) (l1 : Int) (l3 : Int) (l4 : Int) (s0 : Int) (h : mm_H) : ex 65 45 [mm_r v, mm_i l1, mm_r t, mm_i l3, mm_i l4] [mm_i s0] h = (if s0 = 0 then (some (some (mm_i 0), h)) else (ex 65 50 [mm_r v, mm_i l1, mm_r t, mm_i l3, mm_i l4] [] h)) := by
  rcases hv with rfl | rfl <;> rcases ht with rfl | rfl | rfl | rfl <;> exact (congrFun (congrFun (congrFun (mm_ev_fw hShX st_X9_meetsWantsEndingAt 65 300 45) _) _) _).trans rfl
set_option maxRecDepth 100000 in
theorem sg_X9_meetsWantsEndingAt_50 {v : Nat} {t : Nat} (hv : v = 5 ∨ v = 15) (ht : t = 26 ∨ t = 64 ∨ t = 69 ∨ t = 83) (l1 : Int) (l3 : Int) (l4 : Int) (h : mm_H) : ex 65 50 [mm_r v, mm_i l1, mm_r t, mm_i l3, mm_i l4] [] h = (ex 65 2 [mm_r v, mm_i l1, mm_r t, mm_i (mm_wr (l3 + 1)), mm_i l4] [] h) := by
  rcases hv with rfl | rfl <;> rcases ht with rfl | rfl | rfl | rfl <;> exact (congrFun (congrFun (congrFun (mm_ev_fw hShX st_X9_meetsWantsEndingAt 65 300 50) _) _) _).trans rfl
def st_X9_nights : Nat → Bool := fun p => Nat.beq p 4 || Nat.beq p 16 || Nat.beq p 23
set_option maxRecDepth 100000 in
theorem sg_X9_nights_0 {v : Nat} {t : Nat} (hv : v = 5 ∨ v = 15) (ht : t = 26 ∨ t = 64 ∨ t = 69 ∨ t = 83)  (h : mm_H) : ex 66 0 [mm_r v, mm_r t, mm_u, mm_u] [] h = (ex 66 4 [mm_r v, mm_r t, mm_i 0, mm_i 0] [] h) := by
  rcases hv with rfl | rfl <;> rcases ht with rfl | rfl | rfl | rfl <;> exact (congrFun (congrFun (congrFun (mm_ev_fw hShX st_X9_nights 66 300 0) _) _) _).trans rfl
set_option maxRecDepth 100000 in
theorem sg_X9_nights_4 {v : Nat} {t : Nat} (hv : v = 5 ∨ v = 15) (ht : t = 26 ∨ t = 64 ∨ t = 69 ∨ t = 83) (l2 : Int) (l3 : Int) (h : mm_H) : ex 66 4 [mm_r v, mm_r t, mm_i l2, mm_i l3] [] h = (if l3 < 24 then ((ex 62 0 [mm_r v, mm_r t, mm_i l3] [] h).bind fun q => ex 66 16 [mm_r v, mm_r t, mm_i l2, mm_i l3] (q.1.toList ++ []) q.2) else (some (some (mm_i l2), h))) := by
  rcases hv with rfl | rfl <;> rcases ht with rfl | rfl | rfl | rfl <;> exact (congrFun (congrFun (congrFun (mm_ev_fw hShX st_X9_nights 66 300 4) _) _) _).trans rfl
set_option maxRecDepth 100000 in
theorem sg_X9_nights_16 {v : Nat} {t : Nat} (hv : v = 5 ∨ v = 15) (ht : t = 26 ∨ t = 64 ∨ t = 69 ∨ t = 83) (l2 : Int) (l3 : Int) (s0 : Int) (h : mm_H) : ex 66 16 [mm_r v, mm_r t, mm_i l2, mm_i l3] [mm_i s0] h = (if s0 = 3 then (ex 66 23 [mm_r v, mm_r t, mm_i (mm_wr (l2 + 1)), mm_i l3] [] h) else (ex 66 23 [mm_r v, mm_r t, mm_i l2, mm_i l3] [] h)) := by
  rcases hv with rfl | rfl <;> rcases ht with rfl | rfl | rfl | rfl <;> exact (congrFun (congrFun (congrFun (mm_ev_fw hShX st_X9_nights 66 300 16) _) _) _).trans rfl
set_option maxRecDepth 100000 in
theorem sg_X9_nights_23 {v : Nat} {t : Nat} (hv : v = 5 ∨ v = 15) (ht : t = 26 ∨ t = 64 ∨ t = 69 ∨ t = 83) (l2 : Int) (l3 : Int) (h : mm_H) : ex 66 23 [mm_r v, mm_r t, mm_i l2, mm_i l3] [] h = (ex 66 4 [mm_r v, mm_r t, mm_i l2, mm_i (mm_wr (l3 + 1))] [] h) := by
  rcases hv with rfl | rfl <;> rcases ht with rfl | rfl | rfl | rfl <;> exact (congrFun (congrFun (congrFun (mm_ev_fw hShX st_X9_nights 66 300 23) _) _) _).trans rfl
def st_X10_write : Nat → Bool := fun p => Nat.beq p 12 || Nat.beq p 21 || Nat.beq p 36 || Nat.beq p 43
set_option maxRecDepth 100000 in
theorem sg_X10_write_0   (a1 : Int) (h : mm_H) : ex 67 0 [mm_r 0, mm_i a1] [] h = (if a1 < 32 then (ex 67 12 [mm_r 0, mm_i a1] [] h) else (if 126 < a1 then (ex 67 12 [mm_r 0, mm_i a1] [] h) else ((ex 44 0 [mm_r 1] [] h).bind fun q => ex 67 21 [mm_r 0, mm_i a1] (q.1.toList ++ []) q.2))) := (congrFun (congrFun (congrFun (mm_ev_fw hShX st_X10_write 67 300 0) _) _) _).trans rfl
set_option maxRecDepth 100000 in
theorem sg_X10_write_12   (l1 : Int) (h : mm_H) : ex 67 12 [mm_r 0, mm_i l1] [] h = (some (some (mm_i (-1)), h)) := (congrFun (congrFun (congrFun (mm_ev_fw hShX st_X10_write 67 300 12) _) _) _).trans rfl
set_option maxRecDepth 100000 in
theorem sg_X10_write_21   (l1 : Int) (s0 : Int) (h : mm_H) : ex 67 21 [mm_r 0, mm_i l1] [mm_i s0] h = (if s0 = 0 then ((ex 45 0 [mm_r 1, mm_i (l1 % 65536)] [] h).bind fun q => ex 67 36 [mm_r 0, mm_i l1] (q.1.toList ++ []) q.2) else (some (some (mm_i (-3)), h))) := (congrFun (congrFun (congrFun (mm_ev_fw hShX st_X10_write 67 300 21) _) _) _).trans rfl
set_option maxRecDepth 100000 in
theorem sg_X10_write_36   (l1 : Int) (h : mm_H) : ex 67 36 [mm_r 0, mm_i l1] [] h = ((ex 47 0 [mm_r 1] [] h).bind fun q => ex 67 43 [mm_r 0, mm_i l1] (q.1.toList ++ []) q.2) := (congrFun (congrFun (congrFun (mm_ev_fw hShX st_X10_write 67 300 36) _) _) _).trans rfl
set_option maxRecDepth 100000 in
theorem sg_X10_write_43   (l1 : Int) (s0 : Int) (h : mm_H) : ex 67 43 [mm_r 0, mm_i l1] [mm_i s0] h = (some (some (mm_i s0), h)) := (congrFun (congrFun (congrFun (mm_ev_fw hShX st_X10_write 67 300 43) _) _) _).trans rfl
def st_X10_wipe : Nat → Bool := fun p => Nat.beq p 7 || Nat.beq p 15
set_option maxRecDepth 100000 in
theorem sg_X10_wipe_0    (h : mm_H) : ex 68 0 [mm_r 0, mm_u] [] h = ((ex 47 0 [mm_r 1] [] h).bind fun q => ex 68 7 [mm_r 0, mm_u] (q.1.toList ++ []) q.2) := (congrFun (congrFun (congrFun (mm_ev_fw hShX st_X10_wipe 68 300 0) _) _) _).trans rfl
set_option maxRecDepth 100000 in
theorem sg_X10_wipe_7   (s0 : Int) (h : mm_H) : ex 68 7 [mm_r 0, mm_u] [mm_i s0] h = ((ex 46 0 [mm_r 1] [] h).bind fun q => ex 68 15 [mm_r 0, mm_i s0] (q.1.toList ++ []) q.2) := (congrFun (congrFun (congrFun (mm_ev_fw hShX st_X10_wipe 68 300 7) _) _) _).trans rfl
set_option maxRecDepth 100000 in
theorem sg_X10_wipe_15   (l1 : Int) (h : mm_H) : ex 68 15 [mm_r 0, mm_i l1] [] h = (some (some (mm_i l1), h)) := (congrFun (congrFun (congrFun (mm_ev_fw hShX st_X10_wipe 68 300 15) _) _) _).trans rfl
def st_X10_fault : Nat → Bool := fun p => Nat.beq p 12 || Nat.beq p 15
set_option maxRecDepth 100000 in
theorem sg_X10_fault_0    (h : mm_H) : ex 69 0 [mm_r 0] [] h = (ex 69 12 [mm_r 0] [mm_r (h 0 3).toNat, mm_r 1, mm_r 3] h) := (congrFun (congrFun (congrFun (mm_ev_fw hShX st_X10_fault 69 300 0) _) _) _).trans rfl
set_option maxRecDepth 100000 in
theorem sg_X10_fault_12 {dv : Nat} (hdv : dv = 5 ∨ dv = 15)  (h : mm_H) : ex 69 12 [mm_r 0] [mm_r dv, mm_r 1, mm_r 3] h = ((ex 33 0 [mm_r 3, mm_r 1, mm_r dv, mm_u, mm_u, mm_u] [] h).bind fun q => ex 69 15 [mm_r 0] (q.1.toList ++ []) q.2) := by
  rcases hdv with rfl | rfl <;> exact (congrFun (congrFun (congrFun (mm_ev_fw hShX st_X10_fault 69 300 12) _) _) _).trans rfl
set_option maxRecDepth 100000 in
theorem sg_X10_fault_15   (s0 : Int) (h : mm_H) : ex 69 15 [mm_r 0] [mm_i s0] h = (some (some (mm_i s0), h)) := (congrFun (congrFun (congrFun (mm_ev_fw hShX st_X10_fault 69 300 15) _) _) _).trans rfl
def st_X10_lay : Nat → Bool := fun p => Nat.beq p 12 || Nat.beq p 15 || Nat.beq p 24 || Nat.beq p 30 || Nat.beq p 37 || Nat.beq p 43 || Nat.beq p 46 || Nat.beq p 48 || Nat.beq p 51 || Nat.beq p 59 || Nat.beq p 62 || Nat.beq p 69 || Nat.beq p 76 || Nat.beq p 83 || Nat.beq p 87
set_option maxRecDepth 100000 in
theorem sg_X10_lay_0    (h : mm_H) : ex 70 0 [mm_r 0, mm_u] [] h = (ex 70 12 [mm_r 0, mm_u] [mm_r (h 0 3).toNat, mm_r 1, mm_r 3] h) := (congrFun (congrFun (congrFun (mm_ev_fw hShX st_X10_lay 70 300 0) _) _) _).trans rfl
set_option maxRecDepth 100000 in
theorem sg_X10_lay_12 {dv : Nat} (hdv : dv = 5 ∨ dv = 15)  (h : mm_H) : ex 70 12 [mm_r 0, mm_u] [mm_r dv, mm_r 1, mm_r 3] h = ((ex 33 0 [mm_r 3, mm_r 1, mm_r dv, mm_u, mm_u, mm_u] [] h).bind fun q => ex 70 15 [mm_r 0, mm_u] (q.1.toList ++ []) q.2) := by
  rcases hdv with rfl | rfl <;> exact (congrFun (congrFun (congrFun (mm_ev_fw hShX st_X10_lay 70 300 12) _) _) _).trans rfl
set_option maxRecDepth 100000 in
theorem sg_X10_lay_15   (s0 : Int) (h : mm_H) : ex 70 15 [mm_r 0, mm_u] [mm_i s0] h = (if s0 = (-4) then (ex 70 24 [mm_r 0, mm_u] [mm_r (h 0 3).toNat] h) else (ex 70 30 [mm_r 0, mm_u] [] h)) := (congrFun (congrFun (congrFun (mm_ev_fw hShX st_X10_lay 70 300 15) _) _) _).trans rfl
set_option maxRecDepth 100000 in
theorem sg_X10_lay_24 {dv : Nat} (hdv : dv = 5 ∨ dv = 15)  (h : mm_H) : ex 70 24 [mm_r 0, mm_u] [mm_r dv] h = (if (h dv 0) = 0 then (ex 70 30 [mm_r 0, mm_u] [] h) else (ex 70 37 [mm_r 0, mm_u] [mm_r (h 0 2).toNat] h)) := by
  rcases hdv with rfl | rfl <;> exact (congrFun (congrFun (congrFun (mm_ev_fw hShX st_X10_lay 70 300 24) _) _) _).trans rfl
set_option maxRecDepth 100000 in
theorem sg_X10_lay_30    (h : mm_H) : ex 70 30 [mm_r 0, mm_u] [] h = (some (some (mm_i (-2)), h)) := (congrFun (congrFun (congrFun (mm_ev_fw hShX st_X10_lay 70 300 30) _) _) _).trans rfl
set_option maxRecDepth 100000 in
theorem sg_X10_lay_37 {v : Nat} (hv : v = 5 ∨ v = 15)  (h : mm_H) : ex 70 37 [mm_r 0, mm_u] [mm_r v] h = (ex 70 43 [mm_r 0, mm_r v] [mm_r (h 0 3).toNat, mm_r 0] h) := by
  rcases hv with rfl | rfl <;> exact (congrFun (congrFun (congrFun (mm_ev_fw hShX st_X10_lay 70 300 37) _) _) _).trans rfl
set_option maxRecDepth 100000 in
theorem sg_X10_lay_43 {v : Nat} {dv : Nat} (hv : v = 5 ∨ v = 15) (hdv : dv = 5 ∨ dv = 15)  (h : mm_H) : ex 70 43 [mm_r 0, mm_r v] [mm_r dv, mm_r 0] h = (ex 70 46 [mm_r 0, mm_r v] [] (mm_st h 0 2 dv)) := by
  rcases hv with rfl | rfl <;> rcases hdv with rfl | rfl <;> exact (congrFun (congrFun (congrFun (mm_ev_fw hShX st_X10_lay 70 300 43) _) _) _).trans rfl
set_option maxRecDepth 100000 in
theorem sg_X10_lay_46 {v : Nat} (hv : v = 5 ∨ v = 15)  (h : mm_H) : ex 70 46 [mm_r 0, mm_r v] [] h = (ex 70 48 [mm_r 0, mm_r v] [mm_r v, mm_r 0] h) := by
  rcases hv with rfl | rfl <;> exact (congrFun (congrFun (congrFun (mm_ev_fw hShX st_X10_lay 70 300 46) _) _) _).trans rfl
set_option maxRecDepth 100000 in
theorem sg_X10_lay_48 {v : Nat} (hv : v = 5 ∨ v = 15)  (h : mm_H) : ex 70 48 [mm_r 0, mm_r v] [mm_r v, mm_r 0] h = (ex 70 51 [mm_r 0, mm_r v] [] (mm_st h 0 3 v)) := by
  rcases hv with rfl | rfl <;> exact (congrFun (congrFun (congrFun (mm_ev_fw hShX st_X10_lay 70 300 48) _) _) _).trans rfl
set_option maxRecDepth 100000 in
theorem sg_X10_lay_51 {v : Nat} (hv : v = 5 ∨ v = 15)  (h : mm_H) : ex 70 51 [mm_r 0, mm_r v] [] h = (ex 70 59 [mm_r 0, mm_r v] [mm_r (h 0 2).toNat, mm_r 25] h) := by
  rcases hv with rfl | rfl <;> exact (congrFun (congrFun (congrFun (mm_ev_fw hShX st_X10_lay 70 300 51) _) _) _).trans rfl
set_option maxRecDepth 100000 in
theorem sg_X10_lay_59 {v : Nat} (hv : v = 5 ∨ v = 15)  (h : mm_H) : ex 70 59 [mm_r 0, mm_r v] [mm_r v, mm_r 25] h = ((ex 14 0 [mm_r 25, mm_r v, mm_u] [] h).bind fun q => ex 70 62 [mm_r 0, mm_r v] (q.1.toList ++ []) q.2) := by
  rcases hv with rfl | rfl <;> exact (congrFun (congrFun (congrFun (mm_ev_fw hShX st_X10_lay 70 300 59) _) _) _).trans rfl
set_option maxRecDepth 100000 in
theorem sg_X10_lay_62 {v : Nat} (hv : v = 5 ∨ v = 15)  (h : mm_H) : ex 70 62 [mm_r 0, mm_r v] [] h = ((ex 40 0 [mm_r 28] [] h).bind fun q => ex 70 69 [mm_r 0, mm_r v] (q.1.toList ++ []) q.2) := by
  rcases hv with rfl | rfl <;> exact (congrFun (congrFun (congrFun (mm_ev_fw hShX st_X10_lay 70 300 62) _) _) _).trans rfl
set_option maxRecDepth 100000 in
theorem sg_X10_lay_69 {v : Nat} (hv : v = 5 ∨ v = 15)  (h : mm_H) : ex 70 69 [mm_r 0, mm_r v] [] h = ((ex 40 0 [mm_r 54] [] h).bind fun q => ex 70 76 [mm_r 0, mm_r v] (q.1.toList ++ []) q.2) := by
  rcases hv with rfl | rfl <;> exact (congrFun (congrFun (congrFun (mm_ev_fw hShX st_X10_lay 70 300 69) _) _) _).trans rfl
set_option maxRecDepth 100000 in
theorem sg_X10_lay_76 {v : Nat} (hv : v = 5 ∨ v = 15)  (h : mm_H) : ex 70 76 [mm_r 0, mm_r v] [] h = ((ex 8 0 [mm_r 79] [] h).bind fun q => ex 70 83 [mm_r 0, mm_r v] (q.1.toList ++ []) q.2) := by
  rcases hv with rfl | rfl <;> exact (congrFun (congrFun (congrFun (mm_ev_fw hShX st_X10_lay 70 300 76) _) _) _).trans rfl
set_option maxRecDepth 100000 in
theorem sg_X10_lay_83 {v : Nat} (hv : v = 5 ∨ v = 15)  (h : mm_H) : ex 70 83 [mm_r 0, mm_r v] [] h = (ex 70 87 [mm_r 0, mm_r v] [mm_r (h 0 2).toNat] h) := by
  rcases hv with rfl | rfl <;> exact (congrFun (congrFun (congrFun (mm_ev_fw hShX st_X10_lay 70 300 83) _) _) _).trans rfl
set_option maxRecDepth 100000 in
theorem sg_X10_lay_87 {v : Nat} (hv : v = 5 ∨ v = 15)  (h : mm_H) : ex 70 87 [mm_r 0, mm_r v] [mm_r v] h = (some (some (mm_i (h v 0)), h)) := by
  rcases hv with rfl | rfl <;> exact (congrFun (congrFun (congrFun (mm_ev_fw hShX st_X10_lay 70 300 87) _) _) _).trans rfl
def st_X10_rope : Nat → Bool := fun p => Nat.beq p 4 || Nat.beq p 8 || Nat.beq p 48 || Nat.beq p 58
set_option maxRecDepth 100000 in
theorem sg_X10_rope_0   (a1 : Int) (a2 : Int) (h : mm_H) : ex 71 0 [mm_r 0, mm_i a1, mm_i a2] [] h = (ex 71 4 [mm_r 0, mm_i a1, mm_i a2] [mm_r (h 0 2).toNat] h) := (congrFun (congrFun (congrFun (mm_ev_fw hShX st_X10_rope 71 300 0) _) _) _).trans rfl
set_option maxRecDepth 100000 in
theorem sg_X10_rope_4 {v : Nat} (hv : v = 5 ∨ v = 15) (l1 : Int) (l2 : Int) (h : mm_H) : ex 71 4 [mm_r 0, mm_i l1, mm_i l2] [mm_r v] h = ((ex 57 0 [mm_r v, mm_i l1] [] h).bind fun q => ex 71 8 [mm_r 0, mm_i l1, mm_i l2] (q.1.toList ++ []) q.2) := by
  rcases hv with rfl | rfl <;> exact (congrFun (congrFun (congrFun (mm_ev_fw hShX st_X10_rope 71 300 4) _) _) _).trans rfl
set_option maxRecDepth 100000 in
theorem sg_X10_rope_8   (l1 : Int) (l2 : Int) (s0 : Int) (h : mm_H) : ex 71 8 [mm_r 0, mm_i l1, mm_i l2] [mm_i s0] h = (if s0 = 0 then (some (some (mm_i (-1)), h)) else (if l2 = 0 then (ex 71 48 [mm_r 0, mm_i l1, mm_i l2] [mm_r (h 0 2).toNat] h) else (if l2 = 1 then (ex 71 58 [mm_r 0, mm_i l1, mm_i l2] [mm_r (h 0 2).toNat] h) else (if l2 = 2 then (if 0 ≤ l1 ∧ l1 < 5 then (some (some (mm_i (h 27 l1.toNat)), h)) else none) else (if l2 = 3 then (if 0 ≤ l1 ∧ l1 < 5 then (some (some (mm_i (h 26 l1.toNat)), h)) else none) else (some (some (mm_i (-1)), h))))))) := (congrFun (congrFun (congrFun (mm_ev_fw hShX st_X10_rope 71 300 8) _) _) _).trans rfl
set_option maxRecDepth 100000 in
theorem sg_X10_rope_48 {v : Nat} (hv : v = 5 ∨ v = 15) (l1 : Int) (l2 : Int) (h : mm_H) : ex 71 48 [mm_r 0, mm_i l1, mm_i l2] [mm_r v] h = (if 0 ≤ l1 ∧ l1 < 5 then (some (some (mm_i (h (v + 1) l1.toNat)), h)) else none) := by
  rcases hv with rfl | rfl <;> exact (congrFun (congrFun (congrFun (mm_ev_fw hShX st_X10_rope 71 300 48) _) _) _).trans rfl
set_option maxRecDepth 100000 in
theorem sg_X10_rope_58 {v : Nat} (hv : v = 5 ∨ v = 15) (l1 : Int) (l2 : Int) (h : mm_H) : ex 71 58 [mm_r 0, mm_i l1, mm_i l2] [mm_r v] h = (if 0 ≤ l1 ∧ l1 < 5 then (some (some (mm_i (h (v + 2) l1.toNat)), h)) else none) := by
  rcases hv with rfl | rfl <;> exact (congrFun (congrFun (congrFun (mm_ev_fw hShX st_X10_rope 71 300 58) _) _) _).trans rfl
def st_X10_sky : Nat → Bool := fun p => Nat.beq p 4 || Nat.beq p 11 || Nat.beq p 22 || Nat.beq p 26
set_option maxRecDepth 100000 in
theorem sg_X10_sky_0   (a1 : Int) (h : mm_H) : ex 72 0 [mm_r 0, mm_i a1] [] h = ((ex 95 0 [mm_i a1] [] h).bind fun q => ex 72 4 [mm_r 0, mm_i a1] (q.1.toList ++ []) q.2) := (congrFun (congrFun (congrFun (mm_ev_fw hShX st_X10_sky 72 300 0) _) _) _).trans rfl
set_option maxRecDepth 100000 in
theorem sg_X10_sky_4   (l1 : Int) (s0 : Int) (h : mm_H) : ex 72 4 [mm_r 0, mm_i l1] [mm_i s0] h = (if s0 = 0 then (ex 72 26 [mm_r 0, mm_i l1] [mm_i (-1)] h) else (ex 72 11 [mm_r 0, mm_i l1] [mm_r (h 0 2).toNat] h)) := (congrFun (congrFun (congrFun (mm_ev_fw hShX st_X10_sky 72 300 4) _) _) _).trans rfl
set_option maxRecDepth 100000 in
theorem sg_X10_sky_11 {v : Nat} (hv : v = 5 ∨ v = 15) (l1 : Int) (h : mm_H) : ex 72 11 [mm_r 0, mm_i l1] [mm_r v] h = ((ex 61 0 [mm_r v, mm_r 26, mm_i l1, mm_u, mm_u, mm_u] [] h).bind fun q => ex 72 22 [mm_r 0, mm_i l1] (q.1.toList ++ []) q.2) := by
  rcases hv with rfl | rfl <;> exact (congrFun (congrFun (congrFun (mm_ev_fw hShX st_X10_sky 72 300 11) _) _) _).trans rfl
set_option maxRecDepth 100000 in
theorem sg_X10_sky_22   (l1 : Int) (s0 : Int) (h : mm_H) : ex 72 22 [mm_r 0, mm_i l1] [mm_i s0] h = (ex 72 26 [mm_r 0, mm_i l1] [mm_i s0] h) := (congrFun (congrFun (congrFun (mm_ev_fw hShX st_X10_sky 72 300 22) _) _) _).trans rfl
set_option maxRecDepth 100000 in
theorem sg_X10_sky_26   (l1 : Int) (s0 : Int) (h : mm_H) : ex 72 26 [mm_r 0, mm_i l1] [mm_i s0] h = (some (some (mm_i s0), h)) := (congrFun (congrFun (congrFun (mm_ev_fw hShX st_X10_sky 72 300 26) _) _) _).trans rfl
def st_X10_light : Nat → Bool := fun p => Nat.beq p 4 || Nat.beq p 11 || Nat.beq p 22 || Nat.beq p 26
set_option maxRecDepth 100000 in
theorem sg_X10_light_0   (a1 : Int) (h : mm_H) : ex 73 0 [mm_r 0, mm_i a1] [] h = ((ex 95 0 [mm_i a1] [] h).bind fun q => ex 73 4 [mm_r 0, mm_i a1] (q.1.toList ++ []) q.2) := (congrFun (congrFun (congrFun (mm_ev_fw hShX st_X10_light 73 300 0) _) _) _).trans rfl
set_option maxRecDepth 100000 in
theorem sg_X10_light_4   (l1 : Int) (s0 : Int) (h : mm_H) : ex 73 4 [mm_r 0, mm_i l1] [mm_i s0] h = (if s0 = 0 then (ex 73 26 [mm_r 0, mm_i l1] [mm_i (-1)] h) else (ex 73 11 [mm_r 0, mm_i l1] [mm_r (h 0 2).toNat] h)) := (congrFun (congrFun (congrFun (mm_ev_fw hShX st_X10_light 73 300 4) _) _) _).trans rfl
set_option maxRecDepth 100000 in
theorem sg_X10_light_11 {v : Nat} (hv : v = 5 ∨ v = 15) (l1 : Int) (h : mm_H) : ex 73 11 [mm_r 0, mm_i l1] [mm_r v] h = ((ex 62 0 [mm_r v, mm_r 26, mm_i l1] [] h).bind fun q => ex 73 22 [mm_r 0, mm_i l1] (q.1.toList ++ []) q.2) := by
  rcases hv with rfl | rfl <;> exact (congrFun (congrFun (congrFun (mm_ev_fw hShX st_X10_light 73 300 11) _) _) _).trans rfl
set_option maxRecDepth 100000 in
theorem sg_X10_light_22   (l1 : Int) (s0 : Int) (h : mm_H) : ex 73 22 [mm_r 0, mm_i l1] [mm_i s0] h = (ex 73 26 [mm_r 0, mm_i l1] [mm_i s0] h) := (congrFun (congrFun (congrFun (mm_ev_fw hShX st_X10_light 73 300 22) _) _) _).trans rfl
set_option maxRecDepth 100000 in
theorem sg_X10_light_26   (l1 : Int) (s0 : Int) (h : mm_H) : ex 73 26 [mm_r 0, mm_i l1] [mm_i s0] h = (some (some (mm_i s0), h)) := (congrFun (congrFun (congrFun (mm_ev_fw hShX st_X10_light 73 300 26) _) _) _).trans rfl
def st_X10_hour : Nat → Bool := fun p => Nat.beq p 4 || Nat.beq p 8 || Nat.beq p 15 || Nat.beq p 19 || Nat.beq p 28 || Nat.beq p 56 || Nat.beq p 60 || Nat.beq p 65 || Nat.beq p 74 || Nat.beq p 79
set_option maxRecDepth 100000 in
theorem sg_X10_hour_0   (a1 : Int) (a2 : Int) (h : mm_H) : ex 74 0 [mm_r 0, mm_i a1, mm_i a2, mm_u] [] h = (ex 74 4 [mm_r 0, mm_i a1, mm_i a2, mm_u] [mm_r (h 0 2).toNat] h) := (congrFun (congrFun (congrFun (mm_ev_fw hShX st_X10_hour 74 300 0) _) _) _).trans rfl
set_option maxRecDepth 100000 in
theorem sg_X10_hour_4 {v : Nat} (hv : v = 5 ∨ v = 15) (l1 : Int) (l2 : Int) (h : mm_H) : ex 74 4 [mm_r 0, mm_i l1, mm_i l2, mm_u] [mm_r v] h = ((ex 59 0 [mm_r v, mm_i l1] [] h).bind fun q => ex 74 8 [mm_r 0, mm_i l1, mm_i l2, mm_u] (q.1.toList ++ []) q.2) := by
  rcases hv with rfl | rfl <;> exact (congrFun (congrFun (congrFun (mm_ev_fw hShX st_X10_hour 74 300 4) _) _) _).trans rfl
set_option maxRecDepth 100000 in
theorem sg_X10_hour_8   (l1 : Int) (l2 : Int) (s0 : Int) (h : mm_H) : ex 74 8 [mm_r 0, mm_i l1, mm_i l2, mm_u] [mm_i s0] h = (if s0 = 0 then (ex 74 28 [mm_r 0, mm_i l1, mm_i l2, mm_u] [] h) else (ex 74 15 [mm_r 0, mm_i l1, mm_i l2, mm_u] [mm_r (h 0 2).toNat] h)) := (congrFun (congrFun (congrFun (mm_ev_fw hShX st_X10_hour 74 300 8) _) _) _).trans rfl
set_option maxRecDepth 100000 in
theorem sg_X10_hour_15 {v : Nat} (hv : v = 5 ∨ v = 15) (l1 : Int) (l2 : Int) (h : mm_H) : ex 74 15 [mm_r 0, mm_i l1, mm_i l2, mm_u] [mm_r v] h = ((ex 59 0 [mm_r v, mm_i l2] [] h).bind fun q => ex 74 19 [mm_r 0, mm_i l1, mm_i l2, mm_u] (q.1.toList ++ []) q.2) := by
  rcases hv with rfl | rfl <;> exact (congrFun (congrFun (congrFun (mm_ev_fw hShX st_X10_hour 74 300 15) _) _) _).trans rfl
set_option maxRecDepth 100000 in
theorem sg_X10_hour_19   (l1 : Int) (l2 : Int) (s0 : Int) (h : mm_H) : ex 74 19 [mm_r 0, mm_i l1, mm_i l2, mm_u] [mm_i s0] h = (if s0 = 0 then (ex 74 28 [mm_r 0, mm_i l1, mm_i l2, mm_u] [] h) else (if (mm_and l1 l2) = 0 then (if (h 25 2) < 99 then ((ex 41 0 [mm_r 28, mm_r 25] [] h).bind fun q => ex 74 56 [mm_r 0, mm_i l1, mm_i l2, mm_u] (q.1.toList ++ []) q.2) else (some (some (mm_i (-2)), h))) else (ex 74 28 [mm_r 0, mm_i l1, mm_i l2, mm_u] [] h))) := (congrFun (congrFun (congrFun (mm_ev_fw hShX st_X10_hour 74 300 19) _) _) _).trans rfl
set_option maxRecDepth 100000 in
theorem sg_X10_hour_28   (l1 : Int) (l2 : Int) (h : mm_H) : ex 74 28 [mm_r 0, mm_i l1, mm_i l2, mm_u] [] h = (some (some (mm_i (-1)), h)) := (congrFun (congrFun (congrFun (mm_ev_fw hShX st_X10_hour 74 300 28) _) _) _).trans rfl
set_option maxRecDepth 100000 in
theorem sg_X10_hour_56   (l1 : Int) (l2 : Int) (h : mm_H) : ex 74 56 [mm_r 0, mm_i l1, mm_i l2, mm_u] [] h = (ex 74 60 [mm_r 0, mm_i l1, mm_i l2, mm_u] [mm_r (h 0 2).toNat] h) := (congrFun (congrFun (congrFun (mm_ev_fw hShX st_X10_hour 74 300 56) _) _) _).trans rfl
set_option maxRecDepth 100000 in
theorem sg_X10_hour_60 {v : Nat} (hv : v = 5 ∨ v = 15) (l1 : Int) (l2 : Int) (h : mm_H) : ex 74 60 [mm_r 0, mm_i l1, mm_i l2, mm_u] [mm_r v] h = ((ex 60 0 [mm_r v, mm_i l1, mm_i l2] [] h).bind fun q => ex 74 65 [mm_r 0, mm_i l1, mm_i l2, mm_u] (q.1.toList ++ []) q.2) := by
  rcases hv with rfl | rfl <;> exact (congrFun (congrFun (congrFun (mm_ev_fw hShX st_X10_hour 74 300 60) _) _) _).trans rfl
set_option maxRecDepth 100000 in
theorem sg_X10_hour_65   (l1 : Int) (l2 : Int) (s0 : Int) (h : mm_H) : ex 74 65 [mm_r 0, mm_i l1, mm_i l2, mm_u] [mm_i s0] h = (ex 74 74 [mm_r 0, mm_i l1, mm_i l2, mm_i s0] [mm_r (h 0 2).toNat, mm_r 25] h) := (congrFun (congrFun (congrFun (mm_ev_fw hShX st_X10_hour 74 300 65) _) _) _).trans rfl
set_option maxRecDepth 100000 in
theorem sg_X10_hour_74 {v : Nat} (hv : v = 5 ∨ v = 15) (l1 : Int) (l2 : Int) (l3 : Int) (h : mm_H) : ex 74 74 [mm_r 0, mm_i l1, mm_i l2, mm_i l3] [mm_r v, mm_r 25] h = ((ex 16 0 [mm_r 25, mm_r v, mm_i l1, mm_i l2, mm_u, mm_u] [] h).bind fun q => ex 74 79 [mm_r 0, mm_i l1, mm_i l2, mm_i l3] (q.1.toList ++ []) q.2) := by
  rcases hv with rfl | rfl <;> exact (congrFun (congrFun (congrFun (mm_ev_fw hShX st_X10_hour 74 300 74) _) _) _).trans rfl
set_option maxRecDepth 100000 in
theorem sg_X10_hour_79   (l1 : Int) (l2 : Int) (l3 : Int) (h : mm_H) : ex 74 79 [mm_r 0, mm_i l1, mm_i l2, mm_i l3] [] h = (some (some (mm_i l3), (mm_st h 25 3 (mm_add (h 25 3) l3)))) := (congrFun (congrFun (congrFun (mm_ev_fw hShX st_X10_hour 74 300 79) _) _) _).trans rfl
def st_X10_grease : Nat → Bool := fun p => Nat.beq p 4 || Nat.beq p 8 || Nat.beq p 24
set_option maxRecDepth 100000 in
theorem sg_X10_grease_0   (a1 : Int) (h : mm_H) : ex 75 0 [mm_r 0, mm_i a1, mm_u] [] h = (ex 75 4 [mm_r 0, mm_i a1, mm_u] [mm_r (h 0 2).toNat] h) := (congrFun (congrFun (congrFun (mm_ev_fw hShX st_X10_grease 75 300 0) _) _) _).trans rfl
set_option maxRecDepth 100000 in
theorem sg_X10_grease_4 {v : Nat} (hv : v = 5 ∨ v = 15) (l1 : Int) (h : mm_H) : ex 75 4 [mm_r 0, mm_i l1, mm_u] [mm_r v] h = ((ex 57 0 [mm_r v, mm_i l1] [] h).bind fun q => ex 75 8 [mm_r 0, mm_i l1, mm_u] (q.1.toList ++ []) q.2) := by
  rcases hv with rfl | rfl <;> exact (congrFun (congrFun (congrFun (mm_ev_fw hShX st_X10_grease 75 300 4) _) _) _).trans rfl
set_option maxRecDepth 100000 in
theorem sg_X10_grease_8   (l1 : Int) (s0 : Int) (h : mm_H) : ex 75 8 [mm_r 0, mm_i l1, mm_u] [mm_i s0] h = (if s0 = 0 then (some (some (mm_i (-1)), h)) else ((ex 41 0 [mm_r 28, mm_r 25] [] h).bind fun q => ex 75 24 [mm_r 0, mm_i l1, mm_u] (q.1.toList ++ []) q.2)) := (congrFun (congrFun (congrFun (mm_ev_fw hShX st_X10_grease 75 300 8) _) _) _).trans rfl
set_option maxRecDepth 100000 in
theorem sg_X10_grease_24   (l1 : Int) (h : mm_H) : ex 75 24 [mm_r 0, mm_i l1, mm_u] [] h = (if 0 ≤ l1 ∧ l1 < 5 then (if 0 ≤ l1 ∧ l1 < 5 then (some (some (mm_i (h 27 l1.toNat)), (mm_st h 27 l1.toNat 1))) else none) else none) := (congrFun (congrFun (congrFun (mm_ev_fw hShX st_X10_grease 75 300 24) _) _) _).trans rfl
def st_X10_undo : Nat → Bool := fun p => Nat.beq p 7 || Nat.beq p 24 || Nat.beq p 31
set_option maxRecDepth 100000 in
theorem sg_X10_undo_0    (h : mm_H) : ex 76 0 [mm_r 0] [] h = ((ex 38 0 [mm_r 28] [] h).bind fun q => ex 76 7 [mm_r 0] (q.1.toList ++ []) q.2) := (congrFun (congrFun (congrFun (mm_ev_fw hShX st_X10_undo 76 300 0) _) _) _).trans rfl
set_option maxRecDepth 100000 in
theorem sg_X10_undo_7   (s0 : Int) (h : mm_H) : ex 76 7 [mm_r 0] [mm_i s0] h = (if s0 = 0 then (some (some (mm_i (-2)), h)) else ((ex 42 0 [mm_r 28, mm_r 25] [] h).bind fun q => ex 76 24 [mm_r 0] (q.1.toList ++ []) q.2)) := (congrFun (congrFun (congrFun (mm_ev_fw hShX st_X10_undo 76 300 7) _) _) _).trans rfl
set_option maxRecDepth 100000 in
theorem sg_X10_undo_24    (h : mm_H) : ex 76 24 [mm_r 0] [] h = ((ex 38 0 [mm_r 28] [] h).bind fun q => ex 76 31 [mm_r 0] (q.1.toList ++ []) q.2) := (congrFun (congrFun (congrFun (mm_ev_fw hShX st_X10_undo 76 300 24) _) _) _).trans rfl
set_option maxRecDepth 100000 in
theorem sg_X10_undo_31   (s0 : Int) (h : mm_H) : ex 76 31 [mm_r 0] [mm_i s0] h = (some (some (mm_i s0), h)) := (congrFun (congrFun (congrFun (mm_ev_fw hShX st_X10_undo 76 300 31) _) _) _).trans rfl
def st_X10_met : Nat → Bool := fun p => Nat.beq p 4 || Nat.beq p 14
set_option maxRecDepth 100000 in
theorem sg_X10_met_0    (h : mm_H) : ex 77 0 [mm_r 0] [] h = (ex 77 4 [mm_r 0] [mm_r (h 0 2).toNat] h) := (congrFun (congrFun (congrFun (mm_ev_fw hShX st_X10_met 77 300 0) _) _) _).trans rfl
set_option maxRecDepth 100000 in
theorem sg_X10_met_4 {v : Nat} (hv : v = 5 ∨ v = 15)  (h : mm_H) : ex 77 4 [mm_r 0] [mm_r v] h = ((ex 64 0 [mm_r v, mm_r 26, mm_u, mm_u] [] h).bind fun q => ex 77 14 [mm_r 0] (q.1.toList ++ []) q.2) := by
  rcases hv with rfl | rfl <;> exact (congrFun (congrFun (congrFun (mm_ev_fw hShX st_X10_met 77 300 4) _) _) _).trans rfl
set_option maxRecDepth 100000 in
theorem sg_X10_met_14   (s0 : Int) (h : mm_H) : ex 77 14 [mm_r 0] [mm_i s0] h = (some (some (mm_i s0), h)) := (congrFun (congrFun (congrFun (mm_ev_fw hShX st_X10_met 77 300 14) _) _) _).trans rfl
def st_X10_noon : Nat → Bool := fun p => Nat.beq p 2 || Nat.beq p 12 || Nat.beq p 23
set_option maxRecDepth 100000 in
theorem sg_X10_noon_0    (h : mm_H) : ex 78 0 [mm_r 0, mm_u] [] h = (ex 78 2 [mm_r 0, mm_i 0] [] h) := (congrFun (congrFun (congrFun (mm_ev_fw hShX st_X10_noon 78 300 0) _) _) _).trans rfl
set_option maxRecDepth 100000 in
theorem sg_X10_noon_2   (l1 : Int) (h : mm_H) : ex 78 2 [mm_r 0, mm_i l1] [] h = (if l1 < 24 then (ex 78 12 [mm_r 0, mm_i l1] [mm_r (h 0 2).toNat] h) else (some (some (mm_i (-4)), h))) := (congrFun (congrFun (congrFun (mm_ev_fw hShX st_X10_noon 78 300 2) _) _) _).trans rfl
set_option maxRecDepth 100000 in
theorem sg_X10_noon_12 {v : Nat} (hv : v = 5 ∨ v = 15) (l1 : Int) (h : mm_H) : ex 78 12 [mm_r 0, mm_i l1] [mm_r v] h = ((ex 62 0 [mm_r v, mm_r 26, mm_i l1] [] h).bind fun q => ex 78 23 [mm_r 0, mm_i l1] (q.1.toList ++ []) q.2) := by
  rcases hv with rfl | rfl <;> exact (congrFun (congrFun (congrFun (mm_ev_fw hShX st_X10_noon 78 300 12) _) _) _).trans rfl
set_option maxRecDepth 100000 in
theorem sg_X10_noon_23   (l1 : Int) (s0 : Int) (h : mm_H) : ex 78 23 [mm_r 0, mm_i l1] [mm_i s0] h = (if s0 = 0 then (some (some (mm_i l1), h)) else (ex 78 2 [mm_r 0, mm_i (mm_wr (l1 + 1))] [] h)) := (congrFun (congrFun (congrFun (mm_ev_fw hShX st_X10_noon 78 300 23) _) _) _).trans rfl
def st_X10_soon : Nat → Bool := fun p => Nat.beq p 4 || Nat.beq p 11 || Nat.beq p 14 || Nat.beq p 24 || Nat.beq p 33
set_option maxRecDepth 100000 in
theorem sg_X10_soon_0   (a1 : Int) (a2 : Int) (h : mm_H) : ex 79 0 [mm_r 0, mm_i a1, mm_i a2] [] h = ((ex 95 0 [mm_i a1] [] h).bind fun q => ex 79 4 [mm_r 0, mm_i a1, mm_i a2] (q.1.toList ++ []) q.2) := (congrFun (congrFun (congrFun (mm_ev_fw hShX st_X10_soon 79 300 0) _) _) _).trans rfl
set_option maxRecDepth 100000 in
theorem sg_X10_soon_4   (l1 : Int) (l2 : Int) (s0 : Int) (h : mm_H) : ex 79 4 [mm_r 0, mm_i l1, mm_i l2] [mm_i s0] h = (if s0 = 0 then (ex 79 14 [mm_r 0, mm_i l1, mm_i l2] [] h) else ((ex 96 0 [mm_i l2] [] h).bind fun q => ex 79 11 [mm_r 0, mm_i l1, mm_i l2] (q.1.toList ++ []) q.2)) := (congrFun (congrFun (congrFun (mm_ev_fw hShX st_X10_soon 79 300 4) _) _) _).trans rfl
set_option maxRecDepth 100000 in
theorem sg_X10_soon_11   (l1 : Int) (l2 : Int) (s0 : Int) (h : mm_H) : ex 79 11 [mm_r 0, mm_i l1, mm_i l2] [mm_i s0] h = (if s0 = 0 then (ex 79 14 [mm_r 0, mm_i l1, mm_i l2] [] h) else (ex 79 24 [mm_r 0, mm_i l1, mm_i l2] [mm_r (h 0 2).toNat, mm_r 62] h)) := (congrFun (congrFun (congrFun (mm_ev_fw hShX st_X10_soon 79 300 11) _) _) _).trans rfl
set_option maxRecDepth 100000 in
theorem sg_X10_soon_14   (l1 : Int) (l2 : Int) (h : mm_H) : ex 79 14 [mm_r 0, mm_i l1, mm_i l2] [] h = (some (some (mm_i (-1)), h)) := (congrFun (congrFun (congrFun (mm_ev_fw hShX st_X10_soon 79 300 14) _) _) _).trans rfl
set_option maxRecDepth 100000 in
theorem sg_X10_soon_24 {v : Nat} (hv : v = 5 ∨ v = 15) (l1 : Int) (l2 : Int) (h : mm_H) : ex 79 24 [mm_r 0, mm_i l1, mm_i l2] [mm_r v, mm_r 62] h = ((ex 0 0 [mm_r 62, mm_r v, mm_r 25, mm_i l1, mm_i l2, mm_u] [] h).bind fun q => ex 79 33 [mm_r 0, mm_i l1, mm_i l2] (q.1.toList ++ []) q.2) := by
  rcases hv with rfl | rfl <;> exact (congrFun (congrFun (congrFun (mm_ev_fw hShX st_X10_soon 79 300 24) _) _) _).trans rfl
set_option maxRecDepth 100000 in
theorem sg_X10_soon_33   (l1 : Int) (l2 : Int) (s0 : Int) (h : mm_H) : ex 79 33 [mm_r 0, mm_i l1, mm_i l2] [mm_i s0] h = (some (some (mm_i s0), h)) := (congrFun (congrFun (congrFun (mm_ev_fw hShX st_X10_soon 79 300 33) _) _) _).trans rfl
def st_X10_plan : Nat → Bool := fun p => Nat.beq p 9 || Nat.beq p 13 || Nat.beq p 18 || Nat.beq p 26 || Nat.beq p 33 || Nat.beq p 72
set_option maxRecDepth 100000 in
theorem sg_X10_plan_0   (a1 : Int) (h : mm_H) : ex 80 0 [mm_r 0, mm_i a1] [] h = (if a1 = (-1) then (ex 80 18 [mm_r 0, mm_i a1] [] h) else (ex 80 9 [mm_r 0, mm_i a1] [mm_r (h 0 2).toNat] h)) := (congrFun (congrFun (congrFun (mm_ev_fw hShX st_X10_plan 80 300 0) _) _) _).trans rfl
set_option maxRecDepth 100000 in
theorem sg_X10_plan_9 {v : Nat} (hv : v = 5 ∨ v = 15) (l1 : Int) (h : mm_H) : ex 80 9 [mm_r 0, mm_i l1] [mm_r v] h = ((ex 57 0 [mm_r v, mm_i l1] [] h).bind fun q => ex 80 13 [mm_r 0, mm_i l1] (q.1.toList ++ []) q.2) := by
  rcases hv with rfl | rfl <;> exact (congrFun (congrFun (congrFun (mm_ev_fw hShX st_X10_plan 80 300 9) _) _) _).trans rfl
set_option maxRecDepth 100000 in
theorem sg_X10_plan_13   (l1 : Int) (s0 : Int) (h : mm_H) : ex 80 13 [mm_r 0, mm_i l1] [mm_i s0] h = (if s0 = 0 then (some (some (mm_i (-1)), h)) else (ex 80 18 [mm_r 0, mm_i l1] [] h)) := (congrFun (congrFun (congrFun (mm_ev_fw hShX st_X10_plan 80 300 13) _) _) _).trans rfl
set_option maxRecDepth 100000 in
theorem sg_X10_plan_18   (l1 : Int) (h : mm_H) : ex 80 18 [mm_r 0, mm_i l1] [] h = (ex 80 26 [mm_r 0, mm_i l1] [mm_r (h 0 2).toNat, mm_r 66] h) := (congrFun (congrFun (congrFun (mm_ev_fw hShX st_X10_plan 80 300 18) _) _) _).trans rfl
set_option maxRecDepth 100000 in
theorem sg_X10_plan_26 {v : Nat} (hv : v = 5 ∨ v = 15) (l1 : Int) (h : mm_H) : ex 80 26 [mm_r 0, mm_i l1] [mm_r v, mm_r 66] h = ((ex 18 0 [mm_r 66, mm_r v, mm_r 25, mm_u, mm_u] [] h).bind fun q => ex 80 33 [mm_r 0, mm_i l1] (q.1.toList ++ []) q.2) := by
  rcases hv with rfl | rfl <;> exact (congrFun (congrFun (congrFun (mm_ev_fw hShX st_X10_plan 80 300 26) _) _) _).trans rfl
set_option maxRecDepth 100000 in
theorem sg_X10_plan_33   (l1 : Int) (h : mm_H) : ex 80 33 [mm_r 0, mm_i l1] [] h = (if (h 66 0) = (-4) then (some (some (mm_i (-4)), h)) else (if l1 = (-1) then (ex 80 72 [mm_r 0, mm_i l1] [mm_i (h 66 0)] h) else (if 0 ≤ l1 ∧ l1 < 5 then (ex 80 72 [mm_r 0, mm_i l1] [mm_i (h 67 l1.toNat)] h) else none))) := (congrFun (congrFun (congrFun (mm_ev_fw hShX st_X10_plan 80 300 33) _) _) _).trans rfl
set_option maxRecDepth 100000 in
theorem sg_X10_plan_72   (l1 : Int) (s0 : Int) (h : mm_H) : ex 80 72 [mm_r 0, mm_i l1] [mm_i s0] h = (some (some (mm_i s0), h)) := (congrFun (congrFun (congrFun (mm_ev_fw hShX st_X10_plan 80 300 72) _) _) _).trans rfl
def st_X10_best : Nat → Bool := fun p => Nat.beq p 20 || Nat.beq p 30 || Nat.beq p 36 || Nat.beq p 50 || Nat.beq p 60 || Nat.beq p 76 || Nat.beq p 92
set_option maxRecDepth 100000 in
theorem sg_X10_best_0   (a1 : Int) (a2 : Int) (h : mm_H) : ex 81 0 [mm_r 0, mm_i a1, mm_i a2, mm_u, mm_u, mm_u, mm_u] [] h = (if a1 < 1 then (ex 81 20 [mm_r 0, mm_i a1, mm_i a2, mm_u, mm_u, mm_u, mm_u] [] h) else (if 12 < a1 then (ex 81 20 [mm_r 0, mm_i a1, mm_i a2, mm_u, mm_u, mm_u, mm_u] [] h) else (if a2 < 0 then (ex 81 20 [mm_r 0, mm_i a1, mm_i a2, mm_u, mm_u, mm_u, mm_u] [] h) else (if 1 < a2 then (ex 81 20 [mm_r 0, mm_i a1, mm_i a2, mm_u, mm_u, mm_u, mm_u] [] h) else (ex 81 30 [mm_r 0, mm_i a1, mm_i a2, mm_i 0, mm_i (-1), mm_i 0, mm_u] [] h))))) := (congrFun (congrFun (congrFun (mm_ev_fw hShX st_X10_best 81 300 0) _) _) _).trans rfl
set_option maxRecDepth 100000 in
theorem sg_X10_best_20   (l1 : Int) (l2 : Int) (h : mm_H) : ex 81 20 [mm_r 0, mm_i l1, mm_i l2, mm_u, mm_u, mm_u, mm_u] [] h = (some (some (mm_i (-1)), h)) := (congrFun (congrFun (congrFun (mm_ev_fw hShX st_X10_best 81 300 20) _) _) _).trans rfl
set_option maxRecDepth 100000 in
theorem sg_X10_best_30   (l1 : Int) (l2 : Int) (l3 : Int) (l4 : Int) (l5 : Int) (l6 : mm_V) (h : mm_H) : ex 81 30 [mm_r 0, mm_i l1, mm_i l2, mm_i l3, mm_i l4, mm_i l5, l6] [] h = (ex 81 36 [mm_r 0, mm_i l1, mm_i l2, mm_i l3, mm_i l4, mm_i l5, l6] [mm_r (h 0 2).toNat, mm_i l5] h) := (congrFun (congrFun (congrFun (mm_ev_fw hShX st_X10_best 81 300 30) _) _) _).trans rfl
set_option maxRecDepth 100000 in
theorem sg_X10_best_36 {v : Nat} (hv : v = 5 ∨ v = 15) (l1 : Int) (l2 : Int) (l3 : Int) (l4 : Int) (l5 : Int) (l6 : mm_V) (s1 : Int) (h : mm_H) : ex 81 36 [mm_r 0, mm_i l1, mm_i l2, mm_i l3, mm_i l4, mm_i l5, l6] [mm_r v, mm_i s1] h = (if s1 < (h v 0) then (ex 81 50 [mm_r 0, mm_i l1, mm_i l2, mm_i l3, mm_i l4, mm_i l5, l6] [mm_r (h 0 2).toNat, mm_r 62] h) else (if l2 = 0 then (ex 81 92 [mm_r 0, mm_i l1, mm_i l2, mm_i l3, mm_i l4, mm_i l5, l6] [mm_i l3] h) else (ex 81 92 [mm_r 0, mm_i l1, mm_i l2, mm_i l3, mm_i l4, mm_i l5, l6] [mm_i l4] h))) := by
  rcases hv with rfl | rfl <;> exact (congrFun (congrFun (congrFun (mm_ev_fw hShX st_X10_best 81 300 36) _) _) _).trans rfl
set_option maxRecDepth 100000 in
theorem sg_X10_best_50 {v : Nat} (hv : v = 5 ∨ v = 15) (l1 : Int) (l2 : Int) (l3 : Int) (l4 : Int) (l5 : Int) (l6 : mm_V) (h : mm_H) : ex 81 50 [mm_r 0, mm_i l1, mm_i l2, mm_i l3, mm_i l4, mm_i l5, l6] [mm_r v, mm_r 62] h = ((ex 1 0 [mm_r 62, mm_r v, mm_r 25, mm_i l5, mm_i l1, mm_u] [] h).bind fun q => ex 81 60 [mm_r 0, mm_i l1, mm_i l2, mm_i l3, mm_i l4, mm_i l5, l6] (q.1.toList ++ []) q.2) := by
  rcases hv with rfl | rfl <;> exact (congrFun (congrFun (congrFun (mm_ev_fw hShX st_X10_best 81 300 50) _) _) _).trans rfl
set_option maxRecDepth 100000 in
theorem sg_X10_best_60   (l1 : Int) (l2 : Int) (l3 : Int) (l4 : Int) (l5 : Int) (l6 : mm_V) (s0 : Int) (h : mm_H) : ex 81 60 [mm_r 0, mm_i l1, mm_i l2, mm_i l3, mm_i l4, mm_i l5, l6] [mm_i s0] h = (if l4 < s0 then (ex 81 76 [mm_r 0, mm_i l1, mm_i l2, mm_i l5, mm_i s0, mm_i l5, mm_i s0] [] h) else (ex 81 76 [mm_r 0, mm_i l1, mm_i l2, mm_i l3, mm_i l4, mm_i l5, mm_i s0] [] h)) := (congrFun (congrFun (congrFun (mm_ev_fw hShX st_X10_best 81 300 60) _) _) _).trans rfl
set_option maxRecDepth 100000 in
theorem sg_X10_best_76   (l1 : Int) (l2 : Int) (l3 : Int) (l4 : Int) (l5 : Int) (l6 : Int) (h : mm_H) : ex 81 76 [mm_r 0, mm_i l1, mm_i l2, mm_i l3, mm_i l4, mm_i l5, mm_i l6] [] h = (ex 81 30 [mm_r 0, mm_i l1, mm_i l2, mm_i l3, mm_i l4, mm_i (mm_wr (l5 + 1)), mm_i l6] [] h) := (congrFun (congrFun (congrFun (mm_ev_fw hShX st_X10_best 81 300 76) _) _) _).trans rfl
set_option maxRecDepth 100000 in
theorem sg_X10_best_92   (l1 : Int) (l2 : Int) (l3 : Int) (l4 : Int) (l5 : Int) (l6 : mm_V) (s0 : Int) (h : mm_H) : ex 81 92 [mm_r 0, mm_i l1, mm_i l2, mm_i l3, mm_i l4, mm_i l5, l6] [mm_i s0] h = (some (some (mm_i s0), h)) := (congrFun (congrFun (congrFun (mm_ev_fw hShX st_X10_best 81 300 92) _) _) _).trans rfl
def st_X10_posts : Nat → Bool := fun p => Nat.beq p 9 || Nat.beq p 13 || Nat.beq p 18 || Nat.beq p 26 || Nat.beq p 29 || Nat.beq p 68
set_option maxRecDepth 100000 in
theorem sg_X10_posts_0   (a1 : Int) (h : mm_H) : ex 82 0 [mm_r 0, mm_i a1] [] h = (if a1 = (-1) then (ex 82 18 [mm_r 0, mm_i a1] [] h) else (ex 82 9 [mm_r 0, mm_i a1] [mm_r (h 0 2).toNat] h)) := (congrFun (congrFun (congrFun (mm_ev_fw hShX st_X10_posts 82 300 0) _) _) _).trans rfl
set_option maxRecDepth 100000 in
theorem sg_X10_posts_9 {v : Nat} (hv : v = 5 ∨ v = 15) (l1 : Int) (h : mm_H) : ex 82 9 [mm_r 0, mm_i l1] [mm_r v] h = ((ex 57 0 [mm_r v, mm_i l1] [] h).bind fun q => ex 82 13 [mm_r 0, mm_i l1] (q.1.toList ++ []) q.2) := by
  rcases hv with rfl | rfl <;> exact (congrFun (congrFun (congrFun (mm_ev_fw hShX st_X10_posts 82 300 9) _) _) _).trans rfl
set_option maxRecDepth 100000 in
theorem sg_X10_posts_13   (l1 : Int) (s0 : Int) (h : mm_H) : ex 82 13 [mm_r 0, mm_i l1] [mm_i s0] h = (if s0 = 0 then (some (some (mm_i (-1)), h)) else (ex 82 18 [mm_r 0, mm_i l1] [] h)) := (congrFun (congrFun (congrFun (mm_ev_fw hShX st_X10_posts 82 300 13) _) _) _).trans rfl
set_option maxRecDepth 100000 in
theorem sg_X10_posts_18   (l1 : Int) (h : mm_H) : ex 82 18 [mm_r 0, mm_i l1] [] h = (ex 82 26 [mm_r 0, mm_i l1] [mm_r (h 0 2).toNat, mm_r 76] h) := (congrFun (congrFun (congrFun (mm_ev_fw hShX st_X10_posts 82 300 18) _) _) _).trans rfl
set_option maxRecDepth 100000 in
theorem sg_X10_posts_26 {v : Nat} (hv : v = 5 ∨ v = 15) (l1 : Int) (h : mm_H) : ex 82 26 [mm_r 0, mm_i l1] [mm_r v, mm_r 76] h = ((ex 26 0 [mm_r 76, mm_r v] [] h).bind fun q => ex 82 29 [mm_r 0, mm_i l1] (q.1.toList ++ []) q.2) := by
  rcases hv with rfl | rfl <;> exact (congrFun (congrFun (congrFun (mm_ev_fw hShX st_X10_posts 82 300 26) _) _) _).trans rfl
set_option maxRecDepth 100000 in
theorem sg_X10_posts_29   (l1 : Int) (h : mm_H) : ex 82 29 [mm_r 0, mm_i l1] [] h = (if (h 76 0) = (-4) then (some (some (mm_i (-4)), h)) else (if l1 = (-1) then (ex 82 68 [mm_r 0, mm_i l1] [mm_i (h 76 0)] h) else (if 0 ≤ l1 ∧ l1 < 5 then (ex 82 68 [mm_r 0, mm_i l1] [mm_i (h 77 l1.toNat)] h) else none))) := (congrFun (congrFun (congrFun (mm_ev_fw hShX st_X10_posts 82 300 29) _) _) _).trans rfl
set_option maxRecDepth 100000 in
theorem sg_X10_posts_68   (l1 : Int) (s0 : Int) (h : mm_H) : ex 82 68 [mm_r 0, mm_i l1] [mm_i s0] h = (some (some (mm_i s0), h)) := (congrFun (congrFun (congrFun (mm_ev_fw hShX st_X10_posts 82 300 68) _) _) _).trans rfl
def st_X10_brown : Nat → Bool := fun p => Nat.beq p 9 || Nat.beq p 25 || Nat.beq p 36 || Nat.beq p 48 || Nat.beq p 63 || Nat.beq p 80 || Nat.beq p 104
set_option maxRecDepth 100000 in
theorem sg_X10_brown_0   (a1 : Int) (h : mm_H) : ex 83 0 [mm_r 0, mm_i a1, mm_u, mm_u, mm_u, mm_u, mm_u] [] h = (if a1 < 0 then (ex 83 9 [mm_r 0, mm_i a1, mm_u, mm_u, mm_u, mm_u, mm_u] [] h) else (if 2 < a1 then (ex 83 9 [mm_r 0, mm_i a1, mm_u, mm_u, mm_u, mm_u, mm_u] [] h) else (ex 83 25 [mm_r 0, mm_i a1, mm_i 0, mm_i 0, mm_i 0, mm_i (-4), mm_i 0] [] h))) := (congrFun (congrFun (congrFun (mm_ev_fw hShX st_X10_brown 83 300 0) _) _) _).trans rfl
set_option maxRecDepth 100000 in
theorem sg_X10_brown_9   (l1 : Int) (h : mm_H) : ex 83 9 [mm_r 0, mm_i l1, mm_u, mm_u, mm_u, mm_u, mm_u] [] h = (some (some (mm_i (-1)), h)) := (congrFun (congrFun (congrFun (mm_ev_fw hShX st_X10_brown 83 300 9) _) _) _).trans rfl
set_option maxRecDepth 100000 in
theorem sg_X10_brown_25   (l1 : Int) (l2 : Int) (l3 : Int) (l4 : Int) (l5 : Int) (l6 : Int) (h : mm_H) : ex 83 25 [mm_r 0, mm_i l1, mm_i l2, mm_i l3, mm_i l4, mm_i l5, mm_i l6] [] h = (if l6 < 24 then (ex 83 36 [mm_r 0, mm_i l1, mm_i l2, mm_i l3, mm_i l4, mm_i l5, mm_i l6] [mm_r (h 0 2).toNat] h) else (if l1 = 0 then (some (some (mm_i l2), h)) else (if l1 = 1 then (ex 83 104 [mm_r 0, mm_i l1, mm_i l2, mm_i l3, mm_i l4, mm_i l5, mm_i l6] [mm_i l4] h) else (ex 83 104 [mm_r 0, mm_i l1, mm_i l2, mm_i l3, mm_i l4, mm_i l5, mm_i l6] [mm_i l5] h)))) := (congrFun (congrFun (congrFun (mm_ev_fw hShX st_X10_brown 83 300 25) _) _) _).trans rfl
set_option maxRecDepth 100000 in
theorem sg_X10_brown_36 {v : Nat} (hv : v = 5 ∨ v = 15) (l1 : Int) (l2 : Int) (l3 : Int) (l4 : Int) (l5 : Int) (l6 : Int) (h : mm_H) : ex 83 36 [mm_r 0, mm_i l1, mm_i l2, mm_i l3, mm_i l4, mm_i l5, mm_i l6] [mm_r v] h = ((ex 62 0 [mm_r v, mm_r 26, mm_i l6] [] h).bind fun q => ex 83 48 [mm_r 0, mm_i l1, mm_i l2, mm_i l3, mm_i l4, mm_i l5, mm_i l6] (q.1.toList ++ []) q.2) := by
  rcases hv with rfl | rfl <;> exact (congrFun (congrFun (congrFun (mm_ev_fw hShX st_X10_brown 83 300 36) _) _) _).trans rfl
set_option maxRecDepth 100000 in
theorem sg_X10_brown_48   (l1 : Int) (l2 : Int) (l3 : Int) (l4 : Int) (l5 : Int) (l6 : Int) (s0 : Int) (h : mm_H) : ex 83 48 [mm_r 0, mm_i l1, mm_i l2, mm_i l3, mm_i l4, mm_i l5, mm_i l6] [mm_i s0] h = (if s0 = 2 then (ex 83 63 [mm_r 0, mm_i l1, mm_i (mm_wr (l2 + 1)), mm_i (mm_wr (l3 + 1)), mm_i l4, mm_i l5, mm_i l6] [] h) else (ex 83 63 [mm_r 0, mm_i l1, mm_i l2, mm_i 0, mm_i l4, mm_i l5, mm_i l6] [] h)) := (congrFun (congrFun (congrFun (mm_ev_fw hShX st_X10_brown 83 300 48) _) _) _).trans rfl
set_option maxRecDepth 100000 in
theorem sg_X10_brown_63   (l1 : Int) (l2 : Int) (l3 : Int) (l4 : Int) (l5 : Int) (l6 : Int) (h : mm_H) : ex 83 63 [mm_r 0, mm_i l1, mm_i l2, mm_i l3, mm_i l4, mm_i l5, mm_i l6] [] h = (if l4 < l3 then (ex 83 80 [mm_r 0, mm_i l1, mm_i l2, mm_i l3, mm_i l3, mm_i (mm_add (mm_sub l6 l3) 1), mm_i l6] [] h) else (ex 83 80 [mm_r 0, mm_i l1, mm_i l2, mm_i l3, mm_i l4, mm_i l5, mm_i l6] [] h)) := (congrFun (congrFun (congrFun (mm_ev_fw hShX st_X10_brown 83 300 63) _) _) _).trans rfl
set_option maxRecDepth 100000 in
theorem sg_X10_brown_80   (l1 : Int) (l2 : Int) (l3 : Int) (l4 : Int) (l5 : Int) (l6 : Int) (h : mm_H) : ex 83 80 [mm_r 0, mm_i l1, mm_i l2, mm_i l3, mm_i l4, mm_i l5, mm_i l6] [] h = (ex 83 25 [mm_r 0, mm_i l1, mm_i l2, mm_i l3, mm_i l4, mm_i l5, mm_i (mm_wr (l6 + 1))] [] h) := (congrFun (congrFun (congrFun (mm_ev_fw hShX st_X10_brown 83 300 80) _) _) _).trans rfl
set_option maxRecDepth 100000 in
theorem sg_X10_brown_104   (l1 : Int) (l2 : Int) (l3 : Int) (l4 : Int) (l5 : Int) (l6 : Int) (s0 : Int) (h : mm_H) : ex 83 104 [mm_r 0, mm_i l1, mm_i l2, mm_i l3, mm_i l4, mm_i l5, mm_i l6] [mm_i s0] h = (some (some (mm_i s0), h)) := (congrFun (congrFun (congrFun (mm_ev_fw hShX st_X10_brown 83 300 104) _) _) _).trans rfl
def st_X10_seen : Nat → Bool := fun p => Nat.beq p 4 || Nat.beq p 11 || Nat.beq p 14 || Nat.beq p 23 || Nat.beq p 38 || Nat.beq p 45
set_option maxRecDepth 100000 in
theorem sg_X10_seen_0   (a1 : Int) (a2 : Int) (h : mm_H) : ex 84 0 [mm_r 0, mm_i a1, mm_i a2] [] h = ((ex 95 0 [mm_i a1] [] h).bind fun q => ex 84 4 [mm_r 0, mm_i a1, mm_i a2] (q.1.toList ++ []) q.2) := (congrFun (congrFun (congrFun (mm_ev_fw hShX st_X10_seen 84 300 0) _) _) _).trans rfl
set_option maxRecDepth 100000 in
theorem sg_X10_seen_4   (l1 : Int) (l2 : Int) (s0 : Int) (h : mm_H) : ex 84 4 [mm_r 0, mm_i l1, mm_i l2] [mm_i s0] h = (if s0 = 0 then (ex 84 14 [mm_r 0, mm_i l1, mm_i l2] [] h) else ((ex 97 0 [mm_i l2] [] h).bind fun q => ex 84 11 [mm_r 0, mm_i l1, mm_i l2] (q.1.toList ++ []) q.2)) := (congrFun (congrFun (congrFun (mm_ev_fw hShX st_X10_seen 84 300 4) _) _) _).trans rfl
set_option maxRecDepth 100000 in
theorem sg_X10_seen_11   (l1 : Int) (l2 : Int) (s0 : Int) (h : mm_H) : ex 84 11 [mm_r 0, mm_i l1, mm_i l2] [mm_i s0] h = (if s0 = 0 then (ex 84 14 [mm_r 0, mm_i l1, mm_i l2] [] h) else ((ex 7 0 [mm_r 79] [] h).bind fun q => ex 84 23 [mm_r 0, mm_i l1, mm_i l2] (q.1.toList ++ []) q.2)) := (congrFun (congrFun (congrFun (mm_ev_fw hShX st_X10_seen 84 300 11) _) _) _).trans rfl
set_option maxRecDepth 100000 in
theorem sg_X10_seen_14   (l1 : Int) (l2 : Int) (h : mm_H) : ex 84 14 [mm_r 0, mm_i l1, mm_i l2] [] h = (some (some (mm_i (-1)), h)) := (congrFun (congrFun (congrFun (mm_ev_fw hShX st_X10_seen 84 300 14) _) _) _).trans rfl
set_option maxRecDepth 100000 in
theorem sg_X10_seen_23   (l1 : Int) (l2 : Int) (s0 : Int) (h : mm_H) : ex 84 23 [mm_r 0, mm_i l1, mm_i l2] [mm_i s0] h = (if s0 = 0 then ((ex 9 0 [mm_r 79, mm_i l1, mm_i l2] [] h).bind fun q => ex 84 38 [mm_r 0, mm_i l1, mm_i l2] (q.1.toList ++ []) q.2) else (some (some (mm_i (-3)), h))) := (congrFun (congrFun (congrFun (mm_ev_fw hShX st_X10_seen 84 300 23) _) _) _).trans rfl
set_option maxRecDepth 100000 in
theorem sg_X10_seen_38   (l1 : Int) (l2 : Int) (h : mm_H) : ex 84 38 [mm_r 0, mm_i l1, mm_i l2] [] h = ((ex 6 0 [mm_r 79] [] h).bind fun q => ex 84 45 [mm_r 0, mm_i l1, mm_i l2] (q.1.toList ++ []) q.2) := (congrFun (congrFun (congrFun (mm_ev_fw hShX st_X10_seen 84 300 38) _) _) _).trans rfl
set_option maxRecDepth 100000 in
theorem sg_X10_seen_45   (l1 : Int) (l2 : Int) (s0 : Int) (h : mm_H) : ex 84 45 [mm_r 0, mm_i l1, mm_i l2] [mm_i s0] h = (some (some (mm_i s0), h)) := (congrFun (congrFun (congrFun (mm_ev_fw hShX st_X10_seen 84 300 45) _) _) _).trans rfl
