def st_X10_forget : Nat → Bool := fun p => Nat.beq p 7 || Nat.beq p 15
set_option maxRecDepth 100000 in
theorem sg_X10_forget_0    (h : mm_H) : ex 85 0 [mm_r 0, mm_u] [] h = ((ex 6 0 [mm_r 79] [] h).bind fun q => ex 85 7 [mm_r 0, mm_u] (q.1.toList ++ []) q.2) := (congrFun (congrFun (congrFun (mm_ev_fw hShX st_X10_forget 85 300 0) _) _) _).trans rfl
set_option maxRecDepth 100000 in
theorem sg_X10_forget_7   (s0 : Int) (h : mm_H) : ex 85 7 [mm_r 0, mm_u] [mm_i s0] h = ((ex 8 0 [mm_r 79] [] h).bind fun q => ex 85 15 [mm_r 0, mm_i s0] (q.1.toList ++ []) q.2) := (congrFun (congrFun (congrFun (mm_ev_fw hShX st_X10_forget 85 300 7) _) _) _).trans rfl
set_option maxRecDepth 100000 in
theorem sg_X10_forget_15   (l1 : Int) (h : mm_H) : ex 85 15 [mm_r 0, mm_i l1] [] h = (some (some (mm_i l1), h)) := (congrFun (congrFun (congrFun (mm_ev_fw hShX st_X10_forget 85 300 15) _) _) _).trans rfl
def st_X10_slipped : Nat → Bool := fun p => Nat.beq p 9 || Nat.beq p 19 || Nat.beq p 29 || Nat.beq p 65
set_option maxRecDepth 100000 in
theorem sg_X10_slipped_0   (a1 : Int) (h : mm_H) : ex 86 0 [mm_r 0, mm_i a1] [] h = (if a1 < 0 then (ex 86 9 [mm_r 0, mm_i a1] [] h) else (if 1 < a1 then (ex 86 9 [mm_r 0, mm_i a1] [] h) else (ex 86 19 [mm_r 0, mm_i a1] [mm_r (h 0 2).toNat, mm_r 79] h))) := (congrFun (congrFun (congrFun (mm_ev_fw hShX st_X10_slipped 86 300 0) _) _) _).trans rfl
set_option maxRecDepth 100000 in
theorem sg_X10_slipped_9   (l1 : Int) (h : mm_H) : ex 86 9 [mm_r 0, mm_i l1] [] h = (some (some (mm_i (-1)), h)) := (congrFun (congrFun (congrFun (mm_ev_fw hShX st_X10_slipped 86 300 9) _) _) _).trans rfl
set_option maxRecDepth 100000 in
theorem sg_X10_slipped_19 {v : Nat} (hv : v = 5 ∨ v = 15) (l1 : Int) (h : mm_H) : ex 86 19 [mm_r 0, mm_i l1] [mm_r v, mm_r 79] h = ((ex 10 0 [mm_r 79, mm_r v, mm_r 26, mm_u] [] h).bind fun q => ex 86 29 [mm_r 0, mm_i l1] (q.1.toList ++ []) q.2) := by
  rcases hv with rfl | rfl <;> exact (congrFun (congrFun (congrFun (mm_ev_fw hShX st_X10_slipped 86 300 19) _) _) _).trans rfl
set_option maxRecDepth 100000 in
theorem sg_X10_slipped_29   (l1 : Int) (h : mm_H) : ex 86 29 [mm_r 0, mm_i l1] [] h = (if l1 = 0 then (some (some (mm_i (h 79 4)), h)) else (if (h 79 4) = 0 then (ex 86 65 [mm_r 0, mm_i l1] [mm_i (-4)] h) else (ex 86 65 [mm_r 0, mm_i l1] [mm_i (h 82 0)] h))) := (congrFun (congrFun (congrFun (mm_ev_fw hShX st_X10_slipped 86 300 29) _) _) _).trans rfl
set_option maxRecDepth 100000 in
theorem sg_X10_slipped_65   (l1 : Int) (s0 : Int) (h : mm_H) : ex 86 65 [mm_r 0, mm_i l1] [mm_i s0] h = (some (some (mm_i s0), h)) := (congrFun (congrFun (congrFun (mm_ev_fw hShX st_X10_slipped 86 300 65) _) _) _).trans rfl
def st_X10_look : Nat → Bool := fun p => Nat.beq p 9 || Nat.beq p 19 || Nat.beq p 29 || Nat.beq p 57 || Nat.beq p 72 || Nat.beq p 84 || Nat.beq p 98 || Nat.beq p 113
set_option maxRecDepth 100000 in
theorem sg_X10_look_0   (a1 : Int) (h : mm_H) : ex 87 0 [mm_r 0, mm_i a1, mm_u, mm_u, mm_u, mm_u] [] h = (if a1 < 0 then (ex 87 9 [mm_r 0, mm_i a1, mm_u, mm_u, mm_u, mm_u] [] h) else (if 1 < a1 then (ex 87 9 [mm_r 0, mm_i a1, mm_u, mm_u, mm_u, mm_u] [] h) else (ex 87 19 [mm_r 0, mm_i a1, mm_u, mm_u, mm_u, mm_u] [mm_r (h 0 2).toNat, mm_r 79] h))) := (congrFun (congrFun (congrFun (mm_ev_fw hShX st_X10_look 87 300 0) _) _) _).trans rfl
set_option maxRecDepth 100000 in
theorem sg_X10_look_9   (l1 : Int) (h : mm_H) : ex 87 9 [mm_r 0, mm_i l1, mm_u, mm_u, mm_u, mm_u] [] h = (some (some (mm_i (-1)), h)) := (congrFun (congrFun (congrFun (mm_ev_fw hShX st_X10_look 87 300 9) _) _) _).trans rfl
set_option maxRecDepth 100000 in
theorem sg_X10_look_19 {v : Nat} (hv : v = 5 ∨ v = 15) (l1 : Int) (h : mm_H) : ex 87 19 [mm_r 0, mm_i l1, mm_u, mm_u, mm_u, mm_u] [mm_r v, mm_r 79] h = ((ex 10 0 [mm_r 79, mm_r v, mm_r 26, mm_u] [] h).bind fun q => ex 87 29 [mm_r 0, mm_i l1, mm_u, mm_u, mm_u, mm_u] (q.1.toList ++ []) q.2) := by
  rcases hv with rfl | rfl <;> exact (congrFun (congrFun (congrFun (mm_ev_fw hShX st_X10_look 87 300 19) _) _) _).trans rfl
set_option maxRecDepth 100000 in
theorem sg_X10_look_29   (l1 : Int) (h : mm_H) : ex 87 29 [mm_r 0, mm_i l1, mm_u, mm_u, mm_u, mm_u] [] h = (if (h 79 4) = 0 then (some (some (mm_i (-4)), h)) else (ex 87 57 [mm_r 0, mm_i l1, mm_i 0, mm_i (mm_add (h 79 4) 1), mm_i 0, mm_u] [] h)) := (congrFun (congrFun (congrFun (mm_ev_fw hShX st_X10_look 87 300 29) _) _) _).trans rfl
set_option maxRecDepth 100000 in
theorem sg_X10_look_57   (l1 : Int) (l2 : Int) (l3 : Int) (l4 : Int) (l5 : mm_V) (h : mm_H) : ex 87 57 [mm_r 0, mm_i l1, mm_i l2, mm_i l3, mm_i l4, l5] [] h = (if l4 < 24 then (ex 87 72 [mm_r 0, mm_i l1, mm_i l2, mm_i l3, mm_i l4, l5] [mm_r (h 0 2).toNat, mm_r 79] h) else (if l1 = 0 then (ex 87 113 [mm_r 0, mm_i l1, mm_i l2, mm_i l3, mm_i l4, l5] [mm_i l2] h) else (ex 87 113 [mm_r 0, mm_i l1, mm_i l2, mm_i l3, mm_i l4, l5] [mm_i l3] h))) := (congrFun (congrFun (congrFun (mm_ev_fw hShX st_X10_look 87 300 57) _) _) _).trans rfl
set_option maxRecDepth 100000 in
theorem sg_X10_look_72 {v : Nat} (hv : v = 5 ∨ v = 15) (l1 : Int) (l2 : Int) (l3 : Int) (l4 : Int) (l5 : mm_V) (h : mm_H) : ex 87 72 [mm_r 0, mm_i l1, mm_i l2, mm_i l3, mm_i l4, l5] [mm_r v, mm_r 79] h = ((ex 11 0 [mm_r 79, mm_r v, mm_r 26, mm_i l4, mm_u, mm_u, mm_u] [] h).bind fun q => ex 87 84 [mm_r 0, mm_i l1, mm_i l2, mm_i l3, mm_i l4, l5] (q.1.toList ++ []) q.2) := by
  rcases hv with rfl | rfl <;> exact (congrFun (congrFun (congrFun (mm_ev_fw hShX st_X10_look 87 300 72) _) _) _).trans rfl
set_option maxRecDepth 100000 in
theorem sg_X10_look_84   (l1 : Int) (l2 : Int) (l3 : Int) (l4 : Int) (l5 : mm_V) (s0 : Int) (h : mm_H) : ex 87 84 [mm_r 0, mm_i l1, mm_i l2, mm_i l3, mm_i l4, l5] [mm_i s0] h = (if s0 < l3 then (ex 87 98 [mm_r 0, mm_i l1, mm_i l4, mm_i s0, mm_i l4, mm_i s0] [] h) else (ex 87 98 [mm_r 0, mm_i l1, mm_i l2, mm_i l3, mm_i l4, mm_i s0] [] h)) := (congrFun (congrFun (congrFun (mm_ev_fw hShX st_X10_look 87 300 84) _) _) _).trans rfl
set_option maxRecDepth 100000 in
theorem sg_X10_look_98   (l1 : Int) (l2 : Int) (l3 : Int) (l4 : Int) (l5 : Int) (h : mm_H) : ex 87 98 [mm_r 0, mm_i l1, mm_i l2, mm_i l3, mm_i l4, mm_i l5] [] h = (ex 87 57 [mm_r 0, mm_i l1, mm_i l2, mm_i l3, mm_i (mm_wr (l4 + 1)), mm_i l5] [] h) := (congrFun (congrFun (congrFun (mm_ev_fw hShX st_X10_look 87 300 98) _) _) _).trans rfl
set_option maxRecDepth 100000 in
theorem sg_X10_look_113   (l1 : Int) (l2 : Int) (l3 : Int) (l4 : Int) (l5 : mm_V) (s0 : Int) (h : mm_H) : ex 87 113 [mm_r 0, mm_i l1, mm_i l2, mm_i l3, mm_i l4, l5] [mm_i s0] h = (some (some (mm_i s0), h)) := (congrFun (congrFun (congrFun (mm_ev_fw hShX st_X10_look 87 300 113) _) _) _).trans rfl
def st_X10_paces : Nat → Bool := fun p => Nat.beq p 4 || Nat.beq p 8 || Nat.beq p 26 || Nat.beq p 29 || Nat.beq p 37 || Nat.beq p 57 || Nat.beq p 90 || Nat.beq p 113
set_option maxRecDepth 100000 in
theorem sg_X10_paces_0   (a1 : Int) (a2 : Int) (a3 : Int) (h : mm_H) : ex 88 0 [mm_r 0, mm_i a1, mm_i a2, mm_i a3, mm_u, mm_u, mm_u, mm_u] [] h = (ex 88 4 [mm_r 0, mm_i a1, mm_i a2, mm_i a3, mm_u, mm_u, mm_u, mm_u] [mm_r (h 0 2).toNat] h) := (congrFun (congrFun (congrFun (mm_ev_fw hShX st_X10_paces 88 300 0) _) _) _).trans rfl
set_option maxRecDepth 100000 in
theorem sg_X10_paces_4 {v : Nat} (hv : v = 5 ∨ v = 15) (l1 : Int) (l2 : Int) (l3 : Int) (h : mm_H) : ex 88 4 [mm_r 0, mm_i l1, mm_i l2, mm_i l3, mm_u, mm_u, mm_u, mm_u] [mm_r v] h = ((ex 57 0 [mm_r v, mm_i l1] [] h).bind fun q => ex 88 8 [mm_r 0, mm_i l1, mm_i l2, mm_i l3, mm_u, mm_u, mm_u, mm_u] (q.1.toList ++ []) q.2) := by
  rcases hv with rfl | rfl <;> exact (congrFun (congrFun (congrFun (mm_ev_fw hShX st_X10_paces 88 300 4) _) _) _).trans rfl
set_option maxRecDepth 100000 in
theorem sg_X10_paces_8   (l1 : Int) (l2 : Int) (l3 : Int) (s0 : Int) (h : mm_H) : ex 88 8 [mm_r 0, mm_i l1, mm_i l2, mm_i l3, mm_u, mm_u, mm_u, mm_u] [mm_i s0] h = (if s0 = 0 then (ex 88 29 [mm_r 0, mm_i l1, mm_i l2, mm_i l3, mm_u, mm_u, mm_u, mm_u] [] h) else (if l2 < 1 then (ex 88 29 [mm_r 0, mm_i l1, mm_i l2, mm_i l3, mm_u, mm_u, mm_u, mm_u] [] h) else (if 8 < l2 then (ex 88 29 [mm_r 0, mm_i l1, mm_i l2, mm_i l3, mm_u, mm_u, mm_u, mm_u] [] h) else ((ex 97 0 [mm_i l3] [] h).bind fun q => ex 88 26 [mm_r 0, mm_i l1, mm_i l2, mm_i l3, mm_u, mm_u, mm_u, mm_u] (q.1.toList ++ []) q.2)))) := (congrFun (congrFun (congrFun (mm_ev_fw hShX st_X10_paces 88 300 8) _) _) _).trans rfl
set_option maxRecDepth 100000 in
theorem sg_X10_paces_26   (l1 : Int) (l2 : Int) (l3 : Int) (s0 : Int) (h : mm_H) : ex 88 26 [mm_r 0, mm_i l1, mm_i l2, mm_i l3, mm_u, mm_u, mm_u, mm_u] [mm_i s0] h = (if s0 = 0 then (ex 88 29 [mm_r 0, mm_i l1, mm_i l2, mm_i l3, mm_u, mm_u, mm_u, mm_u] [] h) else (ex 88 37 [mm_r 0, mm_i l1, mm_i l2, mm_i l3, mm_i 0, mm_i 1, mm_u, mm_u] [] h)) := (congrFun (congrFun (congrFun (mm_ev_fw hShX st_X10_paces 88 300 26) _) _) _).trans rfl
set_option maxRecDepth 100000 in
theorem sg_X10_paces_29   (l1 : Int) (l2 : Int) (l3 : Int) (h : mm_H) : ex 88 29 [mm_r 0, mm_i l1, mm_i l2, mm_i l3, mm_u, mm_u, mm_u, mm_u] [] h = (some (some (mm_i (-1)), h)) := (congrFun (congrFun (congrFun (mm_ev_fw hShX st_X10_paces 88 300 29) _) _) _).trans rfl
set_option maxRecDepth 100000 in
theorem sg_X10_paces_37   (l1 : Int) (l2 : Int) (l3 : Int) (l4 : Int) (l5 : Int) (l6 : mm_V) (l7 : mm_V) (h : mm_H) : ex 88 37 [mm_r 0, mm_i l1, mm_i l2, mm_i l3, mm_i l4, mm_i l5, l6, l7] [] h = (if 5 < l5 then (some (some (mm_i l4), h)) else (if 0 ≤ l1 ∧ l1 < 5 then (ex 88 57 [mm_r 0, mm_i l1, mm_i l2, mm_i l3, mm_i l4, mm_i l5, mm_i (h 26 l1.toNat), mm_i 0] [] h) else none)) := (congrFun (congrFun (congrFun (mm_ev_fw hShX st_X10_paces 88 300 37) _) _) _).trans rfl
set_option maxRecDepth 100000 in
theorem sg_X10_paces_57   (l1 : Int) (l2 : Int) (l3 : Int) (l4 : Int) (l5 : Int) (l6 : Int) (l7 : Int) (h : mm_H) : ex 88 57 [mm_r 0, mm_i l1, mm_i l2, mm_i l3, mm_i l4, mm_i l5, mm_i l6, mm_i l7] [] h = (if l7 < l2 then (if 0 ≤ l1 ∧ l1 < 5 then ((ex 100 0 [mm_i l6, mm_i l5, mm_i (h 27 l1.toNat), mm_i (mm_add (h 25 2) l7), mm_i 1, mm_u, mm_u] [] h).bind fun q => ex 88 90 [mm_r 0, mm_i l1, mm_i l2, mm_i l3, mm_i l4, mm_i l5, mm_i l6, mm_i l7] (q.1.toList ++ []) q.2) else none) else (if l6 = l3 then (ex 88 113 [mm_r 0, mm_i l1, mm_i l2, mm_i l3, mm_i (mm_or l4 (mm_shl 1 l5)), mm_i l5, mm_i l6, mm_i l7] [] h) else (ex 88 113 [mm_r 0, mm_i l1, mm_i l2, mm_i l3, mm_i l4, mm_i l5, mm_i l6, mm_i l7] [] h))) := (congrFun (congrFun (congrFun (mm_ev_fw hShX st_X10_paces 88 300 57) _) _) _).trans rfl
set_option maxRecDepth 100000 in
theorem sg_X10_paces_90   (l1 : Int) (l2 : Int) (l3 : Int) (l4 : Int) (l5 : Int) (l6 : Int) (l7 : Int) (s0 : Int) (h : mm_H) : ex 88 90 [mm_r 0, mm_i l1, mm_i l2, mm_i l3, mm_i l4, mm_i l5, mm_i l6, mm_i l7] [mm_i s0] h = (ex 88 57 [mm_r 0, mm_i l1, mm_i l2, mm_i l3, mm_i l4, mm_i l5, mm_i s0, mm_i (mm_wr (l7 + 1))] [] h) := (congrFun (congrFun (congrFun (mm_ev_fw hShX st_X10_paces 88 300 90) _) _) _).trans rfl
set_option maxRecDepth 100000 in
theorem sg_X10_paces_113   (l1 : Int) (l2 : Int) (l3 : Int) (l4 : Int) (l5 : Int) (l6 : Int) (l7 : Int) (h : mm_H) : ex 88 113 [mm_r 0, mm_i l1, mm_i l2, mm_i l3, mm_i l4, mm_i l5, mm_i l6, mm_i l7] [] h = (ex 88 37 [mm_r 0, mm_i l1, mm_i l2, mm_i l3, mm_i l4, mm_i (mm_wr (l5 + 1)), mm_i l6, mm_i l7] [] h) := (congrFun (congrFun (congrFun (mm_ev_fw hShX st_X10_paces 88 300 113) _) _) _).trans rfl
def st_X10_slips : Nat → Bool := fun p => Nat.beq p 4 || Nat.beq p 8 || Nat.beq p 31 || Nat.beq p 38 || Nat.beq p 52 || Nat.beq p 63 || Nat.beq p 82 || Nat.beq p 92 || Nat.beq p 101 || Nat.beq p 123
set_option maxRecDepth 100000 in
theorem sg_X10_slips_0   (a1 : Int) (a2 : Int) (a3 : Int) (a4 : Int) (a5 : Int) (h : mm_H) : ex 89 0 [mm_r 0, mm_i a1, mm_i a2, mm_i a3, mm_i a4, mm_i a5, mm_u, mm_u, mm_u] [] h = (ex 89 4 [mm_r 0, mm_i a1, mm_i a2, mm_i a3, mm_i a4, mm_i a5, mm_u, mm_u, mm_u] [mm_r (h 0 2).toNat] h) := (congrFun (congrFun (congrFun (mm_ev_fw hShX st_X10_slips 89 300 0) _) _) _).trans rfl
set_option maxRecDepth 100000 in
theorem sg_X10_slips_4 {v : Nat} (hv : v = 5 ∨ v = 15) (l1 : Int) (l2 : Int) (l3 : Int) (l4 : Int) (l5 : Int) (h : mm_H) : ex 89 4 [mm_r 0, mm_i l1, mm_i l2, mm_i l3, mm_i l4, mm_i l5, mm_u, mm_u, mm_u] [mm_r v] h = ((ex 57 0 [mm_r v, mm_i l1] [] h).bind fun q => ex 89 8 [mm_r 0, mm_i l1, mm_i l2, mm_i l3, mm_i l4, mm_i l5, mm_u, mm_u, mm_u] (q.1.toList ++ []) q.2) := by
  rcases hv with rfl | rfl <;> exact (congrFun (congrFun (congrFun (mm_ev_fw hShX st_X10_slips 89 300 4) _) _) _).trans rfl
set_option maxRecDepth 100000 in
theorem sg_X10_slips_8   (l1 : Int) (l2 : Int) (l3 : Int) (l4 : Int) (l5 : Int) (s0 : Int) (h : mm_H) : ex 89 8 [mm_r 0, mm_i l1, mm_i l2, mm_i l3, mm_i l4, mm_i l5, mm_u, mm_u, mm_u] [mm_i s0] h = (if s0 = 0 then (ex 89 31 [mm_r 0, mm_i l1, mm_i l2, mm_i l3, mm_i l4, mm_i l5, mm_u, mm_u, mm_u] [] h) else (if l2 < 0 then (ex 89 31 [mm_r 0, mm_i l1, mm_i l2, mm_i l3, mm_i l4, mm_i l5, mm_u, mm_u, mm_u] [] h) else (if 6 < l2 then (ex 89 31 [mm_r 0, mm_i l1, mm_i l2, mm_i l3, mm_i l4, mm_i l5, mm_u, mm_u, mm_u] [] h) else (if l3 < 0 then (ex 89 31 [mm_r 0, mm_i l1, mm_i l2, mm_i l3, mm_i l4, mm_i l5, mm_u, mm_u, mm_u] [] h) else (if 10 < l3 then (ex 89 31 [mm_r 0, mm_i l1, mm_i l2, mm_i l3, mm_i l4, mm_i l5, mm_u, mm_u, mm_u] [] h) else ((ex 96 0 [mm_i l4] [] h).bind fun q => ex 89 38 [mm_r 0, mm_i l1, mm_i l2, mm_i l3, mm_i l4, mm_i l5, mm_u, mm_u, mm_u] (q.1.toList ++ []) q.2)))))) := (congrFun (congrFun (congrFun (mm_ev_fw hShX st_X10_slips 89 300 8) _) _) _).trans rfl
set_option maxRecDepth 100000 in
theorem sg_X10_slips_31   (l1 : Int) (l2 : Int) (l3 : Int) (l4 : Int) (l5 : Int) (h : mm_H) : ex 89 31 [mm_r 0, mm_i l1, mm_i l2, mm_i l3, mm_i l4, mm_i l5, mm_u, mm_u, mm_u] [] h = (some (some (mm_i (-1)), h)) := (congrFun (congrFun (congrFun (mm_ev_fw hShX st_X10_slips 89 300 31) _) _) _).trans rfl
set_option maxRecDepth 100000 in
theorem sg_X10_slips_38   (l1 : Int) (l2 : Int) (l3 : Int) (l4 : Int) (l5 : Int) (s0 : Int) (h : mm_H) : ex 89 38 [mm_r 0, mm_i l1, mm_i l2, mm_i l3, mm_i l4, mm_i l5, mm_u, mm_u, mm_u] [mm_i s0] h = (if s0 = 0 then (ex 89 52 [mm_r 0, mm_i l1, mm_i l2, mm_i l3, mm_i l4, mm_i l5, mm_u, mm_u, mm_u] [] h) else (if l5 < 0 then (ex 89 52 [mm_r 0, mm_i l1, mm_i l2, mm_i l3, mm_i l4, mm_i l5, mm_u, mm_u, mm_u] [] h) else (if 1 < l5 then (ex 89 52 [mm_r 0, mm_i l1, mm_i l2, mm_i l3, mm_i l4, mm_i l5, mm_u, mm_u, mm_u] [] h) else ((ex 3 0 [mm_r 85, mm_i l2, mm_i l3, mm_u, mm_u] [] h).bind fun q => ex 89 63 [mm_r 0, mm_i l1, mm_i l2, mm_i l3, mm_i l4, mm_i l5, mm_u, mm_u, mm_u] (q.1.toList ++ []) q.2)))) := (congrFun (congrFun (congrFun (mm_ev_fw hShX st_X10_slips 89 300 38) _) _) _).trans rfl
set_option maxRecDepth 100000 in
theorem sg_X10_slips_52   (l1 : Int) (l2 : Int) (l3 : Int) (l4 : Int) (l5 : Int) (h : mm_H) : ex 89 52 [mm_r 0, mm_i l1, mm_i l2, mm_i l3, mm_i l4, mm_i l5, mm_u, mm_u, mm_u] [] h = (some (some (mm_i (-1)), h)) := (congrFun (congrFun (congrFun (mm_ev_fw hShX st_X10_slips 89 300 52) _) _) _).trans rfl
set_option maxRecDepth 100000 in
theorem sg_X10_slips_63   (l1 : Int) (l2 : Int) (l3 : Int) (l4 : Int) (l5 : Int) (h : mm_H) : ex 89 63 [mm_r 0, mm_i l1, mm_i l2, mm_i l3, mm_i l4, mm_i l5, mm_u, mm_u, mm_u] [] h = (if 0 ≤ l1 ∧ l1 < 5 then ((ex 4 0 [mm_r 85, mm_i (h 26 l1.toNat), mm_i l2, mm_i l4, mm_u, mm_u] [] h).bind fun q => ex 89 82 [mm_r 0, mm_i l1, mm_i l2, mm_i l3, mm_i l4, mm_i l5, mm_u, mm_u, mm_u] (q.1.toList ++ []) q.2) else none) := (congrFun (congrFun (congrFun (mm_ev_fw hShX st_X10_slips 89 300 63) _) _) _).trans rfl
set_option maxRecDepth 100000 in
theorem sg_X10_slips_82   (l1 : Int) (l2 : Int) (l3 : Int) (l4 : Int) (l5 : Int) (s0 : Int) (h : mm_H) : ex 89 82 [mm_r 0, mm_i l1, mm_i l2, mm_i l3, mm_i l4, mm_i l5, mm_u, mm_u, mm_u] [mm_i s0] h = ((ex 5 0 [mm_r 85, mm_i l2, mm_u, mm_u] [] h).bind fun q => ex 89 92 [mm_r 0, mm_i l1, mm_i l2, mm_i l3, mm_i l4, mm_i l5, mm_i s0, mm_u, mm_u] (q.1.toList ++ []) q.2) := (congrFun (congrFun (congrFun (mm_ev_fw hShX st_X10_slips 89 300 82) _) _) _).trans rfl
set_option maxRecDepth 100000 in
theorem sg_X10_slips_92   (l1 : Int) (l2 : Int) (l3 : Int) (l4 : Int) (l5 : Int) (l6 : Int) (s0 : Int) (h : mm_H) : ex 89 92 [mm_r 0, mm_i l1, mm_i l2, mm_i l3, mm_i l4, mm_i l5, mm_i l6, mm_u, mm_u] [mm_i s0] h = ((ex 101 0 [mm_i l6, mm_i s0, mm_u, mm_u, mm_u, mm_u] [] h).bind fun q => ex 89 101 [mm_r 0, mm_i l1, mm_i l2, mm_i l3, mm_i l4, mm_i l5, mm_i l6, mm_i s0, mm_u] (q.1.toList ++ []) q.2) := (congrFun (congrFun (congrFun (mm_ev_fw hShX st_X10_slips 89 300 92) _) _) _).trans rfl
set_option maxRecDepth 100000 in
theorem sg_X10_slips_101   (l1 : Int) (l2 : Int) (l3 : Int) (l4 : Int) (l5 : Int) (l6 : Int) (l7 : Int) (s0 : Int) (h : mm_H) : ex 89 101 [mm_r 0, mm_i l1, mm_i l2, mm_i l3, mm_i l4, mm_i l5, mm_i l6, mm_i l7, mm_u] [mm_i s0] h = (if s0 < 1 then (some (some (mm_i (-1)), h)) else (if l5 = 0 then (ex 89 123 [mm_r 0, mm_i l1, mm_i l2, mm_i l3, mm_i l4, mm_i l5, mm_i l6, mm_i l7, mm_i s0] [mm_i l6] h) else (ex 89 123 [mm_r 0, mm_i l1, mm_i l2, mm_i l3, mm_i l4, mm_i l5, mm_i l6, mm_i l7, mm_i s0] [mm_i l7] h))) := (congrFun (congrFun (congrFun (mm_ev_fw hShX st_X10_slips 89 300 101) _) _) _).trans rfl
set_option maxRecDepth 100000 in
theorem sg_X10_slips_123   (l1 : Int) (l2 : Int) (l3 : Int) (l4 : Int) (l5 : Int) (l6 : Int) (l7 : Int) (l8 : Int) (s0 : Int) (h : mm_H) : ex 89 123 [mm_r 0, mm_i l1, mm_i l2, mm_i l3, mm_i l4, mm_i l5, mm_i l6, mm_i l7, mm_i l8] [mm_i s0] h = (if l8 = 0 then none else (some (some (mm_i (mm_wr (Int.tdiv s0 l8))), h))) := (congrFun (congrFun (congrFun (mm_ev_fw hShX st_X10_slips 89 300 123) _) _) _).trans rfl
def st_X10_spent : Nat → Bool := fun p => Nat.beq p 9 || Nat.beq p 32
set_option maxRecDepth 100000 in
theorem sg_X10_spent_0   (a1 : Int) (h : mm_H) : ex 90 0 [mm_r 0, mm_i a1] [] h = (if a1 < 0 then (ex 90 9 [mm_r 0, mm_i a1] [] h) else (if 1 < a1 then (ex 90 9 [mm_r 0, mm_i a1] [] h) else (if a1 = 0 then (ex 90 32 [mm_r 0, mm_i a1] [mm_i (h 25 3)] h) else (ex 90 32 [mm_r 0, mm_i a1] [mm_i (h 25 2)] h)))) := (congrFun (congrFun (congrFun (mm_ev_fw hShX st_X10_spent 90 300 0) _) _) _).trans rfl
set_option maxRecDepth 100000 in
theorem sg_X10_spent_9   (l1 : Int) (h : mm_H) : ex 90 9 [mm_r 0, mm_i l1] [] h = (some (some (mm_i (-1)), h)) := (congrFun (congrFun (congrFun (mm_ev_fw hShX st_X10_spent 90 300 9) _) _) _).trans rfl
set_option maxRecDepth 100000 in
theorem sg_X10_spent_32   (l1 : Int) (s0 : Int) (h : mm_H) : ex 90 32 [mm_r 0, mm_i l1] [mm_i s0] h = (some (some (mm_i s0), h)) := (congrFun (congrFun (congrFun (mm_ev_fw hShX st_X10_spent 90 300 32) _) _) _).trans rfl
def st_X10_evening : Nat → Bool := fun p => Nat.beq p 31 || Nat.beq p 41 || Nat.beq p 50 || Nat.beq p 60 || Nat.beq p 68 || Nat.beq p 71 || Nat.beq p 76 || Nat.beq p 84
set_option maxRecDepth 100000 in
theorem sg_X10_evening_0   (a1 : Int) (a2 : Int) (a3 : Int) (h : mm_H) : ex 91 0 [mm_r 0, mm_i a1, mm_i a2, mm_i a3, mm_u] [] h = (if a1 < 0 then (ex 91 31 [mm_r 0, mm_i a1, mm_i a2, mm_i a3, mm_u] [] h) else (if 9999 < a1 then (ex 91 31 [mm_r 0, mm_i a1, mm_i a2, mm_i a3, mm_u] [] h) else (if a2 < 1 then (ex 91 31 [mm_r 0, mm_i a1, mm_i a2, mm_i a3, mm_u] [] h) else (if 24 < a2 then (ex 91 31 [mm_r 0, mm_i a1, mm_i a2, mm_i a3, mm_u] [] h) else (if a3 < 0 then (ex 91 31 [mm_r 0, mm_i a1, mm_i a2, mm_i a3, mm_u] [] h) else (if 1 < a3 then (ex 91 31 [mm_r 0, mm_i a1, mm_i a2, mm_i a3, mm_u] [] h) else (ex 91 41 [mm_r 0, mm_i a1, mm_i a2, mm_i a3, mm_u] [mm_r (h 0 2).toNat, mm_r 62] h))))))) := (congrFun (congrFun (congrFun (mm_ev_fw hShX st_X10_evening 91 300 0) _) _) _).trans rfl
set_option maxRecDepth 100000 in
theorem sg_X10_evening_31   (l1 : Int) (l2 : Int) (l3 : Int) (h : mm_H) : ex 91 31 [mm_r 0, mm_i l1, mm_i l2, mm_i l3, mm_u] [] h = (some (some (mm_i (-1)), h)) := (congrFun (congrFun (congrFun (mm_ev_fw hShX st_X10_evening 91 300 31) _) _) _).trans rfl
set_option maxRecDepth 100000 in
theorem sg_X10_evening_41 {v : Nat} (hv : v = 5 ∨ v = 15) (l1 : Int) (l2 : Int) (l3 : Int) (h : mm_H) : ex 91 41 [mm_r 0, mm_i l1, mm_i l2, mm_i l3, mm_u] [mm_r v, mm_r 62] h = ((ex 2 0 [mm_r 62, mm_r v, mm_r 25, mm_i l1, mm_i l2, mm_u, mm_u, mm_u, mm_u, mm_u, mm_u, mm_u] [] h).bind fun q => ex 91 50 [mm_r 0, mm_i l1, mm_i l2, mm_i l3, mm_u] (q.1.toList ++ []) q.2) := by
  rcases hv with rfl | rfl <;> exact (congrFun (congrFun (congrFun (mm_ev_fw hShX st_X10_evening 91 300 41) _) _) _).trans rfl
set_option maxRecDepth 100000 in
theorem sg_X10_evening_50   (l1 : Int) (l2 : Int) (l3 : Int) (h : mm_H) : ex 91 50 [mm_r 0, mm_i l1, mm_i l2, mm_i l3, mm_u] [mm_r 63] h = (if l3 = 0 then (ex 91 60 [mm_r 0, mm_i l1, mm_i l2, mm_i l3, mm_r 63] [mm_r (h 0 2).toNat] h) else (ex 91 76 [mm_r 0, mm_i l1, mm_i l2, mm_i l3, mm_r 63] [mm_r (h 0 2).toNat] h)) := (congrFun (congrFun (congrFun (mm_ev_fw hShX st_X10_evening 91 300 50) _) _) _).trans rfl
set_option maxRecDepth 100000 in
theorem sg_X10_evening_60 {v : Nat} (hv : v = 5 ∨ v = 15) (l1 : Int) (l2 : Int) (l3 : Int) (h : mm_H) : ex 91 60 [mm_r 0, mm_i l1, mm_i l2, mm_i l3, mm_r 63] [mm_r v] h = ((ex 64 0 [mm_r v, mm_r 64, mm_u, mm_u] [] h).bind fun q => ex 91 68 [mm_r 0, mm_i l1, mm_i l2, mm_i l3, mm_r 63] (q.1.toList ++ []) q.2) := by
  rcases hv with rfl | rfl <;> exact (congrFun (congrFun (congrFun (mm_ev_fw hShX st_X10_evening 91 300 60) _) _) _).trans rfl
set_option maxRecDepth 100000 in
theorem sg_X10_evening_68   (l1 : Int) (l2 : Int) (l3 : Int) (s0 : Int) (h : mm_H) : ex 91 68 [mm_r 0, mm_i l1, mm_i l2, mm_i l3, mm_r 63] [mm_i s0] h = ((ex 102 0 [mm_i s0] [] h).bind fun q => ex 91 71 [mm_r 0, mm_i l1, mm_i l2, mm_i l3, mm_r 63] (q.1.toList ++ []) q.2) := (congrFun (congrFun (congrFun (mm_ev_fw hShX st_X10_evening 91 300 68) _) _) _).trans rfl
set_option maxRecDepth 100000 in
theorem sg_X10_evening_71   (l1 : Int) (l2 : Int) (l3 : Int) (s0 : Int) (h : mm_H) : ex 91 71 [mm_r 0, mm_i l1, mm_i l2, mm_i l3, mm_r 63] [mm_i s0] h = (some (some (mm_i s0), h)) := (congrFun (congrFun (congrFun (mm_ev_fw hShX st_X10_evening 91 300 71) _) _) _).trans rfl
set_option maxRecDepth 100000 in
theorem sg_X10_evening_76 {v : Nat} (hv : v = 5 ∨ v = 15) (l1 : Int) (l2 : Int) (l3 : Int) (h : mm_H) : ex 91 76 [mm_r 0, mm_i l1, mm_i l2, mm_i l3, mm_r 63] [mm_r v] h = ((ex 66 0 [mm_r v, mm_r 64, mm_u, mm_u] [] h).bind fun q => ex 91 84 [mm_r 0, mm_i l1, mm_i l2, mm_i l3, mm_r 63] (q.1.toList ++ []) q.2) := by
  rcases hv with rfl | rfl <;> exact (congrFun (congrFun (congrFun (mm_ev_fw hShX st_X10_evening 91 300 76) _) _) _).trans rfl
set_option maxRecDepth 100000 in
theorem sg_X10_evening_84   (l1 : Int) (l2 : Int) (l3 : Int) (s0 : Int) (h : mm_H) : ex 91 84 [mm_r 0, mm_i l1, mm_i l2, mm_i l3, mm_r 63] [mm_i s0] h = (some (some (mm_i s0), h)) := (congrFun (congrFun (congrFun (mm_ev_fw hShX st_X10_evening 91 300 84) _) _) _).trans rfl
def st_X10_keep : Nat → Bool := fun p => Nat.beq p 7 || Nat.beq p 24 || Nat.beq p 31
set_option maxRecDepth 100000 in
theorem sg_X10_keep_0    (h : mm_H) : ex 92 0 [mm_r 0] [] h = ((ex 39 0 [mm_r 54] [] h).bind fun q => ex 92 7 [mm_r 0] (q.1.toList ++ []) q.2) := (congrFun (congrFun (congrFun (mm_ev_fw hShX st_X10_keep 92 300 0) _) _) _).trans rfl
set_option maxRecDepth 100000 in
theorem sg_X10_keep_7   (s0 : Int) (h : mm_H) : ex 92 7 [mm_r 0] [mm_i s0] h = (if s0 = 0 then ((ex 41 0 [mm_r 54, mm_r 25] [] h).bind fun q => ex 92 24 [mm_r 0] (q.1.toList ++ []) q.2) else (some (some (mm_i (-3)), h))) := (congrFun (congrFun (congrFun (mm_ev_fw hShX st_X10_keep 92 300 7) _) _) _).trans rfl
set_option maxRecDepth 100000 in
theorem sg_X10_keep_24    (h : mm_H) : ex 92 24 [mm_r 0] [] h = ((ex 38 0 [mm_r 54] [] h).bind fun q => ex 92 31 [mm_r 0] (q.1.toList ++ []) q.2) := (congrFun (congrFun (congrFun (mm_ev_fw hShX st_X10_keep 92 300 24) _) _) _).trans rfl
set_option maxRecDepth 100000 in
theorem sg_X10_keep_31   (s0 : Int) (h : mm_H) : ex 92 31 [mm_r 0] [mm_i s0] h = (some (some (mm_i s0), h)) := (congrFun (congrFun (congrFun (mm_ev_fw hShX st_X10_keep 92 300 31) _) _) _).trans rfl
def st_X10_back : Nat → Bool := fun p => Nat.beq p 7 || Nat.beq p 24 || Nat.beq p 31 || Nat.beq p 38
set_option maxRecDepth 100000 in
theorem sg_X10_back_0    (h : mm_H) : ex 93 0 [mm_r 0] [] h = ((ex 38 0 [mm_r 54] [] h).bind fun q => ex 93 7 [mm_r 0] (q.1.toList ++ []) q.2) := (congrFun (congrFun (congrFun (mm_ev_fw hShX st_X10_back 93 300 0) _) _) _).trans rfl
set_option maxRecDepth 100000 in
theorem sg_X10_back_7   (s0 : Int) (h : mm_H) : ex 93 7 [mm_r 0] [mm_i s0] h = (if s0 = 0 then (some (some (mm_i (-2)), h)) else ((ex 42 0 [mm_r 54, mm_r 25] [] h).bind fun q => ex 93 24 [mm_r 0] (q.1.toList ++ []) q.2)) := (congrFun (congrFun (congrFun (mm_ev_fw hShX st_X10_back 93 300 7) _) _) _).trans rfl
set_option maxRecDepth 100000 in
theorem sg_X10_back_24    (h : mm_H) : ex 93 24 [mm_r 0] [] h = ((ex 40 0 [mm_r 28] [] h).bind fun q => ex 93 31 [mm_r 0] (q.1.toList ++ []) q.2) := (congrFun (congrFun (congrFun (mm_ev_fw hShX st_X10_back 93 300 24) _) _) _).trans rfl
set_option maxRecDepth 100000 in
theorem sg_X10_back_31    (h : mm_H) : ex 93 31 [mm_r 0] [] h = ((ex 38 0 [mm_r 54] [] h).bind fun q => ex 93 38 [mm_r 0] (q.1.toList ++ []) q.2) := (congrFun (congrFun (congrFun (mm_ev_fw hShX st_X10_back 93 300 31) _) _) _).trans rfl
set_option maxRecDepth 100000 in
theorem sg_X10_back_38   (s0 : Int) (h : mm_H) : ex 93 38 [mm_r 0] [mm_i s0] h = (some (some (mm_i s0), h)) := (congrFun (congrFun (congrFun (mm_ev_fw hShX st_X10_back 93 300 38) _) _) _).trans rfl
def st_X10_count : Nat → Bool := fun p => Nat.beq p 48 || Nat.beq p 56 || Nat.beq p 64 || Nat.beq p 75 || Nat.beq p 83 || Nat.beq p 91 || Nat.beq p 99
set_option maxRecDepth 100000 in
theorem sg_X10_count_0   (a1 : Int) (h : mm_H) : ex 94 0 [mm_r 0, mm_i a1] [] h = (if a1 = 0 then (ex 94 48 [mm_r 0, mm_i a1] [mm_r (h 0 2).toNat] h) else (if a1 = 1 then (ex 94 56 [mm_r 0, mm_i a1] [mm_r (h 0 2).toNat] h) else (if a1 = 2 then (ex 94 64 [mm_r 0, mm_i a1] [mm_r (h 0 2).toNat] h) else (if a1 = 3 then ((ex 6 0 [mm_r 79] [] h).bind fun q => ex 94 75 [mm_r 0, mm_i a1] (q.1.toList ++ []) q.2) else (if a1 = 4 then ((ex 38 0 [mm_r 28] [] h).bind fun q => ex 94 83 [mm_r 0, mm_i a1] (q.1.toList ++ []) q.2) else (if a1 = 5 then ((ex 38 0 [mm_r 54] [] h).bind fun q => ex 94 91 [mm_r 0, mm_i a1] (q.1.toList ++ []) q.2) else (if a1 = 6 then ((ex 47 0 [mm_r 1] [] h).bind fun q => ex 94 99 [mm_r 0, mm_i a1] (q.1.toList ++ []) q.2) else (some (some (mm_i (-1)), h))))))))) := (congrFun (congrFun (congrFun (mm_ev_fw hShX st_X10_count 94 300 0) _) _) _).trans rfl
set_option maxRecDepth 100000 in
theorem sg_X10_count_48 {v : Nat} (hv : v = 5 ∨ v = 15) (l1 : Int) (h : mm_H) : ex 94 48 [mm_r 0, mm_i l1] [mm_r v] h = (some (some (mm_i (h v 0)), h)) := by
  rcases hv with rfl | rfl <;> exact (congrFun (congrFun (congrFun (mm_ev_fw hShX st_X10_count 94 300 48) _) _) _).trans rfl
set_option maxRecDepth 100000 in
theorem sg_X10_count_56 {v : Nat} (hv : v = 5 ∨ v = 15) (l1 : Int) (h : mm_H) : ex 94 56 [mm_r 0, mm_i l1] [mm_r v] h = (some (some (mm_i (h v 1)), h)) := by
  rcases hv with rfl | rfl <;> exact (congrFun (congrFun (congrFun (mm_ev_fw hShX st_X10_count 94 300 56) _) _) _).trans rfl
set_option maxRecDepth 100000 in
theorem sg_X10_count_64 {v : Nat} (hv : v = 5 ∨ v = 15) (l1 : Int) (h : mm_H) : ex 94 64 [mm_r 0, mm_i l1] [mm_r v] h = (some (some (mm_i (h v 2)), h)) := by
  rcases hv with rfl | rfl <;> exact (congrFun (congrFun (congrFun (mm_ev_fw hShX st_X10_count 94 300 64) _) _) _).trans rfl
set_option maxRecDepth 100000 in
theorem sg_X10_count_75   (l1 : Int) (s0 : Int) (h : mm_H) : ex 94 75 [mm_r 0, mm_i l1] [mm_i s0] h = (some (some (mm_i s0), h)) := (congrFun (congrFun (congrFun (mm_ev_fw hShX st_X10_count 94 300 75) _) _) _).trans rfl
set_option maxRecDepth 100000 in
theorem sg_X10_count_83   (l1 : Int) (s0 : Int) (h : mm_H) : ex 94 83 [mm_r 0, mm_i l1] [mm_i s0] h = (some (some (mm_i s0), h)) := (congrFun (congrFun (congrFun (mm_ev_fw hShX st_X10_count 94 300 83) _) _) _).trans rfl
set_option maxRecDepth 100000 in
theorem sg_X10_count_91   (l1 : Int) (s0 : Int) (h : mm_H) : ex 94 91 [mm_r 0, mm_i l1] [mm_i s0] h = (some (some (mm_i s0), h)) := (congrFun (congrFun (congrFun (mm_ev_fw hShX st_X10_count 94 300 91) _) _) _).trans rfl
set_option maxRecDepth 100000 in
theorem sg_X10_count_99   (l1 : Int) (s0 : Int) (h : mm_H) : ex 94 99 [mm_r 0, mm_i l1] [mm_i s0] h = (some (some (mm_i s0), h)) := (congrFun (congrFun (congrFun (mm_ev_fw hShX st_X10_count 94 300 99) _) _) _).trans rfl
def st_X10_isYard : Nat → Bool := fun p => Nat.beq p 14 || Nat.beq p 15
set_option maxRecDepth 100000 in
theorem sg_X10_isYard_0   (a0 : Int) (h : mm_H) : ex 95 0 [mm_i a0] [] h = (if a0 < 0 then (ex 95 14 [mm_i a0] [] h) else (if a0 < 24 then (ex 95 15 [mm_i a0] [mm_i 1] h) else (ex 95 14 [mm_i a0] [] h))) := (congrFun (congrFun (congrFun (mm_ev_fw hShX st_X10_isYard 95 300 0) _) _) _).trans rfl
set_option maxRecDepth 100000 in
theorem sg_X10_isYard_14   (l0 : Int) (h : mm_H) : ex 95 14 [mm_i l0] [] h = (ex 95 15 [mm_i l0] [mm_i 0] h) := (congrFun (congrFun (congrFun (mm_ev_fw hShX st_X10_isYard 95 300 14) _) _) _).trans rfl
set_option maxRecDepth 100000 in
theorem sg_X10_isYard_15   (l0 : Int) (s0 : Int) (h : mm_H) : ex 95 15 [mm_i l0] [mm_i s0] h = (if s0 = 0 ∨ s0 = 1 then some (some (mm_i s0), h) else none) := (congrFun (congrFun (congrFun (mm_ev_fw hShX st_X10_isYard 95 300 15) _) _) _).trans rfl
def st_X10_isLight : Nat → Bool := fun p => Nat.beq p 13 || Nat.beq p 14
set_option maxRecDepth 100000 in
theorem sg_X10_isLight_0   (a0 : Int) (h : mm_H) : ex 96 0 [mm_i a0] [] h = (if a0 < 0 then (ex 96 13 [mm_i a0] [] h) else (if 3 < a0 then (ex 96 13 [mm_i a0] [] h) else (ex 96 14 [mm_i a0] [mm_i 1] h))) := (congrFun (congrFun (congrFun (mm_ev_fw hShX st_X10_isLight 96 300 0) _) _) _).trans rfl
set_option maxRecDepth 100000 in
theorem sg_X10_isLight_13   (l0 : Int) (h : mm_H) : ex 96 13 [mm_i l0] [] h = (ex 96 14 [mm_i l0] [mm_i 0] h) := (congrFun (congrFun (congrFun (mm_ev_fw hShX st_X10_isLight 96 300 13) _) _) _).trans rfl
set_option maxRecDepth 100000 in
theorem sg_X10_isLight_14   (l0 : Int) (s0 : Int) (h : mm_H) : ex 96 14 [mm_i l0] [mm_i s0] h = (if s0 = 0 ∨ s0 = 1 then some (some (mm_i s0), h) else none) := (congrFun (congrFun (congrFun (mm_ev_fw hShX st_X10_isLight 96 300 14) _) _) _).trans rfl
def st_X10_isLowness : Nat → Bool := fun p => Nat.beq p 14 || Nat.beq p 15
set_option maxRecDepth 100000 in
theorem sg_X10_isLowness_0   (a0 : Int) (h : mm_H) : ex 97 0 [mm_i a0] [] h = (if a0 < 0 then (ex 97 14 [mm_i a0] [] h) else (if 40 < a0 then (ex 97 14 [mm_i a0] [] h) else (ex 97 15 [mm_i a0] [mm_i 1] h))) := (congrFun (congrFun (congrFun (mm_ev_fw hShX st_X10_isLowness 97 300 0) _) _) _).trans rfl
set_option maxRecDepth 100000 in
theorem sg_X10_isLowness_14   (l0 : Int) (h : mm_H) : ex 97 14 [mm_i l0] [] h = (ex 97 15 [mm_i l0] [mm_i 0] h) := (congrFun (congrFun (congrFun (mm_ev_fw hShX st_X10_isLowness 97 300 14) _) _) _).trans rfl
set_option maxRecDepth 100000 in
theorem sg_X10_isLowness_15   (l0 : Int) (s0 : Int) (h : mm_H) : ex 97 15 [mm_i l0] [mm_i s0] h = (if s0 = 0 ∨ s0 = 1 then some (some (mm_i s0), h) else none) := (congrFun (congrFun (congrFun (mm_ev_fw hShX st_X10_isLowness 97 300 15) _) _) _).trans rfl
def st_X10_within : Nat → Bool := fun p => false
set_option maxRecDepth 100000 in
theorem sg_X10_within_0   (a0 : Int) (h : mm_H) : ex 98 0 [mm_i a0] [] h = (some (some (mm_i (if 0 < (if a0 < 40 then a0 else 40) then (if a0 < 40 then a0 else 40) else 0)), h)) := (congrFun (congrFun (congrFun (mm_ev_fw hShX st_X10_within 98 300 0) _) _) _).trans rfl
def st_X10_lightAt : Nat → Bool := fun p => Nat.beq p 14
set_option maxRecDepth 100000 in
theorem sg_X10_lightAt_0   (a0 : Int) (h : mm_H) : ex 99 0 [mm_i a0] [] h = (if a0 < 30 then (ex 99 14 [mm_i a0] [mm_i (mm_wr (Int.tdiv a0 10))] h) else (ex 99 14 [mm_i a0] [mm_i 3] h)) := (congrFun (congrFun (congrFun (mm_ev_fw hShX st_X10_lightAt 99 300 0) _) _) _).trans rfl
set_option maxRecDepth 100000 in
theorem sg_X10_lightAt_14   (l0 : Int) (s0 : Int) (h : mm_H) : ex 99 14 [mm_i l0] [mm_i s0] h = (some (some (mm_i s0), h)) := (congrFun (congrFun (congrFun (mm_ev_fw hShX st_X10_lightAt 99 300 14) _) _) _).trans rfl
def st_X10_turnsThen : Nat → Bool := fun p => Nat.beq p 13 || Nat.beq p 27 || Nat.beq p 37 || Nat.beq p 59
set_option maxRecDepth 100000 in
theorem sg_X10_turnsThen_0   (a0 : Int) (a1 : Int) (a2 : Int) (a3 : Int) (a4 : Int) (h : mm_H) : ex 100 0 [mm_i a0, mm_i a1, mm_i a2, mm_i a3, mm_i a4, mm_u, mm_u] [] h = (if a2 = 1 then (ex 100 13 [mm_i a0, mm_i a1, mm_i a2, mm_i a3, mm_i a4, mm_i (mm_add a1 1), mm_u] [] h) else (ex 100 13 [mm_i a0, mm_i a1, mm_i a2, mm_i a3, mm_i a4, mm_i a1, mm_u] [] h)) := (congrFun (congrFun (congrFun (mm_ev_fw hShX st_X10_turnsThen 100 300 0) _) _) _).trans rfl
set_option maxRecDepth 100000 in
theorem sg_X10_turnsThen_13   (l0 : Int) (l1 : Int) (l2 : Int) (l3 : Int) (l4 : Int) (l5 : Int) (h : mm_H) : ex 100 13 [mm_i l0, mm_i l1, mm_i l2, mm_i l3, mm_i l4, mm_i l5, mm_u] [] h = (if l2 = 3 then (if (Int.tmod l3 2) = 0 then (ex 100 27 [mm_i l0, mm_i l1, mm_i l2, mm_i l3, mm_i l4, mm_i l5, mm_u] [] h) else (ex 100 27 [mm_i l0, mm_i l1, mm_i l2, mm_i l3, mm_i l4, mm_i 0, mm_u] [] h)) else (ex 100 27 [mm_i l0, mm_i l1, mm_i l2, mm_i l3, mm_i l4, mm_i l5, mm_u] [] h)) := (congrFun (congrFun (congrFun (mm_ev_fw hShX st_X10_turnsThen 100 300 13) _) _) _).trans rfl
set_option maxRecDepth 100000 in
theorem sg_X10_turnsThen_27   (l0 : Int) (l1 : Int) (l2 : Int) (l3 : Int) (l4 : Int) (l5 : Int) (h : mm_H) : ex 100 27 [mm_i l0, mm_i l1, mm_i l2, mm_i l3, mm_i l4, mm_i l5, mm_u] [] h = ((ex 98 0 [mm_i (mm_add l0 (mm_mul l4 l5))] [] h).bind fun q => ex 100 37 [mm_i l0, mm_i l1, mm_i l2, mm_i l3, mm_i l4, mm_i l5, mm_u] (q.1.toList ++ []) q.2) := (congrFun (congrFun (congrFun (mm_ev_fw hShX st_X10_turnsThen 100 300 27) _) _) _).trans rfl
set_option maxRecDepth 100000 in
theorem sg_X10_turnsThen_37   (l0 : Int) (l1 : Int) (l2 : Int) (l3 : Int) (l4 : Int) (l5 : Int) (s0 : Int) (h : mm_H) : ex 100 37 [mm_i l0, mm_i l1, mm_i l2, mm_i l3, mm_i l4, mm_i l5, mm_u] [mm_i s0] h = (if l2 = 2 then (if s0 = 0 then (ex 100 59 [mm_i l0, mm_i l1, mm_i l2, mm_i l3, mm_i l4, mm_i l5, mm_i s0] [] h) else (if (Int.tmod s0 3) = 0 then (ex 100 59 [mm_i l0, mm_i l1, mm_i l2, mm_i l3, mm_i l4, mm_i l5, mm_i (mm_wr (s0 + (-1)))] [] h) else (ex 100 59 [mm_i l0, mm_i l1, mm_i l2, mm_i l3, mm_i l4, mm_i l5, mm_i s0] [] h))) else (ex 100 59 [mm_i l0, mm_i l1, mm_i l2, mm_i l3, mm_i l4, mm_i l5, mm_i s0] [] h)) := (congrFun (congrFun (congrFun (mm_ev_fw hShX st_X10_turnsThen 100 300 37) _) _) _).trans rfl
set_option maxRecDepth 100000 in
theorem sg_X10_turnsThen_59   (l0 : Int) (l1 : Int) (l2 : Int) (l3 : Int) (l4 : Int) (l5 : Int) (l6 : Int) (h : mm_H) : ex 100 59 [mm_i l0, mm_i l1, mm_i l2, mm_i l3, mm_i l4, mm_i l5, mm_i l6] [] h = (some (some (mm_i l6), h)) := (congrFun (congrFun (congrFun (mm_ev_fw hShX st_X10_turnsThen 100 300 59) _) _) _).trans rfl
def st_X10_commonDivisor : Nat → Bool := fun p => Nat.beq p 15 || Nat.beq p 42
set_option maxRecDepth 100000 in
theorem sg_X10_commonDivisor_0   (a0 : Int) (a1 : Int) (h : mm_H) : ex 101 0 [mm_i a0, mm_i a1, mm_u, mm_u, mm_u, mm_u] [] h = (ex 101 15 [mm_i a0, mm_i a1, mm_i (if a0 < a1 then a1 else a0), mm_i (if a1 < a0 then a1 else a0), mm_i 0, mm_u] [] h) := (congrFun (congrFun (congrFun (mm_ev_fw hShX st_X10_commonDivisor 101 300 0) _) _) _).trans rfl
set_option maxRecDepth 100000 in
theorem sg_X10_commonDivisor_15   (l0 : Int) (l1 : Int) (l2 : Int) (l3 : Int) (l4 : Int) (l5 : mm_V) (h : mm_H) : ex 101 15 [mm_i l0, mm_i l1, mm_i l2, mm_i l3, mm_i l4, l5] [] h = (if l4 < 64 then (if 0 < l3 then (if l3 = 0 then none else (ex 101 15 [mm_i l0, mm_i l1, mm_i l3, mm_i (Int.tmod l2 l3), mm_i (mm_wr (l4 + 1)), mm_i (Int.tmod l2 l3)] [] h)) else (ex 101 42 [mm_i l0, mm_i l1, mm_i l2, mm_i l3, mm_i l4, l5] [] h)) else (ex 101 42 [mm_i l0, mm_i l1, mm_i l2, mm_i l3, mm_i l4, l5] [] h)) := (congrFun (congrFun (congrFun (mm_ev_fw hShX st_X10_commonDivisor 101 300 15) _) _) _).trans rfl
set_option maxRecDepth 100000 in
theorem sg_X10_commonDivisor_42   (l0 : Int) (l1 : Int) (l2 : Int) (l3 : Int) (l4 : Int) (l5 : mm_V) (h : mm_H) : ex 101 42 [mm_i l0, mm_i l1, mm_i l2, mm_i l3, mm_i l4, l5] [] h = (some (some (mm_i l2), h)) := (congrFun (congrFun (congrFun (mm_ev_fw hShX st_X10_commonDivisor 101 300 42) _) _) _).trans rfl
def st_J6_bitCount_0f7a4 : Nat → Bool := fun p => false
set_option maxRecDepth 100000 in
theorem sg_J6_bitCount_0f7a4_0   (a0 : Int) (h : mm_H) : ex 102 0 [mm_i a0] [] h = (some (some (mm_i (mm_and (mm_add (mm_add (mm_and (mm_add (mm_add (mm_and (mm_sub a0 (mm_and (mm_ush a0 1) 1431655765)) 858993459) (mm_and (mm_ush (mm_sub a0 (mm_and (mm_ush a0 1) 1431655765)) 2) 858993459)) (mm_ush (mm_add (mm_and (mm_sub a0 (mm_and (mm_ush a0 1) 1431655765)) 858993459) (mm_and (mm_ush (mm_sub a0 (mm_and (mm_ush a0 1) 1431655765)) 2) 858993459)) 4)) 252645135) (mm_ush (mm_and (mm_add (mm_add (mm_and (mm_sub a0 (mm_and (mm_ush a0 1) 1431655765)) 858993459) (mm_and (mm_ush (mm_sub a0 (mm_and (mm_ush a0 1) 1431655765)) 2) 858993459)) (mm_ush (mm_add (mm_and (mm_sub a0 (mm_and (mm_ush a0 1) 1431655765)) 858993459) (mm_and (mm_ush (mm_sub a0 (mm_and (mm_ush a0 1) 1431655765)) 2) 858993459)) 4)) 252645135) 8)) (mm_ush (mm_add (mm_and (mm_add (mm_add (mm_and (mm_sub a0 (mm_and (mm_ush a0 1) 1431655765)) 858993459) (mm_and (mm_ush (mm_sub a0 (mm_and (mm_ush a0 1) 1431655765)) 2) 858993459)) (mm_ush (mm_add (mm_and (mm_sub a0 (mm_and (mm_ush a0 1) 1431655765)) 858993459) (mm_and (mm_ush (mm_sub a0 (mm_and (mm_ush a0 1) 1431655765)) 2) 858993459)) 4)) 252645135) (mm_ush (mm_and (mm_add (mm_add (mm_and (mm_sub a0 (mm_and (mm_ush a0 1) 1431655765)) 858993459) (mm_and (mm_ush (mm_sub a0 (mm_and (mm_ush a0 1) 1431655765)) 2) 858993459)) (mm_ush (mm_add (mm_and (mm_sub a0 (mm_and (mm_ush a0 1) 1431655765)) 858993459) (mm_and (mm_ush (mm_sub a0 (mm_and (mm_ush a0 1) 1431655765)) 2) 858993459)) 4)) 252645135) 8)) 16)) 63)), h)) := (congrFun (congrFun (congrFun (mm_ev_fw hShX st_J6_bitCount_0f7a4 102 300 0) _) _) _).trans rfl
def st_J7_fill_53178 : Nat → Bool := fun p => Nat.beq p 5
set_option maxRecDepth 100000 in
theorem sg_J7_fill_53178_0 {t : Nat} (ht : t = 26 ∨ t = 64 ∨ t = 69 ∨ t = 83) (a1 : Int) (h : mm_H) : ex 103 0 [mm_r t, mm_i a1, mm_u, mm_u] [] h = (ex 103 5 [mm_r t, mm_i a1, mm_i 0, mm_i 5] [] h) := by
  rcases ht with rfl | rfl | rfl | rfl <;> exact (congrFun (congrFun (congrFun (mm_ev_fw hShX st_J7_fill_53178 103 300 0) _) _) _).trans rfl
set_option maxRecDepth 100000 in
theorem sg_J7_fill_53178_5 {t : Nat} (ht : t = 26 ∨ t = 64 ∨ t = 69 ∨ t = 83) (l1 : Int) (l2 : Int) (l3 : Int) (h : mm_H) : ex 103 5 [mm_r t, mm_i l1, mm_i l2, mm_i l3] [] h = (if l2 < l3 then (if 0 ≤ l2 ∧ l2 < 5 then (ex 103 5 [mm_r t, mm_i l1, mm_i (mm_wr (l2 + 1)), mm_i l3] [] (mm_st h t l2.toNat l1)) else none) else (some (none, h))) := by
  rcases ht with rfl | rfl | rfl | rfl <;> exact (congrFun (congrFun (congrFun (mm_ev_fw hShX st_J7_fill_53178 103 300 5) _) _) _).trans rfl
def st_X11_in : Nat → Bool := fun p => Nat.beq p 14 || Nat.beq p 15
set_option maxRecDepth 100000 in
theorem sg_X11_in_0   (a0 : Int) (a1 : Int) (a2 : Int) (h : mm_H) : em 0 0 [mm_i a0, mm_i a1, mm_i a2] [] h = (if a0 < a1 then (em 0 14 [mm_i a0, mm_i a1, mm_i a2] [] h) else (if a2 < a0 then (em 0 14 [mm_i a0, mm_i a1, mm_i a2] [] h) else (em 0 15 [mm_i a0, mm_i a1, mm_i a2] [mm_i 1] h))) := (congrFun (congrFun (congrFun (mm_ev_fw hShM st_X11_in 0 300 0) _) _) _).trans rfl
set_option maxRecDepth 100000 in
theorem sg_X11_in_14   (l0 : Int) (l1 : Int) (l2 : Int) (h : mm_H) : em 0 14 [mm_i l0, mm_i l1, mm_i l2] [] h = (em 0 15 [mm_i l0, mm_i l1, mm_i l2] [mm_i 0] h) := (congrFun (congrFun (congrFun (mm_ev_fw hShM st_X11_in 0 300 14) _) _) _).trans rfl
set_option maxRecDepth 100000 in
theorem sg_X11_in_15   (l0 : Int) (l1 : Int) (l2 : Int) (s0 : Int) (h : mm_H) : em 0 15 [mm_i l0, mm_i l1, mm_i l2] [mm_i s0] h = (if s0 = 0 ∨ s0 = 1 then some (some (mm_i s0), h) else none) := (congrFun (congrFun (congrFun (mm_ev_fw hShM st_X11_in 0 300 15) _) _) _).trans rfl
def st_X11_isRope : Nat → Bool := fun p => Nat.beq p 13
set_option maxRecDepth 100000 in
theorem sg_X11_isRope_0   (a1 : Int) (h : mm_H) : em 1 0 [mm_r 0, mm_i a1] [] h = ((em 0 0 [mm_i a1, mm_i 0, mm_i (mm_sub (h 2 0) 1)] [] h).bind fun q => em 1 13 [mm_r 0, mm_i a1] (q.1.toList ++ []) q.2) := (congrFun (congrFun (congrFun (mm_ev_fw hShM st_X11_isRope 1 300 0) _) _) _).trans rfl
set_option maxRecDepth 100000 in
theorem sg_X11_isRope_13   (l1 : Int) (s0 : Int) (h : mm_H) : em 1 13 [mm_r 0, mm_i l1] [mm_i s0] h = (if s0 = 0 ∨ s0 = 1 then some (some (mm_i s0), h) else none) := (congrFun (congrFun (congrFun (mm_ev_fw hShM st_X11_isRope 1 300 13) _) _) _).trans rfl
def st_X11_isYard : Nat → Bool := fun p => Nat.beq p 7
set_option maxRecDepth 100000 in
theorem sg_X11_isYard_0   (a0 : Int) (h : mm_H) : em 2 0 [mm_i a0] [] h = ((em 0 0 [mm_i a0, mm_i 0, mm_i 23] [] h).bind fun q => em 2 7 [mm_i a0] (q.1.toList ++ []) q.2) := (congrFun (congrFun (congrFun (mm_ev_fw hShM st_X11_isYard 2 300 0) _) _) _).trans rfl
set_option maxRecDepth 100000 in
theorem sg_X11_isYard_7   (l0 : Int) (s0 : Int) (h : mm_H) : em 2 7 [mm_i l0] [mm_i s0] h = (if s0 = 0 ∨ s0 = 1 then some (some (mm_i s0), h) else none) := (congrFun (congrFun (congrFun (mm_ev_fw hShM st_X11_isYard 2 300 7) _) _) _).trans rfl
def st_X11_sets : Nat → Bool := fun p => false
set_option maxRecDepth 100000 in
theorem sg_X11_sets_0    (h : mm_H) : em 3 0 [mm_r 0] [] h = (some (some (mm_i (mm_shl 1 (h 2 0))), h)) := (congrFun (congrFun (congrFun (mm_ev_fw hShM st_X11_sets 3 300 0) _) _) _).trans rfl
def st_X11_ones : Nat → Bool := fun p => Nat.beq p 4
set_option maxRecDepth 100000 in
theorem sg_X11_ones_0   (a0 : Int) (h : mm_H) : em 4 0 [mm_i a0, mm_u, mm_u] [] h = (em 4 4 [mm_i a0, mm_i 0, mm_i 0] [] h) := (congrFun (congrFun (congrFun (mm_ev_fw hShM st_X11_ones 4 300 0) _) _) _).trans rfl
set_option maxRecDepth 100000 in
theorem sg_X11_ones_4   (l0 : Int) (l1 : Int) (l2 : Int) (h : mm_H) : em 4 4 [mm_i l0, mm_i l1, mm_i l2] [] h = (if l2 < 8 then (em 4 4 [mm_i l0, mm_i (mm_add l1 (mm_and (mm_shr l0 l2) 1)), mm_i (mm_wr (l2 + 1))] [] h) else (some (some (mm_i l1), h))) := (congrFun (congrFun (congrFun (mm_ev_fw hShM st_X11_ones 4 300 4) _) _) _).trans rfl
def st_X11_write : Nat → Bool := fun p => Nat.beq p 8
set_option maxRecDepth 100000 in
theorem sg_X11_write_0   (a1 : Int) (h : mm_H) : em 5 0 [mm_r 0, mm_i a1] [] h = ((em 0 0 [mm_i a1, mm_i 32, mm_i 126] [] h).bind fun q => em 5 8 [mm_r 0, mm_i a1] (q.1.toList ++ []) q.2) := (congrFun (congrFun (congrFun (mm_ev_fw hShM st_X11_write 5 300 0) _) _) _).trans rfl
set_option maxRecDepth 100000 in
theorem sg_X11_write_8   (l1 : Int) (s0 : Int) (h : mm_H) : em 5 8 [mm_r 0, mm_i l1] [mm_i s0] h = (if s0 = 0 then (some (some (mm_i (-1)), h)) else (if (h 0 1) = 200 then (some (some (mm_i (-3)), h)) else (if 0 ≤ (h 0 1) ∧ (h 0 1) < 200 then (some (some (mm_i ((mm_st (mm_st h 1 (h 0 1).toNat l1) 0 1 (mm_add ((mm_st h 1 (h 0 1).toNat l1) 0 1) 1)) 0 1)), (mm_st (mm_st h 1 (h 0 1).toNat l1) 0 1 (mm_add ((mm_st h 1 (h 0 1).toNat l1) 0 1) 1)))) else none))) := (congrFun (congrFun (congrFun (mm_ev_fw hShM st_X11_write 5 300 8) _) _) _).trans rfl
def st_X11_wipe : Nat → Bool := fun p => false
set_option maxRecDepth 100000 in
theorem sg_X11_wipe_0    (h : mm_H) : em 6 0 [mm_r 0, mm_u] [] h = (some (some (mm_i (h 0 1)), (mm_st h 0 1 0))) := (congrFun (congrFun (congrFun (mm_ev_fw hShM st_X11_wipe 6 300 0) _) _) _).trans rfl
def st_X11_letterAt : Nat → Bool := fun p => Nat.beq p 18
set_option maxRecDepth 100000 in
theorem sg_X11_letterAt_0   (a1 : Int) (h : mm_H) : em 7 0 [mm_r 0, mm_i a1] [] h = (if a1 < (h 0 1) then (if 0 ≤ a1 ∧ a1 < 200 then (em 7 18 [mm_r 0, mm_i a1] [mm_i (h 1 a1.toNat)] h) else none) else (em 7 18 [mm_r 0, mm_i a1] [mm_i (-1)] h)) := (congrFun (congrFun (congrFun (mm_ev_fw hShM st_X11_letterAt 7 300 0) _) _) _).trans rfl
set_option maxRecDepth 100000 in
theorem sg_X11_letterAt_18   (l1 : Int) (s0 : Int) (h : mm_H) : em 7 18 [mm_r 0, mm_i l1] [mm_i s0] h = (some (some (mm_i s0), h)) := (congrFun (congrFun (congrFun (mm_ev_fw hShM st_X11_letterAt 7 300 18) _) _) _).trans rfl
def st_X11_isFigure : Nat → Bool := fun p => Nat.beq p 8
set_option maxRecDepth 100000 in
theorem sg_X11_isFigure_0   (a0 : Int) (h : mm_H) : em 8 0 [mm_i a0] [] h = ((em 0 0 [mm_i a0, mm_i 48, mm_i 57] [] h).bind fun q => em 8 8 [mm_i a0] (q.1.toList ++ []) q.2) := (congrFun (congrFun (congrFun (mm_ev_fw hShM st_X11_isFigure 8 300 0) _) _) _).trans rfl
set_option maxRecDepth 100000 in
theorem sg_X11_isFigure_8   (l0 : Int) (s0 : Int) (h : mm_H) : em 8 8 [mm_i l0] [mm_i s0] h = (if s0 = 0 ∨ s0 = 1 then some (some (mm_i s0), h) else none) := (congrFun (congrFun (congrFun (mm_ev_fw hShM st_X11_isFigure 8 300 8) _) _) _).trans rfl
def st_X11_number : Nat → Bool := fun p => Nat.beq p 8 || Nat.beq p 11 || Nat.beq p 24 || Nat.beq p 46 || Nat.beq p 49 || Nat.beq p 64 || Nat.beq p 79
set_option maxRecDepth 100000 in
theorem sg_X11_number_0    (h : mm_H) : em 9 0 [mm_r 0, mm_u] [] h = ((em 7 0 [mm_r 0, mm_i (h 0 11)] [] h).bind fun q => em 9 8 [mm_r 0, mm_u] (q.1.toList ++ []) q.2) := (congrFun (congrFun (congrFun (mm_ev_fw hShM st_X11_number 9 300 0) _) _) _).trans rfl
set_option maxRecDepth 100000 in
theorem sg_X11_number_8   (s0 : Int) (h : mm_H) : em 9 8 [mm_r 0, mm_u] [mm_i s0] h = ((em 8 0 [mm_i s0] [] h).bind fun q => em 9 11 [mm_r 0, mm_u] (q.1.toList ++ []) q.2) := (congrFun (congrFun (congrFun (mm_ev_fw hShM st_X11_number 9 300 8) _) _) _).trans rfl
set_option maxRecDepth 100000 in
theorem sg_X11_number_11   (s0 : Int) (h : mm_H) : em 9 11 [mm_r 0, mm_u] [mm_i s0] h = (if s0 = 0 then (some (some (mm_i (-1)), h)) else ((em 7 0 [mm_r 0, mm_i (h 0 11)] [] h).bind fun q => em 9 24 [mm_r 0, mm_u] (q.1.toList ++ []) q.2)) := (congrFun (congrFun (congrFun (mm_ev_fw hShM st_X11_number 9 300 11) _) _) _).trans rfl
set_option maxRecDepth 100000 in
theorem sg_X11_number_24   (s0 : Int) (h : mm_H) : em 9 24 [mm_r 0, mm_u] [mm_i s0] h = ((em 7 0 [mm_r 0, mm_i ((mm_st h 0 11 (mm_add (h 0 11) 1)) 0 11)] [] (mm_st h 0 11 (mm_add (h 0 11) 1))).bind fun q => em 9 46 [mm_r 0, mm_i (mm_sub s0 48)] (q.1.toList ++ []) q.2) := (congrFun (congrFun (congrFun (mm_ev_fw hShM st_X11_number 9 300 24) _) _) _).trans rfl
set_option maxRecDepth 100000 in
theorem sg_X11_number_46   (l1 : Int) (s0 : Int) (h : mm_H) : em 9 46 [mm_r 0, mm_i l1] [mm_i s0] h = ((em 8 0 [mm_i s0] [] h).bind fun q => em 9 49 [mm_r 0, mm_i l1] (q.1.toList ++ []) q.2) := (congrFun (congrFun (congrFun (mm_ev_fw hShM st_X11_number 9 300 46) _) _) _).trans rfl
set_option maxRecDepth 100000 in
theorem sg_X11_number_49   (l1 : Int) (s0 : Int) (h : mm_H) : em 9 49 [mm_r 0, mm_i l1] [mm_i s0] h = (if s0 = 0 then (em 9 79 [mm_r 0, mm_i l1] [] h) else ((em 7 0 [mm_r 0, mm_i (h 0 11)] [] h).bind fun q => em 9 64 [mm_r 0, mm_i l1] (q.1.toList ++ [mm_i (mm_mul 10 l1)]) q.2)) := (congrFun (congrFun (congrFun (mm_ev_fw hShM st_X11_number 9 300 49) _) _) _).trans rfl
set_option maxRecDepth 100000 in
theorem sg_X11_number_64   (l1 : Int) (s0 : Int) (s1 : Int) (h : mm_H) : em 9 64 [mm_r 0, mm_i l1] [mm_i s0, mm_i s1] h = (em 9 79 [mm_r 0, mm_i (mm_sub (mm_add s1 s0) 48)] [] (mm_st h 0 11 (mm_add (h 0 11) 1))) := (congrFun (congrFun (congrFun (mm_ev_fw hShM st_X11_number 9 300 64) _) _) _).trans rfl
set_option maxRecDepth 100000 in
theorem sg_X11_number_79   (l1 : Int) (h : mm_H) : em 9 79 [mm_r 0, mm_i l1] [] h = (some (some (mm_i l1), h)) := (congrFun (congrFun (congrFun (mm_ev_fw hShM st_X11_number 9 300 79) _) _) _).trans rfl
def st_X11_reads : Nat → Bool := fun p => Nat.beq p 4 || Nat.beq p 25 || Nat.beq p 30 || Nat.beq p 35 || Nat.beq p 49 || Nat.beq p 54 || Nat.beq p 71 || Nat.beq p 75 || Nat.beq p 90 || Nat.beq p 97 || Nat.beq p 109 || Nat.beq p 118 || Nat.beq p 119 || Nat.beq p 134
set_option maxRecDepth 100000 in
theorem sg_X11_reads_0   (a1 : Int) (h : mm_H) : em 10 0 [mm_r 0, mm_i a1, mm_u, mm_u] [] h = (em 10 4 [mm_r 0, mm_i a1, mm_i 1, mm_i 0] [] h) := (congrFun (congrFun (congrFun (mm_ev_fw hShM st_X11_reads 10 300 0) _) _) _).trans rfl
set_option maxRecDepth 100000 in
theorem sg_X11_reads_4   (l1 : Int) (l2 : Int) (l3 : Int) (h : mm_H) : em 10 4 [mm_r 0, mm_i l1, mm_i l2, mm_i l3] [] h = (if l3 < l1 then (if l2 = 0 then (em 10 97 [mm_r 0, mm_i l1, mm_i l2, mm_i l3] [] h) else (if l3 = 0 then (em 10 30 [mm_r 0, mm_i l1, mm_i l2, mm_i l3] [] h) else ((em 7 0 [mm_r 0, mm_i (h 0 11)] [] h).bind fun q => em 10 25 [mm_r 0, mm_i l1, mm_i l2, mm_i l3] (q.1.toList ++ []) q.2))) else (em 10 97 [mm_r 0, mm_i l1, mm_i l2, mm_i l3] [] h)) := (congrFun (congrFun (congrFun (mm_ev_fw hShM st_X11_reads 10 300 4) _) _) _).trans rfl
set_option maxRecDepth 100000 in
theorem sg_X11_reads_25   (l1 : Int) (l2 : Int) (l3 : Int) (s0 : Int) (h : mm_H) : em 10 25 [mm_r 0, mm_i l1, mm_i l2, mm_i l3] [mm_i s0] h = (if s0 = 44 then (em 10 30 [mm_r 0, mm_i l1, mm_i l2, mm_i l3] [] h) else (em 10 35 [mm_r 0, mm_i l1, mm_i l2, mm_i l3] [mm_i 0] h)) := (congrFun (congrFun (congrFun (mm_ev_fw hShM st_X11_reads 10 300 25) _) _) _).trans rfl
set_option maxRecDepth 100000 in
theorem sg_X11_reads_30   (l1 : Int) (l2 : Int) (l3 : Int) (h : mm_H) : em 10 30 [mm_r 0, mm_i l1, mm_i l2, mm_i l3] [] h = (em 10 35 [mm_r 0, mm_i l1, mm_i l2, mm_i l3] [mm_i 1] h) := (congrFun (congrFun (congrFun (mm_ev_fw hShM st_X11_reads 10 300 30) _) _) _).trans rfl
set_option maxRecDepth 100000 in
theorem sg_X11_reads_35   (l1 : Int) (l2 : Int) (l3 : Int) (s0 : Int) (h : mm_H) : em 10 35 [mm_r 0, mm_i l1, mm_i l2, mm_i l3] [mm_i s0] h = (if l3 = 0 then (em 10 49 [mm_r 0, mm_i l1, mm_i s0, mm_i l3] [mm_i (h 0 11), mm_r 0] h) else (if s0 = 0 then (em 10 49 [mm_r 0, mm_i l1, mm_i s0, mm_i l3] [mm_i (h 0 11), mm_r 0] h) else (em 10 54 [mm_r 0, mm_i l1, mm_i s0, mm_i l3] [mm_i 1, mm_i (h 0 11), mm_r 0] h))) := (congrFun (congrFun (congrFun (mm_ev_fw hShM st_X11_reads 10 300 35) _) _) _).trans rfl
set_option maxRecDepth 100000 in
theorem sg_X11_reads_49   (l1 : Int) (l2 : Int) (l3 : Int) (s0 : Int) (h : mm_H) : em 10 49 [mm_r 0, mm_i l1, mm_i l2, mm_i l3] [mm_i s0, mm_r 0] h = (em 10 54 [mm_r 0, mm_i l1, mm_i l2, mm_i l3] [mm_i 0, mm_i s0, mm_r 0] h) := (congrFun (congrFun (congrFun (mm_ev_fw hShM st_X11_reads 10 300 49) _) _) _).trans rfl
set_option maxRecDepth 100000 in
theorem sg_X11_reads_54   (l1 : Int) (l2 : Int) (l3 : Int) (s0 : Int) (s1 : Int) (h : mm_H) : em 10 54 [mm_r 0, mm_i l1, mm_i l2, mm_i l3] [mm_i s0, mm_i s1, mm_r 0] h = (if l2 = 0 then (em 10 75 [mm_r 0, mm_i l1, mm_i l2, mm_i l3] [mm_i (-1), mm_i l3, mm_r 8] (mm_st h 0 11 (mm_add s1 s0))) else ((em 9 0 [mm_r 0, mm_u] [] (mm_st h 0 11 (mm_add s1 s0))).bind fun q => em 10 71 [mm_r 0, mm_i l1, mm_i l2, mm_i l3] (q.1.toList ++ [mm_i l3, mm_r 8]) q.2)) := (congrFun (congrFun (congrFun (mm_ev_fw hShM st_X11_reads 10 300 54) _) _) _).trans rfl
set_option maxRecDepth 100000 in
theorem sg_X11_reads_71   (l1 : Int) (l2 : Int) (l3 : Int) (s0 : Int) (s1 : Int) (h : mm_H) : em 10 71 [mm_r 0, mm_i l1, mm_i l2, mm_i l3] [mm_i s0, mm_i s1, mm_r 8] h = (em 10 75 [mm_r 0, mm_i l1, mm_i l2, mm_i l3] [mm_i s0, mm_i s1, mm_r 8] h) := (congrFun (congrFun (congrFun (mm_ev_fw hShM st_X11_reads 10 300 71) _) _) _).trans rfl
set_option maxRecDepth 100000 in
theorem sg_X11_reads_75   (l1 : Int) (l2 : Int) (l3 : Int) (s0 : Int) (s1 : Int) (h : mm_H) : em 10 75 [mm_r 0, mm_i l1, mm_i l2, mm_i l3] [mm_i s0, mm_i s1, mm_r 8] h = (if 0 ≤ s1 ∧ s1 < 4 then (if 0 ≤ l3 ∧ l3 < 4 then (if ((mm_st h 8 s1.toNat s0) 8 l3.toNat) < 0 then (em 10 90 [mm_r 0, mm_i l1, mm_i l2, mm_i l3] [mm_i 0] (mm_st h 8 s1.toNat s0)) else (em 10 90 [mm_r 0, mm_i l1, mm_i l2, mm_i l3] [mm_i 1] (mm_st h 8 s1.toNat s0))) else none) else none) := (congrFun (congrFun (congrFun (mm_ev_fw hShM st_X11_reads 10 300 75) _) _) _).trans rfl
set_option maxRecDepth 100000 in
theorem sg_X11_reads_90   (l1 : Int) (l2 : Int) (l3 : Int) (s0 : Int) (h : mm_H) : em 10 90 [mm_r 0, mm_i l1, mm_i l2, mm_i l3] [mm_i s0] h = (em 10 4 [mm_r 0, mm_i l1, mm_i s0, mm_i (mm_wr (l3 + 1))] [] h) := (congrFun (congrFun (congrFun (mm_ev_fw hShM st_X11_reads 10 300 90) _) _) _).trans rfl
set_option maxRecDepth 100000 in
theorem sg_X11_reads_97   (l1 : Int) (l2 : Int) (l3 : Int) (h : mm_H) : em 10 97 [mm_r 0, mm_i l1, mm_i l2, mm_i l3] [] h = (if l2 = 0 then (em 10 118 [mm_r 0, mm_i l1, mm_i l2, mm_i l3] [] h) else ((em 7 0 [mm_r 0, mm_i (h 0 11)] [] h).bind fun q => em 10 109 [mm_r 0, mm_i l1, mm_i l2, mm_i l3] (q.1.toList ++ []) q.2)) := (congrFun (congrFun (congrFun (mm_ev_fw hShM st_X11_reads 10 300 97) _) _) _).trans rfl
set_option maxRecDepth 100000 in
theorem sg_X11_reads_109   (l1 : Int) (l2 : Int) (l3 : Int) (s0 : Int) (h : mm_H) : em 10 109 [mm_r 0, mm_i l1, mm_i l2, mm_i l3] [mm_i s0] h = (if s0 = 59 then (em 10 119 [mm_r 0, mm_i l1, mm_i l2, mm_i l3] [mm_i 1] h) else (em 10 118 [mm_r 0, mm_i l1, mm_i l2, mm_i l3] [] h)) := (congrFun (congrFun (congrFun (mm_ev_fw hShM st_X11_reads 10 300 109) _) _) _).trans rfl
set_option maxRecDepth 100000 in
theorem sg_X11_reads_118   (l1 : Int) (l2 : Int) (l3 : Int) (h : mm_H) : em 10 118 [mm_r 0, mm_i l1, mm_i l2, mm_i l3] [] h = (em 10 119 [mm_r 0, mm_i l1, mm_i l2, mm_i l3] [mm_i 0] h) := (congrFun (congrFun (congrFun (mm_ev_fw hShM st_X11_reads 10 300 118) _) _) _).trans rfl
set_option maxRecDepth 100000 in
theorem sg_X11_reads_119   (l1 : Int) (l2 : Int) (l3 : Int) (s0 : Int) (h : mm_H) : em 10 119 [mm_r 0, mm_i l1, mm_i l2, mm_i l3] [mm_i s0] h = (if s0 = 0 then (em 10 134 [mm_r 0, mm_i l1, mm_i s0, mm_i l3] [mm_i 0, mm_i (h 0 11), mm_r 0] h) else (em 10 134 [mm_r 0, mm_i l1, mm_i s0, mm_i l3] [mm_i 1, mm_i (h 0 11), mm_r 0] h)) := (congrFun (congrFun (congrFun (mm_ev_fw hShM st_X11_reads 10 300 119) _) _) _).trans rfl
set_option maxRecDepth 100000 in
theorem sg_X11_reads_134   (l1 : Int) (l2 : Int) (l3 : Int) (s0 : Int) (s1 : Int) (h : mm_H) : em 10 134 [mm_r 0, mm_i l1, mm_i l2, mm_i l3] [mm_i s0, mm_i s1, mm_r 0] h = (if l2 = 0 ∨ l2 = 1 then some (some (mm_i l2), (mm_st h 0 11 (mm_add s1 s0))) else none) := (congrFun (congrFun (congrFun (mm_ev_fw hShM st_X11_reads 10 300 134) _) _) _).trans rfl
def st_X11_begins : Nat → Bool := fun p => Nat.beq p 2
set_option maxRecDepth 100000 in
theorem sg_X11_begins_0    (h : mm_H) : em 11 0 [mm_r 0, mm_u] [] h = (em 11 2 [mm_r 0, mm_i 0] [] h) := (congrFun (congrFun (congrFun (mm_ev_fw hShM st_X11_begins 11 300 0) _) _) _).trans rfl
set_option maxRecDepth 100000 in
theorem sg_X11_begins_2   (l1 : Int) (h : mm_H) : em 11 2 [mm_r 0, mm_i l1] [] h = (if l1 < 47 then (if 0 ≤ l1 ∧ l1 < 47 then (em 11 2 [mm_r 0, mm_i (mm_wr (l1 + 1))] [] (mm_st h 3 l1.toNat 0)) else none) else (some (none, (mm_st (mm_st h 3 3 1) 3 4 2)))) := (congrFun (congrFun (congrFun (mm_ev_fw hShM st_X11_begins 11 300 2) _) _) _).trans rfl
def st_X11_ropeOf : Nat → Bool := fun p => false
set_option maxRecDepth 100000 in
theorem sg_X11_ropeOf_0   (a1 : Int) (a2 : Int) (a3 : Int) (a4 : Int) (h : mm_H) : em 12 0 [mm_r 0, mm_i a1, mm_i a2, mm_i a3, mm_i a4, mm_u] [] h = (if 0 ≤ (mm_add 5 (h 3 0)) ∧ (mm_add 5 (h 3 0)) < 47 then (if 0 ≤ (mm_add 10 (h 3 0)) ∧ (mm_add 10 (h 3 0)) < 47 then (if 0 ≤ (mm_add 15 (h 3 0)) ∧ (mm_add 15 (h 3 0)) < 47 then (if 0 ≤ (mm_add 20 (h 3 0)) ∧ (mm_add 20 (h 3 0)) < 47 then (some (none, (mm_st (mm_st (mm_st (mm_st (mm_st h 3 (mm_add 5 (h 3 0)).toNat a1) 3 (mm_add 10 (h 3 0)).toNat a2) 3 (mm_add 15 (h 3 0)).toNat a3) 3 (mm_add 20 (h 3 0)).toNat a4) 3 0 (mm_add ((mm_st (mm_st (mm_st (mm_st h 3 (mm_add 5 (h 3 0)).toNat a1) 3 (mm_add 10 (h 3 0)).toNat a2) 3 (mm_add 15 (h 3 0)).toNat a3) 3 (mm_add 20 (h 3 0)).toNat a4) 3 0) 1)))) else none) else none) else none) else none) := (congrFun (congrFun (congrFun (mm_ev_fw hShM st_X11_ropeOf 12 300 0) _) _) _).trans rfl
def st_X11_wantOf : Nat → Bool := fun p => false
set_option maxRecDepth 100000 in
theorem sg_X11_wantOf_0   (a1 : Int) (a2 : Int) (h : mm_H) : em 13 0 [mm_r 0, mm_i a1, mm_i a2] [] h = (if 0 ≤ (mm_add 25 (h 3 1)) ∧ (mm_add 25 (h 3 1)) < 47 then (if 0 ≤ (mm_add 33 ((mm_st h 3 (mm_add 25 (h 3 1)).toNat a1) 3 1)) ∧ (mm_add 33 ((mm_st h 3 (mm_add 25 (h 3 1)).toNat a1) 3 1)) < 47 then (some (none, (mm_st (mm_st (mm_st h 3 (mm_add 25 (h 3 1)).toNat a1) 3 (mm_add 33 ((mm_st h 3 (mm_add 25 (h 3 1)).toNat a1) 3 1)).toNat a2) 3 1 (mm_add ((mm_st (mm_st h 3 (mm_add 25 (h 3 1)).toNat a1) 3 (mm_add 33 ((mm_st h 3 (mm_add 25 (h 3 1)).toNat a1) 3 1)).toNat a2) 3 1) 1)))) else none) else none) := (congrFun (congrFun (congrFun (mm_ev_fw hShM st_X11_wantOf 13 300 0) _) _) _).trans rfl
def st_X11_manOf : Nat → Bool := fun p => false
set_option maxRecDepth 100000 in
theorem sg_X11_manOf_0   (a1 : Int) (h : mm_H) : em 14 0 [mm_r 0, mm_i a1] [] h = (if 0 ≤ (mm_add 41 (h 3 2)) ∧ (mm_add 41 (h 3 2)) < 47 then (some (none, (mm_st (mm_st h 3 (mm_add 41 (h 3 2)).toNat a1) 3 2 (mm_add ((mm_st h 3 (mm_add 41 (h 3 2)).toNat a1) 3 2) 1)))) else none) := (congrFun (congrFun (congrFun (mm_ev_fw hShM st_X11_manOf 14 300 0) _) _) _).trans rfl
def st_X11_readsItem : Nat → Bool := fun p => Nat.beq p 49 || Nat.beq p 71 || Nat.beq p 85 || Nat.beq p 109 || Nat.beq p 113 || Nat.beq p 176 || Nat.beq p 183 || Nat.beq p 206 || Nat.beq p 219 || Nat.beq p 237 || Nat.beq p 244 || Nat.beq p 267 || Nat.beq p 270 || Nat.beq p 282 || Nat.beq p 289 || Nat.beq p 314
set_option maxRecDepth 100000 in
theorem sg_X11_readsItem_0   (a1 : Int) (h : mm_H) : em 15 0 [mm_r 0, mm_i a1, mm_u] [] h = (if a1 = 99 then ((em 10 0 [mm_r 0, mm_i 2, mm_u, mm_u] [] h).bind fun q => em 15 289 [mm_r 0, mm_i a1, mm_u] (q.1.toList ++ []) q.2) else (if a1 = 109 then ((em 10 0 [mm_r 0, mm_i 1, mm_u, mm_u] [] h).bind fun q => em 15 244 [mm_r 0, mm_i a1, mm_u] (q.1.toList ++ []) q.2) else (if a1 = 114 then ((em 10 0 [mm_r 0, mm_i 4, mm_u, mm_u] [] h).bind fun q => em 15 49 [mm_r 0, mm_i a1, mm_u] (q.1.toList ++ []) q.2) else (if a1 = 119 then ((em 10 0 [mm_r 0, mm_i 2, mm_u, mm_u] [] h).bind fun q => em 15 183 [mm_r 0, mm_i a1, mm_u] (q.1.toList ++ []) q.2) else (some (some (mm_i 0), h)))))) := (congrFun (congrFun (congrFun (mm_ev_fw hShM st_X11_readsItem 15 300 0) _) _) _).trans rfl
set_option maxRecDepth 100000 in
theorem sg_X11_readsItem_49   (l1 : Int) (s0 : Int) (h : mm_H) : em 15 49 [mm_r 0, mm_i l1, mm_u] [mm_i s0] h = (if s0 = 0 then (em 15 109 [mm_r 0, mm_i l1, mm_u] [] h) else (if (h 3 0) = 5 then (em 15 109 [mm_r 0, mm_i l1, mm_u] [] h) else ((em 2 0 [mm_i (h 8 0)] [] h).bind fun q => em 15 71 [mm_r 0, mm_i l1, mm_u] (q.1.toList ++ []) q.2))) := (congrFun (congrFun (congrFun (mm_ev_fw hShM st_X11_readsItem 15 300 49) _) _) _).trans rfl
set_option maxRecDepth 100000 in
theorem sg_X11_readsItem_71   (l1 : Int) (s0 : Int) (h : mm_H) : em 15 71 [mm_r 0, mm_i l1, mm_u] [mm_i s0] h = (if s0 = 0 then (em 15 109 [mm_r 0, mm_i l1, mm_u] [] h) else ((em 0 0 [mm_i (h 8 1), mm_i 1, mm_i 5] [] h).bind fun q => em 15 85 [mm_r 0, mm_i l1, mm_u] (q.1.toList ++ []) q.2)) := (congrFun (congrFun (congrFun (mm_ev_fw hShM st_X11_readsItem 15 300 71) _) _) _).trans rfl
set_option maxRecDepth 100000 in
theorem sg_X11_readsItem_85   (l1 : Int) (s0 : Int) (h : mm_H) : em 15 85 [mm_r 0, mm_i l1, mm_u] [mm_i s0] h = (if s0 = 0 then (em 15 109 [mm_r 0, mm_i l1, mm_u] [] h) else (if 3 < (h 8 2) then (em 15 109 [mm_r 0, mm_i l1, mm_u] [] h) else (if 40 < (h 8 3) then (em 15 109 [mm_r 0, mm_i l1, mm_u] [] h) else (em 15 113 [mm_r 0, mm_i l1, mm_i 0] [] h)))) := (congrFun (congrFun (congrFun (mm_ev_fw hShM st_X11_readsItem 15 300 85) _) _) _).trans rfl
set_option maxRecDepth 100000 in
theorem sg_X11_readsItem_109   (l1 : Int) (h : mm_H) : em 15 109 [mm_r 0, mm_i l1, mm_u] [] h = (some (some (mm_i 0), h)) := (congrFun (congrFun (congrFun (mm_ev_fw hShM st_X11_readsItem 15 300 109) _) _) _).trans rfl
set_option maxRecDepth 100000 in
theorem sg_X11_readsItem_113   (l1 : Int) (l2 : Int) (h : mm_H) : em 15 113 [mm_r 0, mm_i l1, mm_i l2] [] h = (if l2 < (h 3 0) then (if 0 ≤ (mm_add 5 l2) ∧ (mm_add 5 l2) < 47 then (if (h 3 (mm_add 5 l2).toNat) = (h 8 0) then (some (some (mm_i 0), h)) else (em 15 113 [mm_r 0, mm_i l1, mm_i (mm_wr (l2 + 1))] [] h)) else none) else ((em 12 0 [mm_r 0, mm_i (h 8 0), mm_i (h 8 1), mm_i (h 8 2), mm_i (h 8 3), mm_u] [] h).bind fun q => em 15 176 [mm_r 0, mm_i l1, mm_i l2] (q.1.toList ++ []) q.2)) := (congrFun (congrFun (congrFun (mm_ev_fw hShM st_X11_readsItem 15 300 113) _) _) _).trans rfl
set_option maxRecDepth 100000 in
theorem sg_X11_readsItem_176   (l1 : Int) (l2 : Int) (h : mm_H) : em 15 176 [mm_r 0, mm_i l1, mm_i l2] [] h = (some (some (mm_i 1), h)) := (congrFun (congrFun (congrFun (mm_ev_fw hShM st_X11_readsItem 15 300 176) _) _) _).trans rfl
set_option maxRecDepth 100000 in
theorem sg_X11_readsItem_183   (l1 : Int) (s0 : Int) (h : mm_H) : em 15 183 [mm_r 0, mm_i l1, mm_u] [mm_i s0] h = (if s0 = 0 then (em 15 219 [mm_r 0, mm_i l1, mm_u] [] h) else (if (h 3 1) = 8 then (em 15 219 [mm_r 0, mm_i l1, mm_u] [] h) else ((em 2 0 [mm_i (h 8 0)] [] h).bind fun q => em 15 206 [mm_r 0, mm_i l1, mm_u] (q.1.toList ++ []) q.2))) := (congrFun (congrFun (congrFun (mm_ev_fw hShM st_X11_readsItem 15 300 183) _) _) _).trans rfl
set_option maxRecDepth 100000 in
theorem sg_X11_readsItem_206   (l1 : Int) (s0 : Int) (h : mm_H) : em 15 206 [mm_r 0, mm_i l1, mm_u] [mm_i s0] h = (if s0 = 0 then (em 15 219 [mm_r 0, mm_i l1, mm_u] [] h) else (if 3 < (h 8 1) then (em 15 219 [mm_r 0, mm_i l1, mm_u] [] h) else ((em 13 0 [mm_r 0, mm_i (h 8 0), mm_i (h 8 1)] [] h).bind fun q => em 15 237 [mm_r 0, mm_i l1, mm_u] (q.1.toList ++ []) q.2))) := (congrFun (congrFun (congrFun (mm_ev_fw hShM st_X11_readsItem 15 300 206) _) _) _).trans rfl
set_option maxRecDepth 100000 in
theorem sg_X11_readsItem_219   (l1 : Int) (h : mm_H) : em 15 219 [mm_r 0, mm_i l1, mm_u] [] h = (some (some (mm_i 0), h)) := (congrFun (congrFun (congrFun (mm_ev_fw hShM st_X11_readsItem 15 300 219) _) _) _).trans rfl
set_option maxRecDepth 100000 in
theorem sg_X11_readsItem_237   (l1 : Int) (h : mm_H) : em 15 237 [mm_r 0, mm_i l1, mm_u] [] h = (some (some (mm_i 1), h)) := (congrFun (congrFun (congrFun (mm_ev_fw hShM st_X11_readsItem 15 300 237) _) _) _).trans rfl
set_option maxRecDepth 100000 in
theorem sg_X11_readsItem_244   (l1 : Int) (s0 : Int) (h : mm_H) : em 15 244 [mm_r 0, mm_i l1, mm_u] [mm_i s0] h = (if s0 = 0 then (em 15 270 [mm_r 0, mm_i l1, mm_u] [] h) else (if (h 3 2) = 6 then (em 15 270 [mm_r 0, mm_i l1, mm_u] [] h) else ((em 2 0 [mm_i (h 8 0)] [] h).bind fun q => em 15 267 [mm_r 0, mm_i l1, mm_u] (q.1.toList ++ []) q.2))) := (congrFun (congrFun (congrFun (mm_ev_fw hShM st_X11_readsItem 15 300 244) _) _) _).trans rfl
set_option maxRecDepth 100000 in
theorem sg_X11_readsItem_267   (l1 : Int) (s0 : Int) (h : mm_H) : em 15 267 [mm_r 0, mm_i l1, mm_u] [mm_i s0] h = (if s0 = 0 then (em 15 270 [mm_r 0, mm_i l1, mm_u] [] h) else ((em 14 0 [mm_r 0, mm_i (h 8 0)] [] h).bind fun q => em 15 282 [mm_r 0, mm_i l1, mm_u] (q.1.toList ++ []) q.2)) := (congrFun (congrFun (congrFun (mm_ev_fw hShM st_X11_readsItem 15 300 267) _) _) _).trans rfl
set_option maxRecDepth 100000 in
theorem sg_X11_readsItem_270   (l1 : Int) (h : mm_H) : em 15 270 [mm_r 0, mm_i l1, mm_u] [] h = (some (some (mm_i 0), h)) := (congrFun (congrFun (congrFun (mm_ev_fw hShM st_X11_readsItem 15 300 270) _) _) _).trans rfl
set_option maxRecDepth 100000 in
theorem sg_X11_readsItem_282   (l1 : Int) (h : mm_H) : em 15 282 [mm_r 0, mm_i l1, mm_u] [] h = (some (some (mm_i 1), h)) := (congrFun (congrFun (congrFun (mm_ev_fw hShM st_X11_readsItem 15 300 282) _) _) _).trans rfl
set_option maxRecDepth 100000 in
theorem sg_X11_readsItem_289   (l1 : Int) (s0 : Int) (h : mm_H) : em 15 289 [mm_r 0, mm_i l1, mm_u] [mm_i s0] h = (if s0 = 0 then (em 15 314 [mm_r 0, mm_i l1, mm_u] [] h) else (if 9 < (h 8 0) then (em 15 314 [mm_r 0, mm_i l1, mm_u] [] h) else (if 9 < (h 8 1) then (em 15 314 [mm_r 0, mm_i l1, mm_u] [] h) else (some (some (mm_i 1), (mm_st (mm_st h 3 3 (h 8 0)) 3 4 ((mm_st h 3 3 (h 8 0)) 8 1))))))) := (congrFun (congrFun (congrFun (mm_ev_fw hShM st_X11_readsItem 15 300 289) _) _) _).trans rfl
set_option maxRecDepth 100000 in
theorem sg_X11_readsItem_314   (l1 : Int) (h : mm_H) : em 15 314 [mm_r 0, mm_i l1, mm_u] [] h = (some (some (mm_i 0), h)) := (congrFun (congrFun (congrFun (mm_ev_fw hShM st_X11_readsItem 15 300 314) _) _) _).trans rfl
def st_X11_readsAll : Nat → Bool := fun p => Nat.beq p 4 || Nat.beq p 9 || Nat.beq p 45
set_option maxRecDepth 100000 in
theorem sg_X11_readsAll_0    (h : mm_H) : em 16 0 [mm_r 0, mm_u] [] h = ((em 11 0 [mm_r 0, mm_u] [] h).bind fun q => em 16 4 [mm_r 0, mm_u] (q.1.toList ++ []) q.2) := (congrFun (congrFun (congrFun (mm_ev_fw hShM st_X11_readsAll 16 300 0) _) _) _).trans rfl
set_option maxRecDepth 100000 in
theorem sg_X11_readsAll_4    (h : mm_H) : em 16 4 [mm_r 0, mm_u] [] h = (em 16 9 [mm_r 0, mm_u] [] (mm_st h 0 11 0)) := (congrFun (congrFun (congrFun (mm_ev_fw hShM st_X11_readsAll 16 300 4) _) _) _).trans rfl
set_option maxRecDepth 100000 in
theorem sg_X11_readsAll_9   (l1 : mm_V) (h : mm_H) : em 16 9 [mm_r 0, l1] [] h = (if (h 0 11) < (h 0 1) then (if 0 ≤ (h 0 11) ∧ (h 0 11) < 200 then ((em 15 0 [mm_r 0, mm_i ((mm_st h 0 11 (mm_add (h 0 11) 1)) 1 (h 0 11).toNat), mm_u] [] (mm_st h 0 11 (mm_add (h 0 11) 1))).bind fun q => em 16 45 [mm_r 0, mm_i (h 0 11)] (q.1.toList ++ []) q.2) else none) else (some (some (mm_i (-4)), h))) := (congrFun (congrFun (congrFun (mm_ev_fw hShM st_X11_readsAll 16 300 9) _) _) _).trans rfl
set_option maxRecDepth 100000 in
theorem sg_X11_readsAll_45   (l1 : Int) (s0 : Int) (h : mm_H) : em 16 45 [mm_r 0, mm_i l1] [mm_i s0] h = (if s0 = 0 then (some (some (mm_i l1), h)) else (em 16 9 [mm_r 0, mm_i l1] [] h)) := (congrFun (congrFun (congrFun (mm_ev_fw hShM st_X11_readsAll 16 300 45) _) _) _).trans rfl
def st_X11_fault : Nat → Bool := fun p => Nat.beq p 4
set_option maxRecDepth 100000 in
theorem sg_X11_fault_0    (h : mm_H) : em 17 0 [mm_r 0] [] h = ((em 16 0 [mm_r 0, mm_u] [] h).bind fun q => em 17 4 [mm_r 0] (q.1.toList ++ []) q.2) := (congrFun (congrFun (congrFun (mm_ev_fw hShM st_X11_fault 17 300 0) _) _) _).trans rfl
set_option maxRecDepth 100000 in
theorem sg_X11_fault_4   (s0 : Int) (h : mm_H) : em 17 4 [mm_r 0] [mm_i s0] h = (some (some (mm_i s0), h)) := (congrFun (congrFun (congrFun (mm_ev_fw hShM st_X11_fault 17 300 4) _) _) _).trans rfl
def st_X11_lays : Nat → Bool := fun p => Nat.beq p 2 || Nat.beq p 28 || Nat.beq p 77
set_option maxRecDepth 100000 in
theorem sg_X11_lays_0    (h : mm_H) : em 18 0 [mm_r 0, mm_u] [] h = (em 18 2 [mm_r 0, mm_i 0] [] h) := (congrFun (congrFun (congrFun (mm_ev_fw hShM st_X11_lays 18 300 0) _) _) _).trans rfl
set_option maxRecDepth 100000 in
theorem sg_X11_lays_2   (l1 : Int) (h : mm_H) : em 18 2 [mm_r 0, mm_i l1] [] h = (if l1 < 47 then (if 0 ≤ l1 ∧ l1 < 47 then (if 0 ≤ l1 ∧ l1 < 47 then (em 18 2 [mm_r 0, mm_i (mm_wr (l1 + 1))] [] (mm_st h 2 l1.toNat (h 3 l1.toNat))) else none) else none) else (em 18 28 [mm_r 0, mm_i 0] [] h)) := (congrFun (congrFun (congrFun (mm_ev_fw hShM st_X11_lays 18 300 2) _) _) _).trans rfl
set_option maxRecDepth 100000 in
theorem sg_X11_lays_28   (l1 : Int) (h : mm_H) : em 18 28 [mm_r 0, mm_i l1] [] h = (if l1 < 12 then (if l1 < 5 then (if 0 ≤ (mm_add 20 l1) ∧ (mm_add 20 l1) < 47 then (em 18 77 [mm_r 0, mm_i l1] [mm_i (h 2 (mm_add 20 l1).toNat), mm_i l1, mm_r 4] h) else none) else (if l1 < 10 then (if 0 ≤ (mm_sub (mm_add 15 l1) 5) ∧ (mm_sub (mm_add 15 l1) 5) < 47 then (em 18 77 [mm_r 0, mm_i l1] [mm_i (h 2 (mm_sub (mm_add 15 l1) 5).toNat), mm_i l1, mm_r 4] h) else none) else (em 18 77 [mm_r 0, mm_i l1] [mm_i 0, mm_i l1, mm_r 4] h))) else (some (none, (mm_st (mm_st (mm_st h 0 6 0) 0 8 0) 0 10 0)))) := (congrFun (congrFun (congrFun (mm_ev_fw hShM st_X11_lays 18 300 28) _) _) _).trans rfl
set_option maxRecDepth 100000 in
theorem sg_X11_lays_77   (l1 : Int) (s0 : Int) (s1 : Int) (h : mm_H) : em 18 77 [mm_r 0, mm_i l1] [mm_i s0, mm_i s1, mm_r 4] h = (if 0 ≤ s1 ∧ s1 < 12 then (em 18 28 [mm_r 0, mm_i (mm_wr (l1 + 1))] [] (mm_st h 4 s1.toNat s0)) else none) := (congrFun (congrFun (congrFun (mm_ev_fw hShM st_X11_lays 18 300 77) _) _) _).trans rfl
def st_X11_lay : Nat → Bool := fun p => Nat.beq p 4 || Nat.beq p 18 || Nat.beq p 25
set_option maxRecDepth 100000 in
theorem sg_X11_lay_0    (h : mm_H) : em 19 0 [mm_r 0] [] h = ((em 16 0 [mm_r 0, mm_u] [] h).bind fun q => em 19 4 [mm_r 0] (q.1.toList ++ []) q.2) := (congrFun (congrFun (congrFun (mm_ev_fw hShM st_X11_lay 19 300 0) _) _) _).trans rfl
set_option maxRecDepth 100000 in
theorem sg_X11_lay_4   (s0 : Int) (h : mm_H) : em 19 4 [mm_r 0] [mm_i s0] h = (if s0 = (-4) then (if (h 3 0) = 0 then (em 19 18 [mm_r 0] [] h) else ((em 18 0 [mm_r 0, mm_u] [] h).bind fun q => em 19 25 [mm_r 0] (q.1.toList ++ []) q.2)) else (em 19 18 [mm_r 0] [] h)) := (congrFun (congrFun (congrFun (mm_ev_fw hShM st_X11_lay 19 300 4) _) _) _).trans rfl
set_option maxRecDepth 100000 in
theorem sg_X11_lay_18    (h : mm_H) : em 19 18 [mm_r 0] [] h = (some (some (mm_i (-2)), h)) := (congrFun (congrFun (congrFun (mm_ev_fw hShM st_X11_lay 19 300 18) _) _) _).trans rfl
set_option maxRecDepth 100000 in
theorem sg_X11_lay_25    (h : mm_H) : em 19 25 [mm_r 0] [] h = (some (some (mm_i (h 2 0)), h)) := (congrFun (congrFun (congrFun (mm_ev_fw hShM st_X11_lay 19 300 25) _) _) _).trans rfl
def st_X11_rope : Nat → Bool := fun p => Nat.beq p 5 || Nat.beq p 14 || Nat.beq p 17 || Nat.beq p 61
set_option maxRecDepth 100000 in
theorem sg_X11_rope_0   (a1 : Int) (a2 : Int) (h : mm_H) : em 20 0 [mm_r 0, mm_i a1, mm_i a2] [] h = ((em 1 0 [mm_r 0, mm_i a1] [] h).bind fun q => em 20 5 [mm_r 0, mm_i a1, mm_i a2] (q.1.toList ++ []) q.2) := (congrFun (congrFun (congrFun (mm_ev_fw hShM st_X11_rope 20 300 0) _) _) _).trans rfl
set_option maxRecDepth 100000 in
theorem sg_X11_rope_5   (l1 : Int) (l2 : Int) (s0 : Int) (h : mm_H) : em 20 5 [mm_r 0, mm_i l1, mm_i l2] [mm_i s0] h = (if s0 = 0 then (em 20 17 [mm_r 0, mm_i l1, mm_i l2] [] h) else ((em 0 0 [mm_i l2, mm_i 0, mm_i 3] [] h).bind fun q => em 20 14 [mm_r 0, mm_i l1, mm_i l2] (q.1.toList ++ []) q.2)) := (congrFun (congrFun (congrFun (mm_ev_fw hShM st_X11_rope 20 300 5) _) _) _).trans rfl
set_option maxRecDepth 100000 in
theorem sg_X11_rope_14   (l1 : Int) (l2 : Int) (s0 : Int) (h : mm_H) : em 20 14 [mm_r 0, mm_i l1, mm_i l2] [mm_i s0] h = (if s0 = 0 then (em 20 17 [mm_r 0, mm_i l1, mm_i l2] [] h) else (if l2 < 2 then (if 0 ≤ (mm_add (mm_add 5 (mm_mul 5 l2)) l1) ∧ (mm_add (mm_add 5 (mm_mul 5 l2)) l1) < 47 then (em 20 61 [mm_r 0, mm_i l1, mm_i l2] [mm_i (h 2 (mm_add (mm_add 5 (mm_mul 5 l2)) l1).toNat)] h) else none) else (if l2 = 2 then (if 0 ≤ (mm_add 5 l1) ∧ (mm_add 5 l1) < 12 then (em 20 61 [mm_r 0, mm_i l1, mm_i l2] [mm_i (h 4 (mm_add 5 l1).toNat)] h) else none) else (if 0 ≤ l1 ∧ l1 < 12 then (em 20 61 [mm_r 0, mm_i l1, mm_i l2] [mm_i (h 4 l1.toNat)] h) else none)))) := (congrFun (congrFun (congrFun (mm_ev_fw hShM st_X11_rope 20 300 14) _) _) _).trans rfl
set_option maxRecDepth 100000 in
theorem sg_X11_rope_17   (l1 : Int) (l2 : Int) (h : mm_H) : em 20 17 [mm_r 0, mm_i l1, mm_i l2] [] h = (some (some (mm_i (-1)), h)) := (congrFun (congrFun (congrFun (mm_ev_fw hShM st_X11_rope 20 300 17) _) _) _).trans rfl
set_option maxRecDepth 100000 in
theorem sg_X11_rope_61   (l1 : Int) (l2 : Int) (s0 : Int) (h : mm_H) : em 20 61 [mm_r 0, mm_i l1, mm_i l2] [mm_i s0] h = (some (some (mm_i s0), h)) := (congrFun (congrFun (congrFun (mm_ev_fw hShM st_X11_rope 20 300 61) _) _) _).trans rfl
def st_X11_nextTo : Nat → Bool := fun p => Nat.beq p 5 || Nat.beq p 57 || Nat.beq p 62 || Nat.beq p 63
set_option maxRecDepth 100000 in
theorem sg_X11_nextTo_0   (a1 : Int) (a2 : Int) (h : mm_H) : em 21 0 [mm_r 0, mm_i a1, mm_i a2, mm_u, mm_u, mm_u] [] h = (em 21 5 [mm_r 0, mm_i a1, mm_i a2, mm_i (-1), mm_i 0, mm_u] [] h) := (congrFun (congrFun (congrFun (mm_ev_fw hShM st_X11_nextTo 21 300 0) _) _) _).trans rfl
set_option maxRecDepth 100000 in
theorem sg_X11_nextTo_5   (l1 : Int) (l2 : Int) (l3 : Int) (l4 : Int) (l5 : mm_V) (h : mm_H) : em 21 5 [mm_r 0, mm_i l1, mm_i l2, mm_i l3, mm_i l4, l5] [] h = (if l4 < (h 2 0) then (if 0 ≤ (mm_add 5 l4) ∧ (mm_add 5 l4) < 47 then (if (mm_mul (mm_sub (h 2 (mm_add 5 l4).toNat) l1) l2) < 0 then (em 21 62 [mm_r 0, mm_i l1, mm_i l2, mm_i l3, mm_i l4, mm_i (mm_mul (mm_sub (h 2 (mm_add 5 l4).toNat) l1) l2)] [] h) else (if l3 < 0 then (em 21 57 [mm_r 0, mm_i l1, mm_i l2, mm_i l3, mm_i l4, mm_i (mm_mul (mm_sub (h 2 (mm_add 5 l4).toNat) l1) l2)] [] h) else (if 0 ≤ (mm_add 5 l3) ∧ (mm_add 5 l3) < 47 then (if (mm_mul (mm_sub (h 2 (mm_add 5 l4).toNat) l1) l2) < (mm_mul (mm_sub (h 2 (mm_add 5 l3).toNat) l1) l2) then (em 21 57 [mm_r 0, mm_i l1, mm_i l2, mm_i l3, mm_i l4, mm_i (mm_mul (mm_sub (h 2 (mm_add 5 l4).toNat) l1) l2)] [] h) else (em 21 62 [mm_r 0, mm_i l1, mm_i l2, mm_i l3, mm_i l4, mm_i (mm_mul (mm_sub (h 2 (mm_add 5 l4).toNat) l1) l2)] [] h)) else none))) else none) else (some (some (mm_i l3), h))) := (congrFun (congrFun (congrFun (mm_ev_fw hShM st_X11_nextTo 21 300 5) _) _) _).trans rfl
set_option maxRecDepth 100000 in
theorem sg_X11_nextTo_57   (l1 : Int) (l2 : Int) (l3 : Int) (l4 : Int) (l5 : Int) (h : mm_H) : em 21 57 [mm_r 0, mm_i l1, mm_i l2, mm_i l3, mm_i l4, mm_i l5] [] h = (em 21 63 [mm_r 0, mm_i l1, mm_i l2, mm_i l3, mm_i l4, mm_i l5] [mm_i l4] h) := (congrFun (congrFun (congrFun (mm_ev_fw hShM st_X11_nextTo 21 300 57) _) _) _).trans rfl
set_option maxRecDepth 100000 in
theorem sg_X11_nextTo_62   (l1 : Int) (l2 : Int) (l3 : Int) (l4 : Int) (l5 : Int) (h : mm_H) : em 21 62 [mm_r 0, mm_i l1, mm_i l2, mm_i l3, mm_i l4, mm_i l5] [] h = (em 21 63 [mm_r 0, mm_i l1, mm_i l2, mm_i l3, mm_i l4, mm_i l5] [mm_i l3] h) := (congrFun (congrFun (congrFun (mm_ev_fw hShM st_X11_nextTo 21 300 62) _) _) _).trans rfl
set_option maxRecDepth 100000 in
theorem sg_X11_nextTo_63   (l1 : Int) (l2 : Int) (l3 : Int) (l4 : Int) (l5 : Int) (s0 : Int) (h : mm_H) : em 21 63 [mm_r 0, mm_i l1, mm_i l2, mm_i l3, mm_i l4, mm_i l5] [mm_i s0] h = (em 21 5 [mm_r 0, mm_i l1, mm_i l2, mm_i s0, mm_i (mm_wr (l4 + 1)), mm_i l5] [] h) := (congrFun (congrFun (congrFun (mm_ev_fw hShM st_X11_nextTo 21 300 63) _) _) _).trans rfl
def st_X11_skyOver : Nat → Bool := fun p => Nat.beq p 6 || Nat.beq p 13 || Nat.beq p 27 || Nat.beq p 40
set_option maxRecDepth 100000 in
theorem sg_X11_skyOver_0   (a1 : Int) (h : mm_H) : em 22 0 [mm_r 0, mm_i a1, mm_u, mm_u, mm_u, mm_u] [] h = ((em 21 0 [mm_r 0, mm_i a1, mm_i (-1), mm_u, mm_u, mm_u] [] h).bind fun q => em 22 6 [mm_r 0, mm_i a1, mm_u, mm_u, mm_u, mm_u] (q.1.toList ++ []) q.2) := (congrFun (congrFun (congrFun (mm_ev_fw hShM st_X11_skyOver 22 300 0) _) _) _).trans rfl
set_option maxRecDepth 100000 in
theorem sg_X11_skyOver_6   (l1 : Int) (s0 : Int) (h : mm_H) : em 22 6 [mm_r 0, mm_i l1, mm_u, mm_u, mm_u, mm_u] [mm_i s0] h = ((em 21 0 [mm_r 0, mm_i l1, mm_i 1, mm_u, mm_u, mm_u] [] h).bind fun q => em 22 13 [mm_r 0, mm_i l1, mm_i s0, mm_u, mm_u, mm_u] (q.1.toList ++ []) q.2) := (congrFun (congrFun (congrFun (mm_ev_fw hShM st_X11_skyOver 22 300 6) _) _) _).trans rfl
set_option maxRecDepth 100000 in
theorem sg_X11_skyOver_13   (l1 : Int) (l2 : Int) (s0 : Int) (h : mm_H) : em 22 13 [mm_r 0, mm_i l1, mm_i l2, mm_u, mm_u, mm_u] [mm_i s0] h = (if l2 < 0 then (em 22 27 [mm_r 0, mm_i l1, mm_i l2, mm_i s0, mm_u, mm_u] [] h) else (if s0 < 0 then (em 22 27 [mm_r 0, mm_i l1, mm_i l2, mm_i s0, mm_u, mm_u] [] h) else (if l2 = s0 then (em 22 27 [mm_r 0, mm_i l1, mm_i l2, mm_i s0, mm_u, mm_u] [] h) else (if 0 ≤ (mm_add 5 l2) ∧ (mm_add 5 l2) < 47 then (if 0 ≤ (mm_add 5 s0) ∧ (mm_add 5 s0) < 47 then (if 0 ≤ l2 ∧ l2 < 12 then (if 0 ≤ s0 ∧ s0 < 12 then (if (mm_sub (h 2 (mm_add 5 s0).toNat) (h 2 (mm_add 5 l2).toNat)) = 0 then none else (some (some (mm_i (mm_wr (Int.tdiv (mm_add (mm_mul (h 4 l2.toNat) (mm_sub (h 2 (mm_add 5 s0).toNat) l1)) (mm_mul (h 4 s0.toNat) (mm_sub l1 (h 2 (mm_add 5 l2).toNat)))) (mm_sub (h 2 (mm_add 5 s0).toNat) (h 2 (mm_add 5 l2).toNat))))), h))) else none) else none) else none) else none)))) := (congrFun (congrFun (congrFun (mm_ev_fw hShM st_X11_skyOver 22 300 13) _) _) _).trans rfl
set_option maxRecDepth 100000 in
theorem sg_X11_skyOver_27   (l1 : Int) (l2 : Int) (l3 : Int) (h : mm_H) : em 22 27 [mm_r 0, mm_i l1, mm_i l2, mm_i l3, mm_u, mm_u] [] h = (if l2 < 0 then (em 22 40 [mm_r 0, mm_i l1, mm_i l2, mm_i l3, mm_u, mm_u] [mm_i l3, mm_r 4] h) else (em 22 40 [mm_r 0, mm_i l1, mm_i l2, mm_i l3, mm_u, mm_u] [mm_i l2, mm_r 4] h)) := (congrFun (congrFun (congrFun (mm_ev_fw hShM st_X11_skyOver 22 300 27) _) _) _).trans rfl
set_option maxRecDepth 100000 in
theorem sg_X11_skyOver_40   (l1 : Int) (l2 : Int) (l3 : Int) (s0 : Int) (h : mm_H) : em 22 40 [mm_r 0, mm_i l1, mm_i l2, mm_i l3, mm_u, mm_u] [mm_i s0, mm_r 4] h = (if 0 ≤ s0 ∧ s0 < 12 then (some (some (mm_i (h 4 s0.toNat)), h)) else none) := (congrFun (congrFun (congrFun (mm_ev_fw hShM st_X11_skyOver 22 300 40) _) _) _).trans rfl
def st_X11_lightOf : Nat → Bool := fun p => Nat.beq p 14
set_option maxRecDepth 100000 in
theorem sg_X11_lightOf_0   (a0 : Int) (h : mm_H) : em 23 0 [mm_i a0] [] h = (if 29 < a0 then (em 23 14 [mm_i a0] [mm_i 3] h) else (em 23 14 [mm_i a0] [mm_i (mm_wr (Int.tdiv a0 10))] h)) := (congrFun (congrFun (congrFun (mm_ev_fw hShM st_X11_lightOf 23 300 0) _) _) _).trans rfl
set_option maxRecDepth 100000 in
theorem sg_X11_lightOf_14   (l0 : Int) (s0 : Int) (h : mm_H) : em 23 14 [mm_i l0] [mm_i s0] h = (some (some (mm_i s0), h)) := (congrFun (congrFun (congrFun (mm_ev_fw hShM st_X11_lightOf 23 300 14) _) _) _).trans rfl
def st_X11_sky : Nat → Bool := fun p => Nat.beq p 4 || Nat.beq p 12 || Nat.beq p 16
set_option maxRecDepth 100000 in
theorem sg_X11_sky_0   (a1 : Int) (h : mm_H) : em 24 0 [mm_r 0, mm_i a1] [] h = ((em 2 0 [mm_i a1] [] h).bind fun q => em 24 4 [mm_r 0, mm_i a1] (q.1.toList ++ []) q.2) := (congrFun (congrFun (congrFun (mm_ev_fw hShM st_X11_sky 24 300 0) _) _) _).trans rfl
set_option maxRecDepth 100000 in
theorem sg_X11_sky_4   (l1 : Int) (s0 : Int) (h : mm_H) : em 24 4 [mm_r 0, mm_i l1] [mm_i s0] h = (if s0 = 0 then (em 24 16 [mm_r 0, mm_i l1] [mm_i (-1)] h) else ((em 22 0 [mm_r 0, mm_i l1, mm_u, mm_u, mm_u, mm_u] [] h).bind fun q => em 24 12 [mm_r 0, mm_i l1] (q.1.toList ++ []) q.2)) := (congrFun (congrFun (congrFun (mm_ev_fw hShM st_X11_sky 24 300 4) _) _) _).trans rfl
set_option maxRecDepth 100000 in
theorem sg_X11_sky_12   (l1 : Int) (s0 : Int) (h : mm_H) : em 24 12 [mm_r 0, mm_i l1] [mm_i s0] h = (em 24 16 [mm_r 0, mm_i l1] [mm_i s0] h) := (congrFun (congrFun (congrFun (mm_ev_fw hShM st_X11_sky 24 300 12) _) _) _).trans rfl
set_option maxRecDepth 100000 in
theorem sg_X11_sky_16   (l1 : Int) (s0 : Int) (h : mm_H) : em 24 16 [mm_r 0, mm_i l1] [mm_i s0] h = (some (some (mm_i s0), h)) := (congrFun (congrFun (congrFun (mm_ev_fw hShM st_X11_sky 24 300 16) _) _) _).trans rfl
def st_X11_light : Nat → Bool := fun p => Nat.beq p 4 || Nat.beq p 12 || Nat.beq p 15 || Nat.beq p 19
set_option maxRecDepth 100000 in
theorem sg_X11_light_0   (a1 : Int) (h : mm_H) : em 25 0 [mm_r 0, mm_i a1] [] h = ((em 2 0 [mm_i a1] [] h).bind fun q => em 25 4 [mm_r 0, mm_i a1] (q.1.toList ++ []) q.2) := (congrFun (congrFun (congrFun (mm_ev_fw hShM st_X11_light 25 300 0) _) _) _).trans rfl
set_option maxRecDepth 100000 in
theorem sg_X11_light_4   (l1 : Int) (s0 : Int) (h : mm_H) : em 25 4 [mm_r 0, mm_i l1] [mm_i s0] h = (if s0 = 0 then (em 25 19 [mm_r 0, mm_i l1] [mm_i (-1)] h) else ((em 22 0 [mm_r 0, mm_i l1, mm_u, mm_u, mm_u, mm_u] [] h).bind fun q => em 25 12 [mm_r 0, mm_i l1] (q.1.toList ++ []) q.2)) := (congrFun (congrFun (congrFun (mm_ev_fw hShM st_X11_light 25 300 4) _) _) _).trans rfl
set_option maxRecDepth 100000 in
theorem sg_X11_light_12   (l1 : Int) (s0 : Int) (h : mm_H) : em 25 12 [mm_r 0, mm_i l1] [mm_i s0] h = ((em 23 0 [mm_i s0] [] h).bind fun q => em 25 15 [mm_r 0, mm_i l1] (q.1.toList ++ []) q.2) := (congrFun (congrFun (congrFun (mm_ev_fw hShM st_X11_light 25 300 12) _) _) _).trans rfl
set_option maxRecDepth 100000 in
theorem sg_X11_light_15   (l1 : Int) (s0 : Int) (h : mm_H) : em 25 15 [mm_r 0, mm_i l1] [mm_i s0] h = (em 25 19 [mm_r 0, mm_i l1] [mm_i s0] h) := (congrFun (congrFun (congrFun (mm_ev_fw hShM st_X11_light 25 300 15) _) _) _).trans rfl
set_option maxRecDepth 100000 in
theorem sg_X11_light_19   (l1 : Int) (s0 : Int) (h : mm_H) : em 25 19 [mm_r 0, mm_i l1] [mm_i s0] h = (some (some (mm_i s0), h)) := (congrFun (congrFun (congrFun (mm_ev_fw hShM st_X11_light 25 300 19) _) _) _).trans rfl
def st_X11_keeps : Nat → Bool := fun p => Nat.beq p 11 || Nat.beq p 48 || Nat.beq p 50
set_option maxRecDepth 100000 in
theorem sg_X11_keeps_0    (h : mm_H) : em 26 0 [mm_r 0, mm_u] [] h = (if (h 0 6) = 8 then (em 26 11 [mm_r 0, mm_i 0] [] h) else (em 26 48 [mm_r 0, mm_u] [] h)) := (congrFun (congrFun (congrFun (mm_ev_fw hShM st_X11_keeps 26 300 0) _) _) _).trans rfl
set_option maxRecDepth 100000 in
theorem sg_X11_keeps_11   (l1 : Int) (h : mm_H) : em 26 11 [mm_r 0, mm_i l1] [] h = (if l1 < 84 then (if 0 ≤ (mm_add l1 12) ∧ (mm_add l1 12) < 96 then (if 0 ≤ l1 ∧ l1 < 96 then (em 26 11 [mm_r 0, mm_i (mm_wr (l1 + 1))] [] (mm_st h 5 l1.toNat (h 5 (mm_add l1 12).toNat))) else none) else none) else (em 26 48 [mm_r 0, mm_i l1] [] (mm_st h 0 6 (mm_sub (h 0 6) 1)))) := (congrFun (congrFun (congrFun (mm_ev_fw hShM st_X11_keeps 26 300 11) _) _) _).trans rfl
set_option maxRecDepth 100000 in
theorem sg_X11_keeps_48   (l1 : mm_V) (h : mm_H) : em 26 48 [mm_r 0, l1] [] h = (em 26 50 [mm_r 0, mm_i 0] [] h) := (congrFun (congrFun (congrFun (mm_ev_fw hShM st_X11_keeps 26 300 48) _) _) _).trans rfl
set_option maxRecDepth 100000 in
theorem sg_X11_keeps_50   (l1 : Int) (h : mm_H) : em 26 50 [mm_r 0, mm_i l1] [] h = (if l1 < 12 then (if 0 ≤ l1 ∧ l1 < 12 then (if 0 ≤ (mm_add (mm_mul 12 (h 0 6)) l1) ∧ (mm_add (mm_mul 12 (h 0 6)) l1) < 96 then (em 26 50 [mm_r 0, mm_i (mm_wr (l1 + 1))] [] (mm_st h 5 (mm_add (mm_mul 12 (h 0 6)) l1).toNat (h 4 l1.toNat))) else none) else none) else (some (none, (mm_st h 0 6 (mm_add (h 0 6) 1))))) := (congrFun (congrFun (congrFun (mm_ev_fw hShM st_X11_keeps 26 300 50) _) _) _).trans rfl
def st_X11_behind : Nat → Bool := fun p => Nat.beq p 28 || Nat.beq p 29 || Nat.beq p 62 || Nat.beq p 88 || Nat.beq p 90
set_option maxRecDepth 100000 in
theorem sg_X11_behind_0   (a0 : Int) (a1 : Int) (a2 : Int) (a3 : Int) (a4 : Int) (h : mm_H) : em 27 0 [mm_i a0, mm_i a1, mm_i a2, mm_i a3, mm_i a4, mm_u, mm_u] [] h = (if a1 = 1 then (em 27 29 [mm_i a0, mm_i a1, mm_i a2, mm_i a3, mm_i a4, mm_u, mm_u] [mm_i (mm_add a2 1)] h) else (if a1 = 3 then (if (Int.tmod a4 2) = 1 then (em 27 29 [mm_i a0, mm_i a1, mm_i a2, mm_i a3, mm_i a4, mm_u, mm_u] [mm_i 0] h) else (em 27 28 [mm_i a0, mm_i a1, mm_i a2, mm_i a3, mm_i a4, mm_u, mm_u] [] h)) else (em 27 28 [mm_i a0, mm_i a1, mm_i a2, mm_i a3, mm_i a4, mm_u, mm_u] [] h))) := (congrFun (congrFun (congrFun (mm_ev_fw hShM st_X11_behind 27 300 0) _) _) _).trans rfl
set_option maxRecDepth 100000 in
theorem sg_X11_behind_28   (l0 : Int) (l1 : Int) (l2 : Int) (l3 : Int) (l4 : Int) (h : mm_H) : em 27 28 [mm_i l0, mm_i l1, mm_i l2, mm_i l3, mm_i l4, mm_u, mm_u] [] h = (em 27 29 [mm_i l0, mm_i l1, mm_i l2, mm_i l3, mm_i l4, mm_u, mm_u] [mm_i l2] h) := (congrFun (congrFun (congrFun (mm_ev_fw hShM st_X11_behind 27 300 28) _) _) _).trans rfl
set_option maxRecDepth 100000 in
theorem sg_X11_behind_29   (l0 : Int) (l1 : Int) (l2 : Int) (l3 : Int) (l4 : Int) (s0 : Int) (h : mm_H) : em 27 29 [mm_i l0, mm_i l1, mm_i l2, mm_i l3, mm_i l4, mm_u, mm_u] [mm_i s0] h = (if (mm_add l0 (mm_mul l3 s0)) < 0 then (em 27 62 [mm_i l0, mm_i l1, mm_i l2, mm_i l3, mm_i l4, mm_i s0, mm_i (mm_add l0 (mm_mul l3 s0))] [mm_i 0] h) else (if 40 < (mm_add l0 (mm_mul l3 s0)) then (em 27 62 [mm_i l0, mm_i l1, mm_i l2, mm_i l3, mm_i l4, mm_i s0, mm_i (mm_add l0 (mm_mul l3 s0))] [mm_i 40] h) else (em 27 62 [mm_i l0, mm_i l1, mm_i l2, mm_i l3, mm_i l4, mm_i s0, mm_i (mm_add l0 (mm_mul l3 s0))] [mm_i (mm_add l0 (mm_mul l3 s0))] h))) := (congrFun (congrFun (congrFun (mm_ev_fw hShM st_X11_behind 27 300 29) _) _) _).trans rfl
set_option maxRecDepth 100000 in
theorem sg_X11_behind_62   (l0 : Int) (l1 : Int) (l2 : Int) (l3 : Int) (l4 : Int) (l5 : Int) (l6 : Int) (s0 : Int) (h : mm_H) : em 27 62 [mm_i l0, mm_i l1, mm_i l2, mm_i l3, mm_i l4, mm_i l5, mm_i l6] [mm_i s0] h = (if l1 = 2 then (if (Int.tmod s0 3) = 0 then (if 0 < s0 then (em 27 90 [mm_i l0, mm_i l1, mm_i l2, mm_i l3, mm_i l4, mm_i l5, mm_i s0] [mm_i (mm_sub s0 1)] h) else (em 27 88 [mm_i l0, mm_i l1, mm_i l2, mm_i l3, mm_i l4, mm_i l5, mm_i s0] [] h)) else (em 27 88 [mm_i l0, mm_i l1, mm_i l2, mm_i l3, mm_i l4, mm_i l5, mm_i s0] [] h)) else (em 27 88 [mm_i l0, mm_i l1, mm_i l2, mm_i l3, mm_i l4, mm_i l5, mm_i s0] [] h)) := (congrFun (congrFun (congrFun (mm_ev_fw hShM st_X11_behind 27 300 62) _) _) _).trans rfl
set_option maxRecDepth 100000 in
theorem sg_X11_behind_88   (l0 : Int) (l1 : Int) (l2 : Int) (l3 : Int) (l4 : Int) (l5 : Int) (l6 : Int) (h : mm_H) : em 27 88 [mm_i l0, mm_i l1, mm_i l2, mm_i l3, mm_i l4, mm_i l5, mm_i l6] [] h = (em 27 90 [mm_i l0, mm_i l1, mm_i l2, mm_i l3, mm_i l4, mm_i l5, mm_i l6] [mm_i l6] h) := (congrFun (congrFun (congrFun (mm_ev_fw hShM st_X11_behind 27 300 88) _) _) _).trans rfl
set_option maxRecDepth 100000 in
theorem sg_X11_behind_90   (l0 : Int) (l1 : Int) (l2 : Int) (l3 : Int) (l4 : Int) (l5 : Int) (l6 : Int) (s0 : Int) (h : mm_H) : em 27 90 [mm_i l0, mm_i l1, mm_i l2, mm_i l3, mm_i l4, mm_i l5, mm_i l6] [mm_i s0] h = (some (some (mm_i s0), h)) := (congrFun (congrFun (congrFun (mm_ev_fw hShM st_X11_behind 27 300 90) _) _) _).trans rfl
def st_X11_goes : Nat → Bool := fun p => Nat.beq p 2 || Nat.beq p 65 || Nat.beq p 82 || Nat.beq p 93
set_option maxRecDepth 100000 in
theorem sg_X11_goes_0   (a1 : Int) (a2 : Int) (h : mm_H) : em 28 0 [mm_r 0, mm_i a1, mm_i a2, mm_u, mm_u] [] h = (em 28 2 [mm_r 0, mm_i a1, mm_i a2, mm_i 0, mm_u] [] h) := (congrFun (congrFun (congrFun (mm_ev_fw hShM st_X11_goes 28 300 0) _) _) _).trans rfl
set_option maxRecDepth 100000 in
theorem sg_X11_goes_2   (l1 : Int) (l2 : Int) (l3 : Int) (l4 : mm_V) (h : mm_H) : em 28 2 [mm_r 0, mm_i l1, mm_i l2, mm_i l3, l4] [] h = (if l3 < (h 2 0) then (if 0 ≤ l3 ∧ l3 < 12 then (if 0 ≤ (mm_add 5 l3) ∧ (mm_add 5 l3) < 12 then (if 0 ≤ (mm_add 10 l3) ∧ (mm_add 10 l3) < 47 then ((em 27 0 [mm_i (h 4 l3.toNat), mm_i (h 4 (mm_add 5 l3).toNat), mm_i (h 2 (mm_add 10 l3).toNat), mm_i (mm_sub (mm_and (mm_shr l1 l3) 1) (mm_and (mm_shr l2 l3) 1)), mm_i (h 4 10), mm_u, mm_u] [] h).bind fun q => em 28 65 [mm_r 0, mm_i l1, mm_i l2, mm_i l3, mm_i (mm_sub (mm_and (mm_shr l1 l3) 1) (mm_and (mm_shr l2 l3) 1))] (q.1.toList ++ [mm_i l3, mm_r 4]) q.2) else none) else none) else none) else ((em 4 0 [mm_i l1, mm_u, mm_u] [] h).bind fun q => em 28 82 [mm_r 0, mm_i l1, mm_i l2, mm_i l3, l4] (q.1.toList ++ [mm_i (h 2 3)]) q.2)) := (congrFun (congrFun (congrFun (mm_ev_fw hShM st_X11_goes 28 300 2) _) _) _).trans rfl
set_option maxRecDepth 100000 in
theorem sg_X11_goes_65   (l1 : Int) (l2 : Int) (l3 : Int) (l4 : Int) (s0 : Int) (s1 : Int) (h : mm_H) : em 28 65 [mm_r 0, mm_i l1, mm_i l2, mm_i l3, mm_i l4] [mm_i s0, mm_i s1, mm_r 4] h = (if 0 ≤ s1 ∧ s1 < 12 then (em 28 2 [mm_r 0, mm_i l1, mm_i l2, mm_i (mm_wr (l3 + 1)), mm_i l4] [] (mm_st h 4 s1.toNat s0)) else none) := (congrFun (congrFun (congrFun (mm_ev_fw hShM st_X11_goes 28 300 65) _) _) _).trans rfl
set_option maxRecDepth 100000 in
theorem sg_X11_goes_82   (l1 : Int) (l2 : Int) (l3 : Int) (l4 : mm_V) (s0 : Int) (s1 : Int) (h : mm_H) : em 28 82 [mm_r 0, mm_i l1, mm_i l2, mm_i l3, l4] [mm_i s0, mm_i s1] h = ((em 4 0 [mm_i l2, mm_u, mm_u] [] h).bind fun q => em 28 93 [mm_r 0, mm_i l1, mm_i l2, mm_i l3, l4] (q.1.toList ++ [mm_i (h 2 4), mm_i (mm_mul s1 s0)]) q.2) := (congrFun (congrFun (congrFun (mm_ev_fw hShM st_X11_goes 28 300 82) _) _) _).trans rfl
set_option maxRecDepth 100000 in
theorem sg_X11_goes_93   (l1 : Int) (l2 : Int) (l3 : Int) (l4 : mm_V) (s0 : Int) (s1 : Int) (s2 : Int) (h : mm_H) : em 28 93 [mm_r 0, mm_i l1, mm_i l2, mm_i l3, l4] [mm_i s0, mm_i s1, mm_i s2] h = (some (some (mm_i (mm_add s2 (mm_mul s1 s0))), (mm_st (mm_st h 4 10 (mm_add (h 4 10) 1)) 4 11 (mm_add ((mm_st h 4 10 (mm_add (h 4 10) 1)) 4 11) (mm_add s2 (mm_mul s1 s0)))))) := (congrFun (congrFun (congrFun (mm_ev_fw hShM st_X11_goes 28 300 93) _) _) _).trans rfl
def st_X11_hour : Nat → Bool := fun p => Nat.beq p 6 || Nat.beq p 11 || Nat.beq p 20 || Nat.beq p 25 || Nat.beq p 34 || Nat.beq p 55 || Nat.beq p 61
set_option maxRecDepth 100000 in
theorem sg_X11_hour_0   (a1 : Int) (a2 : Int) (h : mm_H) : em 29 0 [mm_r 0, mm_i a1, mm_i a2] [] h = ((em 3 0 [mm_r 0] [] h).bind fun q => em 29 6 [mm_r 0, mm_i a1, mm_i a2] (q.1.toList ++ [mm_i 0, mm_i a1]) q.2) := (congrFun (congrFun (congrFun (mm_ev_fw hShM st_X11_hour 29 300 0) _) _) _).trans rfl
set_option maxRecDepth 100000 in
theorem sg_X11_hour_6   (l1 : Int) (l2 : Int) (s0 : Int) (s1 : Int) (s2 : Int) (h : mm_H) : em 29 6 [mm_r 0, mm_i l1, mm_i l2] [mm_i s0, mm_i s1, mm_i s2] h = ((em 0 0 [mm_i s2, mm_i s1, mm_i (mm_sub s0 1)] [] h).bind fun q => em 29 11 [mm_r 0, mm_i l1, mm_i l2] (q.1.toList ++ []) q.2) := (congrFun (congrFun (congrFun (mm_ev_fw hShM st_X11_hour 29 300 6) _) _) _).trans rfl
set_option maxRecDepth 100000 in
theorem sg_X11_hour_11   (l1 : Int) (l2 : Int) (s0 : Int) (h : mm_H) : em 29 11 [mm_r 0, mm_i l1, mm_i l2] [mm_i s0] h = (if s0 = 0 then (em 29 34 [mm_r 0, mm_i l1, mm_i l2] [] h) else ((em 3 0 [mm_r 0] [] h).bind fun q => em 29 20 [mm_r 0, mm_i l1, mm_i l2] (q.1.toList ++ [mm_i 0, mm_i l2]) q.2)) := (congrFun (congrFun (congrFun (mm_ev_fw hShM st_X11_hour 29 300 11) _) _) _).trans rfl
set_option maxRecDepth 100000 in
theorem sg_X11_hour_20   (l1 : Int) (l2 : Int) (s0 : Int) (s1 : Int) (s2 : Int) (h : mm_H) : em 29 20 [mm_r 0, mm_i l1, mm_i l2] [mm_i s0, mm_i s1, mm_i s2] h = ((em 0 0 [mm_i s2, mm_i s1, mm_i (mm_sub s0 1)] [] h).bind fun q => em 29 25 [mm_r 0, mm_i l1, mm_i l2] (q.1.toList ++ []) q.2) := (congrFun (congrFun (congrFun (mm_ev_fw hShM st_X11_hour 29 300 20) _) _) _).trans rfl
set_option maxRecDepth 100000 in
theorem sg_X11_hour_25   (l1 : Int) (l2 : Int) (s0 : Int) (h : mm_H) : em 29 25 [mm_r 0, mm_i l1, mm_i l2] [mm_i s0] h = (if s0 = 0 then (em 29 34 [mm_r 0, mm_i l1, mm_i l2] [] h) else (if (mm_and l1 l2) = 0 then (if (h 4 10) = 99 then (some (some (mm_i (-2)), h)) else ((em 26 0 [mm_r 0, mm_u] [] h).bind fun q => em 29 55 [mm_r 0, mm_i l1, mm_i l2] (q.1.toList ++ []) q.2)) else (em 29 34 [mm_r 0, mm_i l1, mm_i l2] [] h))) := (congrFun (congrFun (congrFun (mm_ev_fw hShM st_X11_hour 29 300 25) _) _) _).trans rfl
set_option maxRecDepth 100000 in
theorem sg_X11_hour_34   (l1 : Int) (l2 : Int) (h : mm_H) : em 29 34 [mm_r 0, mm_i l1, mm_i l2] [] h = (some (some (mm_i (-1)), h)) := (congrFun (congrFun (congrFun (mm_ev_fw hShM st_X11_hour 29 300 34) _) _) _).trans rfl
set_option maxRecDepth 100000 in
theorem sg_X11_hour_55   (l1 : Int) (l2 : Int) (h : mm_H) : em 29 55 [mm_r 0, mm_i l1, mm_i l2] [] h = ((em 28 0 [mm_r 0, mm_i l1, mm_i l2, mm_u, mm_u] [] h).bind fun q => em 29 61 [mm_r 0, mm_i l1, mm_i l2] (q.1.toList ++ []) q.2) := (congrFun (congrFun (congrFun (mm_ev_fw hShM st_X11_hour 29 300 55) _) _) _).trans rfl
set_option maxRecDepth 100000 in
theorem sg_X11_hour_61   (l1 : Int) (l2 : Int) (s0 : Int) (h : mm_H) : em 29 61 [mm_r 0, mm_i l1, mm_i l2] [mm_i s0] h = (some (some (mm_i s0), h)) := (congrFun (congrFun (congrFun (mm_ev_fw hShM st_X11_hour 29 300 61) _) _) _).trans rfl
