def st_X0_hoursUntil : Nat → Bool := fun p => Nat.beq p 8 || Nat.beq p 11 || Nat.beq p 30 || Nat.beq p 46
set_option maxRecDepth 100000 in
theorem sg_X0_hoursUntil_0 {v : Nat} {e : Nat} (hv : v = 5 ∨ v = 15) (he : e = 25) (a3 : Int) (a4 : Int) (h : mm_H) : ex 0 0 [mm_r 62, mm_r v, mm_r e, mm_i a3, mm_i a4, mm_u] [] h = ((ex 15 0 [mm_r 63, mm_r e, mm_u] [] h).bind fun q => ex 0 8 [mm_r 62, mm_r v, mm_r e, mm_i a3, mm_i a4, mm_u] (q.1.toList ++ []) q.2) := by
  rcases hv with rfl | rfl <;> subst he <;> exact (congrFun (congrFun (congrFun (mm_ev_fw hShX st_X0_hoursUntil 0 300 0) _) _) _).trans rfl
set_option maxRecDepth 100000 in
theorem sg_X0_hoursUntil_8 {v : Nat} {e : Nat} (hv : v = 5 ∨ v = 15) (he : e = 25) (l3 : Int) (l4 : Int) (h : mm_H) : ex 0 8 [mm_r 62, mm_r v, mm_r e, mm_i l3, mm_i l4, mm_u] [] h = (ex 0 11 [mm_r 62, mm_r v, mm_r e, mm_i l3, mm_i l4, mm_i 0] [] h) := by
  rcases hv with rfl | rfl <;> subst he <;> exact (congrFun (congrFun (congrFun (mm_ev_fw hShX st_X0_hoursUntil 0 300 8) _) _) _).trans rfl
set_option maxRecDepth 100000 in
theorem sg_X0_hoursUntil_11 {v : Nat} {e : Nat} (hv : v = 5 ∨ v = 15) (he : e = 25) (l3 : Int) (l4 : Int) (l5 : Int) (h : mm_H) : ex 0 11 [mm_r 62, mm_r v, mm_r e, mm_i l3, mm_i l4, mm_i l5] [] h = (if 24 < l5 then (some (some (mm_i (-4)), h)) else ((ex 62 0 [mm_r v, mm_r 64, mm_i l3] [] h).bind fun q => ex 0 30 [mm_r 62, mm_r v, mm_r e, mm_i l3, mm_i l4, mm_i l5] (q.1.toList ++ []) q.2)) := by
  rcases hv with rfl | rfl <;> subst he <;> exact (congrFun (congrFun (congrFun (mm_ev_fw hShX st_X0_hoursUntil 0 300 11) _) _) _).trans rfl
set_option maxRecDepth 100000 in
theorem sg_X0_hoursUntil_30 {v : Nat} {e : Nat} (hv : v = 5 ∨ v = 15) (he : e = 25) (l3 : Int) (l4 : Int) (l5 : Int) (s0 : Int) (h : mm_H) : ex 0 30 [mm_r 62, mm_r v, mm_r e, mm_i l3, mm_i l4, mm_i l5] [mm_i s0] h = (if s0 < l4 then ((ex 17 0 [mm_r 63, mm_r v] [] h).bind fun q => ex 0 46 [mm_r 62, mm_r v, mm_r e, mm_i l3, mm_i l4, mm_i l5] (q.1.toList ++ []) q.2) else (some (some (mm_i l5), h))) := by
  rcases hv with rfl | rfl <;> subst he <;> exact (congrFun (congrFun (congrFun (mm_ev_fw hShX st_X0_hoursUntil 0 300 30) _) _) _).trans rfl
set_option maxRecDepth 100000 in
theorem sg_X0_hoursUntil_46 {v : Nat} {e : Nat} (hv : v = 5 ∨ v = 15) (he : e = 25) (l3 : Int) (l4 : Int) (l5 : Int) (h : mm_H) : ex 0 46 [mm_r 62, mm_r v, mm_r e, mm_i l3, mm_i l4, mm_i l5] [] h = (ex 0 11 [mm_r 62, mm_r v, mm_r e, mm_i l3, mm_i l4, mm_i (mm_wr (l5 + 1))] [] h) := by
  rcases hv with rfl | rfl <;> subst he <;> exact (congrFun (congrFun (congrFun (mm_ev_fw hShX st_X0_hoursUntil 0 300 46) _) _) _).trans rfl
def st_X0_nightsIfGreased : Nat → Bool := fun p => Nat.beq p 8 || Nat.beq p 21 || Nat.beq p 36 || Nat.beq p 53
set_option maxRecDepth 100000 in
theorem sg_X0_nightsIfGreased_0 {v : Nat} {e : Nat} (hv : v = 5 ∨ v = 15) (he : e = 25) (a3 : Int) (a4 : Int) (h : mm_H) : ex 1 0 [mm_r 62, mm_r v, mm_r e, mm_i a3, mm_i a4, mm_u] [] h = ((ex 15 0 [mm_r 63, mm_r e, mm_u] [] h).bind fun q => ex 1 8 [mm_r 62, mm_r v, mm_r e, mm_i a3, mm_i a4, mm_u] (q.1.toList ++ []) q.2) := by
  rcases hv with rfl | rfl <;> subst he <;> exact (congrFun (congrFun (congrFun (mm_ev_fw hShX st_X0_nightsIfGreased 1 300 0) _) _) _).trans rfl
set_option maxRecDepth 100000 in
theorem sg_X0_nightsIfGreased_8 {v : Nat} {e : Nat} (hv : v = 5 ∨ v = 15) (he : e = 25) (l3 : Int) (l4 : Int) (h : mm_H) : ex 1 8 [mm_r 62, mm_r v, mm_r e, mm_i l3, mm_i l4, mm_u] [] h = (if 0 ≤ l3 ∧ l3 < 5 then (ex 1 21 [mm_r 62, mm_r v, mm_r e, mm_i l3, mm_i l4, mm_i 0] [] (mm_st h 65 l3.toNat 1)) else none) := by
  rcases hv with rfl | rfl <;> subst he <;> exact (congrFun (congrFun (congrFun (mm_ev_fw hShX st_X0_nightsIfGreased 1 300 8) _) _) _).trans rfl
set_option maxRecDepth 100000 in
theorem sg_X0_nightsIfGreased_21 {v : Nat} {e : Nat} (hv : v = 5 ∨ v = 15) (he : e = 25) (l3 : Int) (l4 : Int) (l5 : Int) (h : mm_H) : ex 1 21 [mm_r 62, mm_r v, mm_r e, mm_i l3, mm_i l4, mm_i l5] [] h = (if l5 < l4 then ((ex 17 0 [mm_r 63, mm_r v] [] h).bind fun q => ex 1 36 [mm_r 62, mm_r v, mm_r e, mm_i l3, mm_i l4, mm_i l5] (q.1.toList ++ []) q.2) else ((ex 66 0 [mm_r v, mm_r 64, mm_u, mm_u] [] h).bind fun q => ex 1 53 [mm_r 62, mm_r v, mm_r e, mm_i l3, mm_i l4, mm_i l5] (q.1.toList ++ []) q.2)) := by
  rcases hv with rfl | rfl <;> subst he <;> exact (congrFun (congrFun (congrFun (mm_ev_fw hShX st_X0_nightsIfGreased 1 300 21) _) _) _).trans rfl
set_option maxRecDepth 100000 in
theorem sg_X0_nightsIfGreased_36 {v : Nat} {e : Nat} (hv : v = 5 ∨ v = 15) (he : e = 25) (l3 : Int) (l4 : Int) (l5 : Int) (h : mm_H) : ex 1 36 [mm_r 62, mm_r v, mm_r e, mm_i l3, mm_i l4, mm_i l5] [] h = (ex 1 21 [mm_r 62, mm_r v, mm_r e, mm_i l3, mm_i l4, mm_i (mm_wr (l5 + 1))] [] h) := by
  rcases hv with rfl | rfl <;> subst he <;> exact (congrFun (congrFun (congrFun (mm_ev_fw hShX st_X0_nightsIfGreased 1 300 36) _) _) _).trans rfl
set_option maxRecDepth 100000 in
theorem sg_X0_nightsIfGreased_53 {v : Nat} {e : Nat} (hv : v = 5 ∨ v = 15) (he : e = 25) (l3 : Int) (l4 : Int) (l5 : Int) (s0 : Int) (h : mm_H) : ex 1 53 [mm_r 62, mm_r v, mm_r e, mm_i l3, mm_i l4, mm_i l5] [mm_i s0] h = (some (some (mm_i s0), h)) := by
  rcases hv with rfl | rfl <;> subst he <;> exact (congrFun (congrFun (congrFun (mm_ev_fw hShX st_X0_nightsIfGreased 1 300 53) _) _) _).trans rfl
def st_X0_drawn : Nat → Bool := fun p => Nat.beq p 8 || Nat.beq p 12 || Nat.beq p 19 || Nat.beq p 95
set_option maxRecDepth 100000 in
theorem sg_X0_drawn_0 {v : Nat} {e : Nat} (hv : v = 5 ∨ v = 15) (he : e = 25) (a3 : Int) (a4 : Int) (h : mm_H) : ex 2 0 [mm_r 62, mm_r v, mm_r e, mm_i a3, mm_i a4, mm_u, mm_u, mm_u, mm_u, mm_u, mm_u, mm_u] [] h = ((ex 15 0 [mm_r 63, mm_r e, mm_u] [] h).bind fun q => ex 2 8 [mm_r 62, mm_r v, mm_r e, mm_i a3, mm_i a4, mm_u, mm_u, mm_u, mm_u, mm_u, mm_u, mm_u] (q.1.toList ++ []) q.2) := by
  rcases hv with rfl | rfl <;> subst he <;> exact (congrFun (congrFun (congrFun (mm_ev_fw hShX st_X0_drawn 2 300 0) _) _) _).trans rfl
set_option maxRecDepth 100000 in
theorem sg_X0_drawn_8 {v : Nat} {e : Nat} (hv : v = 5 ∨ v = 15) (he : e = 25) (l3 : Int) (l4 : Int) (h : mm_H) : ex 2 8 [mm_r 62, mm_r v, mm_r e, mm_i l3, mm_i l4, mm_u, mm_u, mm_u, mm_u, mm_u, mm_u, mm_u] [] h = ((ex 58 0 [mm_r v] [] h).bind fun q => ex 2 12 [mm_r 62, mm_r v, mm_r e, mm_i l3, mm_i l4, mm_u, mm_u, mm_u, mm_u, mm_u, mm_u, mm_u] (q.1.toList ++ []) q.2) := by
  rcases hv with rfl | rfl <;> subst he <;> exact (congrFun (congrFun (congrFun (mm_ev_fw hShX st_X0_drawn 2 300 8) _) _) _).trans rfl
set_option maxRecDepth 100000 in
theorem sg_X0_drawn_12 {v : Nat} {e : Nat} (hv : v = 5 ∨ v = 15) (he : e = 25) (l3 : Int) (l4 : Int) (s0 : Int) (h : mm_H) : ex 2 12 [mm_r 62, mm_r v, mm_r e, mm_i l3, mm_i l4, mm_u, mm_u, mm_u, mm_u, mm_u, mm_u, mm_u] [mm_i s0] h = (ex 2 19 [mm_r 62, mm_r v, mm_r e, mm_i l3, mm_i l4, mm_i (mm_sub s0 1), mm_i 0, mm_u, mm_u, mm_u, mm_u, mm_u] [] h) := by
  rcases hv with rfl | rfl <;> subst he <;> exact (congrFun (congrFun (congrFun (mm_ev_fw hShX st_X0_drawn 2 300 12) _) _) _).trans rfl
set_option maxRecDepth 100000 in
theorem sg_X0_drawn_19 {v : Nat} {e : Nat} (hv : v = 5 ∨ v = 15) (he : e = 25) (l3 : Int) (l4 : Int) (l5 : Int) (l6 : Int) (l7 : mm_V) (l9 : mm_V) (l10 : mm_V) (l11 : mm_V) (h : mm_H) : ex 2 19 [mm_r 62, mm_r v, mm_r e, mm_i l3, mm_i l4, mm_i l5, mm_i l6, l7, mm_u, l9, l10, l11] [] h = (if l6 < l4 then ((ex 16 0 [mm_r 63, mm_r v, mm_i (mm_and (mm_wr (Int.tmod (mm_lmul (mm_ladd (mm_ladd (mm_lmul 7919 l3) (mm_lmul 6151 (h 63 2))) 1) (mm_ladd (mm_ladd (mm_lmul 7919 l3) (mm_lmul 6151 (h 63 2))) 1)) 65521)) l5), mm_i (mm_and (mm_and (mm_wr (Int.tdiv (mm_wr (Int.tmod (mm_lmul (mm_ladd (mm_ladd (mm_lmul 7919 l3) (mm_lmul 6151 (h 63 2))) 1) (mm_ladd (mm_ladd (mm_lmul 7919 l3) (mm_lmul 6151 (h 63 2))) 1)) 65521)) 32)) l5) (mm_xor (mm_and (mm_wr (Int.tmod (mm_lmul (mm_ladd (mm_ladd (mm_lmul 7919 l3) (mm_lmul 6151 (h 63 2))) 1) (mm_ladd (mm_ladd (mm_lmul 7919 l3) (mm_lmul 6151 (h 63 2))) 1)) 65521)) l5) (-1))), mm_u, mm_u] [] h).bind fun q => ex 2 95 [mm_r 62, mm_r v, mm_r e, mm_i l3, mm_i l4, mm_i l5, mm_i l6, mm_j (mm_ladd (mm_ladd (mm_lmul 7919 l3) (mm_lmul 6151 (h 63 2))) 1), mm_u, mm_i (mm_wr (Int.tmod (mm_lmul (mm_ladd (mm_ladd (mm_lmul 7919 l3) (mm_lmul 6151 (h 63 2))) 1) (mm_ladd (mm_ladd (mm_lmul 7919 l3) (mm_lmul 6151 (h 63 2))) 1)) 65521)), mm_i (mm_and (mm_wr (Int.tmod (mm_lmul (mm_ladd (mm_ladd (mm_lmul 7919 l3) (mm_lmul 6151 (h 63 2))) 1) (mm_ladd (mm_ladd (mm_lmul 7919 l3) (mm_lmul 6151 (h 63 2))) 1)) 65521)) l5), mm_i (mm_and (mm_and (mm_wr (Int.tdiv (mm_wr (Int.tmod (mm_lmul (mm_ladd (mm_ladd (mm_lmul 7919 l3) (mm_lmul 6151 (h 63 2))) 1) (mm_ladd (mm_ladd (mm_lmul 7919 l3) (mm_lmul 6151 (h 63 2))) 1)) 65521)) 32)) l5) (mm_xor (mm_and (mm_wr (Int.tmod (mm_lmul (mm_ladd (mm_ladd (mm_lmul 7919 l3) (mm_lmul 6151 (h 63 2))) 1) (mm_ladd (mm_ladd (mm_lmul 7919 l3) (mm_lmul 6151 (h 63 2))) 1)) 65521)) l5) (-1)))] (q.1.toList ++ []) q.2) else (some (some (mm_r 63), h))) := by
  rcases hv with rfl | rfl <;> subst he <;> exact (congrFun (congrFun (congrFun (mm_ev_fw hShX st_X0_drawn 2 300 19) _) _) _).trans rfl
set_option maxRecDepth 100000 in
theorem sg_X0_drawn_95 {v : Nat} {e : Nat} (hv : v = 5 ∨ v = 15) (he : e = 25) (l3 : Int) (l4 : Int) (l5 : Int) (l6 : Int) (l7 : Int) (l9 : Int) (l10 : Int) (l11 : Int) (h : mm_H) : ex 2 95 [mm_r 62, mm_r v, mm_r e, mm_i l3, mm_i l4, mm_i l5, mm_i l6, mm_j l7, mm_u, mm_i l9, mm_i l10, mm_i l11] [] h = (ex 2 19 [mm_r 62, mm_r v, mm_r e, mm_i l3, mm_i l4, mm_i l5, mm_i (mm_wr (l6 + 1)), mm_j l7, mm_u, mm_i l9, mm_i l10, mm_i l11] [] h) := by
  rcases hv with rfl | rfl <;> subst he <;> exact (congrFun (congrFun (congrFun (mm_ev_fw hShX st_X0_drawn 2 300 95) _) _) _).trans rfl
def st_X1_spread : Nat → Bool := fun p => Nat.beq p 8 || Nat.beq p 17 || Nat.beq p 26
set_option maxRecDepth 100000 in
theorem sg_X1_spread_0   (a1 : Int) (a2 : Int) (h : mm_H) : ex 3 0 [mm_r 85, mm_i a1, mm_i a2, mm_u, mm_u] [] h = ((ex 103 0 [mm_r 86, mm_i 0, mm_u, mm_u] [] h).bind fun q => ex 3 8 [mm_r 85, mm_i a1, mm_i a2, mm_u, mm_u] (q.1.toList ++ []) q.2) := (congrFun (congrFun (congrFun (mm_ev_fw hShX st_X1_spread 3 300 0) _) _) _).trans rfl
set_option maxRecDepth 100000 in
theorem sg_X1_spread_8   (l1 : Int) (l2 : Int) (h : mm_H) : ex 3 8 [mm_r 85, mm_i l1, mm_i l2, mm_u, mm_u] [] h = (ex 3 17 [mm_r 85, mm_i l1, mm_i l2, mm_i 0, mm_u] [] (mm_st h 86 0 1)) := (congrFun (congrFun (congrFun (mm_ev_fw hShX st_X1_spread 3 300 8) _) _) _).trans rfl
set_option maxRecDepth 100000 in
theorem sg_X1_spread_17   (l1 : Int) (l2 : Int) (l3 : Int) (l4 : mm_V) (h : mm_H) : ex 3 17 [mm_r 85, mm_i l1, mm_i l2, mm_i l3, l4] [] h = (if l3 < l1 then (ex 3 26 [mm_r 85, mm_i l1, mm_i l2, mm_i l3, mm_i 6] [] h) else (some (none, h))) := (congrFun (congrFun (congrFun (mm_ev_fw hShX st_X1_spread 3 300 17) _) _) _).trans rfl
set_option maxRecDepth 100000 in
theorem sg_X1_spread_26   (l1 : Int) (l2 : Int) (l3 : Int) (l4 : Int) (h : mm_H) : ex 3 26 [mm_r 85, mm_i l1, mm_i l2, mm_i l3, mm_i l4] [] h = (if 0 < l4 then (if 0 ≤ l4 ∧ l4 < 7 then (if 0 ≤ (mm_sub l4 1) ∧ (mm_sub l4 1) < 7 then (if 0 ≤ l4 ∧ l4 < 7 then (ex 3 26 [mm_r 85, mm_i l1, mm_i l2, mm_i l3, mm_i (mm_wr (l4 + (-1)))] [] (mm_st h 86 l4.toNat (mm_add (mm_mul (h 86 l4.toNat) (mm_sub 10 l2)) (mm_mul (h 86 (mm_sub l4 1).toNat) l2)))) else none) else none) else none) else (ex 3 17 [mm_r 85, mm_i l1, mm_i l2, mm_i (mm_wr (l3 + 1)), mm_i l4] [] (mm_st h 86 0 (mm_mul (h 86 0) (mm_sub 10 l2))))) := (congrFun (congrFun (congrFun (mm_ev_fw hShX st_X1_spread 3 300 26) _) _) _).trans rfl
def st_X1_waysToLight : Nat → Bool := fun p => Nat.beq p 6 || Nat.beq p 26 || Nat.beq p 29 || Nat.beq p 45 || Nat.beq p 51
set_option maxRecDepth 100000 in
theorem sg_X1_waysToLight_0   (a1 : Int) (a2 : Int) (a3 : Int) (h : mm_H) : ex 4 0 [mm_r 85, mm_i a1, mm_i a2, mm_i a3, mm_u, mm_u] [] h = (ex 4 6 [mm_r 85, mm_i a1, mm_i a2, mm_i a3, mm_i 0, mm_i 0] [] h) := (congrFun (congrFun (congrFun (mm_ev_fw hShX st_X1_waysToLight 4 300 0) _) _) _).trans rfl
set_option maxRecDepth 100000 in
theorem sg_X1_waysToLight_6   (l1 : Int) (l2 : Int) (l3 : Int) (l4 : Int) (l5 : Int) (h : mm_H) : ex 4 6 [mm_r 85, mm_i l1, mm_i l2, mm_i l3, mm_i l4, mm_i l5] [] h = (if l2 < l5 then (ex 4 51 [mm_r 85, mm_i l1, mm_i l2, mm_i l3, mm_i l4, mm_i l5] [] h) else (if 6 < l5 then (ex 4 51 [mm_r 85, mm_i l1, mm_i l2, mm_i l3, mm_i l4, mm_i l5] [] h) else ((ex 98 0 [mm_i (mm_sub l1 l5)] [] h).bind fun q => ex 4 26 [mm_r 85, mm_i l1, mm_i l2, mm_i l3, mm_i l4, mm_i l5] (q.1.toList ++ []) q.2))) := (congrFun (congrFun (congrFun (mm_ev_fw hShX st_X1_waysToLight 4 300 6) _) _) _).trans rfl
set_option maxRecDepth 100000 in
theorem sg_X1_waysToLight_26   (l1 : Int) (l2 : Int) (l3 : Int) (l4 : Int) (l5 : Int) (s0 : Int) (h : mm_H) : ex 4 26 [mm_r 85, mm_i l1, mm_i l2, mm_i l3, mm_i l4, mm_i l5] [mm_i s0] h = ((ex 99 0 [mm_i s0] [] h).bind fun q => ex 4 29 [mm_r 85, mm_i l1, mm_i l2, mm_i l3, mm_i l4, mm_i l5] (q.1.toList ++ []) q.2) := (congrFun (congrFun (congrFun (mm_ev_fw hShX st_X1_waysToLight 4 300 26) _) _) _).trans rfl
set_option maxRecDepth 100000 in
theorem sg_X1_waysToLight_29   (l1 : Int) (l2 : Int) (l3 : Int) (l4 : Int) (l5 : Int) (s0 : Int) (h : mm_H) : ex 4 29 [mm_r 85, mm_i l1, mm_i l2, mm_i l3, mm_i l4, mm_i l5] [mm_i s0] h = (if s0 = l3 then (if 0 ≤ l5 ∧ l5 < 7 then (ex 4 45 [mm_r 85, mm_i l1, mm_i l2, mm_i l3, mm_i (mm_add l4 (h 86 l5.toNat)), mm_i l5] [] h) else none) else (ex 4 45 [mm_r 85, mm_i l1, mm_i l2, mm_i l3, mm_i l4, mm_i l5] [] h)) := (congrFun (congrFun (congrFun (mm_ev_fw hShX st_X1_waysToLight 4 300 29) _) _) _).trans rfl
set_option maxRecDepth 100000 in
theorem sg_X1_waysToLight_45   (l1 : Int) (l2 : Int) (l3 : Int) (l4 : Int) (l5 : Int) (h : mm_H) : ex 4 45 [mm_r 85, mm_i l1, mm_i l2, mm_i l3, mm_i l4, mm_i l5] [] h = (ex 4 6 [mm_r 85, mm_i l1, mm_i l2, mm_i l3, mm_i l4, mm_i (mm_wr (l5 + 1))] [] h) := (congrFun (congrFun (congrFun (mm_ev_fw hShX st_X1_waysToLight 4 300 45) _) _) _).trans rfl
set_option maxRecDepth 100000 in
theorem sg_X1_waysToLight_51   (l1 : Int) (l2 : Int) (l3 : Int) (l4 : Int) (l5 : Int) (h : mm_H) : ex 4 51 [mm_r 85, mm_i l1, mm_i l2, mm_i l3, mm_i l4, mm_i l5] [] h = (some (some (mm_i l4), h)) := (congrFun (congrFun (congrFun (mm_ev_fw hShX st_X1_waysToLight 4 300 51) _) _) _).trans rfl
def st_X1_allWays : Nat → Bool := fun p => Nat.beq p 4 || Nat.beq p 26
set_option maxRecDepth 100000 in
theorem sg_X1_allWays_0   (a1 : Int) (h : mm_H) : ex 5 0 [mm_r 85, mm_i a1, mm_u, mm_u] [] h = (ex 5 4 [mm_r 85, mm_i a1, mm_i 1, mm_i 0] [] h) := (congrFun (congrFun (congrFun (mm_ev_fw hShX st_X1_allWays 5 300 0) _) _) _).trans rfl
set_option maxRecDepth 100000 in
theorem sg_X1_allWays_4   (l1 : Int) (l2 : Int) (l3 : Int) (h : mm_H) : ex 5 4 [mm_r 85, mm_i l1, mm_i l2, mm_i l3] [] h = (if l3 < l1 then (if l3 < 6 then (ex 5 4 [mm_r 85, mm_i l1, mm_i (mm_mul l2 10), mm_i (mm_wr (l3 + 1))] [] h) else (ex 5 26 [mm_r 85, mm_i l1, mm_i l2, mm_i l3] [] h)) else (ex 5 26 [mm_r 85, mm_i l1, mm_i l2, mm_i l3] [] h)) := (congrFun (congrFun (congrFun (mm_ev_fw hShX st_X1_allWays 5 300 4) _) _) _).trans rfl
set_option maxRecDepth 100000 in
theorem sg_X1_allWays_26   (l1 : Int) (l2 : Int) (l3 : Int) (h : mm_H) : ex 5 26 [mm_r 85, mm_i l1, mm_i l2, mm_i l3] [] h = (some (some (mm_i l2), h)) := (congrFun (congrFun (congrFun (mm_ev_fw hShX st_X1_allWays 5 300 26) _) _) _).trans rfl
def st_X2_size : Nat → Bool := fun p => false
set_option maxRecDepth 100000 in
theorem sg_X2_size_0    (h : mm_H) : ex 6 0 [mm_r 79] [] h = (some (some (mm_i (h 79 2)), h)) := (congrFun (congrFun (congrFun (mm_ev_fw hShX st_X2_size 6 300 0) _) _) _).trans rfl
def st_X2_isFull : Nat → Bool := fun p => Nat.beq p 14
set_option maxRecDepth 100000 in
theorem sg_X2_isFull_0    (h : mm_H) : ex 7 0 [mm_r 79] [] h = (if (h 79 2) < 8 then (ex 7 14 [mm_r 79] [mm_i 0] h) else (ex 7 14 [mm_r 79] [mm_i 1] h)) := (congrFun (congrFun (congrFun (mm_ev_fw hShX st_X2_isFull 7 300 0) _) _) _).trans rfl
set_option maxRecDepth 100000 in
theorem sg_X2_isFull_14   (s0 : Int) (h : mm_H) : ex 7 14 [mm_r 79] [mm_i s0] h = (if s0 = 0 ∨ s0 = 1 then some (some (mm_i s0), h) else none) := (congrFun (congrFun (congrFun (mm_ev_fw hShX st_X2_isFull 7 300 14) _) _) _).trans rfl
def st_X2_clear : Nat → Bool := fun p => false
set_option maxRecDepth 100000 in
theorem sg_X2_clear_0    (h : mm_H) : ex 8 0 [mm_r 79] [] h = (some (none, (mm_st h 79 2 0))) := (congrFun (congrFun (congrFun (mm_ev_fw hShX st_X2_clear 8 300 0) _) _) _).trans rfl
def st_X2_add : Nat → Bool := fun p => Nat.beq p 39
set_option maxRecDepth 100000 in
theorem sg_X2_add_0   (a1 : Int) (a2 : Int) (h : mm_H) : ex 9 0 [mm_r 79, mm_i a1, mm_i a2] [] h = (if (h 79 2) < 8 then (if 0 ≤ (h 79 2) ∧ (h 79 2) < 8 then (if 0 ≤ ((mm_st h 80 (h 79 2).toNat a1) 79 2) ∧ ((mm_st h 80 (h 79 2).toNat a1) 79 2) < 8 then (ex 9 39 [mm_r 79, mm_i a1, mm_i a2] [] (mm_st (mm_st (mm_st h 80 (h 79 2).toNat a1) 81 ((mm_st h 80 (h 79 2).toNat a1) 79 2).toNat a2) 79 2 (mm_add ((mm_st (mm_st h 80 (h 79 2).toNat a1) 81 ((mm_st h 80 (h 79 2).toNat a1) 79 2).toNat a2) 79 2) 1))) else none) else none) else (ex 9 39 [mm_r 79, mm_i a1, mm_i a2] [] h)) := (congrFun (congrFun (congrFun (mm_ev_fw hShX st_X2_add 9 300 0) _) _) _).trans rfl
set_option maxRecDepth 100000 in
theorem sg_X2_add_39   (l1 : Int) (l2 : Int) (h : mm_H) : ex 9 39 [mm_r 79, mm_i l1, mm_i l2] [] h = (some (none, h)) := (congrFun (congrFun (congrFun (mm_ev_fw hShX st_X2_add 9 300 39) _) _) _).trans rfl
def st_X2_findFitting : Nat → Bool := fun p => Nat.beq p 7 || Nat.beq p 24 || Nat.beq p 29 || Nat.beq p 52
set_option maxRecDepth 100000 in
theorem sg_X2_findFitting_0 {v : Nat} {t : Nat} (hv : v = 5 ∨ v = 15) (ht : t = 26 ∨ t = 64 ∨ t = 69 ∨ t = 83)  (h : mm_H) : ex 10 0 [mm_r 79, mm_r v, mm_r t, mm_u] [] h = (ex 10 7 [mm_r 79, mm_r v, mm_r t, mm_i 0] [] (mm_st h 79 4 0)) := by
  rcases hv with rfl | rfl <;> rcases ht with rfl | rfl | rfl | rfl <;> exact (congrFun (congrFun (congrFun (mm_ev_fw hShX st_X2_findFitting 10 300 0) _) _) _).trans rfl
set_option maxRecDepth 100000 in
theorem sg_X2_findFitting_7 {v : Nat} {t : Nat} (hv : v = 5 ∨ v = 15) (ht : t = 26 ∨ t = 64 ∨ t = 69 ∨ t = 83) (l3 : Int) (h : mm_H) : ex 10 7 [mm_r 79, mm_r v, mm_r t, mm_i l3] [] h = (if l3 < (mm_mul (h v 0) 10) then ((ex 12 0 [mm_r 79, mm_r t, mm_i l3, mm_u] [] h).bind fun q => ex 10 24 [mm_r 79, mm_r v, mm_r t, mm_i l3] (q.1.toList ++ []) q.2) else (some (none, h))) := by
  rcases hv with rfl | rfl <;> rcases ht with rfl | rfl | rfl | rfl <;> exact (congrFun (congrFun (congrFun (mm_ev_fw hShX st_X2_findFitting 10 300 7) _) _) _).trans rfl
set_option maxRecDepth 100000 in
theorem sg_X2_findFitting_24 {v : Nat} {t : Nat} (hv : v = 5 ∨ v = 15) (ht : t = 26 ∨ t = 64 ∨ t = 69 ∨ t = 83) (l3 : Int) (h : mm_H) : ex 10 24 [mm_r 79, mm_r v, mm_r t, mm_i l3] [] h = ((ex 13 0 [mm_r 79, mm_r v, mm_u] [] h).bind fun q => ex 10 29 [mm_r 79, mm_r v, mm_r t, mm_i l3] (q.1.toList ++ []) q.2) := by
  rcases hv with rfl | rfl <;> rcases ht with rfl | rfl | rfl | rfl <;> exact (congrFun (congrFun (congrFun (mm_ev_fw hShX st_X2_findFitting 10 300 24) _) _) _).trans rfl
set_option maxRecDepth 100000 in
theorem sg_X2_findFitting_29 {v : Nat} {t : Nat} (hv : v = 5 ∨ v = 15) (ht : t = 26 ∨ t = 64 ∨ t = 69 ∨ t = 83) (l3 : Int) (s0 : Int) (h : mm_H) : ex 10 29 [mm_r 79, mm_r v, mm_r t, mm_i l3] [mm_i s0] h = (if s0 = 0 then (ex 10 52 [mm_r 79, mm_r v, mm_r t, mm_i l3] [] h) else (if 0 ≤ (h 79 4) ∧ (h 79 4) < 50 then (ex 10 52 [mm_r 79, mm_r v, mm_r t, mm_i l3] [] (mm_st (mm_st h 82 (h 79 4).toNat l3) 79 4 (mm_add ((mm_st h 82 (h 79 4).toNat l3) 79 4) 1))) else none)) := by
  rcases hv with rfl | rfl <;> rcases ht with rfl | rfl | rfl | rfl <;> exact (congrFun (congrFun (congrFun (mm_ev_fw hShX st_X2_findFitting 10 300 29) _) _) _).trans rfl
set_option maxRecDepth 100000 in
theorem sg_X2_findFitting_52 {v : Nat} {t : Nat} (hv : v = 5 ∨ v = 15) (ht : t = 26 ∨ t = 64 ∨ t = 69 ∨ t = 83) (l3 : Int) (h : mm_H) : ex 10 52 [mm_r 79, mm_r v, mm_r t, mm_i l3] [] h = (ex 10 7 [mm_r 79, mm_r v, mm_r t, mm_i (mm_wr (l3 + 1))] [] h) := by
  rcases hv with rfl | rfl <;> rcases ht with rfl | rfl | rfl | rfl <;> exact (congrFun (congrFun (congrFun (mm_ev_fw hShX st_X2_findFitting 10 300 52) _) _) _).trans rfl
def st_X2_mostAlike : Nat → Bool := fun p => Nat.beq p 8 || Nat.beq p 14 || Nat.beq p 35 || Nat.beq p 44 || Nat.beq p 47
set_option maxRecDepth 100000 in
theorem sg_X2_mostAlike_0 {v : Nat} {t : Nat} (hv : v = 5 ∨ v = 15) (ht : t = 26 ∨ t = 64 ∨ t = 69 ∨ t = 83) (a3 : Int) (h : mm_H) : ex 11 0 [mm_r 79, mm_r v, mm_r t, mm_i a3, mm_u, mm_u, mm_u] [] h = ((ex 103 0 [mm_r 84, mm_i 0, mm_u, mm_u] [] h).bind fun q => ex 11 8 [mm_r 79, mm_r v, mm_r t, mm_i a3, mm_u, mm_u, mm_u] (q.1.toList ++ []) q.2) := by
  rcases hv with rfl | rfl <;> rcases ht with rfl | rfl | rfl | rfl <;> exact (congrFun (congrFun (congrFun (mm_ev_fw hShX st_X2_mostAlike 11 300 0) _) _) _).trans rfl
set_option maxRecDepth 100000 in
theorem sg_X2_mostAlike_8 {v : Nat} {t : Nat} (hv : v = 5 ∨ v = 15) (ht : t = 26 ∨ t = 64 ∨ t = 69 ∨ t = 83) (l3 : Int) (h : mm_H) : ex 11 8 [mm_r 79, mm_r v, mm_r t, mm_i l3, mm_u, mm_u, mm_u] [] h = (ex 11 14 [mm_r 79, mm_r v, mm_r t, mm_i l3, mm_i 0, mm_i 0, mm_u] [] h) := by
  rcases hv with rfl | rfl <;> rcases ht with rfl | rfl | rfl | rfl <;> exact (congrFun (congrFun (congrFun (mm_ev_fw hShX st_X2_mostAlike 11 300 8) _) _) _).trans rfl
set_option maxRecDepth 100000 in
theorem sg_X2_mostAlike_14 {v : Nat} {t : Nat} (hv : v = 5 ∨ v = 15) (ht : t = 26 ∨ t = 64 ∨ t = 69 ∨ t = 83) (l3 : Int) (l4 : Int) (l5 : Int) (l6 : mm_V) (h : mm_H) : ex 11 14 [mm_r 79, mm_r v, mm_r t, mm_i l3, mm_i l4, mm_i l5, l6] [] h = (if l5 < (h 79 4) then (if 0 ≤ l5 ∧ l5 < 50 then ((ex 12 0 [mm_r 79, mm_r t, mm_i (h 82 l5.toNat), mm_u] [] h).bind fun q => ex 11 35 [mm_r 79, mm_r v, mm_r t, mm_i l3, mm_i l4, mm_i l5, l6] (q.1.toList ++ []) q.2) else none) else (some (some (mm_i l4), h))) := by
  rcases hv with rfl | rfl <;> rcases ht with rfl | rfl | rfl | rfl <;> exact (congrFun (congrFun (congrFun (mm_ev_fw hShX st_X2_mostAlike 11 300 14) _) _) _).trans rfl
set_option maxRecDepth 100000 in
theorem sg_X2_mostAlike_35 {v : Nat} {t : Nat} (hv : v = 5 ∨ v = 15) (ht : t = 26 ∨ t = 64 ∨ t = 69 ∨ t = 83) (l3 : Int) (l4 : Int) (l5 : Int) (l6 : mm_V) (h : mm_H) : ex 11 35 [mm_r 79, mm_r v, mm_r t, mm_i l3, mm_i l4, mm_i l5, l6] [] h = ((ex 61 0 [mm_r v, mm_r 83, mm_i l3, mm_u, mm_u, mm_u] [] h).bind fun q => ex 11 44 [mm_r 79, mm_r v, mm_r t, mm_i l3, mm_i l4, mm_i l5, l6] (q.1.toList ++ []) q.2) := by
  rcases hv with rfl | rfl <;> rcases ht with rfl | rfl | rfl | rfl <;> exact (congrFun (congrFun (congrFun (mm_ev_fw hShX st_X2_mostAlike 11 300 35) _) _) _).trans rfl
set_option maxRecDepth 100000 in
theorem sg_X2_mostAlike_44 {v : Nat} {t : Nat} (hv : v = 5 ∨ v = 15) (ht : t = 26 ∨ t = 64 ∨ t = 69 ∨ t = 83) (l3 : Int) (l4 : Int) (l5 : Int) (l6 : mm_V) (s0 : Int) (h : mm_H) : ex 11 44 [mm_r 79, mm_r v, mm_r t, mm_i l3, mm_i l4, mm_i l5, l6] [mm_i s0] h = ((ex 98 0 [mm_i s0] [] h).bind fun q => ex 11 47 [mm_r 79, mm_r v, mm_r t, mm_i l3, mm_i l4, mm_i l5, l6] (q.1.toList ++ []) q.2) := by
  rcases hv with rfl | rfl <;> rcases ht with rfl | rfl | rfl | rfl <;> exact (congrFun (congrFun (congrFun (mm_ev_fw hShX st_X2_mostAlike 11 300 44) _) _) _).trans rfl
set_option maxRecDepth 100000 in
theorem sg_X2_mostAlike_47 {v : Nat} {t : Nat} (hv : v = 5 ∨ v = 15) (ht : t = 26 ∨ t = 64 ∨ t = 69 ∨ t = 83) (l3 : Int) (l4 : Int) (l5 : Int) (l6 : mm_V) (s0 : Int) (h : mm_H) : ex 11 47 [mm_r 79, mm_r v, mm_r t, mm_i l3, mm_i l4, mm_i l5, l6] [mm_i s0] h = (if 0 ≤ s0 ∧ s0 < 41 then (if 0 ≤ s0 ∧ s0 < 41 then (if 0 ≤ s0 ∧ s0 < 41 then (ex 11 14 [mm_r 79, mm_r v, mm_r t, mm_i l3, mm_i (if l4 < ((mm_st h 84 s0.toNat (mm_add (h 84 s0.toNat) 1)) 84 s0.toNat) then ((mm_st h 84 s0.toNat (mm_add (h 84 s0.toNat) 1)) 84 s0.toNat) else l4), mm_i (mm_wr (l5 + 1)), mm_i s0] [] (mm_st h 84 s0.toNat (mm_add (h 84 s0.toNat) 1))) else none) else none) else none) := by
  rcases hv with rfl | rfl <;> rcases ht with rfl | rfl | rfl | rfl <;> exact (congrFun (congrFun (congrFun (mm_ev_fw hShX st_X2_mostAlike 11 300 47) _) _) _).trans rfl
def st_X2_slip : Nat → Bool := fun p => Nat.beq p 32
set_option maxRecDepth 100000 in
theorem sg_X2_slip_0 {t : Nat} (ht : t = 26 ∨ t = 64 ∨ t = 69 ∨ t = 83) (a2 : Int) (h : mm_H) : ex 12 0 [mm_r 79, mm_r t, mm_i a2, mm_u] [] h = (if 0 ≤ (mm_wr (Int.tdiv a2 10)) ∧ (mm_wr (Int.tdiv a2 10)) < 5 then ((ex 98 0 [mm_i (mm_add ((mm_up h 83 (mm_cp (h t) (h 83) 0 0 5)) t (mm_wr (Int.tdiv a2 10)).toNat) (Int.tmod a2 10))] [] (mm_up h 83 (mm_cp (h t) (h 83) 0 0 5))).bind fun q => ex 12 32 [mm_r 79, mm_r t, mm_i a2, mm_i (mm_wr (Int.tdiv a2 10))] (q.1.toList ++ [mm_i (mm_wr (Int.tdiv a2 10)), mm_r 83]) q.2) else none) := by
  rcases ht with rfl | rfl | rfl | rfl <;> exact (congrFun (congrFun (congrFun (mm_ev_fw hShX st_X2_slip 12 300 0) _) _) _).trans rfl
set_option maxRecDepth 100000 in
theorem sg_X2_slip_32 {t : Nat} (ht : t = 26 ∨ t = 64 ∨ t = 69 ∨ t = 83) (l2 : Int) (l3 : Int) (s0 : Int) (s1 : Int) (h : mm_H) : ex 12 32 [mm_r 79, mm_r t, mm_i l2, mm_i l3] [mm_i s0, mm_i s1, mm_r 83] h = (if 0 ≤ s1 ∧ s1 < 5 then (some (none, (mm_st h 83 s1.toNat s0))) else none) := by
  rcases ht with rfl | rfl | rfl | rfl <;> exact (congrFun (congrFun (congrFun (mm_ev_fw hShX st_X2_slip 12 300 32) _) _) _).trans rfl
def st_X2_fits : Nat → Bool := fun p => Nat.beq p 2 || Nat.beq p 24
set_option maxRecDepth 100000 in
theorem sg_X2_fits_0 {v : Nat} (hv : v = 5 ∨ v = 15)  (h : mm_H) : ex 13 0 [mm_r 79, mm_r v, mm_u] [] h = (ex 13 2 [mm_r 79, mm_r v, mm_i 0] [] h) := by
  rcases hv with rfl | rfl <;> exact (congrFun (congrFun (congrFun (mm_ev_fw hShX st_X2_fits 13 300 0) _) _) _).trans rfl
set_option maxRecDepth 100000 in
theorem sg_X2_fits_2 {v : Nat} (hv : v = 5 ∨ v = 15) (l2 : Int) (h : mm_H) : ex 13 2 [mm_r 79, mm_r v, mm_i l2] [] h = (if l2 < (h 79 2) then (if 0 ≤ l2 ∧ l2 < 8 then ((ex 61 0 [mm_r v, mm_r 83, mm_i (h 80 l2.toNat), mm_u, mm_u, mm_u] [] h).bind fun q => ex 13 24 [mm_r 79, mm_r v, mm_i l2] (q.1.toList ++ []) q.2) else none) else (some (some (mm_i 1), h))) := by
  rcases hv with rfl | rfl <;> exact (congrFun (congrFun (congrFun (mm_ev_fw hShX st_X2_fits 13 300 2) _) _) _).trans rfl
set_option maxRecDepth 100000 in
theorem sg_X2_fits_24 {v : Nat} (hv : v = 5 ∨ v = 15) (l2 : Int) (s0 : Int) (h : mm_H) : ex 13 24 [mm_r 79, mm_r v, mm_i l2] [mm_i s0] h = (if 0 ≤ l2 ∧ l2 < 8 then (if s0 = (h 81 l2.toNat) then (ex 13 2 [mm_r 79, mm_r v, mm_i (mm_wr (l2 + 1))] [] h) else (some (some (mm_i 0), h))) else none) := by
  rcases hv with rfl | rfl <;> exact (congrFun (congrFun (congrFun (mm_ev_fw hShX st_X2_fits 13 300 24) _) _) _).trans rfl
def st_X3_begin : Nat → Bool := fun p => Nat.beq p 2
set_option maxRecDepth 100000 in
theorem sg_X3_begin_0 {d : Nat} {v : Nat} (hd : d = 25) (hv : v = 5 ∨ v = 15)  (h : mm_H) : ex 14 0 [mm_r d, mm_r v, mm_u] [] h = (ex 14 2 [mm_r d, mm_r v, mm_i 0] [] h) := by
  subst hd <;> rcases hv with rfl | rfl <;> exact (congrFun (congrFun (congrFun (mm_ev_fw hShX st_X3_begin 14 300 0) _) _) _).trans rfl
set_option maxRecDepth 100000 in
theorem sg_X3_begin_2 {d : Nat} {v : Nat} (hd : d = 25) (hv : v = 5 ∨ v = 15) (l2 : Int) (h : mm_H) : ex 14 2 [mm_r d, mm_r v, mm_i l2] [] h = (if l2 < 5 then (if 0 ≤ l2 ∧ l2 < 5 then (if 0 ≤ l2 ∧ l2 < 5 then (if 0 ≤ l2 ∧ l2 < 5 then (if 0 ≤ l2 ∧ l2 < 5 then (ex 14 2 [mm_r d, mm_r v, mm_i (mm_wr (l2 + 1))] [] (mm_st (mm_st h (d + 1) l2.toNat (h (v + 4) l2.toNat)) (d + 2) l2.toNat ((mm_st h (d + 1) l2.toNat (h (v + 4) l2.toNat)) (v + 3) l2.toNat))) else none) else none) else none) else none) else (some (none, (mm_st (mm_st h d 2 0) d 3 0)))) := by
  subst hd <;> rcases hv with rfl | rfl <;> exact (congrFun (congrFun (congrFun (mm_ev_fw hShX st_X3_begin 14 300 2) _) _) _).trans rfl
def st_X3_become : Nat → Bool := fun p => Nat.beq p 2
set_option maxRecDepth 100000 in
theorem sg_X3_become_0 {d : Nat} {e : Nat} (hp : (d = 63 ∧ e = 25) ∨ (d = 30 ∧ e = 25) ∨ (d = 33 ∧ e = 25) ∨ (d = 36 ∧ e = 25) ∨ (d = 39 ∧ e = 25) ∨ (d = 42 ∧ e = 25) ∨ (d = 45 ∧ e = 25) ∨ (d = 48 ∧ e = 25) ∨ (d = 51 ∧ e = 25) ∨ (d = 56 ∧ e = 25) ∨ (d = 59 ∧ e = 25) ∨ (d = 25 ∧ e = 30) ∨ (d = 25 ∧ e = 33) ∨ (d = 25 ∧ e = 36) ∨ (d = 25 ∧ e = 39) ∨ (d = 25 ∧ e = 42) ∨ (d = 25 ∧ e = 45) ∨ (d = 25 ∧ e = 48) ∨ (d = 25 ∧ e = 51) ∨ (d = 25 ∧ e = 56) ∨ (d = 25 ∧ e = 59))  (h : mm_H) : ex 15 0 [mm_r d, mm_r e, mm_u] [] h = (ex 15 2 [mm_r d, mm_r e, mm_i 0] [] h) := by
  rcases hp with ⟨rfl, rfl⟩ | ⟨rfl, rfl⟩ | ⟨rfl, rfl⟩ | ⟨rfl, rfl⟩ | ⟨rfl, rfl⟩ | ⟨rfl, rfl⟩ | ⟨rfl, rfl⟩ | ⟨rfl, rfl⟩ | ⟨rfl, rfl⟩ | ⟨rfl, rfl⟩ | ⟨rfl, rfl⟩ | ⟨rfl, rfl⟩ | ⟨rfl, rfl⟩ | ⟨rfl, rfl⟩ | ⟨rfl, rfl⟩ | ⟨rfl, rfl⟩ | ⟨rfl, rfl⟩ | ⟨rfl, rfl⟩ | ⟨rfl, rfl⟩ | ⟨rfl, rfl⟩ | ⟨rfl, rfl⟩ <;> exact (congrFun (congrFun (congrFun (mm_ev_fw hShX st_X3_become 15 300 0) _) _) _).trans rfl
set_option maxRecDepth 100000 in
theorem sg_X3_become_2 {d : Nat} {e : Nat} (hp : (d = 63 ∧ e = 25) ∨ (d = 30 ∧ e = 25) ∨ (d = 33 ∧ e = 25) ∨ (d = 36 ∧ e = 25) ∨ (d = 39 ∧ e = 25) ∨ (d = 42 ∧ e = 25) ∨ (d = 45 ∧ e = 25) ∨ (d = 48 ∧ e = 25) ∨ (d = 51 ∧ e = 25) ∨ (d = 56 ∧ e = 25) ∨ (d = 59 ∧ e = 25) ∨ (d = 25 ∧ e = 30) ∨ (d = 25 ∧ e = 33) ∨ (d = 25 ∧ e = 36) ∨ (d = 25 ∧ e = 39) ∨ (d = 25 ∧ e = 42) ∨ (d = 25 ∧ e = 45) ∨ (d = 25 ∧ e = 48) ∨ (d = 25 ∧ e = 51) ∨ (d = 25 ∧ e = 56) ∨ (d = 25 ∧ e = 59)) (l2 : Int) (h : mm_H) : ex 15 2 [mm_r d, mm_r e, mm_i l2] [] h = (if l2 < 5 then (if 0 ≤ l2 ∧ l2 < 5 then (if 0 ≤ l2 ∧ l2 < 5 then (if 0 ≤ l2 ∧ l2 < 5 then (if 0 ≤ l2 ∧ l2 < 5 then (ex 15 2 [mm_r d, mm_r e, mm_i (mm_wr (l2 + 1))] [] (mm_st (mm_st h (d + 1) l2.toNat (h (e + 1) l2.toNat)) (d + 2) l2.toNat ((mm_st h (d + 1) l2.toNat (h (e + 1) l2.toNat)) (e + 2) l2.toNat))) else none) else none) else none) else none) else (some (none, (mm_st (mm_st h d 2 (h e 2)) d 3 ((mm_st h d 2 (h e 2)) e 3))))) := by
  rcases hp with ⟨rfl, rfl⟩ | ⟨rfl, rfl⟩ | ⟨rfl, rfl⟩ | ⟨rfl, rfl⟩ | ⟨rfl, rfl⟩ | ⟨rfl, rfl⟩ | ⟨rfl, rfl⟩ | ⟨rfl, rfl⟩ | ⟨rfl, rfl⟩ | ⟨rfl, rfl⟩ | ⟨rfl, rfl⟩ | ⟨rfl, rfl⟩ | ⟨rfl, rfl⟩ | ⟨rfl, rfl⟩ | ⟨rfl, rfl⟩ | ⟨rfl, rfl⟩ | ⟨rfl, rfl⟩ | ⟨rfl, rfl⟩ | ⟨rfl, rfl⟩ | ⟨rfl, rfl⟩ | ⟨rfl, rfl⟩ <;> exact (congrFun (congrFun (congrFun (mm_ev_fw hShX st_X3_become 15 300 2) _) _) _).trans rfl
def st_X3_pass : Nat → Bool := fun p => Nat.beq p 3 || Nat.beq p 42 || Nat.beq p 78
set_option maxRecDepth 100000 in
theorem sg_X3_pass_0 {d : Nat} {v : Nat} (hd : d = 25 ∨ d = 63) (hv : v = 5 ∨ v = 15) (a2 : Int) (a3 : Int) (h : mm_H) : ex 16 0 [mm_r d, mm_r v, mm_i a2, mm_i a3, mm_u, mm_u] [] h = (ex 16 3 [mm_r d, mm_r v, mm_i a2, mm_i a3, mm_i 0, mm_u] [] h) := by
  rcases hd with rfl | rfl <;> rcases hv with rfl | rfl <;> exact (congrFun (congrFun (congrFun (mm_ev_fw hShX st_X3_pass 16 300 0) _) _) _).trans rfl
set_option maxRecDepth 100000 in
theorem sg_X3_pass_3 {d : Nat} {v : Nat} (hd : d = 25 ∨ d = 63) (hv : v = 5 ∨ v = 15) (l2 : Int) (l3 : Int) (l4 : Int) (l5 : mm_V) (h : mm_H) : ex 16 3 [mm_r d, mm_r v, mm_i l2, mm_i l3, mm_i l4, l5] [] h = (if l4 < (h v 0) then (if (mm_and (mm_shr l2 l4) 1) = 0 then (if (mm_and (mm_shr l3 l4) 1) = 0 then (ex 16 42 [mm_r d, mm_r v, mm_i l2, mm_i l3, mm_i l4, mm_i 0] [] h) else (ex 16 42 [mm_r d, mm_r v, mm_i l2, mm_i l3, mm_i l4, mm_i (-1)] [] h)) else (ex 16 42 [mm_r d, mm_r v, mm_i l2, mm_i l3, mm_i l4, mm_i 1] [] h)) else (some (none, (mm_st h d 2 (mm_add (h d 2) 1))))) := by
  rcases hd with rfl | rfl <;> rcases hv with rfl | rfl <;> exact (congrFun (congrFun (congrFun (mm_ev_fw hShX st_X3_pass 16 300 3) _) _) _).trans rfl
set_option maxRecDepth 100000 in
theorem sg_X3_pass_42 {d : Nat} {v : Nat} (hd : d = 25 ∨ d = 63) (hv : v = 5 ∨ v = 15) (l2 : Int) (l3 : Int) (l4 : Int) (l5 : Int) (h : mm_H) : ex 16 42 [mm_r d, mm_r v, mm_i l2, mm_i l3, mm_i l4, mm_i l5] [] h = (if 0 ≤ l4 ∧ l4 < 5 then (if 0 ≤ l4 ∧ l4 < 5 then (if 0 ≤ l4 ∧ l4 < 5 then ((ex 100 0 [mm_i (h (d + 1) l4.toNat), mm_i (h (v + 2) l4.toNat), mm_i (h (d + 2) l4.toNat), mm_i (h d 2), mm_i l5, mm_u, mm_u] [] h).bind fun q => ex 16 78 [mm_r d, mm_r v, mm_i l2, mm_i l3, mm_i l4, mm_i l5] (q.1.toList ++ [mm_i l4, mm_r (d + 1)]) q.2) else none) else none) else none) := by
  rcases hd with rfl | rfl <;> rcases hv with rfl | rfl <;> exact (congrFun (congrFun (congrFun (mm_ev_fw hShX st_X3_pass 16 300 42) _) _) _).trans rfl
set_option maxRecDepth 100000 in
theorem sg_X3_pass_78 {d : Nat} {v : Nat} (hd : d = 25 ∨ d = 63) (hv : v = 5 ∨ v = 15) (l2 : Int) (l3 : Int) (l4 : Int) (l5 : Int) (s0 : Int) (s1 : Int) (h : mm_H) : ex 16 78 [mm_r d, mm_r v, mm_i l2, mm_i l3, mm_i l4, mm_i l5] [mm_i s0, mm_i s1, mm_r (d + 1)] h = (if 0 ≤ s1 ∧ s1 < 5 then (ex 16 3 [mm_r d, mm_r v, mm_i l2, mm_i l3, mm_i (mm_wr (l4 + 1)), mm_i l5] [] (mm_st h (d + 1) s1.toNat s0)) else none) := by
  rcases hd with rfl | rfl <;> rcases hv with rfl | rfl <;> exact (congrFun (congrFun (congrFun (mm_ev_fw hShX st_X3_pass 16 300 78) _) _) _).trans rfl
def st_X3_passAllDown : Nat → Bool := fun p => Nat.beq p 6 || Nat.beq p 12
set_option maxRecDepth 100000 in
theorem sg_X3_passAllDown_0 {d : Nat} {v : Nat} (hd : d = 63) (hv : v = 5 ∨ v = 15)  (h : mm_H) : ex 17 0 [mm_r d, mm_r v] [] h = ((ex 58 0 [mm_r v] [] h).bind fun q => ex 17 6 [mm_r d, mm_r v] (q.1.toList ++ [mm_r v, mm_r d]) q.2) := by
  subst hd <;> rcases hv with rfl | rfl <;> exact (congrFun (congrFun (congrFun (mm_ev_fw hShX st_X3_passAllDown 17 300 0) _) _) _).trans rfl
set_option maxRecDepth 100000 in
theorem sg_X3_passAllDown_6 {d : Nat} {v : Nat} (hd : d = 63) (hv : v = 5 ∨ v = 15) (s0 : Int) (h : mm_H) : ex 17 6 [mm_r d, mm_r v] [mm_i s0, mm_r v, mm_r d] h = ((ex 16 0 [mm_r d, mm_r v, mm_i (mm_sub s0 1), mm_i 0, mm_u, mm_u] [] h).bind fun q => ex 17 12 [mm_r d, mm_r v] (q.1.toList ++ []) q.2) := by
  subst hd <;> rcases hv with rfl | rfl <;> exact (congrFun (congrFun (congrFun (mm_ev_fw hShX st_X3_passAllDown 17 300 6) _) _) _).trans rfl
set_option maxRecDepth 100000 in
theorem sg_X3_passAllDown_12 {d : Nat} {v : Nat} (hd : d = 63) (hv : v = 5 ∨ v = 15)  (h : mm_H) : ex 17 12 [mm_r d, mm_r v] [] h = (some (none, h)) := by
  subst hd <;> rcases hv with rfl | rfl <;> exact (congrFun (congrFun (congrFun (mm_ev_fw hShX st_X3_passAllDown 17 300 12) _) _) _).trans rfl
def st_X4_search : Nat → Bool := fun p => Nat.beq p 8 || Nat.beq p 19 || Nat.beq p 31 || Nat.beq p 46 || Nat.beq p 66
set_option maxRecDepth 100000 in
theorem sg_X4_search_0 {v : Nat} {e : Nat} (hv : v = 5 ∨ v = 15) (he : e = 25)  (h : mm_H) : ex 18 0 [mm_r 66, mm_r v, mm_r e, mm_u, mm_u] [] h = (ex 18 8 [mm_r 66, mm_r v, mm_r e, mm_i 0, mm_u] [] (mm_st h 66 0 (-4))) := by
  rcases hv with rfl | rfl <;> subst he <;> exact (congrFun (congrFun (congrFun (mm_ev_fw hShX st_X4_search 18 300 0) _) _) _).trans rfl
set_option maxRecDepth 100000 in
theorem sg_X4_search_8 {v : Nat} {e : Nat} (hv : v = 5 ∨ v = 15) (he : e = 25) (l3 : Int) (l4 : mm_V) (h : mm_H) : ex 18 8 [mm_r 66, mm_r v, mm_r e, mm_i l3, l4] [] h = (if l3 < (h v 0) then (ex 18 19 [mm_r 66, mm_r v, mm_r e, mm_i l3, mm_i 0] [] h) else ((ex 20 0 [mm_r 66, mm_r v, mm_i 0, mm_i 0, mm_u] [] h).bind fun q => ex 18 66 [mm_r 66, mm_r v, mm_r e, mm_i l3, l4] (q.1.toList ++ []) q.2)) := by
  rcases hv with rfl | rfl <;> subst he <;> exact (congrFun (congrFun (congrFun (mm_ev_fw hShX st_X4_search 18 300 8) _) _) _).trans rfl
set_option maxRecDepth 100000 in
theorem sg_X4_search_19 {v : Nat} {e : Nat} (hv : v = 5 ∨ v = 15) (he : e = 25) (l3 : Int) (l4 : Int) (h : mm_H) : ex 18 19 [mm_r 66, mm_r v, mm_r e, mm_i l3, mm_i l4] [] h = (if 4 < l4 then (ex 18 8 [mm_r 66, mm_r v, mm_r e, mm_i (mm_wr (l3 + 1)), mm_i l4] [] h) else (if 0 ≤ l3 ∧ l3 < 5 then (ex 18 31 [mm_r 66, mm_r v, mm_r e, mm_i l3, mm_i l4] [mm_r (71 + l3.toNat)] h) else none)) := by
  rcases hv with rfl | rfl <;> subst he <;> exact (congrFun (congrFun (congrFun (mm_ev_fw hShX st_X4_search 18 300 19) _) _) _).trans rfl
set_option maxRecDepth 100000 in
theorem sg_X4_search_31 {v : Nat} {e : Nat} {oi : Nat} (hv : v = 5 ∨ v = 15) (he : e = 25) (hoi : oi < 5) (l3 : Int) (l4 : Int) (h : mm_H) : ex 18 31 [mm_r 66, mm_r v, mm_r e, mm_i l3, mm_i l4] [mm_r (71 + oi)] h = (if 0 ≤ l3 ∧ l3 < 5 then ((ex 19 0 [mm_i (h (v + 2) l3.toNat), mm_r e, mm_i l3, mm_i l4, mm_u, mm_u] [] h).bind fun q => ex 18 46 [mm_r 66, mm_r v, mm_r e, mm_i l3, mm_i l4] (q.1.toList ++ [mm_i l4, mm_r (71 + oi)]) q.2) else none) := by
  rcases hv with rfl | rfl <;> subst he <;> rcases (show oi = 0 ∨ oi = 1 ∨ oi = 2 ∨ oi = 3 ∨ oi = 4 by omega) with rfl | rfl | rfl | rfl | rfl <;> exact (congrFun (congrFun (congrFun (mm_ev_fw hShX st_X4_search 18 300 31) _) _) _).trans rfl
set_option maxRecDepth 100000 in
theorem sg_X4_search_46 {v : Nat} {e : Nat} {oi : Nat} (hv : v = 5 ∨ v = 15) (he : e = 25) (hoi : oi < 5) (l3 : Int) (l4 : Int) (s0 : Int) (s1 : Int) (h : mm_H) : ex 18 46 [mm_r 66, mm_r v, mm_r e, mm_i l3, mm_i l4] [mm_i s0, mm_i s1, mm_r (71 + oi)] h = (if 0 ≤ s1 ∧ s1 < 5 then (ex 18 19 [mm_r 66, mm_r v, mm_r e, mm_i l3, mm_i (mm_wr (l4 + 1))] [] (mm_st h (71 + oi) s1.toNat s0)) else none) := by
  rcases hv with rfl | rfl <;> subst he <;> rcases (show oi = 0 ∨ oi = 1 ∨ oi = 2 ∨ oi = 3 ∨ oi = 4 by omega) with rfl | rfl | rfl | rfl | rfl <;> exact (congrFun (congrFun (congrFun (mm_ev_fw hShX st_X4_search 18 300 46) _) _) _).trans rfl
set_option maxRecDepth 100000 in
theorem sg_X4_search_66 {v : Nat} {e : Nat} (hv : v = 5 ∨ v = 15) (he : e = 25) (l3 : Int) (l4 : mm_V) (h : mm_H) : ex 18 66 [mm_r 66, mm_r v, mm_r e, mm_i l3, l4] [] h = (some (none, h)) := by
  rcases hv with rfl | rfl <;> subst he <;> exact (congrFun (congrFun (congrFun (mm_ev_fw hShX st_X4_search 18 300 66) _) _) _).trans rfl
def st_X4_outcome : Nat → Bool := fun p => Nat.beq p 11 || Nat.beq p 44 || Nat.beq p 47
set_option maxRecDepth 100000 in
theorem sg_X4_outcome_0 {e : Nat} (he : e = 25) (a0 : Int) (a2 : Int) (a3 : Int) (h : mm_H) : ex 19 0 [mm_i a0, mm_r e, mm_i a2, mm_i a3, mm_u, mm_u] [] h = (if 0 ≤ a2 ∧ a2 < 5 then (ex 19 11 [mm_i a0, mm_r e, mm_i a2, mm_i a3, mm_i (h (e + 1) a2.toNat), mm_i 0] [] h) else none) := by
  subst he <;> exact (congrFun (congrFun (congrFun (mm_ev_fw hShX st_X4_outcome 19 300 0) _) _) _).trans rfl
set_option maxRecDepth 100000 in
theorem sg_X4_outcome_11 {e : Nat} (he : e = 25) (l0 : Int) (l2 : Int) (l3 : Int) (l4 : Int) (l5 : Int) (h : mm_H) : ex 19 11 [mm_i l0, mm_r e, mm_i l2, mm_i l3, mm_i l4, mm_i l5] [] h = (if l5 < 4 then (if 0 ≤ l2 ∧ l2 < 5 then (if l5 < l3 then (ex 19 44 [mm_i l0, mm_r e, mm_i l2, mm_i l3, mm_i l4, mm_i l5] [mm_i 1, mm_i (mm_add (h e 2) l5), mm_i (h (e + 2) l2.toNat), mm_i l0, mm_i l4] h) else (ex 19 44 [mm_i l0, mm_r e, mm_i l2, mm_i l3, mm_i l4, mm_i l5] [mm_i 0, mm_i (mm_add (h e 2) l5), mm_i (h (e + 2) l2.toNat), mm_i l0, mm_i l4] h)) else none) else (some (some (mm_i l4), h))) := by
  subst he <;> exact (congrFun (congrFun (congrFun (mm_ev_fw hShX st_X4_outcome 19 300 11) _) _) _).trans rfl
set_option maxRecDepth 100000 in
theorem sg_X4_outcome_44 {e : Nat} (he : e = 25) (l0 : Int) (l2 : Int) (l3 : Int) (l4 : Int) (l5 : Int) (s0 : Int) (s1 : Int) (s2 : Int) (s3 : Int) (s4 : Int) (h : mm_H) : ex 19 44 [mm_i l0, mm_r e, mm_i l2, mm_i l3, mm_i l4, mm_i l5] [mm_i s0, mm_i s1, mm_i s2, mm_i s3, mm_i s4] h = ((ex 100 0 [mm_i s4, mm_i s3, mm_i s2, mm_i s1, mm_i s0, mm_u, mm_u] [] h).bind fun q => ex 19 47 [mm_i l0, mm_r e, mm_i l2, mm_i l3, mm_i l4, mm_i l5] (q.1.toList ++ []) q.2) := by
  subst he <;> exact (congrFun (congrFun (congrFun (mm_ev_fw hShX st_X4_outcome 19 300 44) _) _) _).trans rfl
set_option maxRecDepth 100000 in
theorem sg_X4_outcome_47 {e : Nat} (he : e = 25) (l0 : Int) (l2 : Int) (l3 : Int) (l4 : Int) (l5 : Int) (s0 : Int) (h : mm_H) : ex 19 47 [mm_i l0, mm_r e, mm_i l2, mm_i l3, mm_i l4, mm_i l5] [mm_i s0] h = (ex 19 11 [mm_i l0, mm_r e, mm_i l2, mm_i l3, mm_i s0, mm_i (mm_wr (l5 + 1))] [] h) := by
  subst he <;> exact (congrFun (congrFun (congrFun (mm_ev_fw hShX st_X4_outcome 19 300 47) _) _) _).trans rfl
def st_X4_choose_0 : Nat → Bool := fun p => Nat.beq p 18 || Nat.beq p 49 || Nat.beq p 74 || Nat.beq p 87 || Nat.beq p 102
set_option maxRecDepth 100000 in
theorem sg_X4_choose_0_0 {v : Nat} (hv : v = 5 ∨ v = 15) (a2 : Int) (a3 : Int) (h : mm_H) : ex 20 0 [mm_r 66, mm_r v, mm_i a2, mm_i a3, mm_u] [] h = (if (h 66 0) = (-4) then (ex 20 18 [mm_r 66, mm_r v, mm_i a2, mm_i a3, mm_u] [] h) else (if a3 < (h 66 0) then (ex 20 18 [mm_r 66, mm_r v, mm_i a2, mm_i a3, mm_u] [] h) else (some (none, h)))) := by
  rcases hv with rfl | rfl <;> exact (congrFun (congrFun (congrFun (mm_ev_fw hShX st_X4_choose_0 20 300 0) _) _) _).trans rfl
set_option maxRecDepth 100000 in
theorem sg_X4_choose_0_18 {v : Nat} (hv : v = 5 ∨ v = 15) (l2 : Int) (l3 : Int) (h : mm_H) : ex 20 18 [mm_r 66, mm_r v, mm_i l2, mm_i l3, mm_u] [] h = (if l2 < (h v 0) then (ex 20 49 [mm_r 66, mm_r v, mm_i l2, mm_i l3, mm_i 0] [] h) else (some (none, (mm_up (mm_st h 66 0 l3) 67 (mm_cp ((mm_st h 66 0 l3) 68) ((mm_st h 66 0 l3) 67) 0 0 5))))) := by
  rcases hv with rfl | rfl <;> exact (congrFun (congrFun (congrFun (mm_ev_fw hShX st_X4_choose_0 20 300 18) _) _) _).trans rfl
set_option maxRecDepth 100000 in
theorem sg_X4_choose_0_49 {v : Nat} (hv : v = 5 ∨ v = 15) (l2 : Int) (l3 : Int) (l4 : Int) (h : mm_H) : ex 20 49 [mm_r 66, mm_r v, mm_i l2, mm_i l3, mm_i l4] [] h = (if 4 < l4 then (some (none, h)) else (if 0 ≤ l2 ∧ l2 < 5 then (if 0 ≤ l2 ∧ l2 < 5 then (ex 20 74 [mm_r 66, mm_r v, mm_i l2, mm_i l3, mm_i l4] [mm_r (71 + l2.toNat), mm_i l2, mm_r 69] (mm_st h 68 l2.toNat l4)) else none) else none)) := by
  rcases hv with rfl | rfl <;> exact (congrFun (congrFun (congrFun (mm_ev_fw hShX st_X4_choose_0 20 300 49) _) _) _).trans rfl
set_option maxRecDepth 100000 in
theorem sg_X4_choose_0_74 {v : Nat} {oi : Nat} (hv : v = 5 ∨ v = 15) (hoi : oi < 5) (l2 : Int) (l3 : Int) (l4 : Int) (s1 : Int) (h : mm_H) : ex 20 74 [mm_r 66, mm_r v, mm_i l2, mm_i l3, mm_i l4] [mm_r (71 + oi), mm_i s1, mm_r 69] h = (if 0 ≤ l4 ∧ l4 < 5 then (if 0 ≤ s1 ∧ s1 < 5 then ((ex 65 0 [mm_r v, mm_i l2, mm_r 69, mm_u, mm_u] [] (mm_st h 69 s1.toNat (h (71 + oi) l4.toNat))).bind fun q => ex 20 87 [mm_r 66, mm_r v, mm_i l2, mm_i l3, mm_i l4] (q.1.toList ++ []) q.2) else none) else none) := by
  rcases hv with rfl | rfl <;> rcases (show oi = 0 ∨ oi = 1 ∨ oi = 2 ∨ oi = 3 ∨ oi = 4 by omega) with rfl | rfl | rfl | rfl | rfl <;> exact (congrFun (congrFun (congrFun (mm_ev_fw hShX st_X4_choose_0 20 300 74) _) _) _).trans rfl
set_option maxRecDepth 100000 in
theorem sg_X4_choose_0_87 {v : Nat} (hv : v = 5 ∨ v = 15) (l2 : Int) (l3 : Int) (l4 : Int) (s0 : Int) (h : mm_H) : ex 20 87 [mm_r 66, mm_r v, mm_i l2, mm_i l3, mm_i l4] [mm_i s0] h = (if s0 = 0 then (ex 20 102 [mm_r 66, mm_r v, mm_i l2, mm_i l3, mm_i l4] [] h) else ((ex 21 0 [mm_r 66, mm_r v, mm_i (mm_add l2 1), mm_i (mm_add l3 l4), mm_u] [] h).bind fun q => ex 20 102 [mm_r 66, mm_r v, mm_i l2, mm_i l3, mm_i l4] (q.1.toList ++ []) q.2)) := by
  rcases hv with rfl | rfl <;> exact (congrFun (congrFun (congrFun (mm_ev_fw hShX st_X4_choose_0 20 300 87) _) _) _).trans rfl
set_option maxRecDepth 100000 in
theorem sg_X4_choose_0_102 {v : Nat} (hv : v = 5 ∨ v = 15) (l2 : Int) (l3 : Int) (l4 : Int) (h : mm_H) : ex 20 102 [mm_r 66, mm_r v, mm_i l2, mm_i l3, mm_i l4] [] h = (ex 20 49 [mm_r 66, mm_r v, mm_i l2, mm_i l3, mm_i (mm_wr (l4 + 1))] [] h) := by
  rcases hv with rfl | rfl <;> exact (congrFun (congrFun (congrFun (mm_ev_fw hShX st_X4_choose_0 20 300 102) _) _) _).trans rfl
def st_X4_choose_1 : Nat → Bool := fun p => Nat.beq p 18 || Nat.beq p 49 || Nat.beq p 74 || Nat.beq p 87 || Nat.beq p 102
set_option maxRecDepth 100000 in
theorem sg_X4_choose_1_0 {v : Nat} (hv : v = 5 ∨ v = 15) (a2 : Int) (a3 : Int) (h : mm_H) : ex 21 0 [mm_r 66, mm_r v, mm_i a2, mm_i a3, mm_u] [] h = (if (h 66 0) = (-4) then (ex 21 18 [mm_r 66, mm_r v, mm_i a2, mm_i a3, mm_u] [] h) else (if a3 < (h 66 0) then (ex 21 18 [mm_r 66, mm_r v, mm_i a2, mm_i a3, mm_u] [] h) else (some (none, h)))) := by
  rcases hv with rfl | rfl <;> exact (congrFun (congrFun (congrFun (mm_ev_fw hShX st_X4_choose_1 21 300 0) _) _) _).trans rfl
set_option maxRecDepth 100000 in
theorem sg_X4_choose_1_18 {v : Nat} (hv : v = 5 ∨ v = 15) (l2 : Int) (l3 : Int) (h : mm_H) : ex 21 18 [mm_r 66, mm_r v, mm_i l2, mm_i l3, mm_u] [] h = (if l2 < (h v 0) then (ex 21 49 [mm_r 66, mm_r v, mm_i l2, mm_i l3, mm_i 0] [] h) else (some (none, (mm_up (mm_st h 66 0 l3) 67 (mm_cp ((mm_st h 66 0 l3) 68) ((mm_st h 66 0 l3) 67) 0 0 5))))) := by
  rcases hv with rfl | rfl <;> exact (congrFun (congrFun (congrFun (mm_ev_fw hShX st_X4_choose_1 21 300 18) _) _) _).trans rfl
set_option maxRecDepth 100000 in
theorem sg_X4_choose_1_49 {v : Nat} (hv : v = 5 ∨ v = 15) (l2 : Int) (l3 : Int) (l4 : Int) (h : mm_H) : ex 21 49 [mm_r 66, mm_r v, mm_i l2, mm_i l3, mm_i l4] [] h = (if 4 < l4 then (some (none, h)) else (if 0 ≤ l2 ∧ l2 < 5 then (if 0 ≤ l2 ∧ l2 < 5 then (ex 21 74 [mm_r 66, mm_r v, mm_i l2, mm_i l3, mm_i l4] [mm_r (71 + l2.toNat), mm_i l2, mm_r 69] (mm_st h 68 l2.toNat l4)) else none) else none)) := by
  rcases hv with rfl | rfl <;> exact (congrFun (congrFun (congrFun (mm_ev_fw hShX st_X4_choose_1 21 300 49) _) _) _).trans rfl
set_option maxRecDepth 100000 in
theorem sg_X4_choose_1_74 {v : Nat} {oi : Nat} (hv : v = 5 ∨ v = 15) (hoi : oi < 5) (l2 : Int) (l3 : Int) (l4 : Int) (s1 : Int) (h : mm_H) : ex 21 74 [mm_r 66, mm_r v, mm_i l2, mm_i l3, mm_i l4] [mm_r (71 + oi), mm_i s1, mm_r 69] h = (if 0 ≤ l4 ∧ l4 < 5 then (if 0 ≤ s1 ∧ s1 < 5 then ((ex 65 0 [mm_r v, mm_i l2, mm_r 69, mm_u, mm_u] [] (mm_st h 69 s1.toNat (h (71 + oi) l4.toNat))).bind fun q => ex 21 87 [mm_r 66, mm_r v, mm_i l2, mm_i l3, mm_i l4] (q.1.toList ++ []) q.2) else none) else none) := by
  rcases hv with rfl | rfl <;> rcases (show oi = 0 ∨ oi = 1 ∨ oi = 2 ∨ oi = 3 ∨ oi = 4 by omega) with rfl | rfl | rfl | rfl | rfl <;> exact (congrFun (congrFun (congrFun (mm_ev_fw hShX st_X4_choose_1 21 300 74) _) _) _).trans rfl
set_option maxRecDepth 100000 in
theorem sg_X4_choose_1_87 {v : Nat} (hv : v = 5 ∨ v = 15) (l2 : Int) (l3 : Int) (l4 : Int) (s0 : Int) (h : mm_H) : ex 21 87 [mm_r 66, mm_r v, mm_i l2, mm_i l3, mm_i l4] [mm_i s0] h = (if s0 = 0 then (ex 21 102 [mm_r 66, mm_r v, mm_i l2, mm_i l3, mm_i l4] [] h) else ((ex 22 0 [mm_r 66, mm_r v, mm_i (mm_add l2 1), mm_i (mm_add l3 l4), mm_u] [] h).bind fun q => ex 21 102 [mm_r 66, mm_r v, mm_i l2, mm_i l3, mm_i l4] (q.1.toList ++ []) q.2)) := by
  rcases hv with rfl | rfl <;> exact (congrFun (congrFun (congrFun (mm_ev_fw hShX st_X4_choose_1 21 300 87) _) _) _).trans rfl
set_option maxRecDepth 100000 in
theorem sg_X4_choose_1_102 {v : Nat} (hv : v = 5 ∨ v = 15) (l2 : Int) (l3 : Int) (l4 : Int) (h : mm_H) : ex 21 102 [mm_r 66, mm_r v, mm_i l2, mm_i l3, mm_i l4] [] h = (ex 21 49 [mm_r 66, mm_r v, mm_i l2, mm_i l3, mm_i (mm_wr (l4 + 1))] [] h) := by
  rcases hv with rfl | rfl <;> exact (congrFun (congrFun (congrFun (mm_ev_fw hShX st_X4_choose_1 21 300 102) _) _) _).trans rfl
def st_X4_choose_2 : Nat → Bool := fun p => Nat.beq p 18 || Nat.beq p 49 || Nat.beq p 74 || Nat.beq p 87 || Nat.beq p 102
set_option maxRecDepth 100000 in
theorem sg_X4_choose_2_0 {v : Nat} (hv : v = 5 ∨ v = 15) (a2 : Int) (a3 : Int) (h : mm_H) : ex 22 0 [mm_r 66, mm_r v, mm_i a2, mm_i a3, mm_u] [] h = (if (h 66 0) = (-4) then (ex 22 18 [mm_r 66, mm_r v, mm_i a2, mm_i a3, mm_u] [] h) else (if a3 < (h 66 0) then (ex 22 18 [mm_r 66, mm_r v, mm_i a2, mm_i a3, mm_u] [] h) else (some (none, h)))) := by
  rcases hv with rfl | rfl <;> exact (congrFun (congrFun (congrFun (mm_ev_fw hShX st_X4_choose_2 22 300 0) _) _) _).trans rfl
set_option maxRecDepth 100000 in
theorem sg_X4_choose_2_18 {v : Nat} (hv : v = 5 ∨ v = 15) (l2 : Int) (l3 : Int) (h : mm_H) : ex 22 18 [mm_r 66, mm_r v, mm_i l2, mm_i l3, mm_u] [] h = (if l2 < (h v 0) then (ex 22 49 [mm_r 66, mm_r v, mm_i l2, mm_i l3, mm_i 0] [] h) else (some (none, (mm_up (mm_st h 66 0 l3) 67 (mm_cp ((mm_st h 66 0 l3) 68) ((mm_st h 66 0 l3) 67) 0 0 5))))) := by
  rcases hv with rfl | rfl <;> exact (congrFun (congrFun (congrFun (mm_ev_fw hShX st_X4_choose_2 22 300 18) _) _) _).trans rfl
set_option maxRecDepth 100000 in
theorem sg_X4_choose_2_49 {v : Nat} (hv : v = 5 ∨ v = 15) (l2 : Int) (l3 : Int) (l4 : Int) (h : mm_H) : ex 22 49 [mm_r 66, mm_r v, mm_i l2, mm_i l3, mm_i l4] [] h = (if 4 < l4 then (some (none, h)) else (if 0 ≤ l2 ∧ l2 < 5 then (if 0 ≤ l2 ∧ l2 < 5 then (ex 22 74 [mm_r 66, mm_r v, mm_i l2, mm_i l3, mm_i l4] [mm_r (71 + l2.toNat), mm_i l2, mm_r 69] (mm_st h 68 l2.toNat l4)) else none) else none)) := by
  rcases hv with rfl | rfl <;> exact (congrFun (congrFun (congrFun (mm_ev_fw hShX st_X4_choose_2 22 300 49) _) _) _).trans rfl
set_option maxRecDepth 100000 in
theorem sg_X4_choose_2_74 {v : Nat} {oi : Nat} (hv : v = 5 ∨ v = 15) (hoi : oi < 5) (l2 : Int) (l3 : Int) (l4 : Int) (s1 : Int) (h : mm_H) : ex 22 74 [mm_r 66, mm_r v, mm_i l2, mm_i l3, mm_i l4] [mm_r (71 + oi), mm_i s1, mm_r 69] h = (if 0 ≤ l4 ∧ l4 < 5 then (if 0 ≤ s1 ∧ s1 < 5 then ((ex 65 0 [mm_r v, mm_i l2, mm_r 69, mm_u, mm_u] [] (mm_st h 69 s1.toNat (h (71 + oi) l4.toNat))).bind fun q => ex 22 87 [mm_r 66, mm_r v, mm_i l2, mm_i l3, mm_i l4] (q.1.toList ++ []) q.2) else none) else none) := by
  rcases hv with rfl | rfl <;> rcases (show oi = 0 ∨ oi = 1 ∨ oi = 2 ∨ oi = 3 ∨ oi = 4 by omega) with rfl | rfl | rfl | rfl | rfl <;> exact (congrFun (congrFun (congrFun (mm_ev_fw hShX st_X4_choose_2 22 300 74) _) _) _).trans rfl
set_option maxRecDepth 100000 in
theorem sg_X4_choose_2_87 {v : Nat} (hv : v = 5 ∨ v = 15) (l2 : Int) (l3 : Int) (l4 : Int) (s0 : Int) (h : mm_H) : ex 22 87 [mm_r 66, mm_r v, mm_i l2, mm_i l3, mm_i l4] [mm_i s0] h = (if s0 = 0 then (ex 22 102 [mm_r 66, mm_r v, mm_i l2, mm_i l3, mm_i l4] [] h) else ((ex 23 0 [mm_r 66, mm_r v, mm_i (mm_add l2 1), mm_i (mm_add l3 l4), mm_u] [] h).bind fun q => ex 22 102 [mm_r 66, mm_r v, mm_i l2, mm_i l3, mm_i l4] (q.1.toList ++ []) q.2)) := by
  rcases hv with rfl | rfl <;> exact (congrFun (congrFun (congrFun (mm_ev_fw hShX st_X4_choose_2 22 300 87) _) _) _).trans rfl
set_option maxRecDepth 100000 in
theorem sg_X4_choose_2_102 {v : Nat} (hv : v = 5 ∨ v = 15) (l2 : Int) (l3 : Int) (l4 : Int) (h : mm_H) : ex 22 102 [mm_r 66, mm_r v, mm_i l2, mm_i l3, mm_i l4] [] h = (ex 22 49 [mm_r 66, mm_r v, mm_i l2, mm_i l3, mm_i (mm_wr (l4 + 1))] [] h) := by
  rcases hv with rfl | rfl <;> exact (congrFun (congrFun (congrFun (mm_ev_fw hShX st_X4_choose_2 22 300 102) _) _) _).trans rfl
def st_X4_choose_3 : Nat → Bool := fun p => Nat.beq p 18 || Nat.beq p 49 || Nat.beq p 74 || Nat.beq p 87 || Nat.beq p 102
set_option maxRecDepth 100000 in
theorem sg_X4_choose_3_0 {v : Nat} (hv : v = 5 ∨ v = 15) (a2 : Int) (a3 : Int) (h : mm_H) : ex 23 0 [mm_r 66, mm_r v, mm_i a2, mm_i a3, mm_u] [] h = (if (h 66 0) = (-4) then (ex 23 18 [mm_r 66, mm_r v, mm_i a2, mm_i a3, mm_u] [] h) else (if a3 < (h 66 0) then (ex 23 18 [mm_r 66, mm_r v, mm_i a2, mm_i a3, mm_u] [] h) else (some (none, h)))) := by
  rcases hv with rfl | rfl <;> exact (congrFun (congrFun (congrFun (mm_ev_fw hShX st_X4_choose_3 23 300 0) _) _) _).trans rfl
set_option maxRecDepth 100000 in
theorem sg_X4_choose_3_18 {v : Nat} (hv : v = 5 ∨ v = 15) (l2 : Int) (l3 : Int) (h : mm_H) : ex 23 18 [mm_r 66, mm_r v, mm_i l2, mm_i l3, mm_u] [] h = (if l2 < (h v 0) then (ex 23 49 [mm_r 66, mm_r v, mm_i l2, mm_i l3, mm_i 0] [] h) else (some (none, (mm_up (mm_st h 66 0 l3) 67 (mm_cp ((mm_st h 66 0 l3) 68) ((mm_st h 66 0 l3) 67) 0 0 5))))) := by
  rcases hv with rfl | rfl <;> exact (congrFun (congrFun (congrFun (mm_ev_fw hShX st_X4_choose_3 23 300 18) _) _) _).trans rfl
set_option maxRecDepth 100000 in
theorem sg_X4_choose_3_49 {v : Nat} (hv : v = 5 ∨ v = 15) (l2 : Int) (l3 : Int) (l4 : Int) (h : mm_H) : ex 23 49 [mm_r 66, mm_r v, mm_i l2, mm_i l3, mm_i l4] [] h = (if 4 < l4 then (some (none, h)) else (if 0 ≤ l2 ∧ l2 < 5 then (if 0 ≤ l2 ∧ l2 < 5 then (ex 23 74 [mm_r 66, mm_r v, mm_i l2, mm_i l3, mm_i l4] [mm_r (71 + l2.toNat), mm_i l2, mm_r 69] (mm_st h 68 l2.toNat l4)) else none) else none)) := by
  rcases hv with rfl | rfl <;> exact (congrFun (congrFun (congrFun (mm_ev_fw hShX st_X4_choose_3 23 300 49) _) _) _).trans rfl
set_option maxRecDepth 100000 in
theorem sg_X4_choose_3_74 {v : Nat} {oi : Nat} (hv : v = 5 ∨ v = 15) (hoi : oi < 5) (l2 : Int) (l3 : Int) (l4 : Int) (s1 : Int) (h : mm_H) : ex 23 74 [mm_r 66, mm_r v, mm_i l2, mm_i l3, mm_i l4] [mm_r (71 + oi), mm_i s1, mm_r 69] h = (if 0 ≤ l4 ∧ l4 < 5 then (if 0 ≤ s1 ∧ s1 < 5 then ((ex 65 0 [mm_r v, mm_i l2, mm_r 69, mm_u, mm_u] [] (mm_st h 69 s1.toNat (h (71 + oi) l4.toNat))).bind fun q => ex 23 87 [mm_r 66, mm_r v, mm_i l2, mm_i l3, mm_i l4] (q.1.toList ++ []) q.2) else none) else none) := by
  rcases hv with rfl | rfl <;> rcases (show oi = 0 ∨ oi = 1 ∨ oi = 2 ∨ oi = 3 ∨ oi = 4 by omega) with rfl | rfl | rfl | rfl | rfl <;> exact (congrFun (congrFun (congrFun (mm_ev_fw hShX st_X4_choose_3 23 300 74) _) _) _).trans rfl
set_option maxRecDepth 100000 in
theorem sg_X4_choose_3_87 {v : Nat} (hv : v = 5 ∨ v = 15) (l2 : Int) (l3 : Int) (l4 : Int) (s0 : Int) (h : mm_H) : ex 23 87 [mm_r 66, mm_r v, mm_i l2, mm_i l3, mm_i l4] [mm_i s0] h = (if s0 = 0 then (ex 23 102 [mm_r 66, mm_r v, mm_i l2, mm_i l3, mm_i l4] [] h) else ((ex 24 0 [mm_r 66, mm_r v, mm_i (mm_add l2 1), mm_i (mm_add l3 l4), mm_u] [] h).bind fun q => ex 23 102 [mm_r 66, mm_r v, mm_i l2, mm_i l3, mm_i l4] (q.1.toList ++ []) q.2)) := by
  rcases hv with rfl | rfl <;> exact (congrFun (congrFun (congrFun (mm_ev_fw hShX st_X4_choose_3 23 300 87) _) _) _).trans rfl
set_option maxRecDepth 100000 in
theorem sg_X4_choose_3_102 {v : Nat} (hv : v = 5 ∨ v = 15) (l2 : Int) (l3 : Int) (l4 : Int) (h : mm_H) : ex 23 102 [mm_r 66, mm_r v, mm_i l2, mm_i l3, mm_i l4] [] h = (ex 23 49 [mm_r 66, mm_r v, mm_i l2, mm_i l3, mm_i (mm_wr (l4 + 1))] [] h) := by
  rcases hv with rfl | rfl <;> exact (congrFun (congrFun (congrFun (mm_ev_fw hShX st_X4_choose_3 23 300 102) _) _) _).trans rfl
def st_X4_choose_4 : Nat → Bool := fun p => Nat.beq p 18 || Nat.beq p 49 || Nat.beq p 74 || Nat.beq p 87 || Nat.beq p 102
set_option maxRecDepth 100000 in
theorem sg_X4_choose_4_0 {v : Nat} (hv : v = 5 ∨ v = 15) (a2 : Int) (a3 : Int) (h : mm_H) : ex 24 0 [mm_r 66, mm_r v, mm_i a2, mm_i a3, mm_u] [] h = (if (h 66 0) = (-4) then (ex 24 18 [mm_r 66, mm_r v, mm_i a2, mm_i a3, mm_u] [] h) else (if a3 < (h 66 0) then (ex 24 18 [mm_r 66, mm_r v, mm_i a2, mm_i a3, mm_u] [] h) else (some (none, h)))) := by
  rcases hv with rfl | rfl <;> exact (congrFun (congrFun (congrFun (mm_ev_fw hShX st_X4_choose_4 24 300 0) _) _) _).trans rfl
set_option maxRecDepth 100000 in
theorem sg_X4_choose_4_18 {v : Nat} (hv : v = 5 ∨ v = 15) (l2 : Int) (l3 : Int) (h : mm_H) : ex 24 18 [mm_r 66, mm_r v, mm_i l2, mm_i l3, mm_u] [] h = (if l2 < (h v 0) then (ex 24 49 [mm_r 66, mm_r v, mm_i l2, mm_i l3, mm_i 0] [] h) else (some (none, (mm_up (mm_st h 66 0 l3) 67 (mm_cp ((mm_st h 66 0 l3) 68) ((mm_st h 66 0 l3) 67) 0 0 5))))) := by
  rcases hv with rfl | rfl <;> exact (congrFun (congrFun (congrFun (mm_ev_fw hShX st_X4_choose_4 24 300 18) _) _) _).trans rfl
set_option maxRecDepth 100000 in
theorem sg_X4_choose_4_49 {v : Nat} (hv : v = 5 ∨ v = 15) (l2 : Int) (l3 : Int) (l4 : Int) (h : mm_H) : ex 24 49 [mm_r 66, mm_r v, mm_i l2, mm_i l3, mm_i l4] [] h = (if 4 < l4 then (some (none, h)) else (if 0 ≤ l2 ∧ l2 < 5 then (if 0 ≤ l2 ∧ l2 < 5 then (ex 24 74 [mm_r 66, mm_r v, mm_i l2, mm_i l3, mm_i l4] [mm_r (71 + l2.toNat), mm_i l2, mm_r 69] (mm_st h 68 l2.toNat l4)) else none) else none)) := by
  rcases hv with rfl | rfl <;> exact (congrFun (congrFun (congrFun (mm_ev_fw hShX st_X4_choose_4 24 300 49) _) _) _).trans rfl
set_option maxRecDepth 100000 in
theorem sg_X4_choose_4_74 {v : Nat} {oi : Nat} (hv : v = 5 ∨ v = 15) (hoi : oi < 5) (l2 : Int) (l3 : Int) (l4 : Int) (s1 : Int) (h : mm_H) : ex 24 74 [mm_r 66, mm_r v, mm_i l2, mm_i l3, mm_i l4] [mm_r (71 + oi), mm_i s1, mm_r 69] h = (if 0 ≤ l4 ∧ l4 < 5 then (if 0 ≤ s1 ∧ s1 < 5 then ((ex 65 0 [mm_r v, mm_i l2, mm_r 69, mm_u, mm_u] [] (mm_st h 69 s1.toNat (h (71 + oi) l4.toNat))).bind fun q => ex 24 87 [mm_r 66, mm_r v, mm_i l2, mm_i l3, mm_i l4] (q.1.toList ++ []) q.2) else none) else none) := by
  rcases hv with rfl | rfl <;> rcases (show oi = 0 ∨ oi = 1 ∨ oi = 2 ∨ oi = 3 ∨ oi = 4 by omega) with rfl | rfl | rfl | rfl | rfl <;> exact (congrFun (congrFun (congrFun (mm_ev_fw hShX st_X4_choose_4 24 300 74) _) _) _).trans rfl
set_option maxRecDepth 100000 in
theorem sg_X4_choose_4_87 {v : Nat} (hv : v = 5 ∨ v = 15) (l2 : Int) (l3 : Int) (l4 : Int) (s0 : Int) (h : mm_H) : ex 24 87 [mm_r 66, mm_r v, mm_i l2, mm_i l3, mm_i l4] [mm_i s0] h = (if s0 = 0 then (ex 24 102 [mm_r 66, mm_r v, mm_i l2, mm_i l3, mm_i l4] [] h) else ((ex 25 0 [mm_r 66, mm_r v, mm_i (mm_add l2 1), mm_i (mm_add l3 l4), mm_u] [] h).bind fun q => ex 24 102 [mm_r 66, mm_r v, mm_i l2, mm_i l3, mm_i l4] (q.1.toList ++ []) q.2)) := by
  rcases hv with rfl | rfl <;> exact (congrFun (congrFun (congrFun (mm_ev_fw hShX st_X4_choose_4 24 300 87) _) _) _).trans rfl
set_option maxRecDepth 100000 in
theorem sg_X4_choose_4_102 {v : Nat} (hv : v = 5 ∨ v = 15) (l2 : Int) (l3 : Int) (l4 : Int) (h : mm_H) : ex 24 102 [mm_r 66, mm_r v, mm_i l2, mm_i l3, mm_i l4] [] h = (ex 24 49 [mm_r 66, mm_r v, mm_i l2, mm_i l3, mm_i (mm_wr (l4 + 1))] [] h) := by
  rcases hv with rfl | rfl <;> exact (congrFun (congrFun (congrFun (mm_ev_fw hShX st_X4_choose_4 24 300 102) _) _) _).trans rfl
def st_X4_choose_5 : Nat → Bool := fun p => Nat.beq p 18 || Nat.beq p 49 || Nat.beq p 74 || Nat.beq p 87 || Nat.beq p 102
set_option maxRecDepth 100000 in
theorem sg_X4_choose_5_0 {v : Nat} (hv : v = 5 ∨ v = 15) (a2 : Int) (a3 : Int) (h : mm_H) : ex 25 0 [mm_r 66, mm_r v, mm_i a2, mm_i a3, mm_u] [] h = (if (h 66 0) = (-4) then (ex 25 18 [mm_r 66, mm_r v, mm_i a2, mm_i a3, mm_u] [] h) else (if a3 < (h 66 0) then (ex 25 18 [mm_r 66, mm_r v, mm_i a2, mm_i a3, mm_u] [] h) else (some (none, h)))) := by
  rcases hv with rfl | rfl <;> exact (congrFun (congrFun (congrFun (mm_ev_fw hShX st_X4_choose_5 25 300 0) _) _) _).trans rfl
set_option maxRecDepth 100000 in
theorem sg_X4_choose_5_18 {v : Nat} (hv : v = 5 ∨ v = 15) (l2 : Int) (l3 : Int) (h : mm_H) : ex 25 18 [mm_r 66, mm_r v, mm_i l2, mm_i l3, mm_u] [] h = (if l2 < (h v 0) then (ex 25 49 [mm_r 66, mm_r v, mm_i l2, mm_i l3, mm_i 0] [] h) else (some (none, (mm_up (mm_st h 66 0 l3) 67 (mm_cp ((mm_st h 66 0 l3) 68) ((mm_st h 66 0 l3) 67) 0 0 5))))) := by
  rcases hv with rfl | rfl <;> exact (congrFun (congrFun (congrFun (mm_ev_fw hShX st_X4_choose_5 25 300 18) _) _) _).trans rfl
set_option maxRecDepth 100000 in
theorem sg_X4_choose_5_49 {v : Nat} (hv : v = 5 ∨ v = 15) (l2 : Int) (l3 : Int) (l4 : Int) (h : mm_H) : ex 25 49 [mm_r 66, mm_r v, mm_i l2, mm_i l3, mm_i l4] [] h = (if 4 < l4 then (some (none, h)) else (if 0 ≤ l2 ∧ l2 < 5 then (if 0 ≤ l2 ∧ l2 < 5 then (ex 25 74 [mm_r 66, mm_r v, mm_i l2, mm_i l3, mm_i l4] [mm_r (71 + l2.toNat), mm_i l2, mm_r 69] (mm_st h 68 l2.toNat l4)) else none) else none)) := by
  rcases hv with rfl | rfl <;> exact (congrFun (congrFun (congrFun (mm_ev_fw hShX st_X4_choose_5 25 300 49) _) _) _).trans rfl
set_option maxRecDepth 100000 in
theorem sg_X4_choose_5_74 {v : Nat} {oi : Nat} (hv : v = 5 ∨ v = 15) (hoi : oi < 5) (l2 : Int) (l3 : Int) (l4 : Int) (s1 : Int) (h : mm_H) : ex 25 74 [mm_r 66, mm_r v, mm_i l2, mm_i l3, mm_i l4] [mm_r (71 + oi), mm_i s1, mm_r 69] h = (if 0 ≤ l4 ∧ l4 < 5 then (if 0 ≤ s1 ∧ s1 < 5 then ((ex 65 0 [mm_r v, mm_i l2, mm_r 69, mm_u, mm_u] [] (mm_st h 69 s1.toNat (h (71 + oi) l4.toNat))).bind fun q => ex 25 87 [mm_r 66, mm_r v, mm_i l2, mm_i l3, mm_i l4] (q.1.toList ++ []) q.2) else none) else none) := by
  rcases hv with rfl | rfl <;> rcases (show oi = 0 ∨ oi = 1 ∨ oi = 2 ∨ oi = 3 ∨ oi = 4 by omega) with rfl | rfl | rfl | rfl | rfl <;> exact (congrFun (congrFun (congrFun (mm_ev_fw hShX st_X4_choose_5 25 300 74) _) _) _).trans rfl
set_option maxRecDepth 100000 in
theorem sg_X4_choose_5_87 {v : Nat} (hv : v = 5 ∨ v = 15) (l2 : Int) (l3 : Int) (l4 : Int) (s0 : Int) (h : mm_H) : ex 25 87 [mm_r 66, mm_r v, mm_i l2, mm_i l3, mm_i l4] [mm_i s0] h = (if s0 = 0 then (ex 25 102 [mm_r 66, mm_r v, mm_i l2, mm_i l3, mm_i l4] [] h) else none) := by
  rcases hv with rfl | rfl <;> exact (congrFun (congrFun (congrFun (mm_ev_fw hShX st_X4_choose_5 25 300 87) _) _) _).trans rfl
set_option maxRecDepth 100000 in
theorem sg_X4_choose_5_102 {v : Nat} (hv : v = 5 ∨ v = 15) (l2 : Int) (l3 : Int) (l4 : Int) (h : mm_H) : ex 25 102 [mm_r 66, mm_r v, mm_i l2, mm_i l3, mm_i l4] [] h = (ex 25 49 [mm_r 66, mm_r v, mm_i l2, mm_i l3, mm_i (mm_wr (l4 + 1))] [] h) := by
  rcases hv with rfl | rfl <;> exact (congrFun (congrFun (congrFun (mm_ev_fw hShX st_X4_choose_5 25 300 102) _) _) _).trans rfl
def st_X5_search : Nat → Bool := fun p => Nat.beq p 25
set_option maxRecDepth 100000 in
theorem sg_X5_search_0 {v : Nat} (hv : v = 5 ∨ v = 15)  (h : mm_H) : ex 26 0 [mm_r 76, mm_r v] [] h = (if ((mm_st h 76 0 (-4)) v 2) < ((mm_st h 76 0 (-4)) v 0) then (ex 26 25 [mm_r 76, mm_r v] [] (mm_st h 76 0 (-4))) else ((ex 27 0 [mm_r 76, mm_r v, mm_i 0, mm_i 0, mm_i 0, mm_u, mm_u] [] (mm_st h 76 0 (-4))).bind fun q => ex 26 25 [mm_r 76, mm_r v] (q.1.toList ++ []) q.2)) := by
  rcases hv with rfl | rfl <;> exact (congrFun (congrFun (congrFun (mm_ev_fw hShX st_X5_search 26 300 0) _) _) _).trans rfl
set_option maxRecDepth 100000 in
theorem sg_X5_search_25 {v : Nat} (hv : v = 5 ∨ v = 15)  (h : mm_H) : ex 26 25 [mm_r 76, mm_r v] [] h = (some (none, h)) := by
  rcases hv with rfl | rfl <;> exact (congrFun (congrFun (congrFun (mm_ev_fw hShX st_X5_search 26 300 25) _) _) _).trans rfl
def st_X5_choose_0 : Nat → Bool := fun p => Nat.beq p 19 || Nat.beq p 51 || Nat.beq p 115
set_option maxRecDepth 100000 in
theorem sg_X5_choose_0_0 {v : Nat} (hv : v = 5 ∨ v = 15) (a2 : Int) (a3 : Int) (a4 : Int) (h : mm_H) : ex 27 0 [mm_r 76, mm_r v, mm_i a2, mm_i a3, mm_i a4, mm_u, mm_u] [] h = (if (h 76 0) = (-4) then (ex 27 19 [mm_r 76, mm_r v, mm_i a2, mm_i a3, mm_i a4, mm_u, mm_u] [] h) else (if a4 < (h 76 0) then (ex 27 19 [mm_r 76, mm_r v, mm_i a2, mm_i a3, mm_i a4, mm_u, mm_u] [] h) else (some (none, h)))) := by
  rcases hv with rfl | rfl <;> exact (congrFun (congrFun (congrFun (mm_ev_fw hShX st_X5_choose_0 27 300 0) _) _) _).trans rfl
set_option maxRecDepth 100000 in
theorem sg_X5_choose_0_19 {v : Nat} (hv : v = 5 ∨ v = 15) (l2 : Int) (l3 : Int) (l4 : Int) (h : mm_H) : ex 27 19 [mm_r 76, mm_r v, mm_i l2, mm_i l3, mm_i l4, mm_u, mm_u] [] h = (if l2 < (h v 0) then (ex 27 51 [mm_r 76, mm_r v, mm_i l2, mm_i l3, mm_i l4, mm_i 0, mm_u] [] h) else (some (none, (mm_up (mm_st h 76 0 l4) 77 (mm_cp ((mm_st h 76 0 l4) 78) ((mm_st h 76 0 l4) 77) 0 0 5))))) := by
  rcases hv with rfl | rfl <;> exact (congrFun (congrFun (congrFun (mm_ev_fw hShX st_X5_choose_0 27 300 19) _) _) _).trans rfl
set_option maxRecDepth 100000 in
theorem sg_X5_choose_0_51 {v : Nat} (hv : v = 5 ∨ v = 15) (l2 : Int) (l3 : Int) (l4 : Int) (l5 : Int) (l6 : mm_V) (h : mm_H) : ex 27 51 [mm_r 76, mm_r v, mm_i l2, mm_i l3, mm_i l4, mm_i l5, l6] [] h = (if l5 < (h v 2) then (if (mm_and (mm_shr l3 l5) 1) = 0 then (if 0 ≤ l2 ∧ l2 < 5 then (if 0 ≤ l5 ∧ l5 < 6 then (if 0 ≤ l2 ∧ l2 < 5 then ((ex 28 0 [mm_r 76, mm_r v, mm_i (mm_add l2 1), mm_i (mm_or l3 (mm_shl 1 l5)), mm_i (mm_add l4 (mm_wr (if 0 ≤ (mm_sub ((mm_st h 78 l2.toNat l5) (v + 7) l5.toNat) ((mm_st h 78 l2.toNat l5) (v + 1) l2.toNat)) then (mm_sub ((mm_st h 78 l2.toNat l5) (v + 7) l5.toNat) ((mm_st h 78 l2.toNat l5) (v + 1) l2.toNat)) else 0 - (mm_sub ((mm_st h 78 l2.toNat l5) (v + 7) l5.toNat) ((mm_st h 78 l2.toNat l5) (v + 1) l2.toNat))))), mm_u, mm_u] [] (mm_st h 78 l2.toNat l5)).bind fun q => ex 27 115 [mm_r 76, mm_r v, mm_i l2, mm_i l3, mm_i l4, mm_i l5, mm_i (mm_wr (if 0 ≤ (mm_sub ((mm_st h 78 l2.toNat l5) (v + 7) l5.toNat) ((mm_st h 78 l2.toNat l5) (v + 1) l2.toNat)) then (mm_sub ((mm_st h 78 l2.toNat l5) (v + 7) l5.toNat) ((mm_st h 78 l2.toNat l5) (v + 1) l2.toNat)) else 0 - (mm_sub ((mm_st h 78 l2.toNat l5) (v + 7) l5.toNat) ((mm_st h 78 l2.toNat l5) (v + 1) l2.toNat))))] (q.1.toList ++ []) q.2) else none) else none) else none) else (ex 27 115 [mm_r 76, mm_r v, mm_i l2, mm_i l3, mm_i l4, mm_i l5, l6] [] h)) else (some (none, h))) := by
  rcases hv with rfl | rfl <;> exact (congrFun (congrFun (congrFun (mm_ev_fw hShX st_X5_choose_0 27 300 51) _) _) _).trans rfl
set_option maxRecDepth 100000 in
theorem sg_X5_choose_0_115 {v : Nat} (hv : v = 5 ∨ v = 15) (l2 : Int) (l3 : Int) (l4 : Int) (l5 : Int) (l6 : mm_V) (h : mm_H) : ex 27 115 [mm_r 76, mm_r v, mm_i l2, mm_i l3, mm_i l4, mm_i l5, l6] [] h = (ex 27 51 [mm_r 76, mm_r v, mm_i l2, mm_i l3, mm_i l4, mm_i (mm_wr (l5 + 1)), l6] [] h) := by
  rcases hv with rfl | rfl <;> exact (congrFun (congrFun (congrFun (mm_ev_fw hShX st_X5_choose_0 27 300 115) _) _) _).trans rfl
def st_X5_choose_1 : Nat → Bool := fun p => Nat.beq p 19 || Nat.beq p 51 || Nat.beq p 115
set_option maxRecDepth 100000 in
theorem sg_X5_choose_1_0 {v : Nat} (hv : v = 5 ∨ v = 15) (a2 : Int) (a3 : Int) (a4 : Int) (h : mm_H) : ex 28 0 [mm_r 76, mm_r v, mm_i a2, mm_i a3, mm_i a4, mm_u, mm_u] [] h = (if (h 76 0) = (-4) then (ex 28 19 [mm_r 76, mm_r v, mm_i a2, mm_i a3, mm_i a4, mm_u, mm_u] [] h) else (if a4 < (h 76 0) then (ex 28 19 [mm_r 76, mm_r v, mm_i a2, mm_i a3, mm_i a4, mm_u, mm_u] [] h) else (some (none, h)))) := by
  rcases hv with rfl | rfl <;> exact (congrFun (congrFun (congrFun (mm_ev_fw hShX st_X5_choose_1 28 300 0) _) _) _).trans rfl
set_option maxRecDepth 100000 in
theorem sg_X5_choose_1_19 {v : Nat} (hv : v = 5 ∨ v = 15) (l2 : Int) (l3 : Int) (l4 : Int) (h : mm_H) : ex 28 19 [mm_r 76, mm_r v, mm_i l2, mm_i l3, mm_i l4, mm_u, mm_u] [] h = (if l2 < (h v 0) then (ex 28 51 [mm_r 76, mm_r v, mm_i l2, mm_i l3, mm_i l4, mm_i 0, mm_u] [] h) else (some (none, (mm_up (mm_st h 76 0 l4) 77 (mm_cp ((mm_st h 76 0 l4) 78) ((mm_st h 76 0 l4) 77) 0 0 5))))) := by
  rcases hv with rfl | rfl <;> exact (congrFun (congrFun (congrFun (mm_ev_fw hShX st_X5_choose_1 28 300 19) _) _) _).trans rfl
set_option maxRecDepth 100000 in
theorem sg_X5_choose_1_51 {v : Nat} (hv : v = 5 ∨ v = 15) (l2 : Int) (l3 : Int) (l4 : Int) (l5 : Int) (l6 : mm_V) (h : mm_H) : ex 28 51 [mm_r 76, mm_r v, mm_i l2, mm_i l3, mm_i l4, mm_i l5, l6] [] h = (if l5 < (h v 2) then (if (mm_and (mm_shr l3 l5) 1) = 0 then (if 0 ≤ l2 ∧ l2 < 5 then (if 0 ≤ l5 ∧ l5 < 6 then (if 0 ≤ l2 ∧ l2 < 5 then ((ex 29 0 [mm_r 76, mm_r v, mm_i (mm_add l2 1), mm_i (mm_or l3 (mm_shl 1 l5)), mm_i (mm_add l4 (mm_wr (if 0 ≤ (mm_sub ((mm_st h 78 l2.toNat l5) (v + 7) l5.toNat) ((mm_st h 78 l2.toNat l5) (v + 1) l2.toNat)) then (mm_sub ((mm_st h 78 l2.toNat l5) (v + 7) l5.toNat) ((mm_st h 78 l2.toNat l5) (v + 1) l2.toNat)) else 0 - (mm_sub ((mm_st h 78 l2.toNat l5) (v + 7) l5.toNat) ((mm_st h 78 l2.toNat l5) (v + 1) l2.toNat))))), mm_u, mm_u] [] (mm_st h 78 l2.toNat l5)).bind fun q => ex 28 115 [mm_r 76, mm_r v, mm_i l2, mm_i l3, mm_i l4, mm_i l5, mm_i (mm_wr (if 0 ≤ (mm_sub ((mm_st h 78 l2.toNat l5) (v + 7) l5.toNat) ((mm_st h 78 l2.toNat l5) (v + 1) l2.toNat)) then (mm_sub ((mm_st h 78 l2.toNat l5) (v + 7) l5.toNat) ((mm_st h 78 l2.toNat l5) (v + 1) l2.toNat)) else 0 - (mm_sub ((mm_st h 78 l2.toNat l5) (v + 7) l5.toNat) ((mm_st h 78 l2.toNat l5) (v + 1) l2.toNat))))] (q.1.toList ++ []) q.2) else none) else none) else none) else (ex 28 115 [mm_r 76, mm_r v, mm_i l2, mm_i l3, mm_i l4, mm_i l5, l6] [] h)) else (some (none, h))) := by
  rcases hv with rfl | rfl <;> exact (congrFun (congrFun (congrFun (mm_ev_fw hShX st_X5_choose_1 28 300 51) _) _) _).trans rfl
set_option maxRecDepth 100000 in
theorem sg_X5_choose_1_115 {v : Nat} (hv : v = 5 ∨ v = 15) (l2 : Int) (l3 : Int) (l4 : Int) (l5 : Int) (l6 : mm_V) (h : mm_H) : ex 28 115 [mm_r 76, mm_r v, mm_i l2, mm_i l3, mm_i l4, mm_i l5, l6] [] h = (ex 28 51 [mm_r 76, mm_r v, mm_i l2, mm_i l3, mm_i l4, mm_i (mm_wr (l5 + 1)), l6] [] h) := by
  rcases hv with rfl | rfl <;> exact (congrFun (congrFun (congrFun (mm_ev_fw hShX st_X5_choose_1 28 300 115) _) _) _).trans rfl
def st_X5_choose_2 : Nat → Bool := fun p => Nat.beq p 19 || Nat.beq p 51 || Nat.beq p 115
set_option maxRecDepth 100000 in
theorem sg_X5_choose_2_0 {v : Nat} (hv : v = 5 ∨ v = 15) (a2 : Int) (a3 : Int) (a4 : Int) (h : mm_H) : ex 29 0 [mm_r 76, mm_r v, mm_i a2, mm_i a3, mm_i a4, mm_u, mm_u] [] h = (if (h 76 0) = (-4) then (ex 29 19 [mm_r 76, mm_r v, mm_i a2, mm_i a3, mm_i a4, mm_u, mm_u] [] h) else (if a4 < (h 76 0) then (ex 29 19 [mm_r 76, mm_r v, mm_i a2, mm_i a3, mm_i a4, mm_u, mm_u] [] h) else (some (none, h)))) := by
  rcases hv with rfl | rfl <;> exact (congrFun (congrFun (congrFun (mm_ev_fw hShX st_X5_choose_2 29 300 0) _) _) _).trans rfl
set_option maxRecDepth 100000 in
theorem sg_X5_choose_2_19 {v : Nat} (hv : v = 5 ∨ v = 15) (l2 : Int) (l3 : Int) (l4 : Int) (h : mm_H) : ex 29 19 [mm_r 76, mm_r v, mm_i l2, mm_i l3, mm_i l4, mm_u, mm_u] [] h = (if l2 < (h v 0) then (ex 29 51 [mm_r 76, mm_r v, mm_i l2, mm_i l3, mm_i l4, mm_i 0, mm_u] [] h) else (some (none, (mm_up (mm_st h 76 0 l4) 77 (mm_cp ((mm_st h 76 0 l4) 78) ((mm_st h 76 0 l4) 77) 0 0 5))))) := by
  rcases hv with rfl | rfl <;> exact (congrFun (congrFun (congrFun (mm_ev_fw hShX st_X5_choose_2 29 300 19) _) _) _).trans rfl
set_option maxRecDepth 100000 in
theorem sg_X5_choose_2_51 {v : Nat} (hv : v = 5 ∨ v = 15) (l2 : Int) (l3 : Int) (l4 : Int) (l5 : Int) (l6 : mm_V) (h : mm_H) : ex 29 51 [mm_r 76, mm_r v, mm_i l2, mm_i l3, mm_i l4, mm_i l5, l6] [] h = (if l5 < (h v 2) then (if (mm_and (mm_shr l3 l5) 1) = 0 then (if 0 ≤ l2 ∧ l2 < 5 then (if 0 ≤ l5 ∧ l5 < 6 then (if 0 ≤ l2 ∧ l2 < 5 then ((ex 30 0 [mm_r 76, mm_r v, mm_i (mm_add l2 1), mm_i (mm_or l3 (mm_shl 1 l5)), mm_i (mm_add l4 (mm_wr (if 0 ≤ (mm_sub ((mm_st h 78 l2.toNat l5) (v + 7) l5.toNat) ((mm_st h 78 l2.toNat l5) (v + 1) l2.toNat)) then (mm_sub ((mm_st h 78 l2.toNat l5) (v + 7) l5.toNat) ((mm_st h 78 l2.toNat l5) (v + 1) l2.toNat)) else 0 - (mm_sub ((mm_st h 78 l2.toNat l5) (v + 7) l5.toNat) ((mm_st h 78 l2.toNat l5) (v + 1) l2.toNat))))), mm_u, mm_u] [] (mm_st h 78 l2.toNat l5)).bind fun q => ex 29 115 [mm_r 76, mm_r v, mm_i l2, mm_i l3, mm_i l4, mm_i l5, mm_i (mm_wr (if 0 ≤ (mm_sub ((mm_st h 78 l2.toNat l5) (v + 7) l5.toNat) ((mm_st h 78 l2.toNat l5) (v + 1) l2.toNat)) then (mm_sub ((mm_st h 78 l2.toNat l5) (v + 7) l5.toNat) ((mm_st h 78 l2.toNat l5) (v + 1) l2.toNat)) else 0 - (mm_sub ((mm_st h 78 l2.toNat l5) (v + 7) l5.toNat) ((mm_st h 78 l2.toNat l5) (v + 1) l2.toNat))))] (q.1.toList ++ []) q.2) else none) else none) else none) else (ex 29 115 [mm_r 76, mm_r v, mm_i l2, mm_i l3, mm_i l4, mm_i l5, l6] [] h)) else (some (none, h))) := by
  rcases hv with rfl | rfl <;> exact (congrFun (congrFun (congrFun (mm_ev_fw hShX st_X5_choose_2 29 300 51) _) _) _).trans rfl
set_option maxRecDepth 100000 in
theorem sg_X5_choose_2_115 {v : Nat} (hv : v = 5 ∨ v = 15) (l2 : Int) (l3 : Int) (l4 : Int) (l5 : Int) (l6 : mm_V) (h : mm_H) : ex 29 115 [mm_r 76, mm_r v, mm_i l2, mm_i l3, mm_i l4, mm_i l5, l6] [] h = (ex 29 51 [mm_r 76, mm_r v, mm_i l2, mm_i l3, mm_i l4, mm_i (mm_wr (l5 + 1)), l6] [] h) := by
  rcases hv with rfl | rfl <;> exact (congrFun (congrFun (congrFun (mm_ev_fw hShX st_X5_choose_2 29 300 115) _) _) _).trans rfl
def st_X5_choose_3 : Nat → Bool := fun p => Nat.beq p 19 || Nat.beq p 51 || Nat.beq p 115
set_option maxRecDepth 100000 in
theorem sg_X5_choose_3_0 {v : Nat} (hv : v = 5 ∨ v = 15) (a2 : Int) (a3 : Int) (a4 : Int) (h : mm_H) : ex 30 0 [mm_r 76, mm_r v, mm_i a2, mm_i a3, mm_i a4, mm_u, mm_u] [] h = (if (h 76 0) = (-4) then (ex 30 19 [mm_r 76, mm_r v, mm_i a2, mm_i a3, mm_i a4, mm_u, mm_u] [] h) else (if a4 < (h 76 0) then (ex 30 19 [mm_r 76, mm_r v, mm_i a2, mm_i a3, mm_i a4, mm_u, mm_u] [] h) else (some (none, h)))) := by
  rcases hv with rfl | rfl <;> exact (congrFun (congrFun (congrFun (mm_ev_fw hShX st_X5_choose_3 30 300 0) _) _) _).trans rfl
set_option maxRecDepth 100000 in
theorem sg_X5_choose_3_19 {v : Nat} (hv : v = 5 ∨ v = 15) (l2 : Int) (l3 : Int) (l4 : Int) (h : mm_H) : ex 30 19 [mm_r 76, mm_r v, mm_i l2, mm_i l3, mm_i l4, mm_u, mm_u] [] h = (if l2 < (h v 0) then (ex 30 51 [mm_r 76, mm_r v, mm_i l2, mm_i l3, mm_i l4, mm_i 0, mm_u] [] h) else (some (none, (mm_up (mm_st h 76 0 l4) 77 (mm_cp ((mm_st h 76 0 l4) 78) ((mm_st h 76 0 l4) 77) 0 0 5))))) := by
  rcases hv with rfl | rfl <;> exact (congrFun (congrFun (congrFun (mm_ev_fw hShX st_X5_choose_3 30 300 19) _) _) _).trans rfl
set_option maxRecDepth 100000 in
theorem sg_X5_choose_3_51 {v : Nat} (hv : v = 5 ∨ v = 15) (l2 : Int) (l3 : Int) (l4 : Int) (l5 : Int) (l6 : mm_V) (h : mm_H) : ex 30 51 [mm_r 76, mm_r v, mm_i l2, mm_i l3, mm_i l4, mm_i l5, l6] [] h = (if l5 < (h v 2) then (if (mm_and (mm_shr l3 l5) 1) = 0 then (if 0 ≤ l2 ∧ l2 < 5 then (if 0 ≤ l5 ∧ l5 < 6 then (if 0 ≤ l2 ∧ l2 < 5 then ((ex 31 0 [mm_r 76, mm_r v, mm_i (mm_add l2 1), mm_i (mm_or l3 (mm_shl 1 l5)), mm_i (mm_add l4 (mm_wr (if 0 ≤ (mm_sub ((mm_st h 78 l2.toNat l5) (v + 7) l5.toNat) ((mm_st h 78 l2.toNat l5) (v + 1) l2.toNat)) then (mm_sub ((mm_st h 78 l2.toNat l5) (v + 7) l5.toNat) ((mm_st h 78 l2.toNat l5) (v + 1) l2.toNat)) else 0 - (mm_sub ((mm_st h 78 l2.toNat l5) (v + 7) l5.toNat) ((mm_st h 78 l2.toNat l5) (v + 1) l2.toNat))))), mm_u, mm_u] [] (mm_st h 78 l2.toNat l5)).bind fun q => ex 30 115 [mm_r 76, mm_r v, mm_i l2, mm_i l3, mm_i l4, mm_i l5, mm_i (mm_wr (if 0 ≤ (mm_sub ((mm_st h 78 l2.toNat l5) (v + 7) l5.toNat) ((mm_st h 78 l2.toNat l5) (v + 1) l2.toNat)) then (mm_sub ((mm_st h 78 l2.toNat l5) (v + 7) l5.toNat) ((mm_st h 78 l2.toNat l5) (v + 1) l2.toNat)) else 0 - (mm_sub ((mm_st h 78 l2.toNat l5) (v + 7) l5.toNat) ((mm_st h 78 l2.toNat l5) (v + 1) l2.toNat))))] (q.1.toList ++ []) q.2) else none) else none) else none) else (ex 30 115 [mm_r 76, mm_r v, mm_i l2, mm_i l3, mm_i l4, mm_i l5, l6] [] h)) else (some (none, h))) := by
  rcases hv with rfl | rfl <;> exact (congrFun (congrFun (congrFun (mm_ev_fw hShX st_X5_choose_3 30 300 51) _) _) _).trans rfl
set_option maxRecDepth 100000 in
theorem sg_X5_choose_3_115 {v : Nat} (hv : v = 5 ∨ v = 15) (l2 : Int) (l3 : Int) (l4 : Int) (l5 : Int) (l6 : mm_V) (h : mm_H) : ex 30 115 [mm_r 76, mm_r v, mm_i l2, mm_i l3, mm_i l4, mm_i l5, l6] [] h = (ex 30 51 [mm_r 76, mm_r v, mm_i l2, mm_i l3, mm_i l4, mm_i (mm_wr (l5 + 1)), l6] [] h) := by
  rcases hv with rfl | rfl <;> exact (congrFun (congrFun (congrFun (mm_ev_fw hShX st_X5_choose_3 30 300 115) _) _) _).trans rfl
def st_X5_choose_4 : Nat → Bool := fun p => Nat.beq p 19 || Nat.beq p 51 || Nat.beq p 115
set_option maxRecDepth 100000 in
theorem sg_X5_choose_4_0 {v : Nat} (hv : v = 5 ∨ v = 15) (a2 : Int) (a3 : Int) (a4 : Int) (h : mm_H) : ex 31 0 [mm_r 76, mm_r v, mm_i a2, mm_i a3, mm_i a4, mm_u, mm_u] [] h = (if (h 76 0) = (-4) then (ex 31 19 [mm_r 76, mm_r v, mm_i a2, mm_i a3, mm_i a4, mm_u, mm_u] [] h) else (if a4 < (h 76 0) then (ex 31 19 [mm_r 76, mm_r v, mm_i a2, mm_i a3, mm_i a4, mm_u, mm_u] [] h) else (some (none, h)))) := by
  rcases hv with rfl | rfl <;> exact (congrFun (congrFun (congrFun (mm_ev_fw hShX st_X5_choose_4 31 300 0) _) _) _).trans rfl
set_option maxRecDepth 100000 in
theorem sg_X5_choose_4_19 {v : Nat} (hv : v = 5 ∨ v = 15) (l2 : Int) (l3 : Int) (l4 : Int) (h : mm_H) : ex 31 19 [mm_r 76, mm_r v, mm_i l2, mm_i l3, mm_i l4, mm_u, mm_u] [] h = (if l2 < (h v 0) then (ex 31 51 [mm_r 76, mm_r v, mm_i l2, mm_i l3, mm_i l4, mm_i 0, mm_u] [] h) else (some (none, (mm_up (mm_st h 76 0 l4) 77 (mm_cp ((mm_st h 76 0 l4) 78) ((mm_st h 76 0 l4) 77) 0 0 5))))) := by
  rcases hv with rfl | rfl <;> exact (congrFun (congrFun (congrFun (mm_ev_fw hShX st_X5_choose_4 31 300 19) _) _) _).trans rfl
set_option maxRecDepth 100000 in
theorem sg_X5_choose_4_51 {v : Nat} (hv : v = 5 ∨ v = 15) (l2 : Int) (l3 : Int) (l4 : Int) (l5 : Int) (l6 : mm_V) (h : mm_H) : ex 31 51 [mm_r 76, mm_r v, mm_i l2, mm_i l3, mm_i l4, mm_i l5, l6] [] h = (if l5 < (h v 2) then (if (mm_and (mm_shr l3 l5) 1) = 0 then (if 0 ≤ l2 ∧ l2 < 5 then (if 0 ≤ l5 ∧ l5 < 6 then (if 0 ≤ l2 ∧ l2 < 5 then ((ex 32 0 [mm_r 76, mm_r v, mm_i (mm_add l2 1), mm_i (mm_or l3 (mm_shl 1 l5)), mm_i (mm_add l4 (mm_wr (if 0 ≤ (mm_sub ((mm_st h 78 l2.toNat l5) (v + 7) l5.toNat) ((mm_st h 78 l2.toNat l5) (v + 1) l2.toNat)) then (mm_sub ((mm_st h 78 l2.toNat l5) (v + 7) l5.toNat) ((mm_st h 78 l2.toNat l5) (v + 1) l2.toNat)) else 0 - (mm_sub ((mm_st h 78 l2.toNat l5) (v + 7) l5.toNat) ((mm_st h 78 l2.toNat l5) (v + 1) l2.toNat))))), mm_u, mm_u] [] (mm_st h 78 l2.toNat l5)).bind fun q => ex 31 115 [mm_r 76, mm_r v, mm_i l2, mm_i l3, mm_i l4, mm_i l5, mm_i (mm_wr (if 0 ≤ (mm_sub ((mm_st h 78 l2.toNat l5) (v + 7) l5.toNat) ((mm_st h 78 l2.toNat l5) (v + 1) l2.toNat)) then (mm_sub ((mm_st h 78 l2.toNat l5) (v + 7) l5.toNat) ((mm_st h 78 l2.toNat l5) (v + 1) l2.toNat)) else 0 - (mm_sub ((mm_st h 78 l2.toNat l5) (v + 7) l5.toNat) ((mm_st h 78 l2.toNat l5) (v + 1) l2.toNat))))] (q.1.toList ++ []) q.2) else none) else none) else none) else (ex 31 115 [mm_r 76, mm_r v, mm_i l2, mm_i l3, mm_i l4, mm_i l5, l6] [] h)) else (some (none, h))) := by
  rcases hv with rfl | rfl <;> exact (congrFun (congrFun (congrFun (mm_ev_fw hShX st_X5_choose_4 31 300 51) _) _) _).trans rfl
set_option maxRecDepth 100000 in
theorem sg_X5_choose_4_115 {v : Nat} (hv : v = 5 ∨ v = 15) (l2 : Int) (l3 : Int) (l4 : Int) (l5 : Int) (l6 : mm_V) (h : mm_H) : ex 31 115 [mm_r 76, mm_r v, mm_i l2, mm_i l3, mm_i l4, mm_i l5, l6] [] h = (ex 31 51 [mm_r 76, mm_r v, mm_i l2, mm_i l3, mm_i l4, mm_i (mm_wr (l5 + 1)), l6] [] h) := by
  rcases hv with rfl | rfl <;> exact (congrFun (congrFun (congrFun (mm_ev_fw hShX st_X5_choose_4 31 300 115) _) _) _).trans rfl
def st_X5_choose_5 : Nat → Bool := fun p => Nat.beq p 19 || Nat.beq p 51 || Nat.beq p 115
set_option maxRecDepth 100000 in
theorem sg_X5_choose_5_0 {v : Nat} (hv : v = 5 ∨ v = 15) (a2 : Int) (a3 : Int) (a4 : Int) (h : mm_H) : ex 32 0 [mm_r 76, mm_r v, mm_i a2, mm_i a3, mm_i a4, mm_u, mm_u] [] h = (if (h 76 0) = (-4) then (ex 32 19 [mm_r 76, mm_r v, mm_i a2, mm_i a3, mm_i a4, mm_u, mm_u] [] h) else (if a4 < (h 76 0) then (ex 32 19 [mm_r 76, mm_r v, mm_i a2, mm_i a3, mm_i a4, mm_u, mm_u] [] h) else (some (none, h)))) := by
  rcases hv with rfl | rfl <;> exact (congrFun (congrFun (congrFun (mm_ev_fw hShX st_X5_choose_5 32 300 0) _) _) _).trans rfl
set_option maxRecDepth 100000 in
theorem sg_X5_choose_5_19 {v : Nat} (hv : v = 5 ∨ v = 15) (l2 : Int) (l3 : Int) (l4 : Int) (h : mm_H) : ex 32 19 [mm_r 76, mm_r v, mm_i l2, mm_i l3, mm_i l4, mm_u, mm_u] [] h = (if l2 < (h v 0) then (ex 32 51 [mm_r 76, mm_r v, mm_i l2, mm_i l3, mm_i l4, mm_i 0, mm_u] [] h) else (some (none, (mm_up (mm_st h 76 0 l4) 77 (mm_cp ((mm_st h 76 0 l4) 78) ((mm_st h 76 0 l4) 77) 0 0 5))))) := by
  rcases hv with rfl | rfl <;> exact (congrFun (congrFun (congrFun (mm_ev_fw hShX st_X5_choose_5 32 300 19) _) _) _).trans rfl
set_option maxRecDepth 100000 in
theorem sg_X5_choose_5_51 {v : Nat} (hv : v = 5 ∨ v = 15) (l2 : Int) (l3 : Int) (l4 : Int) (l5 : Int) (l6 : mm_V) (h : mm_H) : ex 32 51 [mm_r 76, mm_r v, mm_i l2, mm_i l3, mm_i l4, mm_i l5, l6] [] h = (if l5 < (h v 2) then (if (mm_and (mm_shr l3 l5) 1) = 0 then (if 0 ≤ l2 ∧ l2 < 5 then (if 0 ≤ l5 ∧ l5 < 6 then (if 0 ≤ l2 ∧ l2 < 5 then none else none) else none) else none) else (ex 32 115 [mm_r 76, mm_r v, mm_i l2, mm_i l3, mm_i l4, mm_i l5, l6] [] h)) else (some (none, h))) := by
  rcases hv with rfl | rfl <;> exact (congrFun (congrFun (congrFun (mm_ev_fw hShX st_X5_choose_5 32 300 51) _) _) _).trans rfl
set_option maxRecDepth 100000 in
theorem sg_X5_choose_5_115 {v : Nat} (hv : v = 5 ∨ v = 15) (l2 : Int) (l3 : Int) (l4 : Int) (l5 : Int) (l6 : mm_V) (h : mm_H) : ex 32 115 [mm_r 76, mm_r v, mm_i l2, mm_i l3, mm_i l4, mm_i l5, l6] [] h = (ex 32 51 [mm_r 76, mm_r v, mm_i l2, mm_i l3, mm_i l4, mm_i (mm_wr (l5 + 1)), l6] [] h) := by
  rcases hv with rfl | rfl <;> exact (congrFun (congrFun (congrFun (mm_ev_fw hShX st_X5_choose_5 32 300 115) _) _) _).trans rfl
def st_X6_read : Nat → Bool := fun p => Nat.beq p 4 || Nat.beq p 11 || Nat.beq p 26 || Nat.beq p 41 || Nat.beq p 50 || Nat.beq p 53 || Nat.beq p 66 || Nat.beq p 69 || Nat.beq p 78 || Nat.beq p 82
set_option maxRecDepth 100000 in
theorem sg_X6_read_0 {v : Nat} (hv : v = 5 ∨ v = 15)  (h : mm_H) : ex 33 0 [mm_r 3, mm_r 1, mm_r v, mm_u, mm_u, mm_u] [] h = ((ex 49 0 [mm_r v] [] h).bind fun q => ex 33 4 [mm_r 3, mm_r 1, mm_r v, mm_u, mm_u, mm_u] (q.1.toList ++ []) q.2) := by
  rcases hv with rfl | rfl <;> exact (congrFun (congrFun (congrFun (mm_ev_fw hShX st_X6_read 33 300 0) _) _) _).trans rfl
set_option maxRecDepth 100000 in
theorem sg_X6_read_4 {v : Nat} (hv : v = 5 ∨ v = 15)  (h : mm_H) : ex 33 4 [mm_r 3, mm_r 1, mm_r v, mm_u, mm_u, mm_u] [] h = (ex 33 11 [mm_r 3, mm_r 1, mm_r v, mm_i 0, mm_u, mm_u] [] (mm_st h 3 1 0)) := by
  rcases hv with rfl | rfl <;> exact (congrFun (congrFun (congrFun (mm_ev_fw hShX st_X6_read 33 300 4) _) _) _).trans rfl
set_option maxRecDepth 100000 in
theorem sg_X6_read_11 {v : Nat} (hv : v = 5 ∨ v = 15) (l3 : Int) (l4 : mm_V) (l5 : mm_V) (h : mm_H) : ex 33 11 [mm_r 3, mm_r 1, mm_r v, mm_i l3, l4, l5] [] h = (if l3 < 200 then ((ex 47 0 [mm_r 1] [] h).bind fun q => ex 33 26 [mm_r 3, mm_r 1, mm_r v, mm_i l3, l4, l5] (q.1.toList ++ [mm_i (h 3 1)]) q.2) else (ex 33 78 [mm_r 3, mm_r 1, mm_r v, mm_i l3, l4, l5] [] h)) := by
  rcases hv with rfl | rfl <;> exact (congrFun (congrFun (congrFun (mm_ev_fw hShX st_X6_read 33 300 11) _) _) _).trans rfl
set_option maxRecDepth 100000 in
theorem sg_X6_read_26 {v : Nat} (hv : v = 5 ∨ v = 15) (l3 : Int) (l4 : mm_V) (l5 : mm_V) (s0 : Int) (s1 : Int) (h : mm_H) : ex 33 26 [mm_r 3, mm_r 1, mm_r v, mm_i l3, l4, l5] [mm_i s0, mm_i s1] h = (if s1 < s0 then ((ex 48 0 [mm_r 1, mm_i (h 3 1)] [] h).bind fun q => ex 33 41 [mm_r 3, mm_r 1, mm_r v, mm_i l3, mm_i (h 3 1), l5] (q.1.toList ++ []) q.2) else (ex 33 78 [mm_r 3, mm_r 1, mm_r v, mm_i l3, l4, l5] [] h)) := by
  rcases hv with rfl | rfl <;> exact (congrFun (congrFun (congrFun (mm_ev_fw hShX st_X6_read 33 300 26) _) _) _).trans rfl
set_option maxRecDepth 100000 in
theorem sg_X6_read_41 {v : Nat} (hv : v = 5 ∨ v = 15) (l3 : Int) (l4 : Int) (l5 : mm_V) (s0 : Int) (h : mm_H) : ex 33 41 [mm_r 3, mm_r 1, mm_r v, mm_i l3, mm_i l4, l5] [mm_i s0] h = ((ex 34 0 [mm_i s0] [] h).bind fun q => ex 33 50 [mm_r 3, mm_r 1, mm_r v, mm_i l3, mm_i l4, mm_i s0] (q.1.toList ++ [mm_r 1, mm_r 3]) q.2) := by
  rcases hv with rfl | rfl <;> exact (congrFun (congrFun (congrFun (mm_ev_fw hShX st_X6_read 33 300 41) _) _) _).trans rfl
set_option maxRecDepth 100000 in
theorem sg_X6_read_50 {v : Nat} (hv : v = 5 ∨ v = 15) (l3 : Int) (l4 : Int) (l5 : Int) (s0 : Int) (h : mm_H) : ex 33 50 [mm_r 3, mm_r 1, mm_r v, mm_i l3, mm_i l4, mm_i l5] [mm_i s0, mm_r 1, mm_r 3] h = ((ex 35 0 [mm_r 3, mm_r 1, mm_i s0, mm_u, mm_u, mm_u] [] h).bind fun q => ex 33 53 [mm_r 3, mm_r 1, mm_r v, mm_i l3, mm_i l4, mm_i l5] (q.1.toList ++ []) q.2) := by
  rcases hv with rfl | rfl <;> exact (congrFun (congrFun (congrFun (mm_ev_fw hShX st_X6_read 33 300 50) _) _) _).trans rfl
set_option maxRecDepth 100000 in
theorem sg_X6_read_53 {v : Nat} (hv : v = 5 ∨ v = 15) (l3 : Int) (l4 : Int) (l5 : Int) (s0 : Int) (h : mm_H) : ex 33 53 [mm_r 3, mm_r 1, mm_r v, mm_i l3, mm_i l4, mm_i l5] [mm_i s0] h = (if s0 = 0 then (ex 33 69 [mm_r 3, mm_r 1, mm_r v, mm_i l3, mm_i l4, mm_i l5] [] h) else ((ex 50 0 [mm_r v, mm_i l5, mm_r 4] [] h).bind fun q => ex 33 66 [mm_r 3, mm_r 1, mm_r v, mm_i l3, mm_i l4, mm_i l5] (q.1.toList ++ []) q.2)) := by
  rcases hv with rfl | rfl <;> exact (congrFun (congrFun (congrFun (mm_ev_fw hShX st_X6_read 33 300 53) _) _) _).trans rfl
set_option maxRecDepth 100000 in
theorem sg_X6_read_66 {v : Nat} (hv : v = 5 ∨ v = 15) (l3 : Int) (l4 : Int) (l5 : Int) (s0 : Int) (h : mm_H) : ex 33 66 [mm_r 3, mm_r 1, mm_r v, mm_i l3, mm_i l4, mm_i l5] [mm_i s0] h = (if s0 = 0 then (ex 33 69 [mm_r 3, mm_r 1, mm_r v, mm_i l3, mm_i l4, mm_i l5] [] h) else (ex 33 11 [mm_r 3, mm_r 1, mm_r v, mm_i (mm_wr (l3 + 1)), mm_i l4, mm_i l5] [] h)) := by
  rcases hv with rfl | rfl <;> exact (congrFun (congrFun (congrFun (mm_ev_fw hShX st_X6_read 33 300 66) _) _) _).trans rfl
set_option maxRecDepth 100000 in
theorem sg_X6_read_69 {v : Nat} (hv : v = 5 ∨ v = 15) (l3 : Int) (l4 : Int) (l5 : Int) (h : mm_H) : ex 33 69 [mm_r 3, mm_r 1, mm_r v, mm_i l3, mm_i l4, mm_i l5] [] h = (some (some (mm_i l4), h)) := by
  rcases hv with rfl | rfl <;> exact (congrFun (congrFun (congrFun (mm_ev_fw hShX st_X6_read 33 300 69) _) _) _).trans rfl
set_option maxRecDepth 100000 in
theorem sg_X6_read_78 {v : Nat} (hv : v = 5 ∨ v = 15) (l3 : Int) (l4 : mm_V) (l5 : mm_V) (h : mm_H) : ex 33 78 [mm_r 3, mm_r 1, mm_r v, mm_i l3, l4, l5] [] h = ((ex 56 0 [mm_r v, mm_u, mm_u, mm_u, mm_u] [] h).bind fun q => ex 33 82 [mm_r 3, mm_r 1, mm_r v, mm_i l3, l4, l5] (q.1.toList ++ []) q.2) := by
  rcases hv with rfl | rfl <;> exact (congrFun (congrFun (congrFun (mm_ev_fw hShX st_X6_read 33 300 78) _) _) _).trans rfl
set_option maxRecDepth 100000 in
theorem sg_X6_read_82 {v : Nat} (hv : v = 5 ∨ v = 15) (l3 : Int) (l4 : mm_V) (l5 : mm_V) (h : mm_H) : ex 33 82 [mm_r 3, mm_r 1, mm_r v, mm_i l3, l4, l5] [] h = (some (some (mm_i (-4)), h)) := by
  rcases hv with rfl | rfl <;> exact (congrFun (congrFun (congrFun (mm_ev_fw hShX st_X6_read 33 300 82) _) _) _).trans rfl
def st_X6_numbersBehind : Nat → Bool := fun p => false
set_option maxRecDepth 100000 in
theorem sg_X6_numbersBehind_0   (a0 : Int) (h : mm_H) : ex 34 0 [mm_i a0] [] h = (if a0 = 99 then (some (some (mm_i 2), h)) else (if a0 = 109 then (some (some (mm_i 1), h)) else (if a0 = 114 then (some (some (mm_i 4), h)) else (if a0 = 119 then (some (some (mm_i 2), h)) else (some (some (mm_i 0), h)))))) := (congrFun (congrFun (congrFun (mm_ev_fw hShX st_X6_numbersBehind 34 300 0) _) _) _).trans rfl
def st_X6_readNumbers : Nat → Bool := fun p => Nat.beq p 10 || Nat.beq p 24 || Nat.beq p 34 || Nat.beq p 50 || Nat.beq p 65 || Nat.beq p 70
set_option maxRecDepth 100000 in
theorem sg_X6_readNumbers_0   (a2 : Int) (h : mm_H) : ex 35 0 [mm_r 3, mm_r 1, mm_i a2, mm_u, mm_u, mm_u] [] h = (if a2 < 1 then (ex 35 10 [mm_r 3, mm_r 1, mm_i a2, mm_u, mm_u, mm_u] [] h) else (if 4 < a2 then (ex 35 10 [mm_r 3, mm_r 1, mm_i a2, mm_u, mm_u, mm_u] [] h) else (ex 35 24 [mm_r 3, mm_r 1, mm_i a2, mm_i 0, mm_u, mm_u] [] (mm_st h 3 1 (mm_add (h 3 1) 1))))) := (congrFun (congrFun (congrFun (mm_ev_fw hShX st_X6_readNumbers 35 300 0) _) _) _).trans rfl
set_option maxRecDepth 100000 in
theorem sg_X6_readNumbers_10   (l2 : Int) (h : mm_H) : ex 35 10 [mm_r 3, mm_r 1, mm_i l2, mm_u, mm_u, mm_u] [] h = (some (some (mm_i 0), h)) := (congrFun (congrFun (congrFun (mm_ev_fw hShX st_X6_readNumbers 35 300 10) _) _) _).trans rfl
set_option maxRecDepth 100000 in
theorem sg_X6_readNumbers_24   (l2 : Int) (l3 : Int) (l4 : mm_V) (l5 : mm_V) (h : mm_H) : ex 35 24 [mm_r 3, mm_r 1, mm_i l2, mm_i l3, l4, l5] [] h = (if l3 < l2 then ((ex 36 0 [mm_r 3, mm_r 1, mm_u, mm_u] [] h).bind fun q => ex 35 34 [mm_r 3, mm_r 1, mm_i l2, mm_i l3, l4, l5] (q.1.toList ++ []) q.2) else (some (some (mm_i 1), h))) := (congrFun (congrFun (congrFun (mm_ev_fw hShX st_X6_readNumbers 35 300 24) _) _) _).trans rfl
set_option maxRecDepth 100000 in
theorem sg_X6_readNumbers_34   (l2 : Int) (l3 : Int) (l4 : mm_V) (l5 : mm_V) (s0 : Int) (h : mm_H) : ex 35 34 [mm_r 3, mm_r 1, mm_i l2, mm_i l3, l4, l5] [mm_i s0] h = (if (mm_add l3 1) < l2 then (ex 35 50 [mm_r 3, mm_r 1, mm_i l2, mm_i l3, mm_i s0, l5] [mm_i 44] h) else (ex 35 50 [mm_r 3, mm_r 1, mm_i l2, mm_i l3, mm_i s0, l5] [mm_i 59] h)) := (congrFun (congrFun (congrFun (mm_ev_fw hShX st_X6_readNumbers 35 300 34) _) _) _).trans rfl
set_option maxRecDepth 100000 in
theorem sg_X6_readNumbers_50   (l2 : Int) (l3 : Int) (l4 : Int) (l5 : mm_V) (s0 : Int) (h : mm_H) : ex 35 50 [mm_r 3, mm_r 1, mm_i l2, mm_i l3, mm_i l4, l5] [mm_i s0] h = (if l4 < 0 then (ex 35 70 [mm_r 3, mm_r 1, mm_i l2, mm_i l3, mm_i l4, mm_i s0] [] h) else ((ex 48 0 [mm_r 1, mm_i (h 3 1)] [] h).bind fun q => ex 35 65 [mm_r 3, mm_r 1, mm_i l2, mm_i l3, mm_i l4, mm_i s0] (q.1.toList ++ []) q.2)) := (congrFun (congrFun (congrFun (mm_ev_fw hShX st_X6_readNumbers 35 300 50) _) _) _).trans rfl
set_option maxRecDepth 100000 in
theorem sg_X6_readNumbers_65   (l2 : Int) (l3 : Int) (l4 : Int) (l5 : Int) (s0 : Int) (h : mm_H) : ex 35 65 [mm_r 3, mm_r 1, mm_i l2, mm_i l3, mm_i l4, mm_i l5] [mm_i s0] h = (if s0 = l5 then (if 0 ≤ l3 ∧ l3 < 4 then (ex 35 24 [mm_r 3, mm_r 1, mm_i l2, mm_i (mm_wr (l3 + 1)), mm_i l4, mm_i l5] [] (mm_st (mm_st h 4 l3.toNat l4) 3 1 (mm_add ((mm_st h 4 l3.toNat l4) 3 1) 1))) else none) else (ex 35 70 [mm_r 3, mm_r 1, mm_i l2, mm_i l3, mm_i l4, mm_i l5] [] h)) := (congrFun (congrFun (congrFun (mm_ev_fw hShX st_X6_readNumbers 35 300 65) _) _) _).trans rfl
set_option maxRecDepth 100000 in
theorem sg_X6_readNumbers_70   (l2 : Int) (l3 : Int) (l4 : Int) (l5 : Int) (h : mm_H) : ex 35 70 [mm_r 3, mm_r 1, mm_i l2, mm_i l3, mm_i l4, mm_i l5] [] h = (some (some (mm_i 0), h)) := (congrFun (congrFun (congrFun (mm_ev_fw hShX st_X6_readNumbers 35 300 70) _) _) _).trans rfl
def st_X6_readNumber : Nat → Bool := fun p => Nat.beq p 8 || Nat.beq p 11 || Nat.beq p 36 || Nat.beq p 39
set_option maxRecDepth 100000 in
theorem sg_X6_readNumber_0    (h : mm_H) : ex 36 0 [mm_r 3, mm_r 1, mm_u, mm_u] [] h = ((ex 48 0 [mm_r 1, mm_i (h 3 1)] [] h).bind fun q => ex 36 8 [mm_r 3, mm_r 1, mm_u, mm_u] (q.1.toList ++ []) q.2) := (congrFun (congrFun (congrFun (mm_ev_fw hShX st_X6_readNumber 36 300 0) _) _) _).trans rfl
set_option maxRecDepth 100000 in
theorem sg_X6_readNumber_8   (s0 : Int) (h : mm_H) : ex 36 8 [mm_r 3, mm_r 1, mm_u, mm_u] [mm_i s0] h = ((ex 37 0 [mm_i s0] [] h).bind fun q => ex 36 11 [mm_r 3, mm_r 1, mm_u, mm_u] (q.1.toList ++ []) q.2) := (congrFun (congrFun (congrFun (mm_ev_fw hShX st_X6_readNumber 36 300 8) _) _) _).trans rfl
set_option maxRecDepth 100000 in
theorem sg_X6_readNumber_11   (s0 : Int) (h : mm_H) : ex 36 11 [mm_r 3, mm_r 1, mm_u, mm_u] [mm_i s0] h = (if s0 < 0 then (some (some (mm_i (-1)), h)) else ((ex 48 0 [mm_r 1, mm_i ((mm_st h 3 1 (mm_add (h 3 1) 1)) 3 1)] [] (mm_st h 3 1 (mm_add (h 3 1) 1))).bind fun q => ex 36 36 [mm_r 3, mm_r 1, mm_i s0, mm_u] (q.1.toList ++ []) q.2)) := (congrFun (congrFun (congrFun (mm_ev_fw hShX st_X6_readNumber 36 300 11) _) _) _).trans rfl
set_option maxRecDepth 100000 in
theorem sg_X6_readNumber_36   (l2 : Int) (s0 : Int) (h : mm_H) : ex 36 36 [mm_r 3, mm_r 1, mm_i l2, mm_u] [mm_i s0] h = ((ex 37 0 [mm_i s0] [] h).bind fun q => ex 36 39 [mm_r 3, mm_r 1, mm_i l2, mm_u] (q.1.toList ++ []) q.2) := (congrFun (congrFun (congrFun (mm_ev_fw hShX st_X6_readNumber 36 300 36) _) _) _).trans rfl
set_option maxRecDepth 100000 in
theorem sg_X6_readNumber_39   (l2 : Int) (s0 : Int) (h : mm_H) : ex 36 39 [mm_r 3, mm_r 1, mm_i l2, mm_u] [mm_i s0] h = (if s0 < 0 then (some (some (mm_i l2), h)) else (some (some (mm_i (mm_add (mm_mul 10 l2) s0)), (mm_st h 3 1 (mm_add (h 3 1) 1))))) := (congrFun (congrFun (congrFun (mm_ev_fw hShX st_X6_readNumber 36 300 39) _) _) _).trans rfl
