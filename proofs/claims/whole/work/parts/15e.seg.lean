def st_X11_keep : Nat → Bool := fun p => Nat.beq p 13
set_option maxRecDepth 100000 in
theorem sg_X11_keep_0    (h : mm_H) : em 52 0 [mm_r 0, mm_u] [] h = (if (h 0 8) = 2 then (some (some (mm_i (-3)), h)) else (em 52 13 [mm_r 0, mm_i 0] [] h)) := (congrFun (congrFun (congrFun (mm_ev_fw hShM st_X11_keep 52 300 0) _) _) _).trans rfl
set_option maxRecDepth 100000 in
theorem sg_X11_keep_13   (l1 : Int) (h : mm_H) : em 52 13 [mm_r 0, mm_i l1] [] h = (if l1 < 12 then (if 0 ≤ l1 ∧ l1 < 12 then (if 0 ≤ (mm_add (mm_mul 12 (h 0 8)) l1) ∧ (mm_add (mm_mul 12 (h 0 8)) l1) < 24 then (em 52 13 [mm_r 0, mm_i (mm_wr (l1 + 1))] [] (mm_st h 6 (mm_add (mm_mul 12 (h 0 8)) l1).toNat (h 4 l1.toNat))) else none) else none) else (some (some (mm_i ((mm_st h 0 8 (mm_add (h 0 8) 1)) 0 8)), (mm_st h 0 8 (mm_add (h 0 8) 1))))) := (congrFun (congrFun (congrFun (mm_ev_fw hShM st_X11_keep 52 300 13) _) _) _).trans rfl
def st_X11_back : Nat → Bool := fun p => Nat.beq p 22
set_option maxRecDepth 100000 in
theorem sg_X11_back_0    (h : mm_H) : em 53 0 [mm_r 0, mm_u] [] h = (if (h 0 8) = 0 then (some (some (mm_i (-2)), h)) else (em 53 22 [mm_r 0, mm_i 0] [] (mm_st h 0 8 (mm_sub (h 0 8) 1)))) := (congrFun (congrFun (congrFun (mm_ev_fw hShM st_X11_back 53 300 0) _) _) _).trans rfl
set_option maxRecDepth 100000 in
theorem sg_X11_back_22   (l1 : Int) (h : mm_H) : em 53 22 [mm_r 0, mm_i l1] [] h = (if l1 < 12 then (if 0 ≤ (mm_add (mm_mul 12 (h 0 8)) l1) ∧ (mm_add (mm_mul 12 (h 0 8)) l1) < 24 then (if 0 ≤ l1 ∧ l1 < 12 then (em 53 22 [mm_r 0, mm_i (mm_wr (l1 + 1))] [] (mm_st h 4 l1.toNat (h 6 (mm_add (mm_mul 12 (h 0 8)) l1).toNat))) else none) else none) else (some (some (mm_i ((mm_st h 0 6 0) 0 8)), (mm_st h 0 6 0)))) := (congrFun (congrFun (congrFun (mm_ev_fw hShM st_X11_back 53 300 22) _) _) _).trans rfl
def st_X11_count : Nat → Bool := fun p => false
set_option maxRecDepth 100000 in
theorem sg_X11_count_0   (a1 : Int) (h : mm_H) : em 54 0 [mm_r 0, mm_i a1] [] h = (if a1 = 0 then (some (some (mm_i (h 2 0)), h)) else (if a1 = 1 then (some (some (mm_i (h 2 1)), h)) else (if a1 = 2 then (some (some (mm_i (h 2 2)), h)) else (if a1 = 3 then (some (some (mm_i (h 0 10)), h)) else (if a1 = 4 then (some (some (mm_i (h 0 6)), h)) else (if a1 = 5 then (some (some (mm_i (h 0 8)), h)) else (if a1 = 6 then (some (some (mm_i (h 0 1)), h)) else (some (some (mm_i (-1)), h))))))))) := (congrFun (congrFun (congrFun (mm_ev_fw hShM st_X11_count 54 300 0) _) _) _).trans rfl
