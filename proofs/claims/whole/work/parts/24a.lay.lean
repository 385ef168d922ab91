/-! ===== lay: the segments behind the swap, where the old valley and the new one are two ===== -/
set_option maxRecDepth 100000 in
theorem sg_lay_59 {v dv : Nat} (hv : v = 5 ∨ v = 15) (hdv : dv = 5 ∨ dv = 15) (h : mm_H) : ex 70 59 [mm_r 0, mm_r v] [mm_r dv, mm_r 25] h = ((ex 14 0 [mm_r 25, mm_r dv, mm_u] [] h).bind fun q => ex 70 62 [mm_r 0, mm_r v] (q.1.toList ++ []) q.2) := by
  rcases hv with rfl | rfl <;> rcases hdv with rfl | rfl <;> exact (congrFun (congrFun (congrFun (mm_ev_fw hShX st_X10_lay 70 300 59) _) _) _).trans rfl
set_option maxRecDepth 100000 in
theorem sg_lay_87 {v dv : Nat} (hv : v = 5 ∨ v = 15) (hdv : dv = 5 ∨ dv = 15) (h : mm_H) : ex 70 87 [mm_r 0, mm_r v] [mm_r dv] h = (some (some (mm_i (h dv 0)), h)) := by
  rcases hv with rfl | rfl <;> rcases hdv with rfl | rfl <;> exact (congrFun (congrFun (congrFun (mm_ev_fw hShX st_X10_lay 70 300 87) _) _) _).trans rfl
/-- a letter of the text -/
theorem Rel.dv {h g : mm_H} {v : Nat} (hr : Rel h g v) : ∃ dv : Nat, (dv = 5 ∨ dv = 15) ∧ dv ≠ v ∧ (h 0 3).toNat = dv ∧ h 0 3 = dv := by
  have h1 := hr.V.1
  have h2 := hr.1.2
  refine ⟨20 - v, by omega, by omega, by omega, by omega⟩
