/-! ===== the class, made (by wip/gen/walkx.py) ===== -/
theorem vw_125 : Cond.methodLink RX10 1 objectInit ∈ lw_good := lw_in 58 (by decide +kernel) rfl
theorem vw_126 : Cond.classLink RX10 7 RX8 ∈ lw_good := lw_in 61 (by decide +kernel) rfl
theorem vw_127 : Cond.instantiable RX8 2 ∈ lw_good := lw_in 62 (by decide +kernel) rfl
theorem vw_128 : Cond.code yX8_init cX8_init 1 none ∈ lw_good := lw_in 65 (by decide +kernel) rfl
theorem vw_129 : Cond.methodLink RX10 9 yX8_init ∈ lw_good := lw_in 63 (by decide +kernel) rfl
theorem vw_130 : Cond.instanceMethod yX8_init ∈ lw_good := lw_in 64 (by decide +kernel) rfl
theorem vw_131 : Cond.classLink RX10 16 RX6 ∈ lw_good := lw_in 75 (by decide +kernel) rfl
theorem vw_132 : Cond.instantiable RX6 2 ∈ lw_good := lw_in 76 (by decide +kernel) rfl
theorem vw_133 : Cond.code yX6_init cX6_init 1 none ∈ lw_good := lw_in 79 (by decide +kernel) rfl
theorem vw_134 : Cond.methodLink RX10 18 yX6_init ∈ lw_good := lw_in 77 (by decide +kernel) rfl
theorem vw_135 : Cond.instanceMethod yX6_init ∈ lw_good := lw_in 78 (by decide +kernel) rfl
theorem vw_136 : Cond.classLink RX10 23 RX9 ∈ lw_good := lw_in 89 (by decide +kernel) rfl
theorem vw_137 : Cond.instantiable RX9 14 ∈ lw_good := lw_in 90 (by decide +kernel) rfl
theorem vw_138 : Cond.code yX9_init cX9_init 1 none ∈ lw_good := lw_in 93 (by decide +kernel) rfl
theorem vw_139 : Cond.methodLink RX10 25 yX9_init ∈ lw_good := lw_in 91 (by decide +kernel) rfl
theorem vw_140 : Cond.instanceMethod yX9_init ∈ lw_good := lw_in 92 (by decide +kernel) rfl
theorem vw_141 : Cond.fieldLink RX10 30 "DuskOnRopes" "draft" "LDuskOnRopes$Valley;" ∈ lw_good := lw_in 434 (by decide +kernel) rfl
theorem vw_142 : Cond.classLink RX10 33 RX3 ∈ lw_good := lw_in 158 (by decide +kernel) rfl
theorem vw_143 : Cond.methodLink RX10 35 yX3_init ∈ lw_good := lw_in 160 (by decide +kernel) rfl
theorem vw_144 : Cond.classLink RX10 40 RX7 ∈ lw_good := lw_in 187 (by decide +kernel) rfl
theorem vw_145 : Cond.instantiable RX7 2 ∈ lw_good := lw_in 188 (by decide +kernel) rfl
theorem vw_146 : Cond.initialized RX7 ∈ lw_good := lw_in 38 (by decide +kernel) rfl
theorem vw_147 : Cond.code yX7_init cX7_init 3 none ∈ lw_good := lw_in 191 (by decide +kernel) rfl
theorem vw_148 : Cond.methodLink RX10 42 yX7_init ∈ lw_good := lw_in 189 (by decide +kernel) rfl
theorem vw_149 : Cond.instanceMethod yX7_init ∈ lw_good := lw_in 190 (by decide +kernel) rfl
theorem vw_150 : Cond.fieldLink RX10 45 "DuskOnRopes" "undoable" "LDuskOnRopes$Skies;" ∈ lw_good := lw_in 436 (by decide +kernel) rfl
theorem vw_151 : Cond.fieldLink RX10 49 "DuskOnRopes" "kept" "LDuskOnRopes$Skies;" ∈ lw_good := lw_in 437 (by decide +kernel) rfl
theorem vw_152 : Cond.classLink RX10 52 RX0 ∈ lw_good := lw_in 206 (by decide +kernel) rfl
theorem vw_153 : Cond.instantiable RX0 1 ∈ lw_good := lw_in 207 (by decide +kernel) rfl
theorem vw_154 : Cond.initialized RX0 ∈ lw_good := lw_in 40 (by decide +kernel) rfl
theorem vw_155 : Cond.code yX0_init cX0_init 1 none ∈ lw_good := lw_in 210 (by decide +kernel) rfl
theorem vw_156 : Cond.methodLink RX10 54 yX0_init ∈ lw_good := lw_in 208 (by decide +kernel) rfl
theorem vw_157 : Cond.instanceMethod yX0_init ∈ lw_good := lw_in 209 (by decide +kernel) rfl
theorem vw_158 : Cond.fieldLink RX10 55 "DuskOnRopes" "ahead" "LDuskOnRopes$Ahead;" ∈ lw_good := lw_in 438 (by decide +kernel) rfl
theorem vw_159 : Cond.classLink RX10 59 RX4 ∈ lw_good := lw_in 218 (by decide +kernel) rfl
theorem vw_160 : Cond.instantiable RX4 5 ∈ lw_good := lw_in 219 (by decide +kernel) rfl
theorem vw_161 : Cond.initialized RX4 ∈ lw_good := lw_in 41 (by decide +kernel) rfl
theorem vw_162 : Cond.code yX4_init cX4_init 1 none ∈ lw_good := lw_in 222 (by decide +kernel) rfl
theorem vw_163 : Cond.methodLink RX10 61 yX4_init ∈ lw_good := lw_in 220 (by decide +kernel) rfl
theorem vw_164 : Cond.instanceMethod yX4_init ∈ lw_good := lw_in 221 (by decide +kernel) rfl
theorem vw_165 : Cond.fieldLink RX10 62 "DuskOnRopes" "planner" "LDuskOnRopes$Planner;" ∈ lw_good := lw_in 439 (by decide +kernel) rfl
theorem vw_166 : Cond.classLink RX10 66 RX5 ∈ lw_good := lw_in 244 (by decide +kernel) rfl
theorem vw_167 : Cond.instantiable RX5 3 ∈ lw_good := lw_in 245 (by decide +kernel) rfl
theorem vw_168 : Cond.initialized RX5 ∈ lw_good := lw_in 42 (by decide +kernel) rfl
theorem vw_169 : Cond.code yX5_init cX5_init 1 none ∈ lw_good := lw_in 248 (by decide +kernel) rfl
theorem vw_170 : Cond.methodLink RX10 68 yX5_init ∈ lw_good := lw_in 246 (by decide +kernel) rfl
theorem vw_171 : Cond.instanceMethod yX5_init ∈ lw_good := lw_in 247 (by decide +kernel) rfl
theorem vw_172 : Cond.fieldLink RX10 69 "DuskOnRopes" "poster" "LDuskOnRopes$Poster;" ∈ lw_good := lw_in 440 (by decide +kernel) rfl
theorem vw_173 : Cond.classLink RX10 73 RX2 ∈ lw_good := lw_in 262 (by decide +kernel) rfl
theorem vw_174 : Cond.instantiable RX2 7 ∈ lw_good := lw_in 263 (by decide +kernel) rfl
theorem vw_175 : Cond.initialized RX2 ∈ lw_good := lw_in 43 (by decide +kernel) rfl
theorem vw_176 : Cond.code yX2_init cX2_init 1 none ∈ lw_good := lw_in 266 (by decide +kernel) rfl
theorem vw_177 : Cond.methodLink RX10 75 yX2_init ∈ lw_good := lw_in 264 (by decide +kernel) rfl
theorem vw_178 : Cond.instanceMethod yX2_init ∈ lw_good := lw_in 265 (by decide +kernel) rfl
theorem vw_179 : Cond.fieldLink RX10 76 "DuskOnRopes" "clues" "LDuskOnRopes$Clues;" ∈ lw_good := lw_in 441 (by decide +kernel) rfl
theorem vw_180 : Cond.classLink RX10 80 RX1 ∈ lw_good := lw_in 292 (by decide +kernel) rfl
theorem vw_181 : Cond.instantiable RX1 1 ∈ lw_good := lw_in 293 (by decide +kernel) rfl
theorem vw_182 : Cond.initialized RX1 ∈ lw_good := lw_in 44 (by decide +kernel) rfl
theorem vw_183 : Cond.code yX1_init cX1_init 1 none ∈ lw_good := lw_in 296 (by decide +kernel) rfl
theorem vw_184 : Cond.methodLink RX10 82 yX1_init ∈ lw_good := lw_in 294 (by decide +kernel) rfl
theorem vw_185 : Cond.instanceMethod yX1_init ∈ lw_good := lw_in 295 (by decide +kernel) rfl
theorem vw_186 : Cond.fieldLink RX10 83 "DuskOnRopes" "chances" "LDuskOnRopes$Chances;" ∈ lw_good := lw_in 442 (by decide +kernel) rfl
theorem vw_187 : Cond.code yX10_layFirstText cX10_layFirstText 2 none ∈ lw_good := lw_in 305 (by decide +kernel) rfl
theorem vw_188 : Cond.initialized RX10 ∈ lw_good := lw_in 33 (by decide +kernel) rfl
theorem vw_189 : Cond.methodLink RX10 87 yX10_layFirstText ∈ lw_good := lw_in 302 (by decide +kernel) rfl
theorem vw_190 : Cond.instanceMethod yX10_layFirstText ∈ lw_good := lw_in 304 (by decide +kernel) rfl
theorem vw_191 : Cond.selects RX10 yX10_layFirstText yX10_layFirstText ∈ lw_good := lw_in 0 (by decide +kernel) rfl
/-- the class's cells, one by one -/
def xl_X (cs : ClassId × ClassId × ClassId × ClassId) (ad : Nat → Nat) (f g k5 : Nat → Option Nat) : va_W := [(ad 0, .inr (10, [.ref (ad 1), .ref (ad 3), .ref (ad 5), .ref (ad 15), .ref (ad 25), .ref (ad 28), .ref (ad 54), .ref (ad 62), .ref (ad 66), .ref (ad 76), .ref (ad 79), .ref (ad 85)])), (ad 1, .inr (8, [.ref (ad 2), .int 0])), (ad 2, zc cs 200), (ad 3, .inr (6, [.ref (ad 4), .int 0])), (ad 4, zi cs 4), (ad 5, .inr (9, [.int 0, .int 0, .int 0, .ref (ad 6), .ref (ad 7), .ref (ad 8), .ref (ad 9), .ref (ad 10), .ref (ad 11), .ref (ad 12), .int 1, .int 2, .ref (ad 13), .ref (ad 14)])), (ad 6, zi cs 5), (ad 7, zi cs 5), (ad 8, zi cs 5), (ad 9, zi cs 5), (ad 10, zi cs 8), (ad 11, zi cs 8), (ad 12, zi cs 6), (ad 13, zi cs 24), (ad 14, zi cs 24), (ad 15, .inr (9, [.int 0, .int 0, .int 0, .ref (ad 16), .ref (ad 17), .ref (ad 18), .ref (ad 19), .ref (ad 20), .ref (ad 21), .ref (ad 22), .int 1, .int 2, .ref (ad 23), .ref (ad 24)])), (ad 16, zi cs 5), (ad 17, zi cs 5), (ad 18, zi cs 5), (ad 19, zi cs 5), (ad 20, zi cs 8), (ad 21, zi cs 8), (ad 22, zi cs 6), (ad 23, zi cs 24), (ad 24, zi cs 24), (ad 25, .inr (3, [.ref (ad 26), .ref (ad 27), .int 0, .int 0])), (ad 26, zi cs 5), (ad 27, zi cs 5), (ad 28, .inr (7, [.ref (ad 29), .int 0])), (ad 29, zq cs 8 f), (ad 30, .inr (3, [.ref (ad 31), .ref (ad 32), .int 0, .int 0])), (ad 31, zi cs 5), (ad 32, zi cs 5), (ad 33, .inr (3, [.ref (ad 34), .ref (ad 35), .int 0, .int 0])), (ad 34, zi cs 5), (ad 35, zi cs 5), (ad 36, .inr (3, [.ref (ad 37), .ref (ad 38), .int 0, .int 0])), (ad 37, zi cs 5), (ad 38, zi cs 5), (ad 39, .inr (3, [.ref (ad 40), .ref (ad 41), .int 0, .int 0])), (ad 40, zi cs 5), (ad 41, zi cs 5), (ad 42, .inr (3, [.ref (ad 43), .ref (ad 44), .int 0, .int 0])), (ad 43, zi cs 5), (ad 44, zi cs 5), (ad 45, .inr (3, [.ref (ad 46), .ref (ad 47), .int 0, .int 0])), (ad 46, zi cs 5), (ad 47, zi cs 5), (ad 48, .inr (3, [.ref (ad 49), .ref (ad 50), .int 0, .int 0])), (ad 49, zi cs 5), (ad 50, zi cs 5), (ad 51, .inr (3, [.ref (ad 52), .ref (ad 53), .int 0, .int 0])), (ad 52, zi cs 5), (ad 53, zi cs 5), (ad 54, .inr (7, [.ref (ad 55), .int 0])), (ad 55, zq cs 2 g), (ad 56, .inr (3, [.ref (ad 57), .ref (ad 58), .int 0, .int 0])), (ad 57, zi cs 5), (ad 58, zi cs 5), (ad 59, .inr (3, [.ref (ad 60), .ref (ad 61), .int 0, .int 0])), (ad 60, zi cs 5), (ad 61, zi cs 5), (ad 62, .inr (0, [.ref (ad 63)])), (ad 63, .inr (3, [.ref (ad 64), .ref (ad 65), .int 0, .int 0])), (ad 64, zi cs 5), (ad 65, zi cs 5), (ad 66, .inr (4, [.int (-4), .ref (ad 67), .ref (ad 68), .ref (ad 69), .ref (ad 70)])), (ad 67, zi cs 5), (ad 68, zi cs 5), (ad 69, zi cs 5), (ad 70, zg cs 5 k5), (ad 71, zi cs 5), (ad 72, zi cs 5), (ad 73, zi cs 5), (ad 74, zi cs 5), (ad 75, zi cs 5), (ad 76, .inr (5, [.int (-4), .ref (ad 77), .ref (ad 78)])), (ad 77, zi cs 5), (ad 78, zi cs 5), (ad 79, .inr (2, [.ref (ad 80), .ref (ad 81), .int 0, .ref (ad 82), .int 0, .ref (ad 83), .ref (ad 84)])), (ad 80, zi cs 8), (ad 81, zi cs 8), (ad 82, zi cs 50), (ad 83, zi cs 5), (ad 84, zi cs 41), (ad 85, .inr (1, [.ref (ad 86)])), (ad 86, zi cs 7)]
theorem cv_q {cA : ClassId} {N a : Nat} {f g : Nat → Option Nat} {H : Heap} (e : ∀ j, j < N → f j = g j) (h : H[a]? = some (vp_cell cA (N, .inr (.inr (.inr (.inr f)))))) : H[a]? = some (vp_cell cA (N, .inr (.inr (.inr (.inr g))))) := by
  rw [h, vp_cell_q, vp_cell_q]
  unfold arrV
  have : (Array.ofFn (n := N) fun j => va_rf (f j.val)) = Array.ofFn (n := N) fun j => va_rf (g j.val) := by
    congr 1
    funext j
    rw [e j.val j.isLt]
  rw [this]
theorem cv_D {A : Nat → Prop} {E : va_W} {N : Nat} {w : mm_W} {fsp : Nat → List Nat} {cs : ClassId × ClassId × ClassId × ClassId} {ad : Nat → Nat} {h : mm_H} (he : E.map Prod.fst = (List.range N).map ad) (hD : va_D A E) : va_D A (mm_wd N w fsp cs ad h) := by
  have hlen : E.length = N := by simpa using congrArg List.length he
  have hadr : ∀ (i : Nat) (hi : i < N), E[i]? = some (ad i, (E[i]'(hlen ▸ hi)).2) := fun i hi => by
    have h1 := congrArg (fun L => L[i]?) he
    simp only [List.getElem?_map, List.getElem?_range hi, List.getElem?_eq_getElem (show i < E.length from hlen ▸ hi), Option.map_some, Option.some.injEq] at h1
    rw [List.getElem?_eq_getElem (hlen ▸ hi), ← h1]
  have hone : ∀ {i : Nat} {x : Nat × va_E}, (mm_wd N w fsp cs ad h)[i]? = some x → i < N ∧ x.1 = ad i := fun hx => ⟨(mm_wd_of hx).1, congrArg Prod.fst (mm_wd_of hx).2⟩
  exact ⟨fun i j x y hx hy exy => hD.1 i j _ _ (hadr i (hone hx).1) (hadr j (hone hy).1) ((hone hx).2.symm.trans (exy.trans (hone hy).2)), fun k x hx => (hone hx).2 ▸ hD.2 k _ (hadr k (hone hx).1)⟩
set_option maxRecDepth 100000 in
theorem xl_Xf (cs : ClassId × ClassId × ClassId × ClassId) (ad : Nat → Nat) (f g k5 : Nat → Option Nat) : (xl_X cs ad f g k5).map Prod.fst = (List.range 87).map ad := rfl
set_option maxHeartbeats 4000000 in
set_option maxRecDepth 100000 in
theorem cv_X {D : va_G} {cs : ClassId × ClassId × ClassId × ClassId} {ad : Nat → Nat} {f g k5 : Nat → Option Nat} {H : Heap} (hf : ∀ i, i < 8 → f i = some (ad (30 + 3 * i))) (hg : ∀ i, i < 2 → g i = some (ad (56 + 3 * i))) (hk5 : ∀ j, j < 5 → k5 j = some (ad (70 + 1 + j))) (hP : va_P D classes (xl_X cs ad f g k5) H) : va_P D classes (wdX cs ad hX0) H := by
  intro k x hx
  obtain ⟨hk, rfl⟩ := mm_wd_of hx
  match k, hk with
  | 0, _ => exact hP 0 _ rfl
  | 1, _ => exact hP 1 _ rfl
  | 2, _ => exact hP 2 _ rfl
  | 3, _ => exact hP 3 _ rfl
  | 4, _ => exact hP 4 _ rfl
  | 5, _ => exact hP 5 _ rfl
  | 6, _ => exact hP 6 _ rfl
  | 7, _ => exact hP 7 _ rfl
  | 8, _ => exact hP 8 _ rfl
  | 9, _ => exact hP 9 _ rfl
  | 10, _ => exact hP 10 _ rfl
  | 11, _ => exact hP 11 _ rfl
  | 12, _ => exact hP 12 _ rfl
  | 13, _ => exact hP 13 _ rfl
  | 14, _ => exact hP 14 _ rfl
  | 15, _ => exact hP 15 _ rfl
  | 16, _ => exact hP 16 _ rfl
  | 17, _ => exact hP 17 _ rfl
  | 18, _ => exact hP 18 _ rfl
  | 19, _ => exact hP 19 _ rfl
  | 20, _ => exact hP 20 _ rfl
  | 21, _ => exact hP 21 _ rfl
  | 22, _ => exact hP 22 _ rfl
  | 23, _ => exact hP 23 _ rfl
  | 24, _ => exact hP 24 _ rfl
  | 25, _ => exact hP 25 _ rfl
  | 26, _ => exact hP 26 _ rfl
  | 27, _ => exact hP 27 _ rfl
  | 28, _ => exact hP 28 _ rfl
  | 29, _ =>
    show va_at D classes (ad 29, mm_cell wX mm_fs cs ad (hX0 29) 29) H
    rw [mm_cell2 (show (wX 29).1 = 2 by decide)]
    refine cv_q (f := f) (N := 8) (fun j hj => ?_) (hP 29 _ rfl)
    rw [hf j hj]
    show _ = some (ad (if j < 8 then (30 + 3 * (j : Int)) else 0).toNat)
    rw [if_pos hj, show (30 + 3 * (j : Int)).toNat = 30 + 3 * j by omega]
  | 30, _ => exact hP 30 _ rfl
  | 31, _ => exact hP 31 _ rfl
  | 32, _ => exact hP 32 _ rfl
  | 33, _ => exact hP 33 _ rfl
  | 34, _ => exact hP 34 _ rfl
  | 35, _ => exact hP 35 _ rfl
  | 36, _ => exact hP 36 _ rfl
  | 37, _ => exact hP 37 _ rfl
  | 38, _ => exact hP 38 _ rfl
  | 39, _ => exact hP 39 _ rfl
  | 40, _ => exact hP 40 _ rfl
  | 41, _ => exact hP 41 _ rfl
  | 42, _ => exact hP 42 _ rfl
  | 43, _ => exact hP 43 _ rfl
  | 44, _ => exact hP 44 _ rfl
  | 45, _ => exact hP 45 _ rfl
  | 46, _ => exact hP 46 _ rfl
  | 47, _ => exact hP 47 _ rfl
  | 48, _ => exact hP 48 _ rfl
  | 49, _ => exact hP 49 _ rfl
  | 50, _ => exact hP 50 _ rfl
  | 51, _ => exact hP 51 _ rfl
  | 52, _ => exact hP 52 _ rfl
  | 53, _ => exact hP 53 _ rfl
  | 54, _ => exact hP 54 _ rfl
  | 55, _ =>
    show va_at D classes (ad 55, mm_cell wX mm_fs cs ad (hX0 55) 55) H
    rw [mm_cell2 (show (wX 55).1 = 2 by decide)]
    refine cv_q (f := g) (N := 2) (fun j hj => ?_) (hP 55 _ rfl)
    rw [hg j hj]
    show _ = some (ad (if j < 2 then (56 + 3 * (j : Int)) else 0).toNat)
    rw [if_pos hj, show (56 + 3 * (j : Int)).toNat = 56 + 3 * j by omega]
  | 56, _ => exact hP 56 _ rfl
  | 57, _ => exact hP 57 _ rfl
  | 58, _ => exact hP 58 _ rfl
  | 59, _ => exact hP 59 _ rfl
  | 60, _ => exact hP 60 _ rfl
  | 61, _ => exact hP 61 _ rfl
  | 62, _ => exact hP 62 _ rfl
  | 63, _ => exact hP 63 _ rfl
  | 64, _ => exact hP 64 _ rfl
  | 65, _ => exact hP 65 _ rfl
  | 66, _ => exact hP 66 _ rfl
  | 67, _ => exact hP 67 _ rfl
  | 68, _ => exact hP 68 _ rfl
  | 69, _ => exact hP 69 _ rfl
  | 70, _ =>
    show va_at D classes (ad 70, mm_cell wX mm_fs cs ad (hX0 70) 70) H
    rw [mm_cell3 (show (wX 70).1 = 3 by decide)]
    exact cv_q (f := k5) (N := 5) (fun j hj => hk5 j hj) (hP 70 _ rfl)
  | 71, _ => exact hP 71 _ rfl
  | 72, _ => exact hP 72 _ rfl
  | 73, _ => exact hP 73 _ rfl
  | 74, _ => exact hP 74 _ rfl
  | 75, _ => exact hP 75 _ rfl
  | 76, _ => exact hP 76 _ rfl
  | 77, _ => exact hP 77 _ rfl
  | 78, _ => exact hP 78 _ rfl
  | 79, _ => exact hP 79 _ rfl
  | 80, _ => exact hP 80 _ rfl
  | 81, _ => exact hP 81 _ rfl
  | 82, _ => exact hP 82 _ rfl
  | 83, _ => exact hP 83 _ rfl
  | 84, _ => exact hP 84 _ rfl
  | 85, _ => exact hP 85 _ rfl
  | 86, _ => exact hP 86 _ rfl
  | n + 87, hk => omega
abbrev ii_X10 : mm_M := (yX10_init, cX10_init, 1, none, 0)
theorem SF.narrow {tK tV : Nat} {A B : Nat → Prop} {U : State} {H : Heap} (h : SF tK tV A U H) (hAB : ∀ q, B q → A q) : SF tK tV B U H := ⟨h.1.narrow hAB, h.2.1.narrow hAB, h.2.2.1.narrow hAB, h.2.2.2.1.narrow hAB, h.2.2.2.2.1.narrow hAB, h.2.2.2.2.2.narrow hAB⟩
abbrev w0X (h0 : Nat) : va_W := [(h0, .inr (10, [.null, .null, .null, .null, .null, .null, .null, .null, .null, .null, .null, .null]))]
def cx_P (D : va_G) (cs : ClassId × ClassId × ClassId × ClassId) (h0 : Nat) (tx : String) (tK tV sz : Nat) : State → Prop := fun U => kc_P D cs (w0X h0) sz U ∧ mm_Nw nests U ∧ SF tK tV (va_A (w0X h0) sz) U U.heap ∧ vk_R RX10 262 tx tK U
theorem cx_blind {D : va_G} {cs : ClassId × ClassId × ClassId × ClassId} {h0 : Nat} {tx : String} {tK tV sz : Nat} {av : List Value} : FrameBlind (va_Pc av (cx_P D cs h0 tx tK tV sz)) := fun a U g mk q => by
  obtain ⟨q0, ⟨q1, qP, qK, qD, qE⟩, qN, qS, qR⟩ := q
  exact ⟨q0, ⟨q1, qP, va_K.moved (u := U) (U := U.calling g mk a) (Vm.Alike.refl U.vm) qK, qD, EX.moved (u := U) (U := U.calling g mk a) (Vm.Alike.refl U.vm) qE⟩, fun x hx => va_Nw.same rfl rfl (qN x hx), SF.moved (u := U) (U := U.calling g mk a) (Vm.Alike.refl U.vm) qS, vk_R.same rfl qR⟩
set_option maxHeartbeats 8000000 in
set_option maxRecDepth 100000 in
theorem cx_met (l : Launch) (D : va_G) (cs : ClassId × ClassId × ClassId × ClassId) (h0 : Nat) (tx : String) (tK tV sz : Nat) : Met l yX10_init (mm_ws lw_good ii_X10) (kc_R 12 86 789) (va_Pc [.ref h0] (cx_P D cs h0 tx tK tV sz)) (va_Qv (fun u : (Nat → Nat) × mm_H => u.1 0 = h0 ∧ IX u.2 ∧ mm_okH u.2) (fun u t => va_P D classes (wdX cs u.1 u.2) t.heap ∧ va_D (va_A (w0X h0) sz) (wdX cs u.1 u.2)) (va_A (w0X h0) sz)) 86 789 (va_A (w0X h0) sz) := by
  refine Met.ofW (cc := cX10_init) (maxL := 1) (ret := none) (by decide) rfl ?_
  intro p e s m args below meth c s1 Bd hml hv
  obtain ⟨rfl, ⟨hsz, hP, hK, hD0, hE⟩, hNw, hSF, hR⟩ := hv
  subst hsz
  have hx := Bd.exec
  have hb := Bd.bytes
  have hr := Bd.returns
  have hts := atoms_spec (ws := mm_ws lw_good ii_X10) Bd.pre
  have hown : s.vm.findClass RX10 = some m.cls := findClass_of_methodNamed Bd.named
  have hlocks := Bd.notSynchronized
  have hin : meth.name = "<init>" := (name_of_methodNamed Bd.named Bd.method).1
  have hD := hD0.self (sz := s.heap.size)
  generalize hAe : va_A (w0X h0) s.heap.size = A at hD hSF ⊢
  have hA : ∀ q : Nat, s.heap.size ≤ q → A q := fun q h => by rw [← hAe]; exact Or.inr h
  have hS : va_S A s.heap s.heap [] := va_S.rf
  have hl := lv_entry ([.ref h0]) (n := 1) (Nat.le_of_ble_eq_true rfl)
  rw [lg_entry_eq]
  generalize (lg_sl ([.ref h0]) ++ List.replicate (1 - (lg_sl ([.ref h0])).length) Slot.unset).toArray = ls at hl ⊢
  have hl : lv_has ls 1 [(0, .ref h0)] := hl
  have hP : va_P D classes ((h0, .inr (10, [.null, .null, .null, .null, .null, .null, .null, .null, .null, .null, .null, .null])) :: []) s.heap := hP
  have hD : va_D A ((h0, .inr (10, [.null, .null, .null, .null, .null, .null, .null, .null, .null, .null, .null, .null])) :: []) := hD
  refine lv_aload_n hx hb dX10_init_0 rfl (lv_at hl 0 rfl) ?_
  refine W.objInit hx hb hown (hts _ (List.mem_cons_of_mem _ vw_125)) (hts _ (List.mem_cons_of_mem _ vw_1)) (hts _ (List.mem_cons_of_mem _ vw_2)) rfl (by rw [hml]; exact hl.1) rfl dX10_init_1 (Nat.le_of_ble_eq_true rfl) (Nat.le_of_ble_eq_true rfl) ?_
  refine W.eq (g2 := F0 m 4 ls []) rfl ?_
  refine lv_aload_n hx hb dX10_init_4 rfl (lv_at hl 0 rfl) ?_
  refine va_new (ci := 8) (fs := [.null, .int 0]) (C := RX8) (T := TX8) (N := 2) hx hb hts (fun w hw => List.mem_cons_of_mem _ (ig_X8 w hw)) tyX8 tyX8_ok hown (hts _ (List.mem_cons_of_mem _ vw_126)) (hts _ (List.mem_cons_of_mem _ vw_127)) (hts _ (List.mem_cons_of_mem _ vw_108)) hK hP hD hS hA rfl (fun j hj => by rcases (show j = 0 ∨ j = 1 by omega) with rfl | rfl <;> rfl) (Nat.le_of_ble_eq_true rfl) (Nat.le_of_ble_eq_true rfl) dX10_init_5 (fun q1 H hP hD hS => ?_)
  refine lv_dup hx hb dX10_init_8 rfl ?_
  refine kc_call (ws := (h0, .inr (10, [.null, .null, .null, .null, .null, .null, .null, .null, .null, .null, .null, .null])) :: []) (ko_X8 l D cs) hx hb hml hown hts (mm_good lw_goodw (fun z hz => (List.mem_cons.mp hz).elim (fun e => e ▸ vw_128) id)) rfl (List.mem_cons_of_mem _ vw_108) (List.mem_cons_of_mem _ vw_129) (List.mem_cons_of_mem _ vw_130) rfl (by decide +kernel) ⟨Nat.le_of_ble_eq_true rfl, Nat.le_of_ble_eq_true rfl⟩ hK hE hP hD hS hA hl.1 rfl rfl (Nat.le_of_ble_eq_true rfl) dX10_init_9 ⟨Nat.le_of_ble_eq_true rfl, Nat.le_of_ble_eq_true rfl⟩ (fun H locs b2 hb2 hP hD hS => ?_)
  have hP : va_P D classes ((h0, .inr (10, [.null, .null, .null, .null, .null, .null, .null, .null, .null, .null, .null, .null])) :: ([] ++ b2)) H := hP
  have hD : va_D A ((h0, .inr (10, [.null, .null, .null, .null, .null, .null, .null, .null, .null, .null, .null, .null])) :: ([] ++ b2)) := hD
  refine va_putF (D := D) (ci := 10) (v := .ref q1) (ty := .object "DuskOnRopes$Text") (C := RX10) (T := TX10) (N := 12) hx hb hts (fun w hw => List.mem_cons_of_mem _ (ig_X10 w hw)) tyX10 tyX10_ok nmX10 hown hK hP hD hS 0 rfl rfl 0 (by decide) (hts _ (List.mem_cons_of_mem _ vw_95)) (fun _ h9 => h9) rfl hin rfl (by decide +kernel) rfl rfl (Nat.le_of_ble_eq_true rfl) dX10_init_12 (fun H locs hP hD hS => ?_)
  have hP : va_P D classes ((h0, .inr (10, [.ref q1, .null, .null, .null, .null, .null, .null, .null, .null, .null, .null, .null])) :: ([] ++ b2)) H := hP
  have hD : va_D A ((h0, .inr (10, [.ref q1, .null, .null, .null, .null, .null, .null, .null, .null, .null, .null, .null])) :: ([] ++ b2)) := hD
  refine lv_aload_n hx hb dX10_init_15 rfl (lv_at hl 0 rfl) ?_
  refine va_new (ci := 6) (fs := [.null, .int 0]) (C := RX6) (T := TX6) (N := 2) hx hb hts (fun w hw => List.mem_cons_of_mem _ (ig_X6 w hw)) tyX6 tyX6_ok hown (hts _ (List.mem_cons_of_mem _ vw_131)) (hts _ (List.mem_cons_of_mem _ vw_132)) (hts _ (List.mem_cons_of_mem _ vw_113)) hK hP hD hS hA rfl (fun j hj => by rcases (show j = 0 ∨ j = 1 by omega) with rfl | rfl <;> rfl) (Nat.le_of_ble_eq_true rfl) (Nat.le_of_ble_eq_true rfl) dX10_init_16 (fun q3 H hP hD hS => ?_)
  refine lv_dup hx hb dX10_init_19 rfl ?_
  refine kc_call (ws := (h0, .inr (10, [.ref q1, .null, .null, .null, .null, .null, .null, .null, .null, .null, .null, .null])) :: ([] ++ b2)) (ko_X6 l D cs) hx hb hml hown hts (mm_good lw_goodw (fun z hz => (List.mem_cons.mp hz).elim (fun e => e ▸ vw_133) id)) rfl (List.mem_cons_of_mem _ vw_113) (List.mem_cons_of_mem _ vw_134) (List.mem_cons_of_mem _ vw_135) rfl (by decide +kernel) ⟨Nat.le_of_ble_eq_true rfl, Nat.le_of_ble_eq_true rfl⟩ hK hE hP hD hS hA hl.1 rfl rfl (Nat.le_of_ble_eq_true rfl) dX10_init_20 ⟨Nat.le_of_ble_eq_true rfl, Nat.le_of_ble_eq_true rfl⟩ (fun H locs b4 hb4 hP hD hS => ?_)
  have hP : va_P D classes ((h0, .inr (10, [.ref q1, .null, .null, .null, .null, .null, .null, .null, .null, .null, .null, .null])) :: (([] ++ b2) ++ b4)) H := hP
  have hD : va_D A ((h0, .inr (10, [.ref q1, .null, .null, .null, .null, .null, .null, .null, .null, .null, .null, .null])) :: (([] ++ b2) ++ b4)) := hD
  refine va_putF (D := D) (ci := 10) (v := .ref q3) (ty := .object "DuskOnRopes$Reader") (C := RX10) (T := TX10) (N := 12) hx hb hts (fun w hw => List.mem_cons_of_mem _ (ig_X10 w hw)) tyX10 tyX10_ok nmX10 hown hK hP hD hS 0 rfl rfl 1 (by decide) (hts _ (List.mem_cons_of_mem _ vw_96)) (fun _ h9 => h9) rfl hin rfl (by decide +kernel) rfl rfl (Nat.le_of_ble_eq_true rfl) dX10_init_23 (fun H locs hP hD hS => ?_)
  have hP : va_P D classes ((h0, .inr (10, [.ref q1, .ref q3, .null, .null, .null, .null, .null, .null, .null, .null, .null, .null])) :: (([] ++ b2) ++ b4)) H := hP
  have hD : va_D A ((h0, .inr (10, [.ref q1, .ref q3, .null, .null, .null, .null, .null, .null, .null, .null, .null, .null])) :: (([] ++ b2) ++ b4)) := hD
  refine lv_aload_n hx hb dX10_init_26 rfl (lv_at hl 0 rfl) ?_
  refine va_new (ci := 9) (fs := [.int 0, .int 0, .int 0, .null, .null, .null, .null, .null, .null, .null, .int 0, .int 0, .null, .null]) (C := RX9) (T := TX9) (N := 14) hx hb hts (fun w hw => List.mem_cons_of_mem _ (ig_X9 w hw)) tyX9 tyX9_ok hown (hts _ (List.mem_cons_of_mem _ vw_136)) (hts _ (List.mem_cons_of_mem _ vw_137)) (hts _ (List.mem_cons_of_mem _ vw_52)) hK hP hD hS hA rfl (fun j hj => by rcases (show j = 0 ∨ j = 1 ∨ j = 2 ∨ j = 3 ∨ j = 4 ∨ j = 5 ∨ j = 6 ∨ j = 7 ∨ j = 8 ∨ j = 9 ∨ j = 10 ∨ j = 11 ∨ j = 12 ∨ j = 13 by omega) with rfl | rfl | rfl | rfl | rfl | rfl | rfl | rfl | rfl | rfl | rfl | rfl | rfl | rfl <;> rfl) (Nat.le_of_ble_eq_true rfl) (Nat.le_of_ble_eq_true rfl) dX10_init_27 (fun q5 H hP hD hS => ?_)
  refine lv_dup hx hb dX10_init_30 rfl ?_
  refine kc_call (ws := (h0, .inr (10, [.ref q1, .ref q3, .null, .null, .null, .null, .null, .null, .null, .null, .null, .null])) :: (([] ++ b2) ++ b4)) (ko_X9 l D cs) hx hb hml hown hts (mm_good lw_goodw (fun z hz => (List.mem_cons.mp hz).elim (fun e => e ▸ vw_138) id)) rfl (List.mem_cons_of_mem _ vw_52) (List.mem_cons_of_mem _ vw_139) (List.mem_cons_of_mem _ vw_140) rfl (by decide +kernel) ⟨Nat.le_of_ble_eq_true rfl, Nat.le_of_ble_eq_true rfl⟩ hK hE hP hD hS hA hl.1 rfl rfl (Nat.le_of_ble_eq_true rfl) dX10_init_31 ⟨Nat.le_of_ble_eq_true rfl, Nat.le_of_ble_eq_true rfl⟩ (fun H locs b6 hb6 hP hD hS => ?_)
  have hP : va_P D classes ((h0, .inr (10, [.ref q1, .ref q3, .null, .null, .null, .null, .null, .null, .null, .null, .null, .null])) :: ((([] ++ b2) ++ b4) ++ b6)) H := hP
  have hD : va_D A ((h0, .inr (10, [.ref q1, .ref q3, .null, .null, .null, .null, .null, .null, .null, .null, .null, .null])) :: ((([] ++ b2) ++ b4) ++ b6)) := hD
  refine va_put (D := D) (ci := 10) (v := .ref q5) (ty := .object "DuskOnRopes$Valley") (C := RX10) (T := TX10) (N := 12) hx hb hts (fun w hw => List.mem_cons_of_mem _ (ig_X10 w hw)) tyX10 tyX10_ok nmX10 hown hK hP hD hS 0 rfl rfl 2 (by decide) (hts _ (List.mem_cons_of_mem _ vw_97)) (fun _ h9 => h9) rfl (by decide +kernel) rfl rfl (Nat.le_of_ble_eq_true rfl) dX10_init_34 (fun H locs hP hD hS => ?_)
  have hP : va_P D classes ((h0, .inr (10, [.ref q1, .ref q3, .ref q5, .null, .null, .null, .null, .null, .null, .null, .null, .null])) :: ((([] ++ b2) ++ b4) ++ b6)) H := hP
  have hD : va_D A ((h0, .inr (10, [.ref q1, .ref q3, .ref q5, .null, .null, .null, .null, .null, .null, .null, .null, .null])) :: ((([] ++ b2) ++ b4) ++ b6)) := hD
  refine lv_aload_n hx hb dX10_init_37 rfl (lv_at hl 0 rfl) ?_
  refine va_new (ci := 9) (fs := [.int 0, .int 0, .int 0, .null, .null, .null, .null, .null, .null, .null, .int 0, .int 0, .null, .null]) (C := RX9) (T := TX9) (N := 14) hx hb hts (fun w hw => List.mem_cons_of_mem _ (ig_X9 w hw)) tyX9 tyX9_ok hown (hts _ (List.mem_cons_of_mem _ vw_136)) (hts _ (List.mem_cons_of_mem _ vw_137)) (hts _ (List.mem_cons_of_mem _ vw_52)) hK hP hD hS hA rfl (fun j hj => by rcases (show j = 0 ∨ j = 1 ∨ j = 2 ∨ j = 3 ∨ j = 4 ∨ j = 5 ∨ j = 6 ∨ j = 7 ∨ j = 8 ∨ j = 9 ∨ j = 10 ∨ j = 11 ∨ j = 12 ∨ j = 13 by omega) with rfl | rfl | rfl | rfl | rfl | rfl | rfl | rfl | rfl | rfl | rfl | rfl | rfl | rfl <;> rfl) (Nat.le_of_ble_eq_true rfl) (Nat.le_of_ble_eq_true rfl) dX10_init_38 (fun q7 H hP hD hS => ?_)
  refine lv_dup hx hb dX10_init_41 rfl ?_
  refine kc_call (ws := (h0, .inr (10, [.ref q1, .ref q3, .ref q5, .null, .null, .null, .null, .null, .null, .null, .null, .null])) :: ((([] ++ b2) ++ b4) ++ b6)) (ko_X9 l D cs) hx hb hml hown hts (mm_good lw_goodw (fun z hz => (List.mem_cons.mp hz).elim (fun e => e ▸ vw_138) id)) rfl (List.mem_cons_of_mem _ vw_52) (List.mem_cons_of_mem _ vw_139) (List.mem_cons_of_mem _ vw_140) rfl (by decide +kernel) ⟨Nat.le_of_ble_eq_true rfl, Nat.le_of_ble_eq_true rfl⟩ hK hE hP hD hS hA hl.1 rfl rfl (Nat.le_of_ble_eq_true rfl) dX10_init_42 ⟨Nat.le_of_ble_eq_true rfl, Nat.le_of_ble_eq_true rfl⟩ (fun H locs b8 hb8 hP hD hS => ?_)
  have hP : va_P D classes ((h0, .inr (10, [.ref q1, .ref q3, .ref q5, .null, .null, .null, .null, .null, .null, .null, .null, .null])) :: (((([] ++ b2) ++ b4) ++ b6) ++ b8)) H := hP
  have hD : va_D A ((h0, .inr (10, [.ref q1, .ref q3, .ref q5, .null, .null, .null, .null, .null, .null, .null, .null, .null])) :: (((([] ++ b2) ++ b4) ++ b6) ++ b8)) := hD
  refine va_put (D := D) (ci := 10) (v := .ref q7) (ty := .object "DuskOnRopes$Valley") (C := RX10) (T := TX10) (N := 12) hx hb hts (fun w hw => List.mem_cons_of_mem _ (ig_X10 w hw)) tyX10 tyX10_ok nmX10 hown hK hP hD hS 0 rfl rfl 3 (by decide) (hts _ (List.mem_cons_of_mem _ vw_141)) (fun _ h9 => h9) rfl (by decide +kernel) rfl rfl (Nat.le_of_ble_eq_true rfl) dX10_init_45 (fun H locs hP hD hS => ?_)
  have hP : va_P D classes ((h0, .inr (10, [.ref q1, .ref q3, .ref q5, .ref q7, .null, .null, .null, .null, .null, .null, .null, .null])) :: (((([] ++ b2) ++ b4) ++ b6) ++ b8)) H := hP
  have hD : va_D A ((h0, .inr (10, [.ref q1, .ref q3, .ref q5, .ref q7, .null, .null, .null, .null, .null, .null, .null, .null])) :: (((([] ++ b2) ++ b4) ++ b6) ++ b8)) := hD
  refine lv_aload_n hx hb dX10_init_48 rfl (lv_at hl 0 rfl) ?_
  refine va_new (ci := 3) (fs := [.null, .null, .int 0, .int 0]) (C := RX3) (T := TX3) (N := 4) hx hb hts (fun w hw => List.mem_cons_of_mem _ (ig_X3 w hw)) tyX3 tyX3_ok hown (hts _ (List.mem_cons_of_mem _ vw_142)) (hts _ (List.mem_cons_of_mem _ vw_58)) (hts _ (List.mem_cons_of_mem _ vw_59)) hK hP hD hS hA rfl (fun j hj => by rcases (show j = 0 ∨ j = 1 ∨ j = 2 ∨ j = 3 by omega) with rfl | rfl | rfl | rfl <;> rfl) (Nat.le_of_ble_eq_true rfl) (Nat.le_of_ble_eq_true rfl) dX10_init_49 (fun q9 H hP hD hS => ?_)
  refine lv_dup hx hb dX10_init_52 rfl ?_
  refine kc_call (ws := (h0, .inr (10, [.ref q1, .ref q3, .ref q5, .ref q7, .null, .null, .null, .null, .null, .null, .null, .null])) :: (((([] ++ b2) ++ b4) ++ b6) ++ b8)) (ko_X3 l D cs) hx hb hml hown hts (mm_good lw_goodw (fun z hz => (List.mem_cons.mp hz).elim (fun e => e ▸ vw_60) id)) rfl (List.mem_cons_of_mem _ vw_59) (List.mem_cons_of_mem _ vw_143) (List.mem_cons_of_mem _ vw_62) rfl (by decide +kernel) ⟨Nat.le_of_ble_eq_true rfl, Nat.le_of_ble_eq_true rfl⟩ hK hE hP hD hS hA hl.1 rfl rfl (Nat.le_of_ble_eq_true rfl) dX10_init_53 ⟨Nat.le_of_ble_eq_true rfl, Nat.le_of_ble_eq_true rfl⟩ (fun H locs b10 hb10 hP hD hS => ?_)
  have hP : va_P D classes ((h0, .inr (10, [.ref q1, .ref q3, .ref q5, .ref q7, .null, .null, .null, .null, .null, .null, .null, .null])) :: ((((([] ++ b2) ++ b4) ++ b6) ++ b8) ++ b10)) H := hP
  have hD : va_D A ((h0, .inr (10, [.ref q1, .ref q3, .ref q5, .ref q7, .null, .null, .null, .null, .null, .null, .null, .null])) :: ((((([] ++ b2) ++ b4) ++ b6) ++ b8) ++ b10)) := hD
  refine va_putF (D := D) (ci := 10) (v := .ref q9) (ty := .object "DuskOnRopes$Dusk") (C := RX10) (T := TX10) (N := 12) hx hb hts (fun w hw => List.mem_cons_of_mem _ (ig_X10 w hw)) tyX10 tyX10_ok nmX10 hown hK hP hD hS 0 rfl rfl 4 (by decide) (hts _ (List.mem_cons_of_mem _ vw_98)) (fun _ h9 => h9) rfl hin rfl (by decide +kernel) rfl rfl (Nat.le_of_ble_eq_true rfl) dX10_init_56 (fun H locs hP hD hS => ?_)
  have hP : va_P D classes ((h0, .inr (10, [.ref q1, .ref q3, .ref q5, .ref q7, .ref q9, .null, .null, .null, .null, .null, .null, .null])) :: ((((([] ++ b2) ++ b4) ++ b6) ++ b8) ++ b10)) H := hP
  have hD : va_D A ((h0, .inr (10, [.ref q1, .ref q3, .ref q5, .ref q7, .ref q9, .null, .null, .null, .null, .null, .null, .null])) :: ((((([] ++ b2) ++ b4) ++ b6) ++ b8) ++ b10)) := hD
  refine lv_aload_n hx hb dX10_init_59 rfl (lv_at hl 0 rfl) ?_
  refine va_new (ci := 7) (fs := [.null, .int 0]) (C := RX7) (T := TX7) (N := 2) hx hb hts (fun w hw => List.mem_cons_of_mem _ (ig_X7 w hw)) tyX7 tyX7_ok hown (hts _ (List.mem_cons_of_mem _ vw_144)) (hts _ (List.mem_cons_of_mem _ vw_145)) (hts _ (List.mem_cons_of_mem _ vw_146)) hK hP hD hS hA rfl (fun j hj => by rcases (show j = 0 ∨ j = 1 by omega) with rfl | rfl <;> rfl) (Nat.le_of_ble_eq_true rfl) (Nat.le_of_ble_eq_true rfl) dX10_init_60 (fun q11 H hP hD hS => ?_)
  refine lv_dup hx hb dX10_init_63 rfl ?_
  refine lv_bipush (v := 8) hx hb dX10_init_64 (by decide) ?_
  refine kc_call (ws := (h0, .inr (10, [.ref q1, .ref q3, .ref q5, .ref q7, .ref q9, .null, .null, .null, .null, .null, .null, .null])) :: ((((([] ++ b2) ++ b4) ++ b6) ++ b8) ++ b10)) (ko_X7 8 (by decide) (by decide) l D cs) hx hb hml hown hts (mm_good lw_goodw (fun z hz => (List.mem_cons.mp hz).elim (fun e => e ▸ vw_147) id)) rfl (List.mem_cons_of_mem _ vw_146) (List.mem_cons_of_mem _ vw_148) (List.mem_cons_of_mem _ vw_149) rfl (by decide +kernel) ⟨Nat.le_of_ble_eq_true rfl, Nat.le_of_ble_eq_true rfl⟩ hK hE hP hD hS hA hl.1 rfl rfl (Nat.le_of_ble_eq_true rfl) dX10_init_66 ⟨Nat.le_of_ble_eq_true rfl, Nat.le_of_ble_eq_true rfl⟩ (fun H locs b12 hb12 hP hD hS => ?_)
  have hP : va_P D classes ((h0, .inr (10, [.ref q1, .ref q3, .ref q5, .ref q7, .ref q9, .null, .null, .null, .null, .null, .null, .null])) :: (((((([] ++ b2) ++ b4) ++ b6) ++ b8) ++ b10) ++ b12)) H := hP
  have hD : va_D A ((h0, .inr (10, [.ref q1, .ref q3, .ref q5, .ref q7, .ref q9, .null, .null, .null, .null, .null, .null, .null])) :: (((((([] ++ b2) ++ b4) ++ b6) ++ b8) ++ b10) ++ b12)) := hD
  refine va_putF (D := D) (ci := 10) (v := .ref q11) (ty := .object "DuskOnRopes$Skies") (C := RX10) (T := TX10) (N := 12) hx hb hts (fun w hw => List.mem_cons_of_mem _ (ig_X10 w hw)) tyX10 tyX10_ok nmX10 hown hK hP hD hS 0 rfl rfl 5 (by decide) (hts _ (List.mem_cons_of_mem _ vw_150)) (fun _ h9 => h9) rfl hin rfl (by decide +kernel) rfl rfl (Nat.le_of_ble_eq_true rfl) dX10_init_69 (fun H locs hP hD hS => ?_)
  have hP : va_P D classes ((h0, .inr (10, [.ref q1, .ref q3, .ref q5, .ref q7, .ref q9, .ref q11, .null, .null, .null, .null, .null, .null])) :: (((((([] ++ b2) ++ b4) ++ b6) ++ b8) ++ b10) ++ b12)) H := hP
  have hD : va_D A ((h0, .inr (10, [.ref q1, .ref q3, .ref q5, .ref q7, .ref q9, .ref q11, .null, .null, .null, .null, .null, .null])) :: (((((([] ++ b2) ++ b4) ++ b6) ++ b8) ++ b10) ++ b12)) := hD
  refine lv_aload_n hx hb dX10_init_72 rfl (lv_at hl 0 rfl) ?_
  refine va_new (ci := 7) (fs := [.null, .int 0]) (C := RX7) (T := TX7) (N := 2) hx hb hts (fun w hw => List.mem_cons_of_mem _ (ig_X7 w hw)) tyX7 tyX7_ok hown (hts _ (List.mem_cons_of_mem _ vw_144)) (hts _ (List.mem_cons_of_mem _ vw_145)) (hts _ (List.mem_cons_of_mem _ vw_146)) hK hP hD hS hA rfl (fun j hj => by rcases (show j = 0 ∨ j = 1 by omega) with rfl | rfl <;> rfl) (Nat.le_of_ble_eq_true rfl) (Nat.le_of_ble_eq_true rfl) dX10_init_73 (fun q13 H hP hD hS => ?_)
  refine lv_dup hx hb dX10_init_76 rfl ?_
  refine lv_iconst (v := 2) hx hb dX10_init_77 (by decide) ?_
  refine kc_call (ws := (h0, .inr (10, [.ref q1, .ref q3, .ref q5, .ref q7, .ref q9, .ref q11, .null, .null, .null, .null, .null, .null])) :: (((((([] ++ b2) ++ b4) ++ b6) ++ b8) ++ b10) ++ b12)) (ko_X7 2 (by decide) (by decide) l D cs) hx hb hml hown hts (mm_good lw_goodw (fun z hz => (List.mem_cons.mp hz).elim (fun e => e ▸ vw_147) id)) rfl (List.mem_cons_of_mem _ vw_146) (List.mem_cons_of_mem _ vw_148) (List.mem_cons_of_mem _ vw_149) rfl (by decide +kernel) ⟨Nat.le_of_ble_eq_true rfl, Nat.le_of_ble_eq_true rfl⟩ hK hE hP hD hS hA hl.1 rfl rfl (Nat.le_of_ble_eq_true rfl) dX10_init_78 ⟨Nat.le_of_ble_eq_true rfl, Nat.le_of_ble_eq_true rfl⟩ (fun H locs b14 hb14 hP hD hS => ?_)
  have hP : va_P D classes ((h0, .inr (10, [.ref q1, .ref q3, .ref q5, .ref q7, .ref q9, .ref q11, .null, .null, .null, .null, .null, .null])) :: ((((((([] ++ b2) ++ b4) ++ b6) ++ b8) ++ b10) ++ b12) ++ b14)) H := hP
  have hD : va_D A ((h0, .inr (10, [.ref q1, .ref q3, .ref q5, .ref q7, .ref q9, .ref q11, .null, .null, .null, .null, .null, .null])) :: ((((((([] ++ b2) ++ b4) ++ b6) ++ b8) ++ b10) ++ b12) ++ b14)) := hD
  refine va_putF (D := D) (ci := 10) (v := .ref q13) (ty := .object "DuskOnRopes$Skies") (C := RX10) (T := TX10) (N := 12) hx hb hts (fun w hw => List.mem_cons_of_mem _ (ig_X10 w hw)) tyX10 tyX10_ok nmX10 hown hK hP hD hS 0 rfl rfl 6 (by decide) (hts _ (List.mem_cons_of_mem _ vw_151)) (fun _ h9 => h9) rfl hin rfl (by decide +kernel) rfl rfl (Nat.le_of_ble_eq_true rfl) dX10_init_81 (fun H locs hP hD hS => ?_)
  have hP : va_P D classes ((h0, .inr (10, [.ref q1, .ref q3, .ref q5, .ref q7, .ref q9, .ref q11, .ref q13, .null, .null, .null, .null, .null])) :: ((((((([] ++ b2) ++ b4) ++ b6) ++ b8) ++ b10) ++ b12) ++ b14)) H := hP
  have hD : va_D A ((h0, .inr (10, [.ref q1, .ref q3, .ref q5, .ref q7, .ref q9, .ref q11, .ref q13, .null, .null, .null, .null, .null])) :: ((((((([] ++ b2) ++ b4) ++ b6) ++ b8) ++ b10) ++ b12) ++ b14)) := hD
  refine lv_aload_n hx hb dX10_init_84 rfl (lv_at hl 0 rfl) ?_
  refine va_new (ci := 0) (fs := [.null]) (C := RX0) (T := TX0) (N := 1) hx hb hts (fun w hw => List.mem_cons_of_mem _ (ig_X0 w hw)) tyX0 tyX0_ok hown (hts _ (List.mem_cons_of_mem _ vw_152)) (hts _ (List.mem_cons_of_mem _ vw_153)) (hts _ (List.mem_cons_of_mem _ vw_154)) hK hP hD hS hA rfl (fun j hj => by rcases (show j = 0 by omega) with rfl <;> rfl) (Nat.le_of_ble_eq_true rfl) (Nat.le_of_ble_eq_true rfl) dX10_init_85 (fun q15 H hP hD hS => ?_)
  refine lv_dup hx hb dX10_init_88 rfl ?_
  refine kc_call (ws := (h0, .inr (10, [.ref q1, .ref q3, .ref q5, .ref q7, .ref q9, .ref q11, .ref q13, .null, .null, .null, .null, .null])) :: ((((((([] ++ b2) ++ b4) ++ b6) ++ b8) ++ b10) ++ b12) ++ b14)) (ko_X0 l D cs) hx hb hml hown hts (mm_good lw_goodw (fun z hz => (List.mem_cons.mp hz).elim (fun e => e ▸ vw_155) id)) rfl (List.mem_cons_of_mem _ vw_154) (List.mem_cons_of_mem _ vw_156) (List.mem_cons_of_mem _ vw_157) rfl (by decide +kernel) ⟨Nat.le_of_ble_eq_true rfl, Nat.le_of_ble_eq_true rfl⟩ hK hE hP hD hS hA hl.1 rfl rfl (Nat.le_of_ble_eq_true rfl) dX10_init_89 ⟨Nat.le_of_ble_eq_true rfl, Nat.le_of_ble_eq_true rfl⟩ (fun H locs b16 hb16 hP hD hS => ?_)
  have hP : va_P D classes ((h0, .inr (10, [.ref q1, .ref q3, .ref q5, .ref q7, .ref q9, .ref q11, .ref q13, .null, .null, .null, .null, .null])) :: (((((((([] ++ b2) ++ b4) ++ b6) ++ b8) ++ b10) ++ b12) ++ b14) ++ b16)) H := hP
  have hD : va_D A ((h0, .inr (10, [.ref q1, .ref q3, .ref q5, .ref q7, .ref q9, .ref q11, .ref q13, .null, .null, .null, .null, .null])) :: (((((((([] ++ b2) ++ b4) ++ b6) ++ b8) ++ b10) ++ b12) ++ b14) ++ b16)) := hD
  refine va_putF (D := D) (ci := 10) (v := .ref q15) (ty := .object "DuskOnRopes$Ahead") (C := RX10) (T := TX10) (N := 12) hx hb hts (fun w hw => List.mem_cons_of_mem _ (ig_X10 w hw)) tyX10 tyX10_ok nmX10 hown hK hP hD hS 0 rfl rfl 7 (by decide) (hts _ (List.mem_cons_of_mem _ vw_158)) (fun _ h9 => h9) rfl hin rfl (by decide +kernel) rfl rfl (Nat.le_of_ble_eq_true rfl) dX10_init_92 (fun H locs hP hD hS => ?_)
  have hP : va_P D classes ((h0, .inr (10, [.ref q1, .ref q3, .ref q5, .ref q7, .ref q9, .ref q11, .ref q13, .ref q15, .null, .null, .null, .null])) :: (((((((([] ++ b2) ++ b4) ++ b6) ++ b8) ++ b10) ++ b12) ++ b14) ++ b16)) H := hP
  have hD : va_D A ((h0, .inr (10, [.ref q1, .ref q3, .ref q5, .ref q7, .ref q9, .ref q11, .ref q13, .ref q15, .null, .null, .null, .null])) :: (((((((([] ++ b2) ++ b4) ++ b6) ++ b8) ++ b10) ++ b12) ++ b14) ++ b16)) := hD
  refine lv_aload_n hx hb dX10_init_95 rfl (lv_at hl 0 rfl) ?_
  refine va_new (ci := 4) (fs := [.int 0, .null, .null, .null, .null]) (C := RX4) (T := TX4) (N := 5) hx hb hts (fun w hw => List.mem_cons_of_mem _ (ig_X4 w hw)) tyX4 tyX4_ok hown (hts _ (List.mem_cons_of_mem _ vw_159)) (hts _ (List.mem_cons_of_mem _ vw_160)) (hts _ (List.mem_cons_of_mem _ vw_161)) hK hP hD hS hA rfl (fun j hj => by rcases (show j = 0 ∨ j = 1 ∨ j = 2 ∨ j = 3 ∨ j = 4 by omega) with rfl | rfl | rfl | rfl | rfl <;> rfl) (Nat.le_of_ble_eq_true rfl) (Nat.le_of_ble_eq_true rfl) dX10_init_96 (fun q17 H hP hD hS => ?_)
  refine lv_dup hx hb dX10_init_99 rfl ?_
  refine kc_call (ws := (h0, .inr (10, [.ref q1, .ref q3, .ref q5, .ref q7, .ref q9, .ref q11, .ref q13, .ref q15, .null, .null, .null, .null])) :: (((((((([] ++ b2) ++ b4) ++ b6) ++ b8) ++ b10) ++ b12) ++ b14) ++ b16)) (ko_X4 l D cs) hx hb hml hown hts (mm_good lw_goodw (fun z hz => (List.mem_cons.mp hz).elim (fun e => e ▸ vw_162) id)) rfl (List.mem_cons_of_mem _ vw_161) (List.mem_cons_of_mem _ vw_163) (List.mem_cons_of_mem _ vw_164) rfl (by decide +kernel) ⟨Nat.le_of_ble_eq_true rfl, Nat.le_of_ble_eq_true rfl⟩ hK hE hP hD hS hA hl.1 rfl rfl (Nat.le_of_ble_eq_true rfl) dX10_init_100 ⟨Nat.le_of_ble_eq_true rfl, Nat.le_of_ble_eq_true rfl⟩ (fun H locs b18 hb18 hP hD hS => ?_)
  have hP : va_P D classes ((h0, .inr (10, [.ref q1, .ref q3, .ref q5, .ref q7, .ref q9, .ref q11, .ref q13, .ref q15, .null, .null, .null, .null])) :: ((((((((([] ++ b2) ++ b4) ++ b6) ++ b8) ++ b10) ++ b12) ++ b14) ++ b16) ++ b18)) H := hP
  have hD : va_D A ((h0, .inr (10, [.ref q1, .ref q3, .ref q5, .ref q7, .ref q9, .ref q11, .ref q13, .ref q15, .null, .null, .null, .null])) :: ((((((((([] ++ b2) ++ b4) ++ b6) ++ b8) ++ b10) ++ b12) ++ b14) ++ b16) ++ b18)) := hD
  refine va_putF (D := D) (ci := 10) (v := .ref q17) (ty := .object "DuskOnRopes$Planner") (C := RX10) (T := TX10) (N := 12) hx hb hts (fun w hw => List.mem_cons_of_mem _ (ig_X10 w hw)) tyX10 tyX10_ok nmX10 hown hK hP hD hS 0 rfl rfl 8 (by decide) (hts _ (List.mem_cons_of_mem _ vw_165)) (fun _ h9 => h9) rfl hin rfl (by decide +kernel) rfl rfl (Nat.le_of_ble_eq_true rfl) dX10_init_103 (fun H locs hP hD hS => ?_)
  have hP : va_P D classes ((h0, .inr (10, [.ref q1, .ref q3, .ref q5, .ref q7, .ref q9, .ref q11, .ref q13, .ref q15, .ref q17, .null, .null, .null])) :: ((((((((([] ++ b2) ++ b4) ++ b6) ++ b8) ++ b10) ++ b12) ++ b14) ++ b16) ++ b18)) H := hP
  have hD : va_D A ((h0, .inr (10, [.ref q1, .ref q3, .ref q5, .ref q7, .ref q9, .ref q11, .ref q13, .ref q15, .ref q17, .null, .null, .null])) :: ((((((((([] ++ b2) ++ b4) ++ b6) ++ b8) ++ b10) ++ b12) ++ b14) ++ b16) ++ b18)) := hD
  refine lv_aload_n hx hb dX10_init_106 rfl (lv_at hl 0 rfl) ?_
  refine va_new (ci := 5) (fs := [.int 0, .null, .null]) (C := RX5) (T := TX5) (N := 3) hx hb hts (fun w hw => List.mem_cons_of_mem _ (ig_X5 w hw)) tyX5 tyX5_ok hown (hts _ (List.mem_cons_of_mem _ vw_166)) (hts _ (List.mem_cons_of_mem _ vw_167)) (hts _ (List.mem_cons_of_mem _ vw_168)) hK hP hD hS hA rfl (fun j hj => by rcases (show j = 0 ∨ j = 1 ∨ j = 2 by omega) with rfl | rfl | rfl <;> rfl) (Nat.le_of_ble_eq_true rfl) (Nat.le_of_ble_eq_true rfl) dX10_init_107 (fun q19 H hP hD hS => ?_)
  refine lv_dup hx hb dX10_init_110 rfl ?_
  refine kc_call (ws := (h0, .inr (10, [.ref q1, .ref q3, .ref q5, .ref q7, .ref q9, .ref q11, .ref q13, .ref q15, .ref q17, .null, .null, .null])) :: ((((((((([] ++ b2) ++ b4) ++ b6) ++ b8) ++ b10) ++ b12) ++ b14) ++ b16) ++ b18)) (ko_X5 l D cs) hx hb hml hown hts (mm_good lw_goodw (fun z hz => (List.mem_cons.mp hz).elim (fun e => e ▸ vw_169) id)) rfl (List.mem_cons_of_mem _ vw_168) (List.mem_cons_of_mem _ vw_170) (List.mem_cons_of_mem _ vw_171) rfl (by decide +kernel) ⟨Nat.le_of_ble_eq_true rfl, Nat.le_of_ble_eq_true rfl⟩ hK hE hP hD hS hA hl.1 rfl rfl (Nat.le_of_ble_eq_true rfl) dX10_init_111 ⟨Nat.le_of_ble_eq_true rfl, Nat.le_of_ble_eq_true rfl⟩ (fun H locs b20 hb20 hP hD hS => ?_)
  have hP : va_P D classes ((h0, .inr (10, [.ref q1, .ref q3, .ref q5, .ref q7, .ref q9, .ref q11, .ref q13, .ref q15, .ref q17, .null, .null, .null])) :: (((((((((([] ++ b2) ++ b4) ++ b6) ++ b8) ++ b10) ++ b12) ++ b14) ++ b16) ++ b18) ++ b20)) H := hP
  have hD : va_D A ((h0, .inr (10, [.ref q1, .ref q3, .ref q5, .ref q7, .ref q9, .ref q11, .ref q13, .ref q15, .ref q17, .null, .null, .null])) :: (((((((((([] ++ b2) ++ b4) ++ b6) ++ b8) ++ b10) ++ b12) ++ b14) ++ b16) ++ b18) ++ b20)) := hD
  refine va_putF (D := D) (ci := 10) (v := .ref q19) (ty := .object "DuskOnRopes$Poster") (C := RX10) (T := TX10) (N := 12) hx hb hts (fun w hw => List.mem_cons_of_mem _ (ig_X10 w hw)) tyX10 tyX10_ok nmX10 hown hK hP hD hS 0 rfl rfl 9 (by decide) (hts _ (List.mem_cons_of_mem _ vw_172)) (fun _ h9 => h9) rfl hin rfl (by decide +kernel) rfl rfl (Nat.le_of_ble_eq_true rfl) dX10_init_114 (fun H locs hP hD hS => ?_)
  have hP : va_P D classes ((h0, .inr (10, [.ref q1, .ref q3, .ref q5, .ref q7, .ref q9, .ref q11, .ref q13, .ref q15, .ref q17, .ref q19, .null, .null])) :: (((((((((([] ++ b2) ++ b4) ++ b6) ++ b8) ++ b10) ++ b12) ++ b14) ++ b16) ++ b18) ++ b20)) H := hP
  have hD : va_D A ((h0, .inr (10, [.ref q1, .ref q3, .ref q5, .ref q7, .ref q9, .ref q11, .ref q13, .ref q15, .ref q17, .ref q19, .null, .null])) :: (((((((((([] ++ b2) ++ b4) ++ b6) ++ b8) ++ b10) ++ b12) ++ b14) ++ b16) ++ b18) ++ b20)) := hD
  refine lv_aload_n hx hb dX10_init_117 rfl (lv_at hl 0 rfl) ?_
  refine va_new (ci := 2) (fs := [.null, .null, .int 0, .null, .int 0, .null, .null]) (C := RX2) (T := TX2) (N := 7) hx hb hts (fun w hw => List.mem_cons_of_mem _ (ig_X2 w hw)) tyX2 tyX2_ok hown (hts _ (List.mem_cons_of_mem _ vw_173)) (hts _ (List.mem_cons_of_mem _ vw_174)) (hts _ (List.mem_cons_of_mem _ vw_175)) hK hP hD hS hA rfl (fun j hj => by rcases (show j = 0 ∨ j = 1 ∨ j = 2 ∨ j = 3 ∨ j = 4 ∨ j = 5 ∨ j = 6 by omega) with rfl | rfl | rfl | rfl | rfl | rfl | rfl <;> rfl) (Nat.le_of_ble_eq_true rfl) (Nat.le_of_ble_eq_true rfl) dX10_init_118 (fun q21 H hP hD hS => ?_)
  refine lv_dup hx hb dX10_init_121 rfl ?_
  refine kc_call (ws := (h0, .inr (10, [.ref q1, .ref q3, .ref q5, .ref q7, .ref q9, .ref q11, .ref q13, .ref q15, .ref q17, .ref q19, .null, .null])) :: (((((((((([] ++ b2) ++ b4) ++ b6) ++ b8) ++ b10) ++ b12) ++ b14) ++ b16) ++ b18) ++ b20)) (ko_X2 l D cs) hx hb hml hown hts (mm_good lw_goodw (fun z hz => (List.mem_cons.mp hz).elim (fun e => e ▸ vw_176) id)) rfl (List.mem_cons_of_mem _ vw_175) (List.mem_cons_of_mem _ vw_177) (List.mem_cons_of_mem _ vw_178) rfl (by decide +kernel) ⟨Nat.le_of_ble_eq_true rfl, Nat.le_of_ble_eq_true rfl⟩ hK hE hP hD hS hA hl.1 rfl rfl (Nat.le_of_ble_eq_true rfl) dX10_init_122 ⟨Nat.le_of_ble_eq_true rfl, Nat.le_of_ble_eq_true rfl⟩ (fun H locs b22 hb22 hP hD hS => ?_)
  have hP : va_P D classes ((h0, .inr (10, [.ref q1, .ref q3, .ref q5, .ref q7, .ref q9, .ref q11, .ref q13, .ref q15, .ref q17, .ref q19, .null, .null])) :: ((((((((((([] ++ b2) ++ b4) ++ b6) ++ b8) ++ b10) ++ b12) ++ b14) ++ b16) ++ b18) ++ b20) ++ b22)) H := hP
  have hD : va_D A ((h0, .inr (10, [.ref q1, .ref q3, .ref q5, .ref q7, .ref q9, .ref q11, .ref q13, .ref q15, .ref q17, .ref q19, .null, .null])) :: ((((((((((([] ++ b2) ++ b4) ++ b6) ++ b8) ++ b10) ++ b12) ++ b14) ++ b16) ++ b18) ++ b20) ++ b22)) := hD
  refine va_putF (D := D) (ci := 10) (v := .ref q21) (ty := .object "DuskOnRopes$Clues") (C := RX10) (T := TX10) (N := 12) hx hb hts (fun w hw => List.mem_cons_of_mem _ (ig_X10 w hw)) tyX10 tyX10_ok nmX10 hown hK hP hD hS 0 rfl rfl 10 (by decide) (hts _ (List.mem_cons_of_mem _ vw_179)) (fun _ h9 => h9) rfl hin rfl (by decide +kernel) rfl rfl (Nat.le_of_ble_eq_true rfl) dX10_init_125 (fun H locs hP hD hS => ?_)
  have hP : va_P D classes ((h0, .inr (10, [.ref q1, .ref q3, .ref q5, .ref q7, .ref q9, .ref q11, .ref q13, .ref q15, .ref q17, .ref q19, .ref q21, .null])) :: ((((((((((([] ++ b2) ++ b4) ++ b6) ++ b8) ++ b10) ++ b12) ++ b14) ++ b16) ++ b18) ++ b20) ++ b22)) H := hP
  have hD : va_D A ((h0, .inr (10, [.ref q1, .ref q3, .ref q5, .ref q7, .ref q9, .ref q11, .ref q13, .ref q15, .ref q17, .ref q19, .ref q21, .null])) :: ((((((((((([] ++ b2) ++ b4) ++ b6) ++ b8) ++ b10) ++ b12) ++ b14) ++ b16) ++ b18) ++ b20) ++ b22)) := hD
  refine lv_aload_n hx hb dX10_init_128 rfl (lv_at hl 0 rfl) ?_
  refine va_new (ci := 1) (fs := [.null]) (C := RX1) (T := TX1) (N := 1) hx hb hts (fun w hw => List.mem_cons_of_mem _ (ig_X1 w hw)) tyX1 tyX1_ok hown (hts _ (List.mem_cons_of_mem _ vw_180)) (hts _ (List.mem_cons_of_mem _ vw_181)) (hts _ (List.mem_cons_of_mem _ vw_182)) hK hP hD hS hA rfl (fun j hj => by rcases (show j = 0 by omega) with rfl <;> rfl) (Nat.le_of_ble_eq_true rfl) (Nat.le_of_ble_eq_true rfl) dX10_init_129 (fun q23 H hP hD hS => ?_)
  refine lv_dup hx hb dX10_init_132 rfl ?_
  refine kc_call (ws := (h0, .inr (10, [.ref q1, .ref q3, .ref q5, .ref q7, .ref q9, .ref q11, .ref q13, .ref q15, .ref q17, .ref q19, .ref q21, .null])) :: ((((((((((([] ++ b2) ++ b4) ++ b6) ++ b8) ++ b10) ++ b12) ++ b14) ++ b16) ++ b18) ++ b20) ++ b22)) (ko_X1 l D cs) hx hb hml hown hts (mm_good lw_goodw (fun z hz => (List.mem_cons.mp hz).elim (fun e => e ▸ vw_183) id)) rfl (List.mem_cons_of_mem _ vw_182) (List.mem_cons_of_mem _ vw_184) (List.mem_cons_of_mem _ vw_185) rfl (by decide +kernel) ⟨Nat.le_of_ble_eq_true rfl, Nat.le_of_ble_eq_true rfl⟩ hK hE hP hD hS hA hl.1 rfl rfl (Nat.le_of_ble_eq_true rfl) dX10_init_133 ⟨Nat.le_of_ble_eq_true rfl, Nat.le_of_ble_eq_true rfl⟩ (fun H locs b24 hb24 hP hD hS => ?_)
  have hP : va_P D classes ((h0, .inr (10, [.ref q1, .ref q3, .ref q5, .ref q7, .ref q9, .ref q11, .ref q13, .ref q15, .ref q17, .ref q19, .ref q21, .null])) :: (((((((((((([] ++ b2) ++ b4) ++ b6) ++ b8) ++ b10) ++ b12) ++ b14) ++ b16) ++ b18) ++ b20) ++ b22) ++ b24)) H := hP
  have hD : va_D A ((h0, .inr (10, [.ref q1, .ref q3, .ref q5, .ref q7, .ref q9, .ref q11, .ref q13, .ref q15, .ref q17, .ref q19, .ref q21, .null])) :: (((((((((((([] ++ b2) ++ b4) ++ b6) ++ b8) ++ b10) ++ b12) ++ b14) ++ b16) ++ b18) ++ b20) ++ b22) ++ b24)) := hD
  refine va_putF (D := D) (ci := 10) (v := .ref q23) (ty := .object "DuskOnRopes$Chances") (C := RX10) (T := TX10) (N := 12) hx hb hts (fun w hw => List.mem_cons_of_mem _ (ig_X10 w hw)) tyX10 tyX10_ok nmX10 hown hK hP hD hS 0 rfl rfl 11 (by decide) (hts _ (List.mem_cons_of_mem _ vw_186)) (fun _ h9 => h9) rfl hin rfl (by decide +kernel) rfl rfl (Nat.le_of_ble_eq_true rfl) dX10_init_136 (fun H locs hP hD hS => ?_)
  have hP : va_P D classes ((h0, .inr (10, [.ref q1, .ref q3, .ref q5, .ref q7, .ref q9, .ref q11, .ref q13, .ref q15, .ref q17, .ref q19, .ref q21, .ref q23])) :: (((((((((((([] ++ b2) ++ b4) ++ b6) ++ b8) ++ b10) ++ b12) ++ b14) ++ b16) ++ b18) ++ b20) ++ b22) ++ b24)) H := hP
  have hD : va_D A ((h0, .inr (10, [.ref q1, .ref q3, .ref q5, .ref q7, .ref q9, .ref q11, .ref q13, .ref q15, .ref q17, .ref q19, .ref q21, .ref q23])) :: (((((((((((([] ++ b2) ++ b4) ++ b6) ++ b8) ++ b10) ++ b12) ++ b14) ++ b16) ++ b18) ++ b20) ++ b22) ++ b24)) := hD
  obtain ⟨x1, rfl⟩ := hb2
  obtain ⟨x2, rfl⟩ := hb4
  obtain ⟨x3, x4, x5, x6, x7, x8, x9, x10, x11, rfl⟩ := hb6
  obtain ⟨x12, x13, x14, x15, x16, x17, x18, x19, x20, rfl⟩ := hb8
  obtain ⟨x21, x22, rfl⟩ := hb10
  obtain ⟨x23, f, wf, hsf, rfl⟩ := hb12
  obtain ⟨zf7, x45, x46, x47, ⟨zf6, x42, x43, x44, ⟨zf5, x39, x40, x41, ⟨zf4, x36, x37, x38, ⟨zf3, x33, x34, x35, ⟨zf2, x30, x31, x32, ⟨zf1, x27, x28, x29, ⟨zf0, x24, x25, x26, rfl, hqf0, rfl⟩, hqf1, rfl⟩, hqf2, rfl⟩, hqf3, rfl⟩, hqf4, rfl⟩, hqf5, rfl⟩, hqf6, rfl⟩, hqf7, rfl⟩ := hsf
  obtain ⟨x48, g, wg, hsg, rfl⟩ := hb14
  obtain ⟨zg1, x52, x53, x54, ⟨zg0, x49, x50, x51, rfl, hqg0, rfl⟩, hqg1, rfl⟩ := hsg
  obtain ⟨x55, x56, x57, rfl⟩ := hb16
  obtain ⟨x58, x59, x60, x61, rfl⟩ := hb18
  obtain ⟨x62, x63, rfl⟩ := hb20
  obtain ⟨x64, x65, x66, x67, x68, rfl⟩ := hb22
  obtain ⟨x69, rfl⟩ := hb24
  obtain ⟨ad, hade⟩ : ∃ ad : Nat → Nat, ad = fun i => [h0, q1, x1, q3, x2, q5, x3, x4, x5, x6, x7, x8, x9, x10, x11, q7, x12, x13, x14, x15, x16, x17, x18, x19, x20, q9, x21, x22, q11, x23, x24, x25, x26, x27, x28, x29, x30, x31, x32, x33, x34, x35, x36, x37, x38, x39, x40, x41, x42, x43, x44, x45, x46, x47, q13, x48, x49, x50, x51, x52, x53, x54, q15, x55, x56, x57, q17, x58, x59, x60, x61, x61 + 1, x61 + 2, x61 + 3, x61 + 4, x61 + 5, q19, x62, x63, q21, x64, x65, x66, x67, x68, q23, x69].getD i 0 := ⟨_, rfl⟩
  have hP : va_P D classes (xl_X cs ad f g (fun j => some (x61 + 1 + j))) H := by rw [hade]; exact hP
  have hD : va_D A (xl_X cs ad f g (fun j => some (x61 + 1 + j))) := by rw [hade]; exact hD
  have ha0 : ad 0 = h0 := by rw [hade]; rfl
  have hf : ∀ i, i < 8 → f i = some (ad (30 + 3 * i)) := by
    intro i hi
    rw [hade]
    rcases (show i = 0 ∨ i = 1 ∨ i = 2 ∨ i = 3 ∨ i = 4 ∨ i = 5 ∨ i = 6 ∨ i = 7 by omega) with rfl | rfl | rfl | rfl | rfl | rfl | rfl | rfl
    · exact hqf0
    · exact hqf1
    · exact hqf2
    · exact hqf3
    · exact hqf4
    · exact hqf5
    · exact hqf6
    · exact hqf7
  have hg : ∀ i, i < 2 → g i = some (ad (56 + 3 * i)) := by
    intro i hi
    rw [hade]
    rcases (show i = 0 ∨ i = 1 by omega) with rfl | rfl
    · exact hqg0
    · exact hqg1
  have hk5 : ∀ j, j < 5 → (fun j => some (x61 + 1 + j)) j = some (ad (70 + 1 + j)) := by
    intro j hj
    rw [hade]
    rcases (show j = 0 ∨ j = 1 ∨ j = 2 ∨ j = 3 ∨ j = 4 by omega) with rfl | rfl | rfl | rfl | rfl <;> rfl
  have hP := cv_X hf hg hk5 hP
  have hD : va_D A (wdX cs ad hX0) := cv_D (xl_Xf cs ad f g _) hD
  have hat : (wdX cs ad hX0)[0]? = some (ad 0, .inr (10, (mm_fs 10).mapIdx (mm_fv ad (hX0 0) 0))) := by
    have := mm_wd_at (N := 87) (w := wX) (fsp := mm_fs) (cs := cs) (ad := ad) (h := hX0) (i := 0) (by decide)
    rw [mm_cell4 (ci := 10) (by decide)] at this
    exact this
  have hAd : ∀ i, i < 87 → A (ad i) := fun i hi => hD.2 i _ (mm_wd_at hi)
  have hFc : ∀ q, mm_A 87 ad H.size q → A q := by
    intro q hq
    rcases hq with ⟨i, hi, rfl⟩ | hq
    · exact hAd i hi
    · exact hA q (Nat.le_trans hS.1 hq)
  clear hade
  refine lv_aload_n hx hb dX10_init_139 rfl (lv_at hl 0 rfl) ?_
  have hSH : SF tK tV (mm_A 87 ad H.size) s H := (hSF.kept hS.2.1).narrow hFc
  refine va_callv (va_runV (C := RX10) (As := []) (rest := []) ⟨hx, hb, hml, hown, hts⟩ (lf_met l D cs ad tx tK tV H.size) ⟨callB_of (bytes := cX10_layFirstText) (maxL := 2) (ret := none) (ws' := lw_good) 0 hts (mm_good lw_goodw (fun z hz => (List.mem_cons.mp hz).elim (fun e => e ▸ vw_187) id)) rfl rfl rfl (hts _ (List.mem_cons_of_mem _ vw_188)) (hts _ (List.mem_cons_of_mem _ vw_189)) (by decide +kernel) ⟨Nat.le_of_ble_eq_true rfl, Nat.le_of_ble_eq_true rfl⟩, hts _ (List.mem_cons_of_mem _ vw_190), hts _ (List.mem_cons_of_mem _ vw_191)⟩ ⟨lf_blind, va_recv hK hP (ci := 10) rfl hat, fun U hU hW => ⟨rfl, by rw [hU], by rw [hU]; exact hP, va_K.moved hW.alike hK, hD.weaken (fun _ _ _ _ => trivial), mm_Nw_warm hW hNw, by rw [hU]; exact SF.moved hW.alike hSH, vk_R.warm hW hR⟩⟩ rfl rfl hl.1 (by rw [ha0]; rfl) (lv_room (Nat.le_of_ble_eq_true rfl)) dX10_init_140 ⟨Nat.le_of_ble_eq_true rfl, Nat.le_of_ble_eq_true rfl⟩) hS (fun q _ h => hFc q h) hFc (fun h t H1 locs1 ht hvm hw hB hz hk1 hS => ?_)
  have hP1 : va_P D classes (wdX cs ad h) t.heap := hB
  rw [ht] at hP1
  exact W.vret hx hb hr (fun t ht hW => ⟨⟨(ad, h), rfl, ⟨ha0, hw.1, hw.2⟩, by show va_P D classes (wdX cs ad h) t.heap; rw [ht]; exact hP1, mm_wd_D hD hAd⟩, hS.F ht⟩) hS.2.2 dX10_init_143
