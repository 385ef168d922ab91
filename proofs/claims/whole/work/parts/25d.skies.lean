/-! ===== a pile of dusks (by wip/gen/walk7.py) ===== -/
theorem vw_64 : Cond.methodLink RX7 7 Lib.Math.max.name ∈ lw_good := lw_in 193 (by decide +kernel) rfl
theorem vw_65 : Cond.fieldLink RX7 15 "DuskOnRopes$Skies" "rows" "[LDuskOnRopes$Dusk;" ∈ lw_good := lw_in 199 (by decide +kernel) rfl
theorem vw_66 : Cond.fieldLink RX7 22 "DuskOnRopes$Skies" "used" "I" ∈ lw_good := lw_in 200 (by decide +kernel) rfl
theorem vw_67 : Cond.classLink RX7 13 RX3 ∈ lw_good := lw_in 196 (by decide +kernel) rfl
theorem vw_68 : Cond.methodLink RX7 21 yX3_init ∈ lw_good := lw_in 198 (by decide +kernel) rfl
theorem vw_69 : Cond.methodLink RX7 1 objectInit ∈ lw_good := lw_in 192 (by decide +kernel) rfl
theorem vw_70 : Cond.initialized RJ9 ∈ lw_good := lw_in 39 (by decide +kernel) rfl
abbrev ii_X7 : mm_M := (yX7_init, cX7_init, 3, none, 0)
/-- k dusks, as the row f has them -/
def SB_d (cs : ClassId × ClassId × ClassId × ClassId) (f : Nat → Option Nat) : Nat → va_W → Prop
  | 0, ws => ws = []
  | k + 1, ws => ∃ ws1 q q1 q2, SB_d cs f k ws1 ∧ f k = some q ∧ ws = ws1 ++ [(q, .inr (3, [.ref q1, .ref q2, .int 0, .int 0])), (q1, zi cs 5), (q2, zi cs 5)]
theorem SB_up {cs : ClassId × ClassId × ClassId × ClassId} {f : Nat → Option Nat} {v : Option Nat} {n : Nat} : ∀ (k : Nat) (ws : va_W), k ≤ n → SB_d cs f k ws → SB_d cs (va_up f n v) k ws
  | 0, ws, _, h => h
  | k + 1, ws, hk, h => by
    obtain ⟨ws1, q, q1, q2, h1, h2, h3⟩ := h
    exact ⟨ws1, q, q1, q2, SB_up k ws1 (by omega) h1, by rw [va_up_ne f _ (by omega)]; exact h2, h3⟩
def BX7 (cs : ClassId × ClassId × ClassId × ClassId) (n : Nat) (h0 : Nat) (blk : va_W) : Prop := ∃ (r : Nat) (f : Nat → Option Nat) (ws : va_W), SB_d cs f n ws ∧ blk = (h0, .inr (7, [.ref r, .int 0])) :: (r, zq cs n f) :: ws
set_option maxHeartbeats 4000000 in
set_option maxRecDepth 100000 in
theorem sk_loop {l : Launch} {D : va_G} {cs : ClassId × ClassId × ClassId × ClassId} {n : Nat} (hn8 : n ≤ 8) {p : Program} {e : Env} {s : State} {m : MethodId} {args : Array Value} {below : List Frame} {meth : Method} {c : Code} {h0 r : Nat} {A : Nat → Prop} {Q : State → Prop} (hx : p.tables.exec = Jvm.exec) (hb : c.code = cX7_init) (hml : c.maxLocals = 3) (hown : s.vm.findClass RX7 = some m.cls) (hts : ∀ w ∈ mm_ws lw_good ii_X7, w.before args s = true) (hA : ∀ q : Nat, s.heap.size ≤ q → A q) (hK : va_K D classes (mm_ty cs) s) (hE : EX cs s) (fin : ∀ (H : Heap) (locs : List Loc) (blk : va_W) (pc : Nat) (ls : Array Slot), BX7 cs n h0 blk → va_P D classes blk H → va_D A blk → va_S A s.heap H locs → decode cX7_init pc = .ok (.return_, 1) → W p l e (kc_R 2 (1 + 3 * n) (n + 14 * n)) s m args below meth c H locs (1 + 3 * n) (n + 14 * n) Q (F0 m pc ls [])) : ∀ (t k : Nat) (H : Heap) (locs : List Loc) (ws : va_W) (f : Nat → Option Nat) (ls : Array Slot), k + t = n → SB_d cs f k ws → va_P D classes ((h0, .inr (7, [.ref r, .int 0])) :: (r, zq cs n f) :: ws) H → va_D A ((h0, .inr (7, [.ref r, .int 0])) :: (r, zq cs n f) :: ws) → va_S A s.heap H locs → lv_has ls 3 [(2, .int (nI k)), (0, .ref h0)] → W p l e (kc_R 2 (1 + 3 * n) (n + 14 * n)) s m args below meth c H locs (1 + 3 * k) (n + 14 * k) Q (F0 m 18 ls []) := by
  intro t
  induction t with
  | zero =>
    intro k H locs ws f ls hk hB hP hD hS hl
    have e1 : k = n := by omega
    subst e1
    refine lv_iload_n hx hb dX7_init_18 rfl (lv_at hl 0 rfl) ?_
    refine lv_aload_n hx hb dX7_init_19 rfl (lv_at hl 1 rfl) ?_
    refine va_get (D := D) (ci := 7) (v := .ref r) (C := RX7) (T := TX7) (N := 2) hx hb hts (fun w hw => List.mem_cons_of_mem _ (ig_X7 w hw)) hown hK hP 0 rfl rfl 0 (by decide) (hts _ (List.mem_cons_of_mem _ vw_65)) (fun _ h9 => h9) rfl dX7_init_20 ?_
    refine va_alen hx hb hK hP 1 2 rfl rfl (v := nI k) rfl dX7_init_23 ?_
    refine lv_icmp_ge (tgt := 46) hx hb dX7_init_24 (by decide) (fun _ => ?_) (fun cc => absurd (nI_le (Nat.le_refl k) (by omega)) cc)
    refine lv_aload_n hx hb dX7_init_46 rfl (lv_at hl 1 rfl) ?_
    refine lv_iconst (v := 0) hx hb dX7_init_47 (by decide) ?_
    refine va_put (D := D) (ci := 7) (v := .int 0) (ty := .int) (C := RX7) (T := TX7) (N := 2) hx hb hts (fun w hw => List.mem_cons_of_mem _ (ig_X7 w hw)) tyX7 tyX7_ok nmX7 hown hK hP hD hS 0 rfl rfl 1 (by decide) (hts _ (List.mem_cons_of_mem _ vw_66)) (fun _ h9 => h9) rfl (by decide +kernel) rfl rfl (Nat.le_of_ble_eq_true rfl) dX7_init_48 (fun H locs hP hD hS => ?_)
    have hP : va_P D classes ((h0, .inr (7, [.ref r, .int 0])) :: (r, zq cs k f) :: ws) H := hP
    have hD : va_D A ((h0, .inr (7, [.ref r, .int 0])) :: (r, zq cs k f) :: ws) := hD
    exact fin _ _ _ _ ls ⟨r, f, ws, hB, rfl⟩ hP hD hS dX7_init_51
  | succ t ih =>
    intro k H locs ws f ls hk hB hP hD hS hl
    have hkn : k < n := by omega
    refine lv_iload_n hx hb dX7_init_18 rfl (lv_at hl 0 rfl) ?_
    refine lv_aload_n hx hb dX7_init_19 rfl (lv_at hl 1 rfl) ?_
    refine va_get (D := D) (ci := 7) (v := .ref r) (C := RX7) (T := TX7) (N := 2) hx hb hts (fun w hw => List.mem_cons_of_mem _ (ig_X7 w hw)) hown hK hP 0 rfl rfl 0 (by decide) (hts _ (List.mem_cons_of_mem _ vw_65)) (fun _ h9 => h9) rfl dX7_init_20 ?_
    refine va_alen hx hb hK hP 1 2 rfl rfl (v := nI n) rfl dX7_init_23 ?_
    refine lv_icmp_ge (tgt := 46) hx hb dX7_init_24 (by decide) (fun cc => absurd cc (nI_ge hkn (by omega))) (fun _ => ?_)
    refine lv_aload_n hx hb dX7_init_27 rfl (lv_at hl 1 rfl) ?_
    refine va_get (D := D) (ci := 7) (v := .ref r) (C := RX7) (T := TX7) (N := 2) hx hb hts (fun w hw => List.mem_cons_of_mem _ (ig_X7 w hw)) hown hK hP 0 rfl rfl 0 (by decide) (hts _ (List.mem_cons_of_mem _ vw_65)) (fun _ h9 => h9) rfl dX7_init_28 ?_
    refine lv_iload_n hx hb dX7_init_31 rfl (lv_at hl 0 rfl) ?_
    refine va_new (ci := 3) (fs := [.null, .null, .int 0, .int 0]) (C := RX3) (T := TX3) (N := 4) hx hb hts (fun w hw => List.mem_cons_of_mem _ (ig_X3 w hw)) tyX3 tyX3_ok hown (hts _ (List.mem_cons_of_mem _ vw_67)) (hts _ (List.mem_cons_of_mem _ vw_58)) (hts _ (List.mem_cons_of_mem _ vw_59)) hK hP hD hS hA rfl (fun j hj => by rcases (show j = 0 ∨ j = 1 ∨ j = 2 ∨ j = 3 by omega) with rfl | rfl | rfl | rfl <;> rfl) (by show 1 + 3 * k + 1 ≤ 1 + 3 * n; omega) (by show n + 14 * k + 4 ≤ n + 14 * n; omega) dX7_init_32 (fun q H hP hD hS => ?_)
    refine lv_dup hx hb dX7_init_35 rfl ?_
    refine kc_call (ws := (h0, .inr (7, [.ref r, .int 0])) :: (r, zq cs n f) :: ws) (ko_X3 l D cs) hx hb hml hown hts (mm_good lw_goodw (fun z hz => (List.mem_cons.mp hz).elim (fun e => e ▸ vw_60) id)) rfl (List.mem_cons_of_mem _ vw_59) (List.mem_cons_of_mem _ vw_68) (List.mem_cons_of_mem _ vw_62) rfl (by decide +kernel) ⟨Nat.le_of_ble_eq_true rfl, Nat.le_of_ble_eq_true rfl⟩ hK hE hP hD hS hA hl.1 rfl rfl (Nat.le_of_ble_eq_true rfl) dX7_init_36 ⟨by show 1 + 3 * k + 1 + 2 ≤ 1 + 3 * n; omega, by show n + 14 * k + 4 + 10 ≤ n + 14 * n; omega⟩ (fun H locs b1 hb1 hP hD hS => ?_)
    obtain ⟨q1, q2, rfl⟩ := hb1
    have hat : ((h0, (.inr (7, [.ref r, .int 0]) : va_E)) :: (r, zq cs n f) :: ws ++ [(q, .inr (3, [.ref q1, .ref q2, .int 0, .int 0])), (q1, zi cs 5), (q2, zi cs 5)])[ws.length + 2]? = some (q, .inr (3, [.ref q1, .ref q2, .int 0, .int 0])) := by
      rw [List.getElem?_append_right (by simp)]
      simp
    refine va_astq hx hb hK hP hD hS 1 2 (ws.length + 2) 3 (r := (RX3, TX3, 4)) (n := n) rfl rfl hat rfl (vp_in_nI hkn (by omega)) dX7_init_39 (fun H locs hP hD hS => ?_)
    rw [nI_clamp (by omega)] at hP hD
    have hP : va_P D classes ((h0, .inr (7, [.ref r, .int 0])) :: (r, zq cs n (va_up f k (some q))) :: (ws ++ [(q, .inr (3, [.ref q1, .ref q2, .int 0, .int 0])), (q1, zi cs 5), (q2, zi cs 5)])) H := hP
    have hD : va_D A ((h0, .inr (7, [.ref r, .int 0])) :: (r, zq cs n (va_up f k (some q))) :: (ws ++ [(q, .inr (3, [.ref q1, .ref q2, .int 0, .int 0])), (q1, zi cs 5), (q2, zi cs 5)])) := hD
    refine lv_iinc (v := nI (k + 1)) (lv' := [(2, .int (nI (k + 1))), (0, .ref h0)]) hx hb dX7_init_40 hl (k := 0) rfl (nI_1 k) (by decide) rfl (fun ls hl => ?_)
    refine lv_goto (tgt := 18) hx hb dX7_init_43 (by decide) ?_
    have hfin := ih (k + 1) H locs (ws ++ [(q, .inr (3, [.ref q1, .ref q2, .int 0, .int 0])), (q1, zi cs 5), (q2, zi cs 5)]) (va_up f k (some q)) ls (by omega) ⟨ws, q, q1, q2, SB_up k ws (Nat.le_refl k) hB, va_up_self f k _, rfl⟩ hP hD hS hl
    rw [show 1 + 3 * (k + 1) = 1 + 3 * k + 1 + 2 by omega, show n + 14 * (k + 1) = n + 14 * k + 4 + 10 by omega] at hfin
    exact hfin
set_option maxHeartbeats 4000000 in
set_option maxRecDepth 100000 in
theorem ko_X7 (n : Nat) (hn1 : 1 ≤ n) (hn8 : n ≤ 8) (l : Launch) (D : va_G) (cs : ClassId × ClassId × ClassId × ClassId) : kc_M l D cs ii_X7 7 [.null, .int 0] [.int (nI n)] 2 (1 + 3 * n) (n + 14 * n) (BX7 cs n) := by
  refine kc_of (by decide) rfl (fun _ => Nat.le_of_ble_eq_true rfl) ?_
  intro p e s m args below meth c h0 A ls Q hx hb hml hown hts hin hA hP hK hD hE hl fin
  have hb : c.code = cX7_init := hb
  have hml : c.maxLocals = 3 := hml
  have hown : s.vm.findClass RX7 = some m.cls := hown
  have hin : meth.name = "<init>" := hin
  have hl : lv_has ls 3 [(0, .ref h0), (1, .int (nI n))] := hl
  have hS : va_S A s.heap s.heap [] := va_S.rf
  refine lv_aload_n hx hb dX7_init_0 rfl (lv_at hl 0 rfl) ?_
  refine W.objInit hx hb hown (hts _ (List.mem_cons_of_mem _ vw_69)) (hts _ (List.mem_cons_of_mem _ vw_1)) (hts _ (List.mem_cons_of_mem _ vw_2)) rfl (by rw [hml]; exact hl.1) rfl dX7_init_1 (Nat.le_of_ble_eq_true rfl) (Nat.le_of_ble_eq_true rfl) ?_
  refine W.eq (g2 := F0 m 4 ls []) rfl ?_
  refine lv_aload_n hx hb dX7_init_4 rfl (lv_at hl 0 rfl) ?_
  refine lv_iconst (v := 1) hx hb dX7_init_5 (by decide) ?_
  refine lv_iload_n hx hb dX7_init_6 rfl (lv_at hl 1 rfl) ?_
  refine va_mmax hx hb (by rw [hml]; exact hl.1.symm) hown (hts _ (List.mem_cons_of_mem _ vw_64)) (hts _ (List.mem_cons_of_mem _ ws_max)) (hts _ (List.mem_cons_of_mem _ vw_70)) (hts _ (List.mem_cons_of_mem _ wc_max)) (Nat.le_of_ble_eq_true rfl) (Nat.le_of_ble_eq_true rfl) (Nat.zero_le _) (Nat.zero_le _) dX7_init_7 ?_
  have em : (if (1 : Int32) < nI n then nI n else 1) = nI n := by
    by_cases c1 : (1 : Int32) < nI n
    · rw [if_pos c1]
    · rw [if_neg c1]
      have : ¬ nI 1 < nI n := c1
      rw [nI_ltI (by omega) (by omega)] at this
      have e1 : n = 1 := by omega
      rw [e1]; rfl
  rw [em]
  refine nw_q hx hb hown (hts _ (List.mem_cons_of_mem _ vw_67)) hE.1 hK hP hD hS hA (n := nI n) (N' := n) (nI_pos (by omega)) (nI_clamp (by omega)) (by omega) (by show 0 + 1 ≤ 1 + 3 * n; omega) (by show 0 + n ≤ n + 14 * n; omega) dX7_init_10 (fun r H hP hD hS => ?_)
  refine va_putF (D := D) (ci := 7) (v := .ref r) (ty := .array (.object "DuskOnRopes$Dusk")) (C := RX7) (T := TX7) (N := 2) hx hb hts (fun w hw => List.mem_cons_of_mem _ (ig_X7 w hw)) tyX7 tyX7_ok nmX7 hown hK hP hD hS 0 rfl rfl 0 (by decide) (hts _ (List.mem_cons_of_mem _ vw_65)) (fun _ h9 => h9) rfl hin rfl (by decide +kernel) rfl rfl (Nat.le_of_ble_eq_true rfl) dX7_init_13 (fun H locs hP hD hS => ?_)
  have hP : va_P D classes ((h0, .inr (7, [.ref r, .int 0])) :: (r, zq cs n (fun _ => none)) :: []) H := hP
  have hD : va_D A ((h0, .inr (7, [.ref r, .int 0])) :: (r, zq cs n (fun _ => none)) :: []) := hD
  refine lv_iconst (v := 0) hx hb dX7_init_16 (by decide) ?_
  refine lv_istore_n (lv' := [(2, .int 0), (0, .ref h0), (1, .int (nI n))]) hx hb dX7_init_17 rfl hl (by decide) rfl (fun ls hl => ?_)
  have h9 := sk_loop hn8 hx hb hml hown hts hA hK hE fin n 0 H locs [] (fun _ => none) ls (by omega) rfl hP hD hS (lv_sub hl [0, 1] rfl)
  rw [show 1 + 3 * 0 = 0 + 1 by omega, show n + 14 * 0 = 0 + n by omega] at h9
  exact h9
