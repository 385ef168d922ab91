/-! ===== numbers of the mini machine and the machine's ===== -/
def mm_in (x : Int) : Prop := -2147483648 ≤ x ∧ x < 2147483648
def mm_il (x : Int) : Prop := -9223372036854775808 ≤ x ∧ x < 9223372036854775808
theorem mm_wr_in (x : Int) : mm_in (mm_wr x) := by unfold mm_in mm_wr; omega
theorem mm_wl_in (x : Int) : mm_il (mm_wl x) := by unfold mm_il mm_wl; omega
theorem mm_wr_id {x : Int} (h : mm_in x) : mm_wr x = x := by unfold mm_in at h; unfold mm_wr; omega
theorem mm_wl_id {x : Int} (h : mm_il x) : mm_wl x = x := by unfold mm_il at h; unfold mm_wl; omega
theorem mm_wr_of (x : Int) : mm_wr x = (Int32.ofInt x).toInt := by
  rw [Int32.toInt_ofInt]
  unfold mm_wr
  have h : Int32.size = 4294967296 := rfl
  rw [h, Int.bmod_def]
  split <;> omega
theorem mm_wl_of (x : Int) : mm_wl x = (Int64.ofInt x).toInt := by
  rw [Int64.toInt_ofInt]
  unfold mm_wl
  have h : Int64.size = 18446744073709551616 := rfl
  rw [h, Int.bmod_def]
  split <;> omega
theorem mm_ofwr (x : Int) : Int32.ofInt (mm_wr x) = Int32.ofInt x := by rw [mm_wr_of, Int32.ofInt_toInt]
theorem mm_ofwl (x : Int) : Int64.ofInt (mm_wl x) = Int64.ofInt x := by rw [mm_wl_of, Int64.ofInt_toInt]
theorem mm_to {x : Int} (h : mm_in x) : (Int32.ofInt x).toInt = x := by rw [← mm_wr_of, mm_wr_id h]
theorem mm_tol {x : Int} (h : mm_il x) : (Int64.ofInt x).toInt = x := by rw [← mm_wl_of, mm_wl_id h]
theorem mm_toI (x : Int32) : mm_in x.toInt := by
  have h := mm_wr_in x.toInt
  rw [mm_wr_of, Int32.ofInt_toInt] at h
  exact h
theorem mm_toL (x : Int64) : mm_il x.toInt := by
  have h := mm_wl_in x.toInt
  rw [mm_wl_of, Int64.ofInt_toInt] at h
  exact h
theorem mm_in_l {x : Int} (h : mm_in x) : mm_il x := by unfold mm_in at h; unfold mm_il; omega
theorem mm_lt {a b : Int} (ha : mm_in a) (hb : mm_in b) : Int32.ofInt a < Int32.ofInt b ↔ a < b := by rw [Int32.lt_iff_toInt_lt, mm_to ha, mm_to hb]
theorem mm_le {a b : Int} (ha : mm_in a) (hb : mm_in b) : Int32.ofInt a ≤ Int32.ofInt b ↔ a ≤ b := by rw [Int32.le_iff_toInt_le, mm_to ha, mm_to hb]
theorem mm_eq {a b : Int} (ha : mm_in a) (hb : mm_in b) : Int32.ofInt a = Int32.ofInt b ↔ a = b := by rw [← Int32.toInt_inj, mm_to ha, mm_to hb]
theorem mm_eql {a b : Int} (ha : mm_il a) (hb : mm_il b) : Int64.ofInt a = Int64.ofInt b ↔ a = b := by rw [← Int64.toInt_inj, mm_tol ha, mm_tol hb]
theorem mm_z : (0 : Int32) = Int32.ofInt 0 := by decide
theorem mm_zl : (0 : Int64) = Int64.ofInt 0 := by decide
theorem mm_z_in : mm_in 0 := by unfold mm_in; omega
theorem mm_z_il : mm_il 0 := by unfold mm_il; omega
theorem mm_ix {i : Int} (h : mm_in i) {n : Nat} (hi : 0 ≤ i ∧ i < n) : vp_in (Int32.ofInt i) n := by rw [vp_in_iff, mm_to h]; exact hi
theorem mm_ixn {i : Int} (h : mm_in i) : (Int32.ofInt i).toNatClampNeg = i.toNat := by
  show (Int32.ofInt i).toInt.toNat = i.toNat
  rw [mm_to h]
theorem mm_e_add (a b : Int) : Int32.ofInt a + Int32.ofInt b = Int32.ofInt (mm_add a b) := by unfold mm_add; rw [mm_ofwr, Int32.ofInt_add]
theorem mm_e_sub (a b : Int) : Int32.ofInt a - Int32.ofInt b = Int32.ofInt (mm_sub a b) := by unfold mm_sub; rw [mm_ofwr, Int32.ofInt_sub]
theorem mm_e_mul (a b : Int) : Int32.ofInt a * Int32.ofInt b = Int32.ofInt (mm_mul a b) := by unfold mm_mul; rw [mm_ofwr, Int32.ofInt_mul]
theorem mm_e_neg (a : Int) : -Int32.ofInt a = Int32.ofInt (mm_wr (-a)) := by rw [mm_ofwr, Int32.ofInt_neg]
theorem mm_e_ladd (a b : Int) : Int64.ofInt a + Int64.ofInt b = Int64.ofInt (mm_ladd a b) := by unfold mm_ladd; rw [mm_ofwl, Int64.ofInt_add]
theorem mm_e_lmul (a b : Int) : Int64.ofInt a * Int64.ofInt b = Int64.ofInt (mm_lmul a b) := by unfold mm_lmul; rw [mm_ofwl, Int64.ofInt_mul]
theorem mm_e_and (a b : Int) : Int32.ofInt a &&& Int32.ofInt b = Int32.ofInt (mm_and a b) := by unfold mm_and; rw [Int32.ofInt_toInt]
theorem mm_e_or (a b : Int) : Int32.ofInt a ||| Int32.ofInt b = Int32.ofInt (mm_or a b) := by unfold mm_or; rw [Int32.ofInt_toInt]
theorem mm_e_xor (a b : Int) : Int32.ofInt a ^^^ Int32.ofInt b = Int32.ofInt (mm_xor a b) := by unfold mm_xor; rw [Int32.ofInt_toInt]
theorem mm_e_shl (a b : Int) : Int32.ofInt a <<< (Int32.ofInt b &&& 31) = Int32.ofInt (mm_shl a b) := by unfold mm_shl; rw [Int32.ofInt_toInt]
theorem mm_e_shr (a b : Int) : Int32.ofInt a >>> (Int32.ofInt b &&& 31) = Int32.ofInt (mm_shr a b) := by unfold mm_shr; rw [Int32.ofInt_toInt]
theorem mm_e_ush (a b : Int) : ((Int32.ofInt a).toUInt32 >>> ((Int32.ofInt b).toUInt32 &&& Int32.toUInt32 31)).toInt32 = Int32.ofInt (mm_ush a b) := by unfold mm_ush; rw [Int32.ofInt_toInt]
theorem mm_e_div {a b : Int} (ha : mm_in a) (hb : mm_in b) : Int32.ofInt a / Int32.ofInt b = Int32.ofInt (mm_wr (Int.tdiv a b)) := by
  rw [mm_ofwr, ← Int32.toInt_inj, Int32.toInt_div, mm_to ha, mm_to hb, Int32.toInt_ofInt]
theorem mm_e_rem {a b : Int} (ha : mm_in a) (hb : mm_in b) : Int32.ofInt a - Int32.ofInt a / Int32.ofInt b * Int32.ofInt b = Int32.ofInt (Int.tmod a b) := by
  rw [mm_e_div ha hb, mm_ofwr, ← Int32.ofInt_mul, ← Int32.ofInt_sub, Int.tmod_def, Int.mul_comm]
theorem mm_e_lrem {a b : Int} (ha : mm_il a) (hb : mm_il b) : Int64.ofInt a - Int64.ofInt a / Int64.ofInt b * Int64.ofInt b = Int64.ofInt (Int.tmod a b) := by
  have e : Int64.ofInt a / Int64.ofInt b = Int64.ofInt (Int.tdiv a b) := by
    rw [← Int64.toInt_inj, Int64.toInt_div, mm_tol ha, mm_tol hb, Int64.toInt_ofInt]
  rw [e, ← Int64.ofInt_mul, ← Int64.ofInt_sub, Int.tmod_def, Int.mul_comm]
theorem mm_tmod_b (a b : Int) : (0 ≤ a → 0 ≤ Int.tmod a b ∧ Int.tmod a b ≤ a) ∧ (a ≤ 0 → a ≤ Int.tmod a b ∧ Int.tmod a b ≤ 0) := by
  have key : ∀ x y : Int, 0 ≤ x → 0 ≤ Int.tmod x y ∧ Int.tmod x y ≤ x := by
    intro x y hx
    refine ⟨Int.tmod_nonneg y hx, ?_⟩
    have h1 : (Int.tmod x y).natAbs = x.natAbs % y.natAbs := Int.natAbs_tmod x y
    have h2 := Nat.mod_le x.natAbs y.natAbs
    omega
  refine ⟨key a b, fun h => ?_⟩
  have h1 := key (-a) b (by omega)
  rw [Int.neg_tmod] at h1
  omega
theorem mm_rem_in {a b : Int} (ha : mm_in a) : mm_in (Int.tmod a b) := by
  have h := mm_tmod_b a b
  unfold mm_in at ha ⊢
  rcases Int.le_total 0 a with q | q
  · have := h.1 q; omega
  · have := h.2 q; omega
theorem mm_lrem_il {a b : Int} (ha : mm_il a) : mm_il (Int.tmod a b) := by
  have h := mm_tmod_b a b
  unfold mm_il at ha ⊢
  rcases Int.le_total 0 a with q | q
  · have := h.1 q; omega
  · have := h.2 q; omega
theorem mm_e_i2l {a : Int} (ha : mm_in a) : (Int32.ofInt a).toInt64 = Int64.ofInt a := by
  rw [← Int64.toInt_inj, Int32.toInt_toInt64, mm_to ha, mm_tol (mm_in_l ha)]
theorem mm_e_l2i (a : Int) : (Int64.ofInt a).toInt32 = Int32.ofInt (mm_wr a) := by
  rw [mm_ofwr]
  first | exact Int64.toInt32_ofInt | (rw [Int64.toInt32_ofInt])
theorem mm_e_i2c {a : Int} (ha : mm_in a) : ((Int32.ofInt a).toUInt32 % 65536).toInt32 = Int32.ofInt (a % 65536) := by
  rw [pk_char]
  have h0 : mm_in (a % 65536) := by unfold mm_in; omega
  rw [← Int32.toInt_inj, mm_to h0]
  have h1 : ((Int32.ofInt a).toBitVec.toNat : Int) = a % 4294967296 := by
    have h2 : (Int32.ofInt a).toInt = a := mm_to ha
    have h3 : (Int32.ofInt a).toInt = (Int32.ofInt a).toBitVec.toInt := rfl
    rw [h3, BitVec.toInt_eq_toNat_bmod, Int.bmod_def] at h2
    have h4 := (Int32.ofInt a).toBitVec.isLt
    split at h2 <;> omega
  rw [nI_toInt (by omega)]
  omega
theorem mm_i2c_in (a : Int) : mm_in (a % 65536) := by unfold mm_in; omega
