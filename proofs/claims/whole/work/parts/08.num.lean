/-! ===== the small machine's numbers against Int32, Int64 ===== -/
abbrev bc_i (x : Int) : Prop := -2147483648 ≤ x ∧ x < 2147483648
abbrev bc_j (x : Int) : Prop := -9223372036854775808 ≤ x ∧ x < 9223372036854775808
theorem bc_ti {x : Int} (h : bc_i x) : (Int32.ofInt x).toInt = x := Int32.toInt_ofInt_of_le h.1 h.2
theorem bc_tj {x : Int} (h : bc_j x) : (Int64.ofInt x).toInt = x := Int64.toInt_ofInt_of_le h.1 h.2
theorem bc_ri (x : Int32) : bc_i x.toInt := ⟨x.le_toInt, x.toInt_lt⟩
theorem bc_rj (x : Int64) : bc_j x.toInt := ⟨x.le_toInt, x.toInt_lt⟩
theorem bc_w32_i (x : Int) : bc_i (bc_w32 x) := by unfold bc_w32 bc_i; omega
theorem bc_w64_j (x : Int) : bc_j (bc_w64 x) := by unfold bc_w64 bc_j; omega
theorem bc_w32_e (x : Int) : bc_w32 x = x.bmod 4294967296 := by
  unfold bc_w32
  rw [Int.bmod_def]
  split <;> omega
theorem bc_w64_e (x : Int) : bc_w64 x = x.bmod 18446744073709551616 := by
  unfold bc_w64
  rw [Int.bmod_def]
  split <;> omega
theorem bc_w8_e (x : Int) : bc_w8 x = x.bmod 256 := by
  unfold bc_w8
  rw [Int.bmod_def]
  split <;> omega
theorem bc_w16_e (x : Int) : bc_w16 x = x.bmod 65536 := by
  unfold bc_w16
  rw [Int.bmod_def]
  split <;> omega
theorem bc_o32 (x : Int) : Int32.ofInt (bc_w32 x) = Int32.ofInt x := by
  apply Int32.toInt_inj.mp
  rw [bc_ti (bc_w32_i x), Int32.toInt_ofInt, bc_w32_e]
theorem bc_o64 (x : Int) : Int64.ofInt (bc_w64 x) = Int64.ofInt x := by
  apply Int64.toInt_inj.mp
  rw [bc_tj (bc_w64_j x), Int64.toInt_ofInt, bc_w64_e]
theorem bc_eqi {a b : Int} (ha : bc_i a) (hb : bc_i b) : Int32.ofInt a = Int32.ofInt b ↔ a = b := by
  rw [← Int32.toInt_inj, bc_ti ha, bc_ti hb]
theorem bc_lti {a b : Int} (ha : bc_i a) (hb : bc_i b) : Int32.ofInt a < Int32.ofInt b ↔ a < b := by
  rw [Int32.lt_iff_toInt_lt, bc_ti ha, bc_ti hb]
theorem bc_lei {a b : Int} (ha : bc_i a) (hb : bc_i b) : Int32.ofInt a ≤ Int32.ofInt b ↔ a ≤ b := by
  rw [Int32.le_iff_toInt_le, bc_ti ha, bc_ti hb]
theorem bc_tdiv {a b : Int} (ha : bc_i a) (hb : bc_i b) : Int32.ofInt (bc_w32 (a.tdiv b)) = Int32.ofInt a / Int32.ofInt b := by
  rw [bc_o32]
  exact Int32.ofInt_tdiv (by have := ha.1; simpa using this) (by have := ha.2; show a ≤ 2147483647; omega) (by have := hb.1; simpa using this) (by have := hb.2; show b ≤ 2147483647; omega)
theorem bc_tmod {a b : Int} (ha : bc_i a) (hb : bc_i b) : Int32.ofInt (a.tmod b) = Int32.ofInt a - Int32.ofInt a / Int32.ofInt b * Int32.ofInt b := by
  rw [← bc_tdiv ha hb, bc_o32, ← Int32.ofInt_mul, ← Int32.ofInt_sub, Int.tmod_def, Int.mul_comm]
theorem bc_ldiv {a b : Int} (ha : bc_j a) (hb : bc_j b) : Int64.ofInt (bc_w64 (a.tdiv b)) = Int64.ofInt a / Int64.ofInt b := by
  rw [bc_o64]
  exact Int64.ofInt_tdiv (by have := ha.1; simpa using this) (by have := ha.2; show a ≤ 9223372036854775807; omega) (by have := hb.1; simpa using this) (by have := hb.2; show b ≤ 9223372036854775807; omega)
theorem bc_lmod {a b : Int} (ha : bc_j a) (hb : bc_j b) : Int64.ofInt (a.tmod b) = Int64.ofInt a - Int64.ofInt a / Int64.ofInt b * Int64.ofInt b := by
  rw [← bc_ldiv ha hb, bc_o64, ← Int64.ofInt_mul, ← Int64.ofInt_sub, Int.tmod_def, Int.mul_comm]
theorem bc_tmod_i {a b : Int} (ha : bc_i a) (hb : b ≠ 0) : bc_i (a.tmod b) := by
  have h1 := Int.natAbs_tmod a b
  have h2 : a.natAbs % b.natAbs ≤ a.natAbs := Nat.mod_le _ _
  have h3 : 0 ≤ a → 0 ≤ a.tmod b := fun h => Int.tmod_nonneg b h
  have h4 : a ≤ 0 → a.tmod b ≤ 0 := fun h => by
    have q := Int.tmod_nonneg b (show 0 ≤ -a by omega)
    rw [Int.neg_tmod] at q
    omega
  obtain ⟨u, v⟩ := ha
  constructor <;> omega
theorem bc_lmod_j {a b : Int} (ha : bc_j a) (hb : b ≠ 0) : bc_j (a.tmod b) := by
  have h1 := Int.natAbs_tmod a b
  have h2 : a.natAbs % b.natAbs ≤ a.natAbs := Nat.mod_le _ _
  have h3 : 0 ≤ a → 0 ≤ a.tmod b := fun h => Int.tmod_nonneg b h
  have h4 : a ≤ 0 → a.tmod b ≤ 0 := fun h => by
    have q := Int.tmod_nonneg b (show 0 ≤ -a by omega)
    rw [Int.neg_tmod] at q
    omega
  obtain ⟨u, v⟩ := ha
  constructor <;> omega
theorem bc_i2l {a : Int} (ha : bc_i a) : (Int32.ofInt a).toInt64 = Int64.ofInt a := by
  apply Int64.toInt_inj.mp
  rw [Int32.toInt_toInt64, bc_ti ha, bc_tj ⟨by have := ha.1; omega, by have := ha.2; omega⟩]
theorem bc_l2i (a : Int) : (Int64.ofInt a).toInt32 = Int32.ofInt (bc_w32 a) := by
  rw [bc_o32, Int64.toInt32_ofInt]
theorem bc_w8_i (x : Int) : bc_i (bc_w8 x) := by unfold bc_w8 bc_i; omega
theorem bc_w16_i (x : Int) : bc_i (bc_w16 x) := by unfold bc_w16 bc_i; omega
theorem bc_i2b {a : Int} (ha : bc_i a) : (Int32.ofInt a).toInt8.toInt32 = Int32.ofInt (bc_w8 a) := by
  apply Int32.toInt_inj.mp
  rw [bc_ti (bc_w8_i a), Int8.toInt_toInt32, Int32.toInt_toInt8, bc_ti ha, bc_w8_e]
theorem bc_i2s {a : Int} (ha : bc_i a) : (Int32.ofInt a).toInt16.toInt32 = Int32.ofInt (bc_w16 a) := by
  apply Int32.toInt_inj.mp
  rw [bc_ti (bc_w16_i a), Int16.toInt_toInt32, Int32.toInt_toInt16, bc_ti ha, bc_w16_e]
theorem bc_lc {a b : Int} (ha : bc_j a) (hb : bc_j b) : lg_cmp (Int64.ofInt a) (Int64.ofInt b) = Int32.ofInt (bc_lcmp a b) := by
  unfold lg_cmp bc_lcmp
  have e1 : Int64.ofInt a > Int64.ofInt b ↔ b < a := by rw [gt_iff_lt, Int64.lt_iff_toInt_lt, bc_tj ha, bc_tj hb]
  have e2 : Int64.ofInt a = Int64.ofInt b ↔ a = b := by rw [← Int64.toInt_inj, bc_tj ha, bc_tj hb]
  rcases Int.lt_trichotomy a b with h | h | h
  · rw [if_neg (fun q => absurd (e1.mp q) (by omega)), if_neg (fun q => absurd (e2.mp q) (by omega)), if_pos h]
    rfl
  · rw [if_neg (fun q => absurd (e1.mp q) (by omega)), if_pos (e2.mpr h), if_neg (by omega), if_pos h]
    rfl
  · rw [if_pos (e1.mpr h), if_neg (by omega), if_neg (by omega)]
    rfl
theorem bc_lc_i (a b : Int) : bc_i (bc_lcmp a b) := by
  unfold bc_lcmp bc_i
  split
  · omega
  · split <;> omega
theorem bc_ci {i : Int} {n : Nat} (h0 : 0 ≤ i) (hn : i < (n : Int)) (hi : bc_i i) : vp_in (Int32.ofInt i) n ∧ (Int32.ofInt i).toNatClampNeg = i.toNat := by
  constructor
  · rw [vp_in_iff, bc_ti hi]
    exact ⟨h0, hn⟩
  · show (Int32.ofInt i).toInt.toNat = _
    rw [bc_ti hi]
