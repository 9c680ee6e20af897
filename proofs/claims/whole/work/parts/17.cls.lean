/-! classes: what a program knows of each -/
noncomputable def bc_uck : List Nat → List Jvm.Cond → Bool
  | [], [] => true
  | q :: qs, w :: ws => (match bc_lk q with | some v => decide (v = w) | none => false) && goodWord w && bc_uck qs ws
  | _, _ => false
theorem bc_uin : ∀ (qs : List Nat) {ws : List Jvm.Cond}, bc_uck qs ws = true → ∀ w ∈ ws, w ∈ bc_T
  | [], [], _, w, hw => absurd hw List.not_mem_nil
  | [], _ :: _, h, _, _ => by cases h
  | _ :: _, [], h, _, _ => by cases h
  | q :: qs, v :: ws, h, w, hw => by
    unfold bc_uck at h
    simp only [Bool.and_eq_true] at h
    rcases List.mem_cons.mp hw with rfl | hw
    · have h1 := h.1.1
      split at h1
      · rename_i u hu
        rw [decide_eq_true_eq] at h1
        subst h1
        exact List.mem_filter.mpr ⟨bc_lk_in hu, h.1.2⟩
      · cases h1
    · exact bc_uin qs h.2 w hw
def bc_isR : FieldType → Bool
  | .object _ => true
  | .array _ => true
  | _ => false
theorem bc_isR_ok {ty : FieldType} (h : bc_isR ty = true) (a : Nat) : narrow ty (.ref a) = .ref a ∧ fits ty (.ref a) = true := by
  cases ty <;> first | exact ⟨rfl, rfl⟩ | cases h
def bc_kin (ft : Nat × Nat) (ty : FieldType) (fo : Option Int) : Bool := match ft.1 with
  | 10 => decide (ty = .int) && fo.isNone
  | 11 => decide (ty = .long) && fo.isNone
  | 12 => decide (ty = .boolean) && fo.isNone
  | _ => decide (ft.1 < 7) && bc_isR ty
/-- what is known of a class by its number -/
def bc_cK (c : Nat) (C : String) (T : u_T) (N : Nat) (ty : Nat → FieldType) : Prop :=
  vwCl[c]? = some (C, T, N) ∧ N = bc_nf c ∧ (∀ w ∈ u_ws C T N, w ∈ bc_T) ∧ (∀ k, k < N → parseFieldDescriptor (T k).2.2.1 = some (ty k)) ∧ (∀ a, a < N → ∀ b, b < N → a ≠ b → (T a).2.1 ≠ (T b).2.1) ∧ (∀ k, k < N → bc_cF c k = T k) ∧ (∀ k, k < N → bc_kin (bc_ft c k) (ty k) (bc_fo c k) = true) ∧ (vwCl.getD c ("", TX0, 0)).1 = C ∧ (vwCl.getD c ("", TX0, 0)).2.2 = N
def bc_u0 : List Nat := [1008, 1010, 1012]
def bc_u1 : List Nat := [1077, 1079]
def bc_u2 : List Nat := [1203, 1205, 1207, 1209, 1211, 1213, 1215, 1217, 1219, 1221, 1223, 1225, 1227, 1229, 1231]
def bc_u3 : List Nat := [2018, 2020, 2022, 2024, 2026, 2028, 2030, 2032]
def bc_u4 : List Nat := [1142, 1144, 1146, 1148, 1150]
def bc_u5 : List Nat := [215, 217, 219, 221, 223, 225, 227, 229, 231, 233]
def bc_u6 : List Nat := [174, 176, 178, 180, 182, 184, 186, 188, 190]
def bc_u7 : List Nat := [1035, 1037, 1039, 1041, 1043, 1045, 1047, 1049, 1051, 1053, 1055]
def bc_u8 : List Nat := [127, 129, 131, 133, 135, 137, 139, 141, 143, 145, 147, 149, 151, 153, 155]
def bc_u9 : List Nat := [40, 42, 44]
def bc_u10 : List Nat := [1111, 1113, 1115, 1117, 1119, 1121]
def bc_u11 : List Nat := [2056, 2058, 2060, 2062, 2064, 2066, 2068, 2070, 2072, 2074, 2076, 2078, 2080, 2082, 2084, 2086, 2088, 2090, 2092]
def bc_u12 : List Nat := [5222, 5224, 5226, 5228, 5230, 5232, 5234, 5236, 5238, 6000, 6002, 6004, 6006, 6008, 6010, 6012, 6014, 6016, 6018, 6020, 6022, 6024, 6026, 6028, 6030, 6032, 6034, 6036, 6038, 6040, 6042, 6044, 6046, 6048, 6050, 6052, 6054, 6056, 6058, 6060, 6062, 6064, 6066, 6068, 6070, 6072, 6074, 6076, 6078, 6080]
theorem bc_v0 : ∀ w ∈ u_ws RX0 TX0 3, w ∈ bc_T := bc_uin bc_u0 (by decide +kernel)
theorem bc_v1 : ∀ w ∈ u_ws RX1 TX1 2, w ∈ bc_T := bc_uin bc_u1 (by decide +kernel)
theorem bc_v2 : ∀ w ∈ u_ws RX2 TX2 15, w ∈ bc_T := bc_uin bc_u2 (by decide +kernel)
theorem bc_v3 : ∀ w ∈ u_ws RX3 TX3 8, w ∈ bc_T := bc_uin bc_u3 (by decide +kernel)
theorem bc_v4 : ∀ w ∈ u_ws RX4 TX4 5, w ∈ bc_T := bc_uin bc_u4 (by decide +kernel)
theorem bc_v5 : ∀ w ∈ u_ws RX5 TX5 10, w ∈ bc_T := bc_uin bc_u5 (by decide +kernel)
theorem bc_v6 : ∀ w ∈ u_ws RX6 TX6 9, w ∈ bc_T := bc_uin bc_u6 (by decide +kernel)
theorem bc_v7 : ∀ w ∈ u_ws RX7 TX7 11, w ∈ bc_T := bc_uin bc_u7 (by decide +kernel)
theorem bc_v8 : ∀ w ∈ u_ws RX8 TX8 15, w ∈ bc_T := bc_uin bc_u8 (by decide +kernel)
theorem bc_v9 : ∀ w ∈ u_ws RX9 TX9 3, w ∈ bc_T := bc_uin bc_u9 (by decide +kernel)
theorem bc_v10 : ∀ w ∈ u_ws RX10 TX10 6, w ∈ bc_T := bc_uin bc_u10 (by decide +kernel)
theorem bc_v11 : ∀ w ∈ u_ws RX11 TX11 19, w ∈ bc_T := bc_uin bc_u11 (by decide +kernel)
theorem bc_v12 : ∀ w ∈ u_ws RX12 TX12 50, w ∈ bc_T := bc_uin bc_u12 (by decide +kernel)
theorem bc_cls : ∀ c, c < 13 → ∃ C T N ty, bc_cK c C T N ty
  | 0, _ => ⟨RX0, TX0, 3, tyX0, rfl, rfl, bc_v0, tyX0_ok, nmX0, by intro k hk; exact if_pos hk, by decide +kernel, rfl, rfl⟩
  | 1, _ => ⟨RX1, TX1, 2, tyX1, rfl, rfl, bc_v1, tyX1_ok, nmX1, by intro k hk; exact if_pos hk, by decide +kernel, rfl, rfl⟩
  | 2, _ => ⟨RX2, TX2, 15, tyX2, rfl, rfl, bc_v2, tyX2_ok, nmX2, by intro k hk; exact if_pos hk, by decide +kernel, rfl, rfl⟩
  | 3, _ => ⟨RX3, TX3, 8, tyX3, rfl, rfl, bc_v3, tyX3_ok, nmX3, by intro k hk; exact if_pos hk, by decide +kernel, rfl, rfl⟩
  | 4, _ => ⟨RX4, TX4, 5, tyX4, rfl, rfl, bc_v4, tyX4_ok, nmX4, by intro k hk; exact if_pos hk, by decide +kernel, rfl, rfl⟩
  | 5, _ => ⟨RX5, TX5, 10, tyX5, rfl, rfl, bc_v5, tyX5_ok, nmX5, by intro k hk; exact if_pos hk, by decide +kernel, rfl, rfl⟩
  | 6, _ => ⟨RX6, TX6, 9, tyX6, rfl, rfl, bc_v6, tyX6_ok, nmX6, by intro k hk; exact if_pos hk, by decide +kernel, rfl, rfl⟩
  | 7, _ => ⟨RX7, TX7, 11, tyX7, rfl, rfl, bc_v7, tyX7_ok, nmX7, by intro k hk; exact if_pos hk, by decide +kernel, rfl, rfl⟩
  | 8, _ => ⟨RX8, TX8, 15, tyX8, rfl, rfl, bc_v8, tyX8_ok, nmX8, by intro k hk; exact if_pos hk, by decide +kernel, rfl, rfl⟩
  | 9, _ => ⟨RX9, TX9, 3, tyX9, rfl, rfl, bc_v9, tyX9_ok, nmX9, by intro k hk; exact if_pos hk, by decide +kernel, rfl, rfl⟩
  | 10, _ => ⟨RX10, TX10, 6, tyX10, rfl, rfl, bc_v10, tyX10_ok, nmX10, by intro k hk; exact if_pos hk, by decide +kernel, rfl, rfl⟩
  | 11, _ => ⟨RX11, TX11, 19, tyX11, rfl, rfl, bc_v11, tyX11_ok, nmX11, by intro k hk; exact if_pos hk, by decide +kernel, rfl, rfl⟩
  | 12, _ => ⟨RX12, TX12, 50, tyX12, rfl, rfl, bc_v12, tyX12_ok, nmX12, by intro k hk; exact if_pos hk, by decide +kernel, rfl, rfl⟩
  | n + 13, h => absurd h (by omega)
