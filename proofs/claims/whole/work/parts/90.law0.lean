/-! the law's own rows, in pieces -/
noncomputable def bc_ckP (k : Nat) (tl : Option Nat) : List Instr → List (Nat × List Nat) → Bool
  | [], [] => true
  | i :: is, (pc, wi) :: ps => (match decode (bc_mi k).2.2.1 pc with
    | .ok (j, len) => bc_rel k pc ((ps.head?.map (·.1)).or tl) wi j len i
    | .error _ => false) && bc_ckP k tl is ps
  | _, _ => false
theorem bc_ckP_app {k : Nat} : ∀ (is : List Instr) (ps : List (Nat × List Nat)) (is2 : List Instr) (ps2 : List (Nat × List Nat)), bc_ckP k (ps2.head?.map (·.1)) is ps = true → bc_ckL k is2 ps2 = true → bc_ckL k (is ++ is2) (ps ++ ps2) = true
  | [], [], is2, ps2, _, h2 => h2
  | [], _ :: _, _, _, h, _ => by cases h
  | _ :: _, [], _, _, h, _ => by cases h
  | i :: is, (pc, wi) :: ps, is2, ps2, h, h2 => by
    unfold bc_ckP at h
    simp only [Bool.and_eq_true] at h
    rw [List.cons_append, List.cons_append]
    unfold bc_ckL
    simp only [Bool.and_eq_true]
    refine ⟨?_, bc_ckP_app is ps is2 ps2 h.2 h2⟩
    have e : (ps ++ ps2).head?.map (·.1) = (ps.head?.map (·.1)).or (ps2.head?.map (·.1)) := by
      cases ps <;> rfl
    rw [e]
    exact h.1
set_option maxRecDepth 100000 in
theorem bc_k0_14 : bc_ckL 0 bc_c0_14 bc_p0_14 = true := by decide +kernel
set_option maxRecDepth 100000 in
theorem bc_k0_13 : bc_ckP 0 (bc_p0_14.head?.map (·.1)) bc_c0_13 bc_p0_13 = true := by decide +kernel
set_option maxRecDepth 100000 in
theorem bc_k0_12 : bc_ckP 0 (bc_p0_13.head?.map (·.1)) bc_c0_12 bc_p0_12 = true := by decide +kernel
set_option maxRecDepth 100000 in
theorem bc_k0_11 : bc_ckP 0 (bc_p0_12.head?.map (·.1)) bc_c0_11 bc_p0_11 = true := by decide +kernel
set_option maxRecDepth 100000 in
theorem bc_k0_10 : bc_ckP 0 (bc_p0_11.head?.map (·.1)) bc_c0_10 bc_p0_10 = true := by decide +kernel
set_option maxRecDepth 100000 in
theorem bc_k0_9 : bc_ckP 0 (bc_p0_10.head?.map (·.1)) bc_c0_9 bc_p0_9 = true := by decide +kernel
set_option maxRecDepth 100000 in
theorem bc_k0_8 : bc_ckP 0 (bc_p0_9.head?.map (·.1)) bc_c0_8 bc_p0_8 = true := by decide +kernel
set_option maxRecDepth 100000 in
theorem bc_k0_7 : bc_ckP 0 (bc_p0_8.head?.map (·.1)) bc_c0_7 bc_p0_7 = true := by decide +kernel
set_option maxRecDepth 100000 in
theorem bc_k0_6 : bc_ckP 0 (bc_p0_7.head?.map (·.1)) bc_c0_6 bc_p0_6 = true := by decide +kernel
set_option maxRecDepth 100000 in
theorem bc_k0_5 : bc_ckP 0 (bc_p0_6.head?.map (·.1)) bc_c0_5 bc_p0_5 = true := by decide +kernel
set_option maxRecDepth 100000 in
theorem bc_k0_4 : bc_ckP 0 (bc_p0_5.head?.map (·.1)) bc_c0_4 bc_p0_4 = true := by decide +kernel
set_option maxRecDepth 100000 in
theorem bc_k0_3 : bc_ckP 0 (bc_p0_4.head?.map (·.1)) bc_c0_3 bc_p0_3 = true := by decide +kernel
set_option maxRecDepth 100000 in
theorem bc_k0_2 : bc_ckP 0 (bc_p0_3.head?.map (·.1)) bc_c0_2 bc_p0_2 = true := by decide +kernel
set_option maxRecDepth 100000 in
theorem bc_k0_1 : bc_ckP 0 (bc_p0_2.head?.map (·.1)) bc_c0_1 bc_p0_1 = true := by decide +kernel
set_option maxRecDepth 100000 in
theorem bc_k0_0 : bc_ckP 0 (bc_p0_1.head?.map (·.1)) bc_c0_0 bc_p0_0 = true := by decide +kernel
