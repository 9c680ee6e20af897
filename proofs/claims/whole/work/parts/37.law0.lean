/-! the law's own rows, in pieces -/
noncomputable def bc_ckP (k : Nat) (tl : Option Nat) : List Instr → List (Nat × List Nat) → Bool
  | [], [] => true
  | i :: is, (pc, wi) :: ps => (match decode (bc_mi k).2.2.1 pc with
    | .ok (j, len) => bc_rel k pc ((ps.head?.map (·.1)).or tl) wi j len i
    | .error _ => false) && bc_ckP k tl is ps
  | _, _ => false
theorem bc_ckP_app {k : Nat} : ∀ (is : List Instr) (ps : List (Nat × List Nat)) (is2 : List Instr) (ps2 : List (Nat × List Nat)), bc_ckP k (ps2.head?.map (·.1)) is ps = true → bc_ckL k is2 ps2 = true → bc_ckL k (is ++ is2) (ps ++ ps2) = true
  | [], [], is2, ps2, _, h2 => h2
  | [], _ :: _, _, _, h, _ => by cases h
  | _ :: _, [], _, _, h, _ => by cases h
  | i :: is, (pc, wi) :: ps, is2, ps2, h, h2 => by
    unfold bc_ckP at h
    simp only [Bool.and_eq_true] at h
    rw [List.cons_append, List.cons_append]
    unfold bc_ckL
    simp only [Bool.and_eq_true]
    refine ⟨?_, bc_ckP_app is ps is2 ps2 h.2 h2⟩
    have e : (ps ++ ps2).head?.map (·.1) = (ps.head?.map (·.1)).or (ps2.head?.map (·.1)) := by
      cases ps <;> rfl
    rw [e]
    exact h.1
