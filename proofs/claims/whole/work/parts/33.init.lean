/-! the constructors, run -/
def bc_h0 : bc_H := bc_new (fun _ _ => 0) 0 (0, 11)
noncomputable def bc_r1 : bc_Z := bc_x 20000 99 119 (bc_code 119) 1 (bc_pad (bc_ent [.inr (.inr ((0, 11), 0))]) (bc_mt 119).2.2.1) [] bc_h0
def bc_z1 (r : bc_Z) : Bool := match r with
  | some (none, 156, _) => true
  | _ => false
theorem bc_run1 : bc_z1 bc_r1 = true := by decide +kernel
noncomputable def bc_hC1 : bc_H := match bc_r1 with
  | some (_, _, h) => h
  | none => bc_h0
noncomputable def bc_hC2 : bc_H := bc_new bc_hC1 156 (0, 12)
noncomputable def bc_r2 : bc_Z := bc_x 20000 99 194 (bc_code 194) 157 (bc_pad (bc_ent [.inr (.inr ((0, 12), 156))]) (bc_mt 194).2.2.1) [] bc_hC2
def bc_z2 (r : bc_Z) : Bool := match r with
  | some (none, 185, _) => true
  | _ => false
noncomputable def bc_hB : bc_H := match bc_r2 with
  | some (_, _, h) => h
  | none => bc_h0
def bc_finB (h : bc_H) : Bool := (List.range 185).all fun i => match bc_sh i with
  | (0, c) => (List.range (bc_nf c)).all fun j => match bc_fo c j with
    | some o => decide (h (i : Int) (j : Int) = (i : Int) + o) && decide (0 ≤ h (i : Int) (j : Int))
    | none => true
  | _ => true
theorem bc_run2 : (bc_z2 bc_r2 && bc_finB bc_hB) = true := by decide +kernel
