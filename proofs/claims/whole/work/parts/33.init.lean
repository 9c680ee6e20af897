/-! the constructors, run -/
def bc_h0 : bc_H := bc_new (fun _ _ => 0) 0 (0, 11)
noncomputable def bc_r1 : bc_Z := bc_x 20000 99 119 (bc_code 119) 1 (bc_pad (bc_ent [.inr (.inr ((0, 11), 0))]) (bc_mt 119).2.2.1) [] bc_h0
def bc_z1 (r : bc_Z) : Bool := match r with
  | some (none, 156, _) => true
  | _ => false
theorem bc_run1 : bc_z1 bc_r1 = true := by decide +kernel
