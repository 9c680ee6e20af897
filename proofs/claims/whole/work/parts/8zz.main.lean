/-! ===== the walk from the first call on ===== -/
theorem bs_hmain : ∀ (h : bc_H) (L : Nat), bc_Init h L → bc_OK true 100 0 10 185 (bc_lsL 0) [] h 185 (fun v _ => v = some (.inl 1)) := fun h L hI => by
  have l3 := hI.2.2.1
  have key : bl_law_10 100 0 h bs_Qf := bs_walk (S := h (-2)) (L := (L : Int)) hI.2.2.2 (by omega) (by omega) (L + 1) 0 h (by omega) (by omega) (by omega) ⟨24, 44, 64, 70, bs_R_init hI⟩
  exact key
