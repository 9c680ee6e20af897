/-! the law's own rows, all together -/
theorem bc_ckP_2 {k : Nat} {t : Option Nat} {is : List Instr} {ps : List (Nat × List Nat)} {is2 : List Instr} {ps2 : List (Nat × List Nat)} (e : ps2.head?.map (·.1) = t) (h : bc_ckP k t is ps = true) (h2 : bc_ckL k is2 ps2 = true) : bc_ckL k (is ++ is2) (ps ++ ps2) = true := bc_ckP_app is ps is2 ps2 (by rw [e]; exact h) h2
theorem bc_k0L : bc_ckL 0 bc_c0 bc_p0 = true := by
  unfold bc_c0 bc_p0
  exact bc_ckP_2 (by decide +kernel) bc_k0_0 (bc_ckP_2 (by decide +kernel) bc_k0_1 (bc_ckP_2 (by decide +kernel) bc_k0_2 (bc_ckP_2 (by decide +kernel) bc_k0_3 (bc_ckP_2 (by decide +kernel) bc_k0_4 (bc_ckP_2 (by decide +kernel) bc_k0_5 (bc_ckP_2 (by decide +kernel) bc_k0_6 (bc_ckP_2 (by decide +kernel) bc_k0_7 (bc_ckP_2 (by decide +kernel) bc_k0_8 (bc_ckP_2 (by decide +kernel) bc_k0_9 (bc_ckP_2 (by decide +kernel) bc_k0_10 (bc_ckP_2 (by decide +kernel) bc_k0_11 (bc_ckP_2 (by decide +kernel) bc_k0_12 (bc_ckP_2 (by decide +kernel) bc_k0_13 bc_k0_14)))))))))))))
theorem bc_k0 : bc_ckM 0 = true := by
  have ec : bc_code 0 = bc_c0 := rfl
  have ep : bc_pw 0 = bc_p0 := rfl
  unfold bc_ckM
  rw [ec, ep]
  exact Bool.and_eq_true_iff.mpr ⟨Bool.and_eq_true_iff.mpr ⟨Bool.and_eq_true_iff.mpr ⟨Bool.and_eq_true_iff.mpr ⟨Bool.and_eq_true_iff.mpr ⟨Bool.and_eq_true_iff.mpr ⟨Bool.and_eq_true_iff.mpr ⟨Bool.and_eq_true_iff.mpr ⟨Bool.and_eq_true_iff.mpr ⟨bc_k0L, by decide +kernel⟩, by decide +kernel⟩, by decide +kernel⟩, by decide +kernel⟩, by decide +kernel⟩, by decide +kernel⟩, by decide +kernel⟩, by decide +kernel⟩, by decide +kernel⟩
