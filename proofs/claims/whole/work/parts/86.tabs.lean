/-! ===== hands ===== -/
theorem bs_hd1F : ∀ s : Nat, s < 256 → ∀ p : Nat, p < 256 → p &&& s = p → bc_xor (s : Int) (p : Int) = (s : Int) - (p : Int) ∧ bc_and (s : Int) (bc_xor (p : Int) (-1)) = (s : Int) - (p : Int) ∧ p ≤ s := by decide +kernel
theorem bs_hd2F : ∀ s : Nat, s < 256 → ∀ p : Nat, p < 256 → p &&& s = p → p ≠ 0 → bc_and (bc_w32 ((p : Int) - 1)) (s : Int) = (((p - 1) &&& s : Nat) : Int) := by decide +kernel
def bs_gapB (s p : Nat) : Bool := (List.range (p - 1 - ((p - 1) &&& s))).all (fun j => !Nat.beq ((((p - 1) &&& s) + 1 + j) &&& s) (((p - 1) &&& s) + 1 + j))
theorem bs_gapF : ∀ s : Nat, s < 256 → ∀ p : Nat, p < 256 → p &&& s = p → bs_gapB s p = true := by decide +kernel
theorem bs_gap {s p j : Nat} (h1 : s < 256) (h2 : p < 256) (h3 : p &&& s = p) (hj : j < p - 1 - ((p - 1) &&& s)) : ¬ (((p - 1) &&& s) + 1 + j) &&& s = ((p - 1) &&& s) + 1 + j := by
  have t := bs_gapF s h1 p h2 h3
  unfold bs_gapB at t
  have u := List.all_eq_true.1 t j (List.mem_range.2 hj)
  intro e
  rw [e, Nat.beq_refl] at u
  exact absurd u (by decide)
theorem bs_hd3F : ∀ s : Nat, s < 256 → s ≠ 0 → ¬ ∀ f : Nat, f < 8 → ¬ (2 ^ f &&& s = 2 ^ f ∧ bs_pn ((s : Int) - ((2 ^ f : Nat) : Int)) + 1 = bs_pn (s : Int)) := by decide +kernel
