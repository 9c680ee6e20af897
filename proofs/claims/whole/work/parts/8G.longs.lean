/-! ===== long sets of selves: an interval ===== -/
def bs_pl1 (a : Int) : Int := bc_w64 (a - (bc_landL (bc_lushr a 1) 6148914691236517205))
def bs_pl2 (a : Int) : Int := bc_w64 ((bc_landL a 3689348814741910323) + (bc_landL (bc_lushr a 2) 3689348814741910323))
def bs_pl3 (a : Int) : Int := bc_landL (bc_w64 (a + (bc_lushr a 4))) 1085102592571150095
def bs_pl4 (a : Int) : Int := bc_w64 (a + (bc_lushr a 8))
def bs_pl5 (a : Int) : Int := bc_w64 (a + (bc_lushr a 16))
def bs_pl6 (a : Int) : Int := bc_w64 (a + (bc_lushr a 32))
def bs_pl (a : Int) : Int := bc_and (bc_w32 (bs_pl6 (bs_pl5 (bs_pl4 (bs_pl3 (bs_pl2 (bs_pl1 a))))))) 127
def bs_iN (lo hi : Nat) : Nat := 2 ^ hi - 2 ^ lo
theorem bs_plF : ∀ hi : Nat, hi < 62 → ∀ lo : Nat, lo < 62 → lo ≤ hi → bs_pl (bs_iN lo hi : Nat) = (hi : Int) - (lo : Int) := by decide +kernel
theorem bs_iorF : ∀ k : Nat, k < 61 → ∀ lo : Nat, lo < 62 → lo ≤ k → bc_lorL (bs_iN lo k : Nat) (bc_lshl 1 (k : Int)) = (bs_iN lo (k + 1) : Nat) := by decide +kernel
theorem bs_ior0F : ∀ k : Nat, k < 62 → ∀ lo : Nat, lo < 62 → lo ≤ k → bc_lorL (bs_iN lo k : Nat) 0 = (bs_iN lo k : Nat) := by decide +kernel
theorem bs_ibitF : ∀ k : Nat, k < 61 → ∀ hi : Nat, hi < 62 → ∀ lo : Nat, lo < 62 → lo ≤ hi → bc_landL (bc_lshr (bs_iN lo hi : Nat) (k : Int)) 1 = if lo ≤ k ∧ k < hi then 1 else 0 := by decide +kernel
