/-! ===== long sets of selves: an interval ===== -/
def bs_pl1 (a : Int) : Int := bc_w64 (a - (bc_landL (bc_lushr a 1) 6148914691236517205))
def bs_pl2 (a : Int) : Int := bc_w64 ((bc_landL a 3689348814741910323) + (bc_landL (bc_lushr a 2) 3689348814741910323))
def bs_pl3 (a : Int) : Int := bc_landL (bc_w64 (a + (bc_lushr a 4))) 1085102592571150095
def bs_pl4 (a : Int) : Int := bc_w64 (a + (bc_lushr a 8))
def bs_pl5 (a : Int) : Int := bc_w64 (a + (bc_lushr a 16))
def bs_pl6 (a : Int) : Int := bc_w64 (a + (bc_lushr a 32))
def bs_pl (a : Int) : Int := bc_and (bc_w32 (bs_pl6 (bs_pl5 (bs_pl4 (bs_pl3 (bs_pl2 (bs_pl1 a))))))) 127
def bs_iN (lo hi : Nat) : Nat := 2 ^ hi - 2 ^ lo
theorem bs_plF : ∀ hi : Nat, hi < 62 → ∀ lo : Nat, lo < 62 → lo ≤ hi → bs_pl (bs_iN lo hi : Nat) = (hi : Int) - (lo : Int) := by decide +kernel
theorem bs_iorF : ∀ k : Nat, k < 61 → ∀ lo : Nat, lo < 62 → lo ≤ k → bc_lorL (bs_iN lo k : Nat) (bc_lshl 1 (k : Int)) = (bs_iN lo (k + 1) : Nat) := by decide +kernel
theorem bs_ior0F : ∀ k : Nat, k < 62 → ∀ lo : Nat, lo < 62 → lo ≤ k → bc_lorL (bs_iN lo k : Nat) 0 = (bs_iN lo k : Nat) := by decide +kernel
theorem bs_ibF0 : ∀ k : Nat, k < 8 → ∀ hi : Nat, hi < 62 → ∀ lo : Nat, lo < 62 → lo ≤ hi → bc_landL (bc_lshr (bs_iN lo hi : Nat) ((k + 0 : Nat) : Int)) 1 = if lo ≤ k + 0 ∧ k + 0 < hi then 1 else 0 := by decide +kernel
theorem bs_ibF1 : ∀ k : Nat, k < 8 → ∀ hi : Nat, hi < 62 → ∀ lo : Nat, lo < 62 → lo ≤ hi → bc_landL (bc_lshr (bs_iN lo hi : Nat) ((k + 8 : Nat) : Int)) 1 = if lo ≤ k + 8 ∧ k + 8 < hi then 1 else 0 := by decide +kernel
theorem bs_ibF2 : ∀ k : Nat, k < 8 → ∀ hi : Nat, hi < 62 → ∀ lo : Nat, lo < 62 → lo ≤ hi → bc_landL (bc_lshr (bs_iN lo hi : Nat) ((k + 16 : Nat) : Int)) 1 = if lo ≤ k + 16 ∧ k + 16 < hi then 1 else 0 := by decide +kernel
theorem bs_ibF3 : ∀ k : Nat, k < 8 → ∀ hi : Nat, hi < 62 → ∀ lo : Nat, lo < 62 → lo ≤ hi → bc_landL (bc_lshr (bs_iN lo hi : Nat) ((k + 24 : Nat) : Int)) 1 = if lo ≤ k + 24 ∧ k + 24 < hi then 1 else 0 := by decide +kernel
theorem bs_ibF4 : ∀ k : Nat, k < 8 → ∀ hi : Nat, hi < 62 → ∀ lo : Nat, lo < 62 → lo ≤ hi → bc_landL (bc_lshr (bs_iN lo hi : Nat) ((k + 32 : Nat) : Int)) 1 = if lo ≤ k + 32 ∧ k + 32 < hi then 1 else 0 := by decide +kernel
theorem bs_ibF5 : ∀ k : Nat, k < 8 → ∀ hi : Nat, hi < 62 → ∀ lo : Nat, lo < 62 → lo ≤ hi → bc_landL (bc_lshr (bs_iN lo hi : Nat) ((k + 40 : Nat) : Int)) 1 = if lo ≤ k + 40 ∧ k + 40 < hi then 1 else 0 := by decide +kernel
theorem bs_ibF6 : ∀ k : Nat, k < 8 → ∀ hi : Nat, hi < 62 → ∀ lo : Nat, lo < 62 → lo ≤ hi → bc_landL (bc_lshr (bs_iN lo hi : Nat) ((k + 48 : Nat) : Int)) 1 = if lo ≤ k + 48 ∧ k + 48 < hi then 1 else 0 := by decide +kernel
theorem bs_ibF7 : ∀ k : Nat, k < 5 → ∀ hi : Nat, hi < 62 → ∀ lo : Nat, lo < 62 → lo ≤ hi → bc_landL (bc_lshr (bs_iN lo hi : Nat) ((k + 56 : Nat) : Int)) 1 = if lo ≤ k + 56 ∧ k + 56 < hi then 1 else 0 := by decide +kernel
theorem bs_ibitF (k : Nat) (h : k < 61) (hi : Nat) (h1 : hi < 62) (lo : Nat) (h2 : lo < 62) (h3 : lo ≤ hi) : bc_landL (bc_lshr (bs_iN lo hi : Nat) (k : Int)) 1 = if lo ≤ k ∧ k < hi then 1 else 0 := by
  by_cases z0 : k < 8
  · have t := bs_ibF0 (k - 0) (by omega) hi h1 lo h2 h3
    rw [show k - 0 + 0 = k by omega] at t; exact t
  · skip
    by_cases z1 : k < 16
    · have t := bs_ibF1 (k - 8) (by omega) hi h1 lo h2 h3
      rw [show k - 8 + 8 = k by omega] at t; exact t
    · skip
      by_cases z2 : k < 24
      · have t := bs_ibF2 (k - 16) (by omega) hi h1 lo h2 h3
        rw [show k - 16 + 16 = k by omega] at t; exact t
      · skip
        by_cases z3 : k < 32
        · have t := bs_ibF3 (k - 24) (by omega) hi h1 lo h2 h3
          rw [show k - 24 + 24 = k by omega] at t; exact t
        · skip
          by_cases z4 : k < 40
          · have t := bs_ibF4 (k - 32) (by omega) hi h1 lo h2 h3
            rw [show k - 32 + 32 = k by omega] at t; exact t
          · skip
            by_cases z5 : k < 48
            · have t := bs_ibF5 (k - 40) (by omega) hi h1 lo h2 h3
              rw [show k - 40 + 40 = k by omega] at t; exact t
            · skip
              by_cases z6 : k < 56
              · have t := bs_ibF6 (k - 48) (by omega) hi h1 lo h2 h3
                rw [show k - 48 + 48 = k by omega] at t; exact t
              · skip
                have t := bs_ibF7 (k - 56) (by omega) hi h1 lo h2 h3
                rw [show k - 56 + 56 = k by omega] at t; exact t
