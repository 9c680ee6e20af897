/-! ===== the first order: greedy or none ===== -/
theorem bs_subF : ∀ w : Nat, w < 256 → ∀ s : Nat, s < 256 → (bc_and (w : Int) (bc_xor (s : Int) (-1)) = 0 ↔ w &&& s = w) := by decide +kernel
theorem bs_supF : ∀ g : Nat, g < 8 → ∀ s : Nat, s < 256 → bs_sup (g : Int) (s : Int) = ((s ||| 2 ^ g : Nat) : Int) := by decide +kernel
theorem bs_bitF : ∀ i : Nat, i < 8 → ∀ s : Nat, s < 256 → (bc_and (bc_shr (s : Int) (i : Int)) 1 = 1 ↔ s.testBit i = true) := by decide +kernel
theorem bs_land_or {w s x : Nat} (h : w &&& s = w) : w &&& (s ||| x) = w := by
  refine Nat.eq_of_testBit_eq (fun i => ?_)
  have t := congrArg (fun z => Nat.testBit z i) h
  simp only [Nat.testBit_and, Nat.testBit_or] at t ⊢
  revert t
  cases w.testBit i <;> cases s.testBit i <;> simp
theorem bs_sub_up {w s g : Int} (w0 : 0 ≤ w) (w1 : w < 256) (s0 : 0 ≤ s) (s1 : s < 256) (g0 : 0 ≤ g) (g1 : g < 8) (h : bc_and w (bc_xor s (-1)) = 0) : bc_and w (bc_xor (bs_sup g s) (-1)) = 0 := by
  have e := bs_supF g.toNat (by omega) s.toNat (by omega)
  have t := bs_subF w.toNat (by omega) s.toNat (by omega)
  have r := bs_up_r g0 g1 s0 s1
  rw [show ((g.toNat : Nat) : Int) = g by omega, show ((s.toNat : Nat) : Int) = s by omega] at e
  rw [show ((w.toNat : Nat) : Int) = w by omega, show ((s.toNat : Nat) : Int) = s by omega] at t
  have u := bs_subF w.toNat (by omega) (s.toNat ||| 2 ^ g.toNat) (by omega)
  rw [← e, show ((w.toNat : Nat) : Int) = w by omega] at u
  exact u.2 (bs_land_or (t.1 h))
theorem bs_sup_b {s g f : Int} (s0 : 0 ≤ s) (s1 : s < 256) (g0 : 0 ≤ g) (g1 : g < 8) (f0 : 0 ≤ f) (f1 : f < 8) (n : f ≠ g) (h : ¬ bs_b s f) : ¬ bs_b (bs_sup g s) f := by
  have e := bs_supF g.toNat (by omega) s.toNat (by omega)
  have r := bs_up_r g0 g1 s0 s1
  rw [show ((g.toNat : Nat) : Int) = g by omega, show ((s.toNat : Nat) : Int) = s by omega] at e
  have t := bs_bitF f.toNat (by omega) s.toNat (by omega)
  have u := bs_bitF f.toNat (by omega) (s.toNat ||| 2 ^ g.toNat) (by omega)
  rw [show ((f.toNat : Nat) : Int) = f by omega, show ((s.toNat : Nat) : Int) = s by omega] at t
  rw [← e, show ((f.toNat : Nat) : Int) = f by omega] at u
  intro q
  have v := u.1 q
  rw [Nat.testBit_or, Nat.testBit_two_pow] at v
  have : s.toNat.testBit f.toNat = true := by
    rcases Bool.or_eq_true _ _ |>.mp v with a | a
    · exact a
    · have := of_decide_eq_true a; omega
  exact h (t.2 this)
theorem bs_sup_cc {s g f : Int} (s0 : 0 ≤ s) (s1 : s < 256) (g0 : 0 ≤ g) (g1 : g < 8) (f0 : 0 ≤ f) (f1 : f < 8) : bs_sup g (bs_sup f s) = bs_sup f (bs_sup g s) := by
  have rf := bs_up_r f0 f1 s0 s1
  have rg := bs_up_r g0 g1 s0 s1
  have ef := bs_supF f.toNat (by omega) s.toNat (by omega)
  have eg := bs_supF g.toNat (by omega) s.toNat (by omega)
  rw [show ((g.toNat : Nat) : Int) = g by omega, show ((s.toNat : Nat) : Int) = s by omega] at eg
  rw [show ((f.toNat : Nat) : Int) = f by omega, show ((s.toNat : Nat) : Int) = s by omega] at ef
  have e1 := bs_supF g.toNat (by omega) (s.toNat ||| 2 ^ f.toNat) (by omega)
  have e2 := bs_supF f.toNat (by omega) (s.toNat ||| 2 ^ g.toNat) (by omega)
  rw [← ef, show ((g.toNat : Nat) : Int) = g by omega] at e1
  rw [← eg, show ((f.toNat : Nat) : Int) = f by omega] at e2
  rw [e1, e2, Nat.or_assoc, Nat.or_assoc, Nat.or_comm (2 ^ f.toNat)]
