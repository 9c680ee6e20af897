/-! ===== orders, counted from either end ===== -/
def bs_tN (G : Int → Int) : Nat → Int
  | 0 => 0
  | j + 1 => bs_tN G j + G (j : Int)
theorem bs_tN_c {G H : Int → Int} : ∀ j : Nat, (∀ f : Nat, f < j → G (f : Int) = H (f : Int)) → bs_tN G j = bs_tN H j
  | 0, _ => rfl
  | j + 1, e => by
    show bs_tN G j + G (j : Int) = bs_tN H j + H (j : Int)
    rw [bs_tN_c j (fun f hf => e f (by omega)), e j (by omega)]
theorem bs_tN_add (G H : Int → Int) : ∀ j : Nat, bs_tN (fun x => G x + H x) j = bs_tN G j + bs_tN H j
  | 0 => rfl
  | j + 1 => by
    show bs_tN (fun x => G x + H x) j + (G j + H j) = (bs_tN G j + G j) + (bs_tN H j + H j)
    rw [bs_tN_add G H j]; omega
theorem bs_tN_0 : ∀ j : Nat, bs_tN (fun _ => 0) j = 0
  | 0 => rfl
  | j + 1 => by
    show bs_tN (fun _ => 0) j + 0 = 0
    rw [bs_tN_0 j]; rfl
theorem bs_tN_mul (c : Int) (G : Int → Int) : ∀ j : Nat, bs_tN (fun x => c * G x) j = c * bs_tN G j
  | 0 => (Int.mul_zero c).symm
  | j + 1 => by
    show bs_tN (fun x => c * G x) j + c * G j = c * (bs_tN G j + G j)
    rw [bs_tN_mul c G j, Int.mul_add]
theorem bs_tN_sw (Y : Int → Int → Int) (n : Nat) : ∀ m : Nat, bs_tN (fun f => bs_tN (Y f) n) m = bs_tN (fun g => bs_tN (fun f => Y f g) m) n
  | 0 => (bs_tN_0 n).symm
  | m + 1 => by
    show bs_tN (fun f => bs_tN (Y f) n) m + bs_tN (Y (m : Int)) n = bs_tN (fun g => bs_tN (fun f => Y f g) m + Y (m : Int) g) n
    rw [bs_tN_sw Y n m, bs_tN_add]
theorem bs_tN_r {G : Int → Int} {M : Int} : ∀ j : Nat, (∀ f : Nat, f < j → 0 ≤ G (f : Int) ∧ G (f : Int) ≤ M) → 0 ≤ bs_tN G j ∧ bs_tN G j ≤ j * M
  | 0, _ => by show (0 : Int) ≤ 0 ∧ (0 : Int) ≤ ((0 : Nat) : Int) * M; rw [show ((0 : Nat) : Int) = 0 from rfl, Int.zero_mul]; omega
  | j + 1, e => by
    have ih := bs_tN_r j (fun f hf => e f (by omega))
    have t := e j (by omega)
    show 0 ≤ bs_tN G j + G (j : Int) ∧ bs_tN G j + G (j : Int) ≤ ((j + 1 : Nat) : Int) * M
    rw [show ((j + 1 : Nat) : Int) = (j : Int) + 1 by omega, Int.add_mul, Int.one_mul]
    omega
def bs_sup (f s : Int) : Int := bc_or s (bc_shl 1 f)
def bs_sdn (f s : Int) : Int := bc_and s (bc_xor (bc_shl 1 f) (-1))
theorem bs_udF1 : ∀ f : Nat, f < 8 → ∀ s : Nat, s < 256 → bc_and (bc_shr (s : Int) (f : Int)) 1 = 1 → (bs_sdn f s ≠ s ∧ 0 ≤ bs_sdn f s ∧ bs_sdn f s < s) ∧ bc_and (bc_shr (bs_sdn f s) f) 1 = 0 ∧ bs_sup f (bs_sdn f s) = s ∧ bs_pn s = bs_pn (bs_sdn f s) + 1 := by decide +kernel
theorem bs_udF0 : ∀ f : Nat, f < 8 → ∀ s : Nat, s < 256 → bc_and (bc_shr (s : Int) (f : Int)) 1 = 0 → (bs_sdn f s = s ∧ (s : Int) < bs_sup f s ∧ bs_sup f s < 256) ∧ bc_and (bc_shr (bs_sup f s) f) 1 = 1 ∧ bs_sdn f (bs_sup f s) = s ∧ bs_pn (bs_sup f s) = bs_pn s + 1 := by decide +kernel
theorem bs_ud {f s : Int} (f0 : 0 ≤ f) (f1 : f < 8) (s0 : 0 ≤ s) (s1 : s < 256) : (bs_b s f → (bs_sdn f s ≠ s ∧ 0 ≤ bs_sdn f s ∧ bs_sdn f s < s) ∧ ¬ bs_b (bs_sdn f s) f ∧ bs_sup f (bs_sdn f s) = s ∧ bs_pn s = bs_pn (bs_sdn f s) + 1) ∧ (¬ bs_b s f → bs_sdn f s = s ∧ (s < bs_sup f s ∧ bs_sup f s < 256) ∧ bs_b (bs_sup f s) f ∧ bs_sdn f (bs_sup f s) = s ∧ bs_pn (bs_sup f s) = bs_pn s + 1) := by
  have t := bs_udF1 f.toNat (by omega) s.toNat (by omega)
  rw [show ((s.toNat : Nat) : Int) = s by omega, show ((f.toNat : Nat) : Int) = f by omega] at t
  have t' := bs_udF0 f.toNat (by omega) s.toNat (by omega)
  rw [show ((s.toNat : Nat) : Int) = s by omega, show ((f.toNat : Nat) : Int) = f by omega] at t'
  have bb := bs_bit s0 s1 f0 f1
  unfold bs_b
  refine ⟨fun q => ?_, fun q => ?_⟩
  · obtain ⟨t1, t2, t3⟩ := t q
    exact ⟨t1, by omega, t3⟩
  · obtain ⟨⟨t1, t2⟩, t3⟩ := t' (bb.resolve_right q)
    exact ⟨t1, t2, t3⟩
theorem bs_fullF : ∀ m : Nat, m < 9 → (bs_pn (((2 ^ m : Nat) : Int) - 1) = (m : Int) ∧ (∀ f : Nat, f < m → bc_and (bc_shr (((2 ^ m : Nat) : Int) - 1) ((f : Nat) : Int)) 1 = 1)) ∧ ∀ s : Nat, s < 2 ^ m → (s + 1 ≠ 2 ^ m → bs_pn ((s : Nat) : Int) < (m : Int)) := by decide +kernel
theorem bs_full {m : Int} (m0 : 0 ≤ m) (m1 : m ≤ 8) : (bs_pn (bc_shl 1 m - 1) = m ∧ ∀ f, 0 ≤ f → f < m → bs_b (bc_shl 1 m - 1) f) ∧ ∀ s, 0 ≤ s → s < bc_shl 1 m → s ≠ bc_shl 1 m - 1 → bs_pn s < m := by
  have t := bs_fullF m.toNat (by omega)
  rw [bs_shl m0 m1]
  rw [show ((m.toNat : Nat) : Int) = m by omega] at t
  refine ⟨⟨t.1.1, fun f f0 f1 => ?_⟩, fun s s0 s1 z => ?_⟩
  · have u := t.1.2 f.toNat (by omega)
    rw [show ((f.toNat : Nat) : Int) = f by omega] at u
    exact u
  · have u := t.2 s.toNat (by omega) (by omega)
    rw [show ((s.toNat : Nat) : Int) = s by omega] at u
    exact u
/-- 1 where the figure may come next upon the set -/
def bs_may (A : Int → Int) (f s : Int) : Int := if bc_and (bc_shr s f) 1 = 1 then 0 else if bc_and (A (102 + 4 * f + 3)) (bc_xor s (-1)) = 0 then 1 else 0
/-- 1 where the figure may have come last into the set -/
def bs_lv (A : Int → Int) (f s : Int) : Int := if bs_sdn f s = s then 0 else if bc_and (A (102 + 4 * f + 3)) (bc_xor (bs_sdn f s) (-1)) = 0 then 1 else 0
def bs_NF (A : Int → Int) : Nat → Int → Int → Int
  | 0, a, b => if a = b then 1 else 0
  | k + 1, a, b => bs_tN (fun f => bs_may A f a * bs_NF A k (bs_sup f a) b) (A 3).toNat
def bs_NL (A : Int → Int) : Nat → Int → Int → Int
  | 0, a, b => if a = b then 1 else 0
  | k + 1, a, b => bs_tN (fun f => bs_lv A f b * bs_NL A k a (bs_sdn f b)) (A 3).toNat
theorem bs_cm_lv {A : Int → Int} {f a b : Int} (f0 : 0 ≤ f) (f1 : f < 8) (a0 : 0 ≤ a) (a1 : a < 256) (b0 : 0 ≤ b) (b1 : b < 256) : bs_may A f a * (if bs_sup f a = b then 1 else 0) = bs_lv A f b * (if a = bs_sdn f b then 1 else 0) := by
  have ua := bs_ud f0 f1 a0 a1
  have ub := bs_ud f0 f1 b0 b1
  by_cases e : bs_b a f
  · rw [show bs_may A f a = 0 from if_pos e, Int.zero_mul]
    by_cases e2 : bs_b b f
    · rw [if_neg (show ¬ a = bs_sdn f b from fun q => (ub.1 e2).2.1 (q ▸ e)), Int.mul_zero]
    · rw [show bs_lv A f b = 0 from if_pos (ub.2 e2).1, Int.zero_mul]
  · obtain ⟨p1, p2, p3, p4, p5⟩ := ua.2 e
    by_cases e2 : bs_b b f
    · obtain ⟨q1, q2, q3, q4⟩ := ub.1 e2
      by_cases z : bs_sup f a = b
      · have z2 : a = bs_sdn f b := by rw [← z, p4]
        rw [if_pos z, if_pos z2, Int.mul_one, Int.mul_one]
        have cl : bs_may A f a = if bc_and (A (102 + 4 * f + 3)) (bc_xor a (-1)) = 0 then 1 else 0 := if_neg e
        have ll : bs_lv A f b = if bc_and (A (102 + 4 * f + 3)) (bc_xor (bs_sdn f b) (-1)) = 0 then 1 else 0 := if_neg q1.1
        rw [cl, ll, ← z2]
      · rw [if_neg z, if_neg (fun q => z (by rw [q, q3])), Int.mul_zero, Int.mul_zero]
    · rw [show bs_lv A f b = 0 from if_pos (ub.2 e2).1, Int.zero_mul, if_neg (show ¬ bs_sup f a = b from fun q => e2 (q ▸ p3)), Int.mul_zero]
theorem bs_up_r {f s : Int} (f0 : 0 ≤ f) (f1 : f < 8) (s0 : 0 ≤ s) (s1 : s < 256) : 0 ≤ bs_sup f s ∧ bs_sup f s < 256 := by
  have t := bs_or_r (s := s) (k := f) (n := 8) s0 f0 f1 (by omega) (by rw [show bc_shl 1 8 = 256 by decide]; exact s1)
  rw [show bc_shl 1 8 = 256 by decide] at t
  exact t
theorem bs_dn_r {f s : Int} (f0 : 0 ≤ f) (f1 : f < 8) (s0 : 0 ≤ s) (s1 : s < 256) : 0 ≤ bs_sdn f s ∧ bs_sdn f s < 256 := by
  have t := bs_ud f0 f1 s0 s1
  by_cases e : bs_b s f
  · have := (t.1 e).1; omega
  · rw [(t.2 e).1]; omega
theorem bs_NFL {A : Int → Int} (w3 : 0 ≤ A 3 ∧ A 3 ≤ 8) : ∀ (k : Nat) (a b : Int), 0 ≤ a → a < 256 → 0 ≤ b → b < 256 → bs_NF A k a b = bs_NL A k a b
  | 0, a, b, _, _, _, _ => rfl
  | 1, a, b, a0, a1, b0, b1 => bs_tN_c (A 3).toNat (fun f hf => bs_cm_lv (by omega) (by omega) a0 a1 b0 b1)
  | k + 2, a, b, a0, a1, b0, b1 => by
    have e1 : bs_NF A (k + 2) a b = bs_tN (fun f => bs_tN (fun g => bs_may A f a * (bs_lv A g b * bs_NL A k (bs_sup f a) (bs_sdn g b))) (A 3).toNat) (A 3).toNat := bs_tN_c (A 3).toNat (fun f hf => by
      have u := bs_up_r (f := (f : Int)) (s := a) (by omega) (by omega) a0 a1
      show bs_may A f a * bs_NF A (k + 1) (bs_sup f a) b = _
      rw [bs_NFL w3 (k + 1) _ b u.1 u.2 b0 b1]
      exact (bs_tN_mul _ _ _).symm)
    have e2 : bs_NL A (k + 2) a b = bs_tN (fun g => bs_tN (fun f => bs_may A f a * (bs_lv A g b * bs_NL A k (bs_sup f a) (bs_sdn g b))) (A 3).toNat) (A 3).toNat := bs_tN_c (A 3).toNat (fun g hg => by
      have u := bs_dn_r (f := (g : Int)) (s := b) (by omega) (by omega) b0 b1
      show bs_lv A g b * bs_NL A (k + 1) a (bs_sdn g b) = _
      rw [← bs_NFL w3 (k + 1) a _ a0 a1 u.1 u.2]
      refine ((bs_tN_mul _ _ _).symm).trans (bs_tN_c (A 3).toNat (fun f hf => ?_))
      have v := bs_up_r (f := (f : Int)) (s := a) (by omega) (by omega) a0 a1
      show bs_lv A g b * (bs_may A f a * bs_NF A k (bs_sup f a) (bs_sdn g b)) = bs_may A f a * (bs_lv A g b * bs_NL A k (bs_sup f a) (bs_sdn g b))
      rw [bs_NFL w3 k _ _ v.1 v.2 u.1 u.2]
      exact Int.mul_left_comm _ _ _)
    rw [e1, e2]
    exact bs_tN_sw _ _ _
theorem bs_cm_r (A : Int → Int) (f s : Int) : bs_may A f s = 0 ∨ bs_may A f s = 1 := by
  unfold bs_may; split
  · exact Or.inl rfl
  · split
    · exact Or.inr rfl
    · exact Or.inl rfl
theorem bs_lv_r (A : Int → Int) (f s : Int) : bs_lv A f s = 0 ∨ bs_lv A f s = 1 := by
  unfold bs_lv; split
  · exact Or.inl rfl
  · split
    · exact Or.inr rfl
    · exact Or.inl rfl
theorem bs_p8 (k : Nat) : ((8 ^ (k + 1) : Nat) : Int) = 8 * ((8 ^ k : Nat) : Int) := by rw [Nat.pow_succ]; omega
theorem bs_NF_r {A : Int → Int} (w3 : 0 ≤ A 3 ∧ A 3 ≤ 8) : ∀ (k : Nat) (a b : Int), 0 ≤ bs_NF A k a b ∧ bs_NF A k a b ≤ ((8 ^ k : Nat) : Int)
  | 0, a, b => by
    show 0 ≤ (if a = b then (1 : Int) else 0) ∧ (if a = b then (1 : Int) else 0) ≤ ((8 ^ 0 : Nat) : Int)
    rw [show ((8 ^ 0 : Nat) : Int) = 1 by decide]
    split <;> omega
  | k + 1, a, b => by
    have t := bs_tN_r (G := fun f => bs_may A f a * bs_NF A k (bs_sup f a) b) (M := ((8 ^ k : Nat) : Int)) (A 3).toNat (fun f hf => by
      have ih := bs_NF_r w3 k (bs_sup f a) b
      show 0 ≤ bs_may A f a * bs_NF A k (bs_sup f a) b ∧ bs_may A f a * bs_NF A k (bs_sup f a) b ≤ _
      rcases bs_cm_r A f a with e | e
      · rw [e, Int.zero_mul]; omega
      · rw [e, Int.one_mul]; exact ih)
    show 0 ≤ bs_tN (fun f => bs_may A f a * bs_NF A k (bs_sup f a) b) (A 3).toNat ∧ bs_tN (fun f => bs_may A f a * bs_NF A k (bs_sup f a) b) (A 3).toNat ≤ _
    rw [bs_p8]
    have u : ((A 3).toNat : Int) * ((8 ^ k : Nat) : Int) ≤ 8 * ((8 ^ k : Nat) : Int) := Int.mul_le_mul_of_nonneg_right (by omega) (Int.natCast_nonneg _)
    generalize bs_tN (fun f => bs_may A f a * bs_NF A k (bs_sup f a) b) (A 3).toNat = z at *
    generalize ((A 3).toNat : Int) * ((8 ^ k : Nat) : Int) = y at *
    omega
theorem bs_NL_r {A : Int → Int} (w3 : 0 ≤ A 3 ∧ A 3 ≤ 8) : ∀ (k : Nat) (a b : Int), 0 ≤ bs_NL A k a b ∧ bs_NL A k a b ≤ ((8 ^ k : Nat) : Int)
  | 0, a, b => by
    show 0 ≤ (if a = b then (1 : Int) else 0) ∧ (if a = b then (1 : Int) else 0) ≤ ((8 ^ 0 : Nat) : Int)
    rw [show ((8 ^ 0 : Nat) : Int) = 1 by decide]
    split <;> omega
  | k + 1, a, b => by
    have t := bs_tN_r (G := fun f => bs_lv A f b * bs_NL A k a (bs_sdn f b)) (M := ((8 ^ k : Nat) : Int)) (A 3).toNat (fun f hf => by
      have ih := bs_NL_r w3 k a (bs_sdn f b)
      show 0 ≤ bs_lv A f b * bs_NL A k a (bs_sdn f b) ∧ bs_lv A f b * bs_NL A k a (bs_sdn f b) ≤ _
      rcases bs_lv_r A f b with e | e
      · rw [e, Int.zero_mul]; omega
      · rw [e, Int.one_mul]; exact ih)
    show 0 ≤ bs_tN (fun f => bs_lv A f b * bs_NL A k a (bs_sdn f b)) (A 3).toNat ∧ bs_tN (fun f => bs_lv A f b * bs_NL A k a (bs_sdn f b)) (A 3).toNat ≤ _
    rw [bs_p8]
    have u : ((A 3).toNat : Int) * ((8 ^ k : Nat) : Int) ≤ 8 * ((8 ^ k : Nat) : Int) := Int.mul_le_mul_of_nonneg_right (by omega) (Int.natCast_nonneg _)
    generalize bs_tN (fun f => bs_lv A f b * bs_NL A k a (bs_sdn f b)) (A 3).toNat = z at *
    generalize ((A 3).toNat : Int) * ((8 ^ k : Nat) : Int) = y at *
    omega
