/-! ===== sets as numbers, and how many they hold ===== -/
def bs_pcN (s : Nat) : Nat := s % 2 + s / 2 % 2 + s / 4 % 2 + s / 8 % 2 + s / 16 % 2 + s / 32 % 2 + s / 64 % 2 + s / 128 % 2
def bs_pc (s : Int) : Int := (bs_pcN s.toNat : Nat)
def bs_sN (p : Int → Prop) [DecidablePred p] : Nat → Nat
  | 0 => 0
  | m + 1 => bs_sN p m + (if p (m : Int) then 2 ^ m else 0)
theorem bs_sN_s (p : Int → Prop) [DecidablePred p] (m : Nat) : bs_sN p (m + 1) = bs_sN p m + (if p (m : Int) then 2 ^ m else 0) := rfl
theorem bs_bits8 {s k : Nat} (hs : s < 256) (hk : k < 8) : bc_and (bc_shr (s : Int) (k : Int)) 1 = ((s / 2 ^ k % 2 : Nat) : Int) ∧ (s < 2 ^ k → bc_or (s : Int) (bc_shl 1 (k : Int)) = ((s + 2 ^ k : Nat) : Int)) ∧ bc_or (s : Int) 0 = (s : Int) := bc_bits8 ⟨s, hs⟩ ⟨k, hk⟩
theorem bs_sN_lt (p : Int → Prop) [DecidablePred p] : ∀ m, bs_sN p m < 2 ^ m
  | 0 => Nat.zero_lt_one
  | m + 1 => by
    have ih := bs_sN_lt p m
    rw [bs_sN_s, Nat.pow_succ]
    split <;> omega
theorem bs_pow8 {m : Nat} (h : m ≤ 8) : 2 ^ m ≤ 256 := Nat.le_trans (Nat.pow_le_pow_right (by decide) h) (by decide)
theorem bs_bset_N (p : Int → Prop) [DecidablePred p] : ∀ m : Nat, m ≤ 8 → bs_bset p (m : Int) = (bs_sN p m : Nat)
  | 0, _ => rfl
  | m + 1, h => by
    have hl := bs_sN_lt p m
    have h8 := bs_pow8 (m := m) (by omega)
    have t := bs_bits8 (s := bs_sN p m) (k := m) (by omega) (by omega)
    rw [show ((m + 1 : Nat) : Int) = (m : Int) + 1 by omega, bs_bset_s (by omega), bs_bset_N p m (by omega), bs_sN_s]
    split
    · exact t.2.1 hl
    · exact t.2.2
theorem bs_bset_ge (p : Int → Prop) [DecidablePred p] {n : Int} (h0 : 0 ≤ n) (h8 : n ≤ 8) : 0 ≤ bs_bset p n ∧ bs_bset p n < 256 := by
  have e := bs_bset_N p n.toNat (by omega)
  have hl := bs_sN_lt p n.toNat
  have := bs_pow8 (m := n.toNat) (by omega)
  rw [show ((n.toNat : Nat) : Int) = n by omega] at e
  omega
theorem bs_dif : ∀ (m : Fin 6) (s t : Fin 32), s.val < 2 ^ m.val → t.val < 2 ^ m.val →
    bc_and ((s.val + 0 : Nat) : Int) (bc_xor ((t.val + 2 ^ m.val : Nat) : Int) (-1)) = bc_and ((s.val : Nat) : Int) (bc_xor ((t.val : Nat) : Int) (-1)) ∧
    bc_and ((s.val + 0 : Nat) : Int) (bc_xor ((t.val + 0 : Nat) : Int) (-1)) = bc_and ((s.val : Nat) : Int) (bc_xor ((t.val : Nat) : Int) (-1)) ∧
    bc_and ((s.val + 2 ^ m.val : Nat) : Int) (bc_xor ((t.val + 2 ^ m.val : Nat) : Int) (-1)) = bc_and ((s.val : Nat) : Int) (bc_xor ((t.val : Nat) : Int) (-1)) ∧
    bc_and ((s.val + 2 ^ m.val : Nat) : Int) (bc_xor ((t.val + 0 : Nat) : Int) (-1)) = bc_and ((s.val : Nat) : Int) (bc_xor ((t.val : Nat) : Int) (-1)) + (2 ^ m.val : Nat) := by decide +kernel
theorem bs_difT {m s t : Nat} (hm : m < 6) (hs : s < 32) (ht : t < 32) (h1 : s < 2 ^ m) (h2 : t < 2 ^ m) :
    bc_and ((s + 0 : Nat) : Int) (bc_xor ((t + 2 ^ m : Nat) : Int) (-1)) = bc_and ((s : Nat) : Int) (bc_xor ((t : Nat) : Int) (-1)) ∧
    bc_and ((s + 0 : Nat) : Int) (bc_xor ((t + 0 : Nat) : Int) (-1)) = bc_and ((s : Nat) : Int) (bc_xor ((t : Nat) : Int) (-1)) ∧
    bc_and ((s + 2 ^ m : Nat) : Int) (bc_xor ((t + 2 ^ m : Nat) : Int) (-1)) = bc_and ((s : Nat) : Int) (bc_xor ((t : Nat) : Int) (-1)) ∧
    bc_and ((s + 2 ^ m : Nat) : Int) (bc_xor ((t + 0 : Nat) : Int) (-1)) = bc_and ((s : Nat) : Int) (bc_xor ((t : Nat) : Int) (-1)) + (2 ^ m : Nat) := bs_dif ⟨m, hm⟩ ⟨s, hs⟩ ⟨t, ht⟩ h1 h2
theorem bs_pow5 {m : Nat} (h : m ≤ 5) : 2 ^ m ≤ 32 := Nat.le_trans (Nat.pow_le_pow_right (by decide) h) (by decide)
theorem bs_difN (p q : Int → Prop) [DecidablePred p] [DecidablePred q] : ∀ m : Nat, m ≤ 6 → bc_and (bs_sN q m : Nat) (bc_xor (bs_sN p m : Nat) (-1)) = (bs_sN (fun v => q v ∧ ¬ p v) m : Nat)
  | 0, _ => show bc_and ((0 : Nat) : Int) (bc_xor ((0 : Nat) : Int) (-1)) = ((0 : Nat) : Int) by decide
  | m + 1, h => by
    have h1 := bs_sN_lt p m
    have h2 := bs_sN_lt q m
    have h5 := bs_pow5 (m := m) (by omega)
    have t := bs_difT (m := m) (s := bs_sN q m) (t := bs_sN p m) (by omega) (by omega) (by omega) h2 h1
    have ih := bs_difN p q m (by omega)
    rw [bs_sN_s, bs_sN_s, bs_sN_s]
    by_cases a : q (m : Int) <;> by_cases b : p (m : Int)
    · rw [if_pos a, if_pos b, if_neg (fun z => z.2 b), t.2.2.1, ih, Nat.add_zero]
    · rw [if_pos a, if_neg b, if_pos ⟨a, b⟩, t.2.2.2, ih]; omega
    · rw [if_neg a, if_pos b, if_neg (fun z => a z.1), t.1, ih, Nat.add_zero]
    · rw [if_neg a, if_neg b, if_neg (fun z => a z.1), t.2.1, ih, Nat.add_zero]
def bs_cnt (p : Int → Prop) [DecidablePred p] (n : Int) : Int := bc_it (fun v s => s + (if p v then 1 else 0)) 0 n
theorem bs_cnt_s {p : Int → Prop} [DecidablePred p] {n : Int} (h : 0 ≤ n) : bs_cnt p (n + 1) = bs_cnt p n + (if p n then 1 else 0) := bc_its _ _ h
theorem bs_cnt_le (p : Int → Prop) [DecidablePred p] {n : Int} (h : 0 ≤ n) : 0 ≤ bs_cnt p n ∧ bs_cnt p n ≤ n := by
  refine bc_it_ind (fun n x => 0 ≤ x ∧ x ≤ n) ⟨Int.le_refl _, Int.le_refl _⟩ (fun i x h0 ih => ?_) h
  split <;> omega
theorem bs_pcS : ∀ (s : Fin 256) (k : Fin 8), s.val < 2 ^ k.val → bs_pcN (s.val + 2 ^ k.val) = bs_pcN s.val + 1 := by decide +kernel
theorem bs_pcT {s k : Nat} (hs : s < 256) (hk : k < 8) (h : s < 2 ^ k) : bs_pcN (s + 2 ^ k) = bs_pcN s + 1 := bs_pcS ⟨s, hs⟩ ⟨k, hk⟩ h
theorem bs_pc_sN (p : Int → Prop) [DecidablePred p] : ∀ m : Nat, m ≤ 8 → (bs_pcN (bs_sN p m) : Int) = bs_cnt p (m : Int)
  | 0, _ => show ((bs_pcN 0 : Nat) : Int) = 0 by decide
  | m + 1, h => by
    have h1 := bs_sN_lt p m
    have h8 := bs_pow8 (m := m) (by omega)
    have t := bs_pcT (s := bs_sN p m) (k := m) (by omega) (by omega) h1
    have ih := bs_pc_sN p m (by omega)
    rw [show ((m + 1 : Nat) : Int) = (m : Int) + 1 by omega, bs_cnt_s (by omega), ← ih, bs_sN_s]
    split
    · rw [t]; omega
    · rw [Nat.add_zero]; omega
theorem bs_pc_bset (p : Int → Prop) [DecidablePred p] {n : Int} (h0 : 0 ≤ n) (h8 : n ≤ 8) : bs_pc (bs_bset p n) = bs_cnt p n := by
  have e := bs_bset_N p n.toNat (by omega)
  have t := bs_pc_sN p n.toNat (by omega)
  rw [show ((n.toNat : Nat) : Int) = n by omega] at e t
  rw [e]
  unfold bs_pc
  rw [show ((bs_sN p n.toNat : Nat) : Int).toNat = bs_sN p n.toNat by omega]
  exact t
theorem bs_dif_bset (p q : Int → Prop) [DecidablePred p] [DecidablePred q] {n : Int} (h0 : 0 ≤ n) (h6 : n ≤ 6) : bc_and (bs_bset q n) (bc_xor (bs_bset p n) (-1)) = bs_bset (fun v => q v ∧ ¬ p v) n := by
  have e1 := bs_bset_N p n.toNat (by omega)
  have e2 := bs_bset_N q n.toNat (by omega)
  have e3 := bs_bset_N (fun v => q v ∧ ¬ p v) n.toNat (by omega)
  have t := bs_difN p q n.toNat (by omega)
  rw [show ((n.toNat : Nat) : Int) = n by omega] at e1 e2 e3
  rw [e1, e2, e3, t]
theorem bs_pc0F : ∀ s : Fin 256, bs_pcN s.val = 0 ↔ s.val = 0 := by decide +kernel
theorem bs_pc0T {s : Nat} (hs : s < 256) : bs_pcN s = 0 ↔ s = 0 := bs_pc0F ⟨s, hs⟩
theorem bs_bset_0 (p : Int → Prop) [DecidablePred p] {n : Int} (h0 : 0 ≤ n) (h8 : n ≤ 8) : bs_bset p n = 0 ↔ bs_cnt p n = 0 := by
  have e := bs_bset_N p n.toNat (by omega)
  have t := bs_pc_sN p n.toNat (by omega)
  have hl := bs_sN_lt p n.toNat
  have h8' := bs_pow8 (m := n.toNat) (by omega)
  have t1 := bs_pc0T (s := bs_sN p n.toNat) (by omega)
  rw [show ((n.toNat : Nat) : Int) = n by omega] at e t
  rw [e, ← t]
  constructor
  · intro q; have := t1.mpr (by omega); omega
  · intro q; have := t1.mp (by omega); omega
theorem bs_bitsS : ∀ s : Fin 256, s.val ≠ 0 → 0 ≤ bc_and (s.val : Int) ((s.val : Int) - 1) ∧ bc_and (s.val : Int) ((s.val : Int) - 1) < (s.val : Int) ∧ bs_pcN (bc_and (s.val : Int) ((s.val : Int) - 1)).toNat + 1 = bs_pcN s.val := by decide +kernel
theorem bs_bitsT {s : Nat} (hs : s < 256) : s ≠ 0 → 0 ≤ bc_and (s : Int) ((s : Int) - 1) ∧ bc_and (s : Int) ((s : Int) - 1) < (s : Int) ∧ bs_pcN (bc_and (s : Int) ((s : Int) - 1)).toNat + 1 = bs_pcN s := bs_bitsS ⟨s, hs⟩
theorem bc_m_bits {d : Nat} {s : Int} {h : bc_H} {K : Int → bc_H → Prop} (h0 : 0 ≤ s) (h1 : s < 256) (hK : K (bs_pc s) h) : bf_M_bits d s h (bc_I K) := by
  refine rv_M_bits ?_
  have key : ∀ (m : Nat) (s x : Int), 0 ≤ s → s < 256 → s ≤ m → 0 ≤ x → x + s ≤ 256 → K (x + bs_pc s) h → bl_M_bits_4 d x s h (bc_I K) := by
    intro m
    induction m with
    | zero =>
      intro s x p0 p1 p2 p3 p4 hK
      refine rv_M_bits_4 ⟨fun _ => ?_, fun q => absurd (by omega) q⟩
      have e : s = 0 := by omega
      subst e
      rw [show bs_pc 0 = 0 from rfl, Int.add_zero] at hK
      exact hK
    | succ m ih =>
      intro s x p0 p1 p2 p3 p4 hK
      refine rv_M_bits_4 ⟨fun e => ?_, fun q => ?_⟩
      · subst e
        rw [show bs_pc 0 = 0 from rfl, Int.add_zero] at hK
        exact hK
      · have t := bs_bitsT (s := s.toNat) (by omega) (by omega)
        rw [show ((s.toNat : Nat) : Int) = s by omega] at t
        simp (disch := omega) only [bc_wi]
        refine ih _ _ t.1 (by omega) (by omega) (by omega) (by omega) ?_
        have : bs_pc s = 1 + bs_pc (bc_and s (s - 1)) := by unfold bs_pc; omega
        rw [this, ← Int.add_assoc] at hK
        exact hK
  have := key 256 s 0 h0 h1 (by omega) (by omega) (by omega) (by rw [Int.zero_add]; exact hK)
  exact this
