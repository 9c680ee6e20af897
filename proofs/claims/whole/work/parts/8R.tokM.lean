/-! ===== texts: a token, the reference ===== -/
theorem bs_lor8 {x y : Int} (x0 : 0 ≤ x) (x1 : x < 36028797018963968) (y0 : 0 ≤ y) (y1 : y < 256) : bc_lorL (bc_lshl x 8) y = x * 256 + y := by
  obtain ⟨a, rfl⟩ : ∃ a : Nat, x = a := ⟨x.toNat, by omega⟩
  obtain ⟨b, rfl⟩ : ∃ b : Nat, y = b := ⟨y.toNat, by omega⟩
  have hs : ((Int32.ofInt 8).toInt64 &&& 63 : Int64) = 8 := by decide +kernel
  unfold bc_lorL bc_lshl
  rw [Int64.ofInt_toInt, hs, ← Int64.toInt_toBitVec, Int64.toBitVec_or, Int64.toBitVec_shiftLeft]
  have ea : (Int64.ofInt (a : Int)).toBitVec = BitVec.ofNat 64 a := by rw [Int64.toBitVec_ofInt, BitVec.ofInt_natCast]
  have eb : (Int64.ofInt (b : Int)).toBitVec = BitVec.ofNat 64 b := by rw [Int64.toBitVec_ofInt, BitVec.ofInt_natCast]
  have e8 : ((8 : Int64).toBitVec.smod 64) = BitVec.ofNat 64 8 := by decide +kernel
  rw [ea, eb, e8]
  have na : (BitVec.ofNat 64 a).toNat = a := by rw [BitVec.toNat_ofNat]; exact Nat.mod_eq_of_lt (by omega)
  have nb : (BitVec.ofNat 64 b).toNat = b := by rw [BitVec.toNat_ofNat]; exact Nat.mod_eq_of_lt (by omega)
  have nv : (BitVec.ofNat 64 a <<< BitVec.ofNat 64 8 ||| BitVec.ofNat 64 b).toNat = a * 256 + b := by
    rw [BitVec.toNat_or, nb, BitVec.shiftLeft_eq', BitVec.toNat_shiftLeft, na, show (BitVec.ofNat 64 8).toNat = 8 by decide]
    rw [Nat.mod_eq_of_lt (by rw [Nat.shiftLeft_eq]; omega), ← Nat.shiftLeft_add_eq_or_of_lt (show b < 2 ^ 8 by omega), Nat.shiftLeft_eq]
  rw [BitVec.toInt_eq_toNat_of_lt (by rw [nv]; omega), nv]
  omega
theorem bs_byF : ∀ t : Nat, t < 256 → bc_and ((t : Int) - 128) 255 = if 128 ≤ t then (t : Int) - 128 else (t : Int) + 128 := by decide +kernel
def bs_by (T : Int → Int) (n k : Int) : Int := if n ≤ k then -1 else if 0 ≤ T k then T k else T k + 256
theorem bs_by_v {T : Int → Int} {n k : Int} (h0 : -128 ≤ T k) (h1 : T k ≤ 127) (c : Int) (c0 : 0 ≤ c) (c1 : c ≤ 127) : bs_by T n k = c ↔ k < n ∧ T k = c := by
  unfold bs_by
  (repeat' split) <;> omega
def bs_tb8 (T : Int → Int) (n : Int) : Prop := ∀ k, 0 ≤ k → k < n → -128 ≤ T k ∧ T k ≤ 127
def bs_tx (T : Int → Int) (n : Int) (g : bc_H) : Prop := g 156 11 = n ∧ ∀ k, 0 ≤ k → k < n → g 163 k = T k
theorem bc_m_byteAt {d : Nat} {T : Int → Int} {n k : Int} {g : bc_H} {K : Int → bc_H → Prop} (n0 : 0 ≤ n ∧ n ≤ 900) (hb : bs_tb8 T n) (hg : bs_tx T n g) (k0 : 0 ≤ k) (hK : K (bs_by T n k) g) : bf_M_byteAt d k g (bc_I K) := by
  unfold bs_by at hK
  refine rv_M_byteAt ?_
  rw [hg.1]
  refine ⟨fun z => by rw [if_pos z] at hK; exact hK, fun z => ⟨by omega, ?_⟩⟩
  rw [if_neg (by omega)] at hK
  have b := hb k k0 z
  rw [hg.2 k k0 z]
  have t := bs_byF (T k + 128).toNat (by omega)
  rw [show (((T k + 128).toNat : Nat) : Int) - 128 = T k by omega] at t
  rw [t]
  by_cases u : 0 ≤ T k
  · rw [if_pos u] at hK
    rw [if_pos (by omega)]; exact hK
  · rw [if_neg u] at hK
    rw [if_neg (by omega), show (((T k + 128).toNat : Nat) : Int) + 128 = T k + 256 by omega]; exact hK
theorem bs_by_let {T : Int → Int} {n k : Int} (hb : bs_tb8 T n) (k0 : 0 ≤ k) : (97 ≤ bs_by T n k ∧ bs_by T n k ≤ 122) ↔ k < n ∧ bs_let (T k) := by
  unfold bs_by bs_let
  by_cases z : n ≤ k
  · rw [if_pos z]; omega
  · have := hb k k0 (by omega)
    rw [if_neg z]; split <;> omega
theorem bs_by_dig {T : Int → Int} {n k : Int} (hb : bs_tb8 T n) (k0 : 0 ≤ k) : (48 ≤ bs_by T n k ∧ bs_by T n k ≤ 57) ↔ k < n ∧ bs_dig (T k) := by
  unfold bs_by bs_dig
  by_cases z : n ≤ k
  · rw [if_pos z]; omega
  · have := hb k k0 (by omega)
    rw [if_neg z]; split <;> omega
theorem bs_by_c {T : Int → Int} {n k c : Int} (hb : bs_tb8 T n) (k0 : 0 ≤ k) (c0 : 0 ≤ c) (c1 : c ≤ 127) : bs_by T n k = c ↔ k < n ∧ T k = c := by
  unfold bs_by
  by_cases z : n ≤ k
  · rw [if_pos z]; omega
  · have := hb k k0 (by omega)
    rw [if_neg z]; split <;> omega
theorem bs_by_n {T : Int → Int} {n k : Int} (hb : bs_tb8 T n) (k0 : 0 ≤ k) : bs_by T n k = -1 ↔ n ≤ k := by
  unfold bs_by
  by_cases z : n ≤ k
  · rw [if_pos z]; omega
  · have := hb k k0 (by omega)
    rw [if_neg z]; split <;> omega
def bs_tmk (s : Int) : Int := if s = 0 then 0 else if s = 4 then 1 else s + 1
/-- class and reference stand at the same token -/
def bs_Tk (T : Int → Int) (n : Int) (m g : bc_H) : Prop := bs_tx T n g ∧ (g 156 13 = m 6 11 ∧ g 156 14 = m 6 10 ∧ g 156 12 = bs_tmk (m 6 12)) ∧ (m 6 12 = 2 → g 156 15 = m 6 14) ∧ (m 6 12 = 3 → g 156 15 = m 6 6) ∧ (0 ≤ m 6 12 ∧ m 6 12 ≤ 4)
theorem bc_m_ahead {d : Nat} {T : Int → Int} {n p : Int} {m1 g : bc_H} {K : bc_H → Prop} (n0 : 0 ≤ n ∧ n ≤ 900) (p0 : 0 ≤ p) (hb : bs_tb8 T n) (hg : bs_tx T n g) (g14 : g 156 14 = p) (hT : bs_To T n p m1) (hK : ∀ g1, (∀ x, x ≠ 156 → g1 x = g x) → (∀ y, (y < 12 ∨ 15 < y) → g1 156 y = g 156 y) → bs_Tk T n m1 g1 → K g1) : bf_M_ahead (d + 1) g (bc_U K) := by
  obtain ⟨⟨b1, b2, b3⟩, bl, cs⟩ := hT
  refine rv_M_ahead (d := d) ?_
  have fin : ∀ g1 : bc_H, (∀ x, x ≠ 156 → g1 x = g x) → (∀ y, (y < 12 ∨ 15 < y) → g1 156 y = g 156 y) → g1 156 13 = m1 6 11 → g1 156 14 = m1 6 10 → g1 156 12 = bs_tmk (m1 6 12) → (m1 6 12 = 2 → g1 156 15 = m1 6 14) → (m1 6 12 = 3 → g1 156 15 = m1 6 6) → (0 ≤ m1 6 12 ∧ m1 6 12 ≤ 4) → K g1 := fun g1 a1 a2 a3 a4 a5 a6 a7 a8 => hK g1 a1 a2 ⟨⟨by rw [a2 11 (by decide)]; exact hg.1, by rw [a1 163 (by decide)]; exact hg.2⟩, ⟨a3, a4, a5⟩, a6, a7, a8⟩
  refine bc_lupF (P := fun k => ∀ g1 : bc_H, (∀ x, x ≠ 156 → g1 x = g x) → (∀ y, (y < 12 ∨ 15 < y) → g1 156 y = g 156 y) → g1 156 14 = k → bl_M_ahead_0 (d + 1) g1 (bc_U K)) (a := p) (n := m1 6 11) (fun g1 a1 a2 a3 => ?_) (fun k k0 k1 ih g1 a1 a2 a3 => ?_) (Int.le_refl p) b1 g (fun _ _ => rfl) (fun _ _ => rfl) g14
  · have ht : ∀ g' : bc_H, (∀ x, x ≠ 156 → g' x = g x) → (∀ y, (y < 12 ∨ 15 < y) → g' 156 y = g 156 y) → bs_tx T n g' := fun g' c1 c2 => ⟨by rw [c2 11 (by decide)]; exact hg.1, by rw [c1 163 (by decide)]; exact hg.2⟩
    have q0 : 0 ≤ m1 6 11 := by omega
    have nbl : bs_by T n (m1 6 11) ≠ 32 ∧ bs_by T n (m1 6 11) ≠ 10 := by
      rw [Ne, Ne, bs_by_c hb q0 (by omega) (by omega), bs_by_c hb q0 (by omega) (by omega)]
      rcases cs with c | c
      · omega
      · refine ⟨fun u => c.2.1 (Or.inl u.2), fun u => c.2.1 (Or.inr u.2)⟩
    refine rv_M_ahead_0 (d := d) ?_
    rw [a3]
    refine bc_m_byteAt n0 hb (ht g1 a1 a2) q0 ⟨fun u => absurd u nbl.1, fun _ => ?_⟩
    rw [a3]
    refine bc_m_byteAt n0 hb (ht g1 a1 a2) q0 ⟨fun _ => ?_, fun u => absurd u nbl.2⟩
    rw [a3]
    generalize eG : bc_upd g1 156 13 (m1 6 11) = G
    have Gx : ∀ x, x ≠ 156 → G x = g x := fun x hx => by rw [← eG, bc_urow hx]; exact a1 x hx
    have Gy : ∀ y, (y < 12 ∨ 15 < y) → G 156 y = g 156 y := fun y hy => by rw [← eG, bc_uj (by omega)]; exact a2 y hy
    have G13 : G 156 13 = m1 6 11 := by rw [← eG, bc_uu]
    have G14 : G 156 14 = m1 6 11 := by rw [← eG, bc_uj (by decide)]; exact a3
    refine bc_m_byteAt n0 hb (ht G Gx Gy) q0 ?_
    have upd : ∀ (g' : bc_H) (y v : Int), (∀ x, x ≠ 156 → g' x = g x) → (∀ y, (y < 12 ∨ 15 < y) → g' 156 y = g 156 y) → (12 ≤ y ∧ y ≤ 15) → (∀ x, x ≠ 156 → bc_upd g' 156 y v x = g x) ∧ (∀ z, (z < 12 ∨ 15 < z) → bc_upd g' 156 y v 156 z = g 156 z) := fun g' y v c1 c2 hy => ⟨fun x hx => by rw [bc_urow hx]; exact c1 x hx, fun z hz => by rw [bc_uj (by omega)]; exact c2 z hz⟩
    rcases cs with ⟨c1, c2, c3, c4, c5⟩ | ⟨c1, c2, c3⟩
    · have e1 : bs_by T n (m1 6 11) = -1 := (bs_by_n hb q0).2 (by omega)
      rw [e1]
      refine ⟨fun u => absurd rfl u, fun _ => ?_⟩
      have u1 := upd G 15 (-1) Gx Gy (by omega)
      have u2 := upd _ 12 0 u1.1 u1.2 (by omega)
      exact fin _ u2.1 u2.2 (by rw [bc_uj (by decide), bc_uj (by decide)]; exact G13) (by rw [bc_uj (by decide), bc_uj (by decide), G14]; omega) (by rw [bc_uu, c3]; rfl) (fun u => absurd u (by omega)) (fun u => absurd u (by omega)) (by omega)
    · have e1 : bs_by T n (m1 6 11) ≠ -1 := fun u => absurd ((bs_by_n hb q0).1 u) (by omega)
      refine ⟨fun _ => ?_, fun u => absurd u e1⟩
      have u1 := upd G 15 (bs_by T n (m1 6 11)) Gx Gy (by omega)
      rcases c3 with ⟨d1, d2, d3, d4, d5, d6, d7, d8⟩ | ⟨d1, d2, d3, d4, d5, d6, d7⟩ | ⟨d1, d2, d3, d4, d5⟩
      · -- a word
        have lq := d4 (m1 6 11) (Int.le_refl _) d3
        refine ⟨fun _ => ?_, fun u => absurd ((bs_by_let hb q0).2 ⟨c1, lq⟩) u⟩
        refine bc_lupF (P := fun k => ∀ g2 : bc_H, (∀ x, x ≠ 156 → g2 x = g x) → (∀ y, (y < 12 ∨ 15 < y) → g2 156 y = g 156 y) → g2 156 13 = m1 6 11 → g2 156 14 = k → bl_M_ahead_41 (d + 1) g2 (bc_U K)) (a := m1 6 11) (n := m1 6 10) (fun g2 f1 f2 f3 f4 => ?_) (fun k k0 k1 ih g2 f1 f2 f3 f4 => ?_) (Int.le_refl _) b2 _ u1.1 u1.2 (by rw [bc_uj (by decide)]; exact G13) (by rw [bc_uj (by decide)]; exact G14)
        · refine rv_M_ahead_41 (d := d) ?_
          rw [f4]
          refine bc_m_byteAt n0 hb (ht g2 f1 f2) (by omega) ⟨fun u => ?_, fun _ => ?_⟩
          · have := (bs_by_let hb (by omega)).1 u
            rcases d5 with d5 | d5
            · omega
            · exact absurd this.2 d5
          · have u2 := upd g2 12 2 f1 f2 (by omega)
            exact fin _ u2.1 u2.2 (by rw [bc_uj (by decide)]; exact f3) (by rw [bc_uj (by decide)]; exact f4) (by rw [bc_uu, d1]; rfl) (fun u => absurd u (by omega)) (fun u => absurd u (by omega)) (by omega)
        · refine rv_M_ahead_41 (d := d) ?_
          rw [f4]
          refine bc_m_byteAt n0 hb (ht g2 f1 f2) (by omega) ⟨fun _ => ?_, fun u => absurd ((bs_by_let hb (by omega)).2 ⟨by omega, d4 k k0 k1⟩) u⟩
          rw [f4, bc_wi (x := k + 1) (by omega) (by omega)]
          have u2 := upd g2 14 (k + 1) f1 f2 (by omega)
          exact ih _ u2.1 u2.2 (by rw [bc_uj (by decide)]; exact f3) (bc_uu _ _ _ _)
      · -- a number
        have nl : ¬ (97 ≤ bs_by T n (m1 6 11) ∧ bs_by T n (m1 6 11) ≤ 122) := fun u => by
          have := ((bs_by_let hb q0).1 u).2
          unfold bs_let at this; unfold bs_dig at d1; omega
        refine ⟨fun u => absurd u nl, fun _ => ⟨fun _ => ?_, fun u => absurd ((bs_by_dig hb q0).2 ⟨c1, d1⟩) u⟩⟩
        have u2 := upd _ 15 0 u1.1 u1.2 (by omega)
        refine bc_lupF (P := fun k => ∀ g2 : bc_H, (∀ x, x ≠ 156 → g2 x = g x) → (∀ y, (y < 12 ∨ 15 < y) → g2 156 y = g 156 y) → g2 156 13 = m1 6 11 → g2 156 14 = k → (0 ≤ g2 156 15 ∧ g2 156 15 ≤ 100000) → (k - m1 6 11 ≤ 4 → g2 156 15 = bs_nv T (m1 6 11) (k - m1 6 11)) → bl_M_ahead_64 (d + 1) g2 (bc_U K)) (a := m1 6 11) (n := m1 6 10) (fun g2 f1 f2 f3 f4 f5 f6 => ?_) (fun k k0 k1 ih g2 f1 f2 f3 f4 f5 f6 => ?_) (Int.le_refl _) b2 _ u2.1 u2.2 (by rw [bc_uj (by decide), bc_uj (by decide)]; exact G13) (by rw [bc_uj (by decide), bc_uj (by decide)]; exact G14) (by rw [bc_uu]; omega) (fun _ => by rw [bc_uu, show m1 6 11 - m1 6 11 = 0 by omega]; rfl)
        · refine rv_M_ahead_64 (d := d) ?_
          rw [f4]
          refine bc_m_byteAt n0 hb (ht g2 f1 f2) (by omega) ⟨fun u => ?_, fun _ => ?_⟩
          · have := (bs_by_dig hb (by omega)).1 u
            rcases d6 with d6 | d6
            · omega
            · exact absurd this.2 d6
          · rw [f4, f3, bc_wi (x := m1 6 10 - m1 6 11) (by omega) (by omega)]
            rcases d7 with ⟨e4, e12, e14⟩ | ⟨e4, e12⟩
            · rw [if_pos e4]
              have u3 := upd g2 12 3 f1 f2 (by omega)
              exact fin _ u3.1 u3.2 (by rw [bc_uj (by decide)]; exact f3) (by rw [bc_uj (by decide)]; exact f4) (by rw [bc_uu, e12]; rfl) (fun _ => by rw [bc_uj (by decide), f6 e4, e14]; rfl) (fun u => absurd u (by omega)) (by omega)
            · rw [if_neg (by omega)]
              have u3 := upd g2 12 1 f1 f2 (by omega)
              exact fin _ u3.1 u3.2 (by rw [bc_uj (by decide)]; exact f3) (by rw [bc_uj (by decide)]; exact f4) (by rw [bc_uu, e12]; rfl) (fun u => absurd u (by omega)) (fun u => absurd u (by omega)) (by omega)
        · have dk := d5 k k0 k1
          have byk : bs_by T n k = T k := by unfold bs_by; unfold bs_dig at dk; rw [if_neg (by omega), if_pos (by omega)]
          have dk2 := dk
          unfold bs_dig at dk2
          refine rv_M_ahead_64 (d := d) ?_
          rw [f4]
          refine bc_m_byteAt n0 hb (ht g2 f1 f2) (by omega) ⟨fun _ => ?_, fun u => absurd ((bs_by_dig hb (by omega)).2 ⟨by omega, dk⟩) u⟩
          rw [f4]
          refine bc_m_byteAt n0 hb (ht g2 f1 f2) (by omega) (fun h8 e8 => ?_)
          rw [byk, bc_wi (x := 10 * g2 156 15) (by omega) (by omega), bc_wi (x := 10 * g2 156 15 + T k) (by omega) (by omega), bc_wi (x := 10 * g2 156 15 + T k - 48) (by omega) (by omega)] at e8
          have h814 : h8 156 14 = k := by rw [e8, bc_uj (by decide)]; exact f4
          rw [h814, bc_wi (x := k + 1) (by omega) (by omega)]
          have u3 := upd g2 15 (if 10 * g2 156 15 + T k - 48 < 100000 then 10 * g2 156 15 + T k - 48 else 100000) f1 f2 (by omega)
          rw [← e8] at u3
          have u4 := upd h8 14 (k + 1) u3.1 u3.2 (by omega)
          have h815 : h8 156 15 = (if 10 * g2 156 15 + T k - 48 < 100000 then 10 * g2 156 15 + T k - 48 else 100000) := by rw [e8, bc_uu]
          refine ih _ u4.1 u4.2 (by rw [bc_uj (by decide), e8, bc_uj (by decide)]; exact f3) (bc_uu _ _ _ _) (by rw [bc_uj (by decide), h815]; split <;> omega) (fun z => ?_)
          have nb4 := bs_nv_b T (m1 6 11) (k := k - m1 6 11) (by omega) (by omega) (fun j j0 j1 => d5 j j0 (by omega))
          rw [bc_uj (by decide), h815, f6 (by omega), if_pos (by omega), show k + 1 - m1 6 11 = k - m1 6 11 + 1 by omega, bs_nv_s T _ (by omega), show m1 6 11 + (k - m1 6 11) = k by omega]
          omega
      · -- a sign
        have nl : ¬ (97 ≤ bs_by T n (m1 6 11) ∧ bs_by T n (m1 6 11) ≤ 122) := fun u => d1 ((bs_by_let hb q0).1 u).2
        have nd : ¬ (48 ≤ bs_by T n (m1 6 11) ∧ bs_by T n (m1 6 11) ≤ 57) := fun u => d2 ((bs_by_dig hb q0).1 u).2
        refine ⟨fun u => absurd u nl, fun _ => ⟨fun u => absurd u nd, fun _ h15 e15 => ?_⟩⟩
        rw [G14, bc_wi (x := m1 6 11 + 1) (by omega) (by omega)] at e15
        have e59 := bs_by_c (c := 59) hb q0 (by omega) (by omega)
        have e60 := bs_by_c (c := 60) hb q0 (by omega) (by omega)
        have e62 := bs_by_c (c := 62) hb q0 (by omega) (by omega)
        have e61 := bs_by_c (c := 61) hb q0 (by omega) (by omega)
        have u2 := upd _ 14 (m1 6 11 + 1) u1.1 u1.2 (by omega)
        have u3 := upd _ 12 (if bs_by T n (m1 6 11) = 59 then 4 else (if bs_by T n (m1 6 11) = 60 then 4 else (if bs_by T n (m1 6 11) = 62 then 4 else (if bs_by T n (m1 6 11) = 61 then 4 else 1)))) u2.1 u2.2 (by omega)
        rw [← e15] at u3
        have f13 : h15 156 13 = m1 6 11 := by rw [e15, bc_uj (by decide), bc_uj (by decide), bc_uj (by decide)]; exact G13
        have f14 : h15 156 14 = m1 6 10 := by rw [e15, bc_uj (by decide), bc_uu]; omega
        have f15 : h15 156 15 = bs_by T n (m1 6 11) := by rw [e15, bc_uj (by decide), bc_uj (by decide), bc_uu]
        have f12 : h15 156 12 = (if bs_by T n (m1 6 11) = 59 then 4 else (if bs_by T n (m1 6 11) = 60 then 4 else (if bs_by T n (m1 6 11) = 62 then 4 else (if bs_by T n (m1 6 11) = 61 then 4 else 1)))) := by rw [e15, bc_uu]
        rcases d5 with ⟨k1, k2, k3⟩ | ⟨k1, k2, k3⟩
        · have e : bs_by T n (m1 6 11) = T (m1 6 11) := by unfold bs_by; rw [if_neg (by omega), if_pos (by omega)]
          refine fin h15 u3.1 u3.2 f13 f14 ?_ (fun u => absurd u (by omega)) (fun _ => by rw [f15, e, k3]) (by omega)
          rw [f12, e, k2]
          show _ = (4 : Int)
          (repeat' split) <;> omega
        · refine fin h15 u3.1 u3.2 f13 f14 ?_ (fun u => absurd u (by omega)) (fun u => absurd u (by omega)) (by omega)
          rw [f12, k2, if_neg (fun u => k1 (Or.inl (e59.1 u).2)), if_neg (fun u => k1 (Or.inr (Or.inl (e60.1 u).2))), if_neg (fun u => k1 (Or.inr (Or.inr (Or.inl (e62.1 u).2)))), if_neg (fun u => k1 (Or.inr (Or.inr (Or.inr (e61.1 u).2))))]
          rfl
  · have bk := bl k k0 k1
    refine rv_M_ahead_0 (d := d) ?_
    have hg1 : bs_tx T n g1 := ⟨by rw [a2 11 (by decide)]; exact hg.1, by rw [a1 163 (by decide)]; exact hg.2⟩
    have next : bl_M_ahead_0 (d + 1) (bc_upd g1 156 14 (bc_w32 (k + 1))) (bc_U K) := by
      rw [bc_wi (x := k + 1) (by omega) (by omega)]
      exact ih _ (fun x hx => by rw [bc_urow hx]; exact a1 x hx) (fun y hy => by rw [bc_uj (by omega)]; exact a2 y hy) (bc_uu _ _ _ _)
    rw [a3]
    refine bc_m_byteAt n0 hb hg1 (by omega) ⟨fun _ => by rw [a3]; exact next, fun n32 => ?_⟩
    rw [a3]
    refine bc_m_byteAt n0 hb hg1 (by omega) ⟨fun n10 => ?_, fun _ => by rw [a3]; exact next⟩
    rcases bk with e | e
    · exact absurd ((bs_by_c hb (by omega) (by omega) (by omega)).2 ⟨by omega, e⟩) n32
    · exact absurd ((bs_by_c hb (by omega) (by omega) (by omega)).2 ⟨by omega, e⟩) n10
