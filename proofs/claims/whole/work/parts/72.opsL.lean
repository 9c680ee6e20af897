/-! ===== fractions ===== -/
def bs_eu : Nat → Int → Int → Int
  | 0, x, _ => x
  | k + 1, x, y => if y = 0 then x else bs_eu k y (x % y)
theorem bs_emod {x y : Int} (h0 : 0 ≤ x) (hy : 0 < y) : 0 ≤ x % y ∧ x % y < y ∧ x.tmod y = x % y := ⟨Int.emod_nonneg x (by omega), Int.emod_lt_of_pos x hy, Int.tmod_eq_emod_of_nonneg h0⟩
theorem bs_half {x y : Int} (hy : 0 < y) (h : y ≤ x) : 2 * (x % y) < x := by
  have e := Int.mul_ediv_add_emod x y
  have q1 : 1 ≤ x / y := Int.le_ediv_of_mul_le hy (by omega)
  have q2 : y * 1 ≤ y * (x / y) := Int.mul_le_mul_of_nonneg_left q1 (by omega)
  have q3 := Int.emod_lt_of_pos x hy
  generalize y * (x / y) = z at e q2
  omega
theorem bc_c_tellL {d : Nat} {n b : Int} {h : bc_H} {K : bc_H → Prop} : ∀ (k : Nat) (x y i : Int), 0 ≤ y → y < x → x < ((2 ^ k : Nat) : Int) → 0 ≤ i → i + 2 * k ≤ 199 → (bs_eu (2 * k) x y ≠ 0 → K (bc_upd (bc_upd h 0 1 (bc_w64 (n.tdiv (bs_eu (2 * k) x y)))) 0 2 (bc_w64 (b.tdiv (bs_eu (2 * k) x y))))) → bl_X_tellFraction_6 d n b x y i h (bc_U K)
  | 0, x, y, i, h0, h1, h2, _, _, _ => by exfalso; have : ((2 ^ 0 : Nat) : Int) = 1 := by decide
                                          omega
  | k + 1, x, y, i, h0, h1, h2, i0, i1, hK => by
    rw [show 2 * (k + 1) = 2 * k + 1 + 1 by omega] at hK
    have fin : ∀ x i, 0 < x → 0 ≤ i → i < 200 → (x ≠ 0 → K (bc_upd (bc_upd h 0 1 (bc_w64 (n.tdiv x))) 0 2 (bc_w64 (b.tdiv x)))) → bl_X_tellFraction_6 d n b x 0 i h (bc_U K) := fun x i x0 i0 i1 kk => by
      refine rv_X_tellFraction_6 ⟨fun q => absurd q (by omega), fun _ => ⟨fun _ => ⟨fun q => absurd q (by omega), fun q => ⟨q, q, kk q⟩⟩, fun q => absurd rfl q⟩⟩
    by_cases ey : y = 0
    · subst ey
      rw [show bs_eu (2 * k + 1 + 1) x 0 = x from if_pos rfl] at hK
      exact fin x i (by omega) i0 (by omega) hK
    · rw [show bs_eu (2 * k + 1 + 1) x y = bs_eu (2 * k + 1) y (x % y) from if_neg ey] at hK
      have m1 := bs_emod (x := x) (y := y) (by omega) (by omega)
      have hh := bs_half (x := x) (y := y) (by omega) (by omega)
      refine rv_X_tellFraction_6 ⟨fun q => absurd q (by omega), fun _ => ⟨fun q => absurd q ey, fun _ => ⟨ey, ?_⟩⟩⟩
      rw [m1.2.2, bc_wi (by omega) (by omega)]
      by_cases er : x % y = 0
      · rw [er]
        rw [er, show bs_eu (2 * k + 1) y 0 = y from if_pos rfl] at hK
        exact fin y (i + 1) (by omega) (by omega) (by omega) hK
      · rw [show bs_eu (2 * k + 1) y (x % y) = bs_eu (2 * k) (x % y) (y % (x % y)) from if_neg er] at hK
        have m2 := bs_emod (x := y) (y := x % y) (by omega) (by omega)
        refine rv_X_tellFraction_6 ⟨fun q => absurd q (by omega), fun _ => ⟨fun q => absurd q er, fun _ => ⟨er, ?_⟩⟩⟩
        rw [m2.2.2, bc_wi (by omega) (by omega)]
        refine bc_c_tellL k (x % y) (y % (x % y)) (i + 1 + 1) m2.1 m2.2.1 ?_ (by omega) (by omega) hK
        rw [Nat.pow_succ] at h2
        generalize 2 ^ k = M at h2 ⊢
        omega
theorem bc_m_tellL {d : Nat} {n b : Int} {h : bc_H} {P N : bc_H → Prop} : ∀ (k : Nat) (x y : Int), 0 ≤ y → y < x → x < ((2 ^ k : Nat) : Int) → (bs_eu (2 * k) x y ≠ 0 → P (bc_upd (bc_upd (bc_upd h 156 3 (bc_w64 (n.tdiv (bs_eu (2 * k) x y)))) 156 4 (bc_w64 (b.tdiv (bs_eu (2 * k) x y)))) 156 2 0)) → bl_M_tellsBy_4 (d + 1) n b x y h (bc_B P N)
  | 0, x, y, h0, h1, h2, _ => by exfalso; have : ((2 ^ 0 : Nat) : Int) = 1 := by decide
                                 omega
  | k + 1, x, y, h0, h1, h2, hK => by
    rw [show 2 * (k + 1) = 2 * k + 1 + 1 by omega] at hK
    have fin : ∀ x, 0 < x → (x ≠ 0 → P (bc_upd (bc_upd (bc_upd h 156 3 (bc_w64 (n.tdiv x))) 156 4 (bc_w64 (b.tdiv x))) 156 2 0)) → bl_M_tellsBy_4 (d + 1) n b x 0 h (bc_B P N) := fun x x0 kk => by
      exact rv_M_tellsBy_4 ⟨fun _ => ⟨by omega, by omega, kk (by omega)⟩, fun q => absurd rfl q⟩
    by_cases ey : y = 0
    · subst ey
      rw [show bs_eu (2 * k + 1 + 1) x 0 = x from if_pos rfl] at hK
      exact fin x (by omega) hK
    · rw [show bs_eu (2 * k + 1 + 1) x y = bs_eu (2 * k + 1) y (x % y) from if_neg ey] at hK
      have m1 := bs_emod (x := x) (y := y) (by omega) (by omega)
      have hh := bs_half (x := x) (y := y) (by omega) (by omega)
      refine rv_M_tellsBy_4 ⟨fun q => absurd q ey, fun _ => ⟨ey, ?_⟩⟩
      rw [m1.2.2]
      by_cases er : x % y = 0
      · rw [er]
        rw [er, show bs_eu (2 * k + 1) y 0 = y from if_pos rfl] at hK
        exact fin y (by omega) hK
      · rw [show bs_eu (2 * k + 1) y (x % y) = bs_eu (2 * k) (x % y) (y % (x % y)) from if_neg er] at hK
        have m2 := bs_emod (x := y) (y := x % y) (by omega) (by omega)
        refine rv_M_tellsBy_4 ⟨fun q => absurd q er, fun _ => ⟨er, ?_⟩⟩
        rw [m2.2.2]
        refine bc_m_tellL k (x % y) (y % (x % y)) m2.1 m2.2.1 ?_ hK
        rw [Nat.pow_succ] at h2
        generalize 2 ^ k = M at h2 ⊢
        omega
/-- by what top and bottom are divided -/
def bs_gd (n b : Int) : Int := if n < b then bs_eu (2 * 49) b n else if n = b then b else bs_eu (2 * 49) n b
theorem bs_p49 : ((2 ^ 49 : Nat) : Int) = 562949953421312 := by decide
theorem bc_c_tellFraction {d : Nat} {n b : Int} {h : bc_H} {K : bc_H → Prop} (n0 : 0 ≤ n) (n1 : n < 562949953421312) (b0 : 0 < b) (b1 : b < 562949953421312) (hK : K (bc_upd (bc_upd h 0 1 (bc_w64 (n.tdiv (bs_gd n b)))) 0 2 (bc_w64 (b.tdiv (bs_gd n b))))) : bf_X_tellFraction d n b h (bc_U K) := by
  refine rv_X_tellFraction ?_
  unfold bs_gd at hK
  by_cases z : n < b
  · rw [if_pos z] at hK
    exact bc_c_tellL 49 b n 0 n0 z (by rw [bs_p49]; exact b1) (by omega) (by omega) (fun _ => hK)
  · rw [if_neg z] at hK
    have m1 := bs_emod (x := b) (y := n) (by omega) (by omega)
    refine rv_X_tellFraction_6 ⟨fun q => absurd q (by decide), fun _ => ⟨fun q => absurd q (by omega), fun _ => ⟨by omega, ?_⟩⟩⟩
    rw [m1.2.2, bc_wi (by omega) (by omega)]
    by_cases z2 : n = b
    · rw [if_pos z2] at hK
      subst z2
      rw [Int.emod_self]
      exact rv_X_tellFraction_6 ⟨fun q => absurd q (by decide), fun _ => ⟨fun _ => ⟨fun q => absurd q (by omega), fun q => ⟨q, q, hK⟩⟩, fun q => absurd rfl q⟩⟩
    · rw [if_neg z2] at hK
      rw [Int.emod_eq_of_lt (by omega) (by omega)]
      exact bc_c_tellL 49 n b (0 + 1) (by omega) (by omega) (by rw [bs_p49]; exact n1) (by omega) (by omega) (fun _ => hK)
theorem bc_m_tellsBy {d : Nat} {n b : Int} {h : bc_H} {P N : bc_H → Prop} (n0 : 0 ≤ n) (n1 : n < 562949953421312) (b0 : 0 < b) (b1 : b < 562949953421312) (hK : P (bc_upd (bc_upd (bc_upd h 156 3 (bc_w64 (n.tdiv (bs_gd n b)))) 156 4 (bc_w64 (b.tdiv (bs_gd n b)))) 156 2 0)) : bf_M_tellsBy (d + 1) n b h (bc_B P N) := by
  refine rv_M_tellsBy ?_
  unfold bs_gd at hK
  by_cases z : n < b
  · rw [if_pos z] at hK
    have m1 := bs_emod (x := n) (y := b) n0 b0
    refine rv_M_tellsBy_4 ⟨fun q => absurd q (by omega), fun _ => ⟨by omega, ?_⟩⟩
    rw [m1.2.2, Int.emod_eq_of_lt n0 z]
    exact bc_m_tellL 49 b n n0 z (by rw [bs_p49]; exact b1) (fun _ => hK)
  · rw [if_neg z] at hK
    by_cases z2 : n = b
    · rw [if_pos z2] at hK
      subst z2
      have m1 := bs_emod (x := n) (y := n) n0 b0
      refine rv_M_tellsBy_4 ⟨fun q => absurd q (by omega), fun _ => ⟨by omega, ?_⟩⟩
      rw [m1.2.2, Int.emod_self]
      exact rv_M_tellsBy_4 ⟨fun _ => ⟨by omega, by omega, hK⟩, fun q => absurd rfl q⟩
    · rw [if_neg z2] at hK
      exact bc_m_tellL 49 n b (by omega) (by omega) (by rw [bs_p49]; exact n1) (fun _ => hK)
/-- a new fraction, told by both -/
theorem bs_R_fr {S : Int → Int} {L c s p q : Int} {h : bc_H} (hR : bs_R S L c s p q h) {h' : bc_H} (hF : ∀ a b, bs_keep s q a b → (a ≠ 0 ∨ (b ≠ 1 ∧ b ≠ 2)) → (a ≠ 156 ∨ (b ≠ 3 ∧ b ≠ 4)) → h' a b = h a b) (hs : h' 0 0 = h' 156 2) (hf : h' 0 1 = h' 156 3 ∧ h' 0 2 = h' 156 4) : bs_R S L c s p q h' := by
  have hd := hR.1
  let g : bc_H := bc_upd (bc_upd (bc_upd (bc_upd h' 0 1 (h 0 1)) 0 2 (h 0 2)) 156 3 (h 156 3)) 156 4 (h 156 4)
  have gd : g = bc_upd (bc_upd (bc_upd (bc_upd h' 0 1 (h 0 1)) 0 2 (h 0 2)) 156 3 (h 156 3)) 156 4 (h 156 4) := rfl
  have hg : bs_R S L c s p q g := by
    refine bs_R_F hR (fun a b k => ?_) ?_
    · by_cases e1 : a = 0 ∧ b = 1
      · obtain ⟨rfl, rfl⟩ := e1; rw [gd, bc_ur (by decide), bc_ur (by decide), bc_uj (by decide), bc_uu]
      · by_cases e2 : a = 0 ∧ b = 2
        · obtain ⟨rfl, rfl⟩ := e2; rw [gd, bc_ur (by decide), bc_ur (by decide), bc_uu]
        · by_cases e3 : a = 156 ∧ b = 3
          · obtain ⟨rfl, rfl⟩ := e3; rw [gd, bc_uj (by decide), bc_uu]
          · by_cases e4 : a = 156 ∧ b = 4
            · obtain ⟨rfl, rfl⟩ := e4; rw [gd, bc_uu]
            · rw [gd, bc_un2 (by omega), bc_un2 (by omega), bc_un2 (by omega), bc_un2 (by omega)]
              exact hF a b k (by omega) (by omega)
    · rw [gd, bc_ur (by decide), bc_ur (by decide), bc_uj (by decide), bc_uj (by decide), bc_uj (by decide), bc_uj (by decide), bc_ur (by decide), bc_ur (by decide)]; exact hs
  have go : ∀ a b, (a ≠ 0 ∨ (b ≠ 1 ∧ b ≠ 2)) → (a ≠ 156 ∨ (b ≠ 3 ∧ b ≠ 4)) → h' a b = g a b := fun a b k1 k2 => by rw [gd, bc_un2 (by omega), bc_un2 (by omega), bc_un2 (by omega), bc_un2 (by omega)]
  obtain ⟨r1, r2, r3, r4, r5, r6, r7, r8, r9, r10, r11, ⟨m1, m2, m3, m4⟩, r13⟩ := hg
  have row : ∀ a, a ≠ 0 → a ≠ 156 → h' a = g a := fun a k1 k2 => funext fun b => go a b (Or.inl k1) (Or.inl k2)
  refine ⟨r1, ?_, ?_, hs, hf, ?_, ?_, ?_, ?_, ?_, ?_, ⟨?_, ?_, ?_, fun i i0 i1 => ?_⟩, ?_⟩
  · rw [go 0 12 (by omega) (by omega), go 0 13 (by omega) (by omega), go 0 14 (by omega) (by omega), go 0 15 (by omega) (by omega)]; exact r2
  · rw [row (-2) (by omega) (by omega), row (-3) (by omega) (by omega)]; exact r3
  · rw [row 3 (by omega) (by omega), row 4 (by omega) (by omega), row 5 (by omega) (by omega), row 159 (by omega) (by omega), row 160 (by omega) (by omega), row 161 (by omega) (by omega)]; exact r6
  · rw [row 6 (by omega) (by omega), go 156 10 (by omega) (by omega), row 7 (by omega) (by omega), row 162 (by omega) (by omega)]; exact r7
  · rw [row 6 (by omega) (by omega), go 156 16 (by omega) (by omega), go 156 17 (by omega) (by omega)]; exact r8
  · rw [go 0 3 (by omega) (by omega), go 156 48 (by omega) (by omega), row 1 (by omega) (by omega), row 184 (by omega) (by omega)]; exact r9
  · rw [row 13 (by omega) (by omega), row 182 (by omega) (by omega)]; exact r10
  · rw [row 8 (by omega) (by omega)]; exact r11
  · rw [go 0 16 (by omega) (by omega), go 156 49 (by omega) (by omega)]; exact m1
  · rw [go 0 16 (by omega) (by omega)]; exact m2
  · rw [row 76 (by omega) (by omega), row 77 (by omega) (by omega)]; exact m3
  · rw [go 0 16 (by omega) (by omega)] at i1
    rw [row 157 (by omega) (by omega), row 158 (by omega) (by omega)]
    exact bs_Cave_h (fun a b hab => go a b (by omega) (by omega)) (fun _ _ _ => rfl) (fun _ _ _ => rfl) (m4 i i0 i1)
  · rw [row 157 (by omega) (by omega), row 158 (by omega) (by omega)]
    exact bs_Cave_h (fun a b hab => go a b (by omega) (by omega)) (fun _ _ _ => rfl) (fun _ _ _ => rfl) r13
