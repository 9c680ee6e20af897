/-! ===== before the first call ===== -/
theorem bs_hB0 : bc_hB 0 12 = 24 ∧ bc_hB 0 13 = 44 ∧ bc_hB 0 14 = 64 ∧ bc_hB 0 15 = 70 ∧ bc_hB 0 0 = bc_hB 156 2 ∧ bc_hB 0 1 = bc_hB 156 3 ∧ bc_hB 0 2 = bc_hB 156 4 ∧ bc_hB 6 0 = 0 ∧ bc_hB 156 10 = 0 ∧ bc_hB 6 1 = bc_hB 156 16 ∧ bc_hB 6 2 = bc_hB 156 17 ∧ bc_hB 0 3 = bc_hB 156 48 ∧ bc_hB 0 3 = 0 ∧ bc_hB 0 16 = 0 ∧ bc_hB 156 49 = 0 := by decide +kernel
theorem bs_hB1 : (∀ i : Nat, i < 5 → bc_hB 1 (i : Int) = bc_hB 184 (i : Int)) ∧ (∀ i : Nat, i < 4 → bc_hB 3 (i : Int) = -1 ∧ bc_hB 4 (i : Int) = 0 ∧ bc_hB 160 (i : Int) = -1) ∧ (∀ i : Nat, i < 60 → (0 ≤ bc_hB 182 (i : Int) ∧ bc_hB 182 (i : Int) ≤ 98) ∧ (bc_hB 13 (i : Int) = bc_hB 182 (i : Int) + 1 ∨ (bc_hB 13 (i : Int) = 0 ∧ bc_hB 182 (i : Int) = 0))) ∧ ∀ i : Nat, i < 3 → bc_hB 76 (i : Int) = 78 + 26 * (i : Int) ∧ bc_hB 77 (i : Int) = 98 + 26 * (i : Int) := by decide +kernel
theorem bs_hB2 : (bc_hB 157 0 = 0 ∧ bc_hB 157 1 = 0 ∧ bc_hB 157 2 = 0 ∧ bc_hB 157 3 = 0 ∧ bc_hB 157 4 = 60 ∧ bc_hB 157 5 = 4 ∧ bc_hB 157 6 = 0 ∧ bc_hB 157 7 = 0 ∧ bc_hB 157 8 = -1) ∧ (bc_hB 24 0 = 60 ∧ bc_hB 24 1 = 4 ∧ bc_hB 24 2 = 0 ∧ bc_hB 24 3 = 0 ∧ bc_hB 24 11 = 0 ∧ bc_hB 25 0 = 0 ∧ bc_hB 27 0 = 0 ∧ bc_hB 32 0 = 0) ∧ bc_hB 64 0 = 0 ∧ bc_hB 64 2 = 0 := by decide +kernel
theorem bs_R_init {h : bc_H} {L : Nat} (hI : bc_Init h L) : bs_R (h (-2)) (L : Int) 24 44 64 70 h := by
  obtain ⟨hb, hL, _, _⟩ := hI
  obtain ⟨a1, a2, a3, a4, a5, a6, a7, a8, a9, a10, a11, a12, a13, a14, a15⟩ := bs_hB0
  obtain ⟨b1, b2, b3, b4⟩ := bs_hB1
  obtain ⟨⟨c0, c1, c2, c3, c4, c5, c6, c7, c8⟩, ⟨d0, d1, d2, d3, d11, d25, d27, d32⟩, e0, e2⟩ := bs_hB2
  have v : ∀ a b, 0 ≤ a → h a b = bc_hB a b := hb
  have nat : ∀ {k m : Int}, 0 ≤ k → k < m → ∃ i : Nat, k = (i : Int) ∧ (i : Int) < m := fun {k m} k0 k1 => ⟨k.toNat, by omega, by omega⟩
  have A0 := v 157 0 (by decide)
  have A1 := v 157 1 (by decide)
  have A2 := v 157 2 (by decide)
  have A3 := v 157 3 (by decide)
  have A4 := v 157 4 (by decide)
  have A5 := v 157 5 (by decide)
  have A6 := v 157 6 (by decide)
  have A7 := v 157 7 (by decide)
  have A8 := v 157 8 (by decide)
  have D0 := v 24 0 (by decide)
  have D1 := v 24 1 (by decide)
  have D2 := v 24 2 (by decide)
  have D3 := v 24 3 (by decide)
  have D11 := v 24 11 (by decide)
  have D25 := v 25 0 (by decide)
  have D27 := v 27 0 (by decide)
  have D32 := v 32 0 (by decide)
  have P0 := v 64 0 (by decide)
  have P2 := v 64 2 (by decide)
  rw [c0] at A0
  rw [c1] at A1
  rw [c2] at A2
  rw [c3] at A3
  rw [c4] at A4
  rw [c5] at A5
  rw [c6] at A6
  rw [c7] at A7
  rw [c8] at A8
  rw [d0] at D0
  rw [d1] at D1
  rw [d2] at D2
  rw [d3] at D3
  rw [d11] at D11
  rw [d25] at D25
  rw [d27] at D27
  rw [d32] at D32
  rw [e0] at P0
  rw [e2] at P2
  refine ⟨⟨Or.inl ⟨rfl, rfl⟩, Or.inl ⟨rfl, rfl⟩⟩, ⟨by rw [v 0 12 (by decide)]; exact a1, by rw [v 0 13 (by decide)]; exact a2, by rw [v 0 14 (by decide)]; exact a3, by rw [v 0 15 (by decide)]; exact a4⟩, ⟨rfl, hL⟩, by rw [v 0 0 (by decide), v 156 2 (by decide)]; exact a5, ⟨by rw [v 0 1 (by decide), v 156 3 (by decide)]; exact a6, by rw [v 0 2 (by decide), v 156 4 (by decide)]; exact a7⟩, fun t t0 t1 => ?_, ⟨by rw [v 6 0 (by decide), v 156 10 (by decide), a8, a9], by rw [v 6 0 (by decide), a8]; decide, fun k k0 k1 => ?_⟩, ⟨by rw [v 6 1 (by decide), v 156 16 (by decide)]; exact a10, by rw [v 6 2 (by decide), v 156 17 (by decide)]; exact a11⟩, ⟨by rw [v 0 3 (by decide), v 156 48 (by decide)]; exact a12, Or.inl (by rw [v 0 3 (by decide)]; exact a13), fun i i0 i1 => ?_⟩, fun k k0 k1 => ?_, fun i i0 i1 => v 8 i (by decide), ⟨by rw [v 0 16 (by decide), v 156 49 (by decide), a14, a15], by rw [v 0 16 (by decide), a14]; decide, fun i i0 i1 => ?_, fun i i0 i1 => ?_⟩, ?_⟩
  · obtain ⟨i, rfl, hi⟩ := nat t0 t1
    rw [v 3 _ (by decide), v 4 _ (by decide), v 160 _ (by decide)]
    exact Or.inl (b2 i (by omega))
  · rw [v 6 0 (by decide), a8] at k1; exact absurd k1 (by omega)
  · obtain ⟨i, rfl, hi⟩ := nat i0 i1
    rw [v 1 _ (by decide), v 184 _ (by decide)]
    exact b1 i (by omega)
  · obtain ⟨i, rfl, hi⟩ := nat k0 k1
    rw [v 182 _ (by decide), v 13 _ (by decide)]
    exact b3 i (by omega)
  · obtain ⟨i, rfl, hi⟩ := nat i0 i1
    rw [v 76 _ (by decide), v 77 _ (by decide)]
    exact b4 i (by omega)
  · rw [v 0 16 (by decide), a14] at i1; exact absurd i1 (by omega)
  · refine ⟨⟨⟨by rw [D0, A4], by rw [D1, A5], by rw [D2, A6], by rw [D3, A2], by show h 25 0 = _; rw [D25, A0], by show h 27 0 = _; rw [D27, A1], by show h 32 0 = _; rw [D32, A3]⟩, fun w w0 w1 => by exfalso; omega, fun a b a0 a1 => by exfalso; omega, fun a b a0 a1 => by exfalso; omega, fun f f0 f1 => by exfalso; omega, fun u u0 u1 => by exfalso; omega⟩, ⟨⟨by omega, by omega, by omega, by omega, by omega, by omega, by omega⟩, fun w w0 w1 => by exfalso; omega, fun k k0 k1 => by exfalso; omega, fun u u0 u1 => by exfalso; omega, fun f f0 f1 => by exfalso; omega, fun a b a0 a1 => by exfalso; omega⟩, by omega, ⟨by omega, fun l hl => ?_⟩, ⟨by rw [P2]; decide, Or.inl ⟨P0, A8⟩⟩⟩
    rw [D11]
    have cn : ∀ K, bs_cn 0 (h (24 + 17)) (h (24 + 18)) (h (24 + 19)) K (bs_c32 l) = -1 := fun K => by
      unfold bs_cn
      rw [if_pos (bs_fst_0 _ (by omega))]
    have rn : ∀ off x, x ≤ 0 → bs_rn (h 158) off x (bs_c256 l) = -1 := fun off x hx => by unfold bs_rn; exact bs_fst_0 _ hx
    rw [cn, cn, cn, cn, rn _ _ (by omega), rn _ _ (by omega), rn _ _ (by omega), rn _ _ (by omega)]
    refine ⟨⟨rfl, rfl, rfl, rfl⟩, ⟨fun u => absurd (bs_fst_0 _ (by omega)) u, fun u => ?_⟩⟩
    rcases u with u | u | u | u <;> exact absurd rfl u
