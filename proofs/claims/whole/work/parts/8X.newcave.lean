/-! ===== a cave that is being told ===== -/
def bs_NwC (m : bc_H) (c : Int) (B : Int → Int) : Prop := m c 0 = B 4 ∧ m c 1 = B 5 ∧ m c 2 = B 6 ∧ m c 3 = B 2 ∧ m (c + 1) 0 = B 0 ∧ m (c + 3) 0 = B 1 ∧ m (c + 3) 1 = B 7 ∧ m (c + 8) 0 = B 3
def bs_NwG (m : bc_H) (c : Int) (B : Int → Int) : Prop := ∀ a b, 0 ≤ a → a < 5 → 0 ≤ b → b < 5 → m (c + 1 + 1) (a * 5 + b) = B (134 + 5 * a + b) ∧ 0 ≤ B (134 + 5 * a + b) ∧ B (134 + 5 * a + b) ≤ 9
def bs_NwD (m : bc_H) (c : Int) (B : Int → Int) : Prop := ∀ a b, 0 ≤ a → a < 7 → 0 ≤ b → b < 7 → m (c + 3 + 3) (a * 7 + b) = if bs_way B a b < 1000000 then bs_way B a b else 0
def bs_NwZ (B : Int → Int) : Prop := (∀ f, B 3 ≤ f → f < 8 → B (102 + 4 * f + 3) = 0) ∧ (∀ v, B 2 ≤ v → v < 6 → B (54 + 8 * v + 2) = 0 ∧ (∀ b, 0 ≤ b → b < 5 → B (54 + 8 * v + (3 + b)) = 0)) ∧ ∀ w, B 1 ≤ w → w < 7 → B (10 + 2 * w + 1) = 0
def bs_Nw (m : bc_H) (c : Int) (B NM : Int → Int) : Prop := bs_NwC m c B ∧ (B 6 = 0 ∧ B 8 = -1) ∧ bs_Cw m c B ∧ bs_Cf m c B ∧ bs_Cm m c B ∧ bs_NwG m c B ∧ bs_NwD m c B ∧ bs_NwZ B ∧ bs_W B ∧ bs_Nm (m c 11) (m (c + 17)) (m (c + 18)) (m (c + 19)) B NM
/-- names, by the reference's places that count -/
theorem bs_Nm_eq {n n' : Int} {co ki nu co' ki' nu' B NM B' NM' : Int → Int} (hW : bs_W B) (e : n' = n) (e1 : co' = co) (e2 : ki' = ki) (e3 : nu' = nu) (b : ∀ k, 0 ≤ k → k < 4 → B' k = B k) (en : ∀ k, 0 ≤ k → k < 26 → NM' k = NM k) (h : bs_Nm n co ki nu B NM) : bs_Nm n' co' ki' nu' B' NM' := by
  subst e; subst e1; subst e2; subst e3
  exact bs_Nm_A hW (b 0 (by omega) (by omega)) (b 1 (by omega) (by omega)) (b 2 (by omega) (by omega)) (b 3 (by omega) (by omega)) en h
/-- the rows of m' that are as those of m; x0, x1 are special -/
def bs_Re (m m' : bc_H) (c x0 x1 : Int) : Prop := ∀ x, c < x → x < c + 17 → x ≠ x0 → x ≠ x1 → m' x = m x
theorem bs_Cw_e {m m' : bc_H} {c : Int} {B B' : Int → Int} (b7 : B 1 ≤ 7) (r1 : m' (c + 3 + 1) = m (c + 3 + 1)) (r2 : m' (c + 3 + 2) = m (c + 3 + 2)) (e1 : B' 1 = B 1) (e : ∀ k, 10 ≤ k → k < 24 → B' k = B k) (h : bs_Cw m c B) : bs_Cw m' c B' := bs_Cw_p b7 r1 r2 e1 e h
theorem bs_Cf_e {m m' : bc_H} {c : Int} {B B' : Int → Int} (b8 : B 3 ≤ 8) (r1 : m' (c + 8 + 1) = m (c + 8 + 1)) (r2 : m' (c + 8 + 2) = m (c + 8 + 2)) (r3 : m' (c + 8 + 3) = m (c + 8 + 3)) (r4 : m' (c + 8 + 4) = m (c + 8 + 4)) (e3 : B' 3 = B 3) (e : ∀ k, 102 ≤ k → k < 134 → B' k = B k) (h : bs_Cf m c B) : bs_Cf m' c B' := fun f f0 f1 => by
  rw [e3] at f1
  rw [r1, r2, r3, r4, e _ (by omega) (by omega), e _ (by omega) (by omega), e _ (by omega) (by omega), e _ (by omega) (by omega)]
  exact h f f0 f1
theorem bs_Cm_e {m m' : bc_H} {c : Int} {B B' : Int → Int} (b6 : B 2 ≤ 6) (r3 : m' (c + 13) = m (c + 13)) (r4 : m' (c + 14) = m (c + 14)) (r5 : m' (c + 15) = m (c + 15)) (r6 : m' (c + 16) = m (c + 16)) (e2 : B' 2 = B 2) (e : ∀ k, 54 ≤ k → k < 102 → B' k = B k) (h : bs_Cm m c B) : bs_Cm m' c B' := fun v v0 v1 => by
  rw [e2] at v1
  have q := h v v0 v1
  rw [r3, r4, r5, r6, e _ (by omega) (by omega), e _ (by omega) (by omega), e _ (by omega) (by omega)]
  refine ⟨q.1, q.2.1, q.2.2.1, fun b b0 b5 => ?_⟩
  rw [e _ (by omega) (by omega)]; exact q.2.2.2 b b0 b5
theorem bs_NwG_e {m m' : bc_H} {c : Int} {B B' : Int → Int} (r : m' (c + 1 + 1) = m (c + 1 + 1)) (e : ∀ k, 134 ≤ k → k < 160 → B' k = B k) (h : bs_NwG m c B) : bs_NwG m' c B' := fun a b a0 a1 b0 b1 => by
  rw [r, e _ (by omega) (by omega)]; exact h a b a0 a1 b0 b1
theorem bs_way_e {B B' : Int → Int} (b7 : 0 ≤ B 7 ∧ B 7 ≤ 10) (e7 : B' 7 = B 7) (e : ∀ k, 24 ≤ k → k < 54 → B' k = B k) (a b : Int) : bs_way B' a b = bs_way B a b := by
  unfold bs_way
  rw [e7]
  refine bc_it_congr (fun i x i0 i1 => ?_)
  unfold bs_wayf
  rw [e _ (by omega) (by omega), e _ (by omega) (by omega), e _ (by omega) (by omega)]
theorem bs_NwD_e {m m' : bc_H} {c : Int} {B B' : Int → Int} (b7 : 0 ≤ B 7 ∧ B 7 ≤ 10) (r : m' (c + 3 + 3) = m (c + 3 + 3)) (e7 : B' 7 = B 7) (e : ∀ k, 24 ≤ k → k < 54 → B' k = B k) (h : bs_NwD m c B) : bs_NwD m' c B' := fun a b a0 a1 b0 b1 => by
  rw [r, bs_way_e b7 e7 e]; exact h a b a0 a1 b0 b1
theorem bs_NwZ_e {B B' : Int → Int} (h0 : 0 ≤ B 2 ∧ 0 ≤ B 3 ∧ 0 ≤ B 1) (e1 : B' 1 = B 1) (e2 : B' 2 = B 2) (e3 : B' 3 = B 3) (e : ∀ k, (10 ≤ k ∧ k < 24) ∨ (54 ≤ k ∧ k < 134) → B' k = B k) (h : bs_NwZ B) : bs_NwZ B' := ⟨fun f f0 f1 => by rw [e3] at f0; rw [e _ (by omega)]; exact h.1 f f0 f1, fun v v0 v1 => by
  rw [e2] at v0
  rw [e _ (by omega)]
  refine ⟨(h.2.1 v v0 v1).1, fun b b0 b5 => ?_⟩
  rw [e _ (by omega)]; exact (h.2.1 v v0 v1).2 b b0 b5, fun w w0 w1 => by rw [e1] at w0; rw [e _ (by omega)]; exact h.2.2 w w0 w1⟩
theorem bs_Nm_new {m m' : bc_H} {c K i off : Int} {B NM B' NM' : Int → Int} {l : List Int} (hN : bs_Nm (m c 11) (m (c + 17)) (m (c + 18)) (m (c + 19)) B NM) (hk : bs_kd K i off) (b0 : 0 ≤ B 0 ∧ B 0 ≤ 5) (b1 : 0 ≤ B 1 ∧ B 1 ≤ 7) (b2 : 0 ≤ B 2 ∧ B 2 ≤ 6) (b3 : 0 ≤ B 3 ∧ B 3 ≤ 8) (room : B i < (if i = 0 then 5 else if i = 1 then 7 else if i = 2 then 6 else 8)) (hl : bs_word l) (fresh : bs_fst (fun i => m (c + 17) i = bs_c32 l) (m c 11) = -1) (en : m' c 11 = m c 11 + 1) (e17 : m' (c + 17) = bc_set (m (c + 17)) (m c 11) (bs_c32 l)) (e18 : m' (c + 18) = bc_set (m (c + 18)) (m c 11) K) (e19 : m' (c + 19) = bc_set (m (c + 19)) (m c 11) (B i)) (eB : ∀ j, 0 ≤ j → j < 4 → B' j = bc_set B i (B i + 1) j) (eN : ∀ k, 0 ≤ k → k < 26 → NM' k = bc_set NM (off + B i) (bs_c256 l) k) : bs_Nm (m' c 11) (m' (c + 17)) (m' (c + 18)) (m' (c + 19)) B' NM' := by
  obtain ⟨t1, t2⟩ := bs_Nm_add hN hk b0 b1 b2 b3 (by omega) hl fresh eB
  rw [en, e17, e18, e19]
  refine ⟨t1, fun l' hl' => ?_⟩
  have q := t2 l' hl'
  have c0 := eB 0 (by omega) (by omega)
  have c1 := eB 1 (by omega) (by omega)
  have c2 := eB 2 (by omega) (by omega)
  have c3 := eB 3 (by omega) (by omega)
  have bd : B' 0 ≤ 5 ∧ B' 1 ≤ 7 ∧ B' 2 ≤ 6 ∧ B' 3 ≤ 8 := by
    rcases hk with ⟨rfl, rfl, rfl⟩ | ⟨rfl, rfl, rfl⟩ | ⟨rfl, rfl, rfl⟩ | ⟨rfl, rfl, rfl⟩
    · rw [bc_setj] at c0; rw [bc_setn (by decide)] at c1 c2 c3; rw [if_pos rfl] at room; omega
    · rw [bc_setj] at c1; rw [bc_setn (by decide)] at c0 c2 c3; rw [if_neg (by decide), if_pos rfl] at room; omega
    · rw [bc_setj] at c2; rw [bc_setn (by decide)] at c0 c1 c3; rw [if_neg (by decide), if_neg (by decide), if_pos rfl] at room; omega
    · rw [bc_setj] at c3; rw [bc_setn (by decide)] at c0 c1 c2; rw [if_neg (by decide), if_neg (by decide), if_neg (by decide)] at room; omega
  rw [bs_rn_A (NM' := NM') (NM := bc_set NM (off + B i) (bs_c256 l)) (off := 0) (fun k k0 k1' => by rw [eN (0 + k) (by omega) (by omega)]), bs_rn_A (NM' := NM') (NM := bc_set NM (off + B i) (bs_c256 l)) (off := 5) (fun k k0 k1' => by rw [eN (5 + k) (by omega) (by omega)]), bs_rn_A (NM' := NM') (NM := bc_set NM (off + B i) (bs_c256 l)) (off := 12) (fun k k0 k1' => by rw [eN (12 + k) (by omega) (by omega)]), bs_rn_A (NM' := NM') (NM := bc_set NM (off + B i) (bs_c256 l)) (off := 18) (fun k k0 k1' => by rw [eN (18 + k) (by omega) (by omega)])]
  exact q
theorem bs_Nw_beast {m m' : bc_H} {c : Int} {B NM B' NM' : Int → Int} {l : List Int} (h : bs_Nw m c B NM) (room : B 0 < 5) (hl : bs_word l) (fresh : bs_fst (fun i => m (c + 17) i = bs_c32 l) (m c 11) = -1) (e : bs_Re m m' c (c + 1) (c + 1)) (ec : ∀ y, y ≠ 11 → m' c y = m c y) (e1 : m' (c + 1) 0 = m (c + 1) 0 + 1) (en : m' c 11 = m c 11 + 1) (e17 : m' (c + 17) = bc_set (m (c + 17)) (m c 11) (bs_c32 l)) (e18 : m' (c + 18) = bc_set (m (c + 18)) (m c 11) 2) (e19 : m' (c + 19) = bc_set (m (c + 19)) (m c 11) (m (c + 1) 0)) (eB : ∀ k, 0 ≤ k → k < 160 → B' k = bc_set B 0 (B 0 + 1) k) (eN : ∀ k, 0 ≤ k → k < 26 → NM' k = bc_set NM (0 + B 0) (bs_c256 l) k) : bs_Nw m' c B' NM' := by
  obtain ⟨⟨k0, k1, k2, k3, k4, k5, k6, k7⟩, ⟨z6, z8⟩, hw, hf, hm, hg, hd, hz, hW, hN⟩ := h
  have hW' := hW
  obtain ⟨⟨w0, w1, w2, w3, w4, w5, w7⟩, hww, hwy, hwv, hwf, hwg⟩ := hW'
  have b : ∀ k, 1 ≤ k → k < 160 → B' k = B k := fun k a c' => by rw [eB k (by omega) c', bc_setn (by omega)]
  have b0 : B' 0 = B 0 + 1 := by rw [eB 0 (by omega) (by omega), bc_setj]
  have r : ∀ x, c < x → x < c + 17 → x ≠ c + 1 → m' x = m x := fun x a b c' => e x a b c' c'
  refine ⟨⟨by rw [ec 0 (by decide), b 4 (by omega) (by omega)]; exact k0, by rw [ec 1 (by decide), b 5 (by omega) (by omega)]; exact k1, by rw [ec 2 (by decide), b 6 (by omega) (by omega)]; exact k2, by rw [ec 3 (by decide), b 2 (by omega) (by omega)]; exact k3, by rw [e1, b0, k4], by rw [r (c + 3) (by omega) (by omega) (by omega), b 1 (by omega) (by omega)]; exact k5, by rw [r (c + 3) (by omega) (by omega) (by omega), b 7 (by omega) (by omega)]; exact k6, by rw [r (c + 8) (by omega) (by omega) (by omega), b 3 (by omega) (by omega)]; exact k7⟩, ⟨by rw [b 6 (by omega) (by omega)]; exact z6, by rw [b 8 (by omega) (by omega)]; exact z8⟩, bs_Cw_e w1.2 (r _ (by omega) (by omega) (by omega)) (r _ (by omega) (by omega) (by omega)) (b 1 (by omega) (by omega)) (fun k a c' => b k (by omega) (by omega)) hw, bs_Cf_e w3.2 (r _ (by omega) (by omega) (by omega)) (r _ (by omega) (by omega) (by omega)) (r _ (by omega) (by omega) (by omega)) (r _ (by omega) (by omega) (by omega)) (b 3 (by omega) (by omega)) (fun k a c' => b k (by omega) (by omega)) hf, bs_Cm_e w2.2 (r _ (by omega) (by omega) (by omega)) (r _ (by omega) (by omega) (by omega)) (r _ (by omega) (by omega) (by omega)) (r _ (by omega) (by omega) (by omega)) (b 2 (by omega) (by omega)) (fun k a c' => b k (by omega) (by omega)) hm, bs_NwG_e (r _ (by omega) (by omega) (by omega)) (fun k a c' => b k (by omega) (by omega)) hg, bs_NwD_e w7 (r _ (by omega) (by omega) (by omega)) (b 7 (by omega) (by omega)) (fun k a c' => b k (by omega) (by omega)) hd, bs_NwZ_e ⟨w2.1, w3.1, w1.1⟩ (b 1 (by omega) (by omega)) (b 2 (by omega) (by omega)) (b 3 (by omega) (by omega)) (fun k a => b k (by omega) (by omega)) hz, ?_, bs_Nm_new hN (Or.inl ⟨rfl, rfl, rfl⟩) w0 w1 w2 w3 (by rw [if_pos rfl]; exact room) hl fresh en e17 e18 (by rw [e19, k4]) (fun j j0 j1 => eB j j0 (by omega)) eN⟩
  · refine ⟨?_, fun w u0 u1 => ?_, bs_WY_p w7.2 ⟨b 1 (by omega) (by omega), b 7 (by omega) (by omega), fun k a c' => b k (by omega) (by omega)⟩ hwy, fun v u0 u1 => ?_, fun f u0 u1 => ?_, fun x y x0 x1 y0 y1 => ?_⟩
    · rw [b0, b 1 (by omega) (by omega), b 2 (by omega) (by omega), b 3 (by omega) (by omega), b 4 (by omega) (by omega), b 5 (by omega) (by omega), b 7 (by omega) (by omega)]
      exact ⟨by omega, w1, w2, w3, w4, w5, w7⟩
    · rw [b 1 (by omega) (by omega)] at u1
      have q := hww w u0 u1
      rw [b (10 + 2 * w) (by omega) (by omega), b (10 + 2 * w + 1) (by omega) (by omega), b0]
      exact ⟨by omega, q.2⟩
    · rw [b 2 (by omega) (by omega)] at u1
      have q := hwv v u0 u1
      rw [b (54 + 8 * v) (by omega) (by omega), b (54 + 8 * v + 1) (by omega) (by omega), b (54 + 8 * v + 2) (by omega) (by omega), b 1 (by omega) (by omega), b0]
      refine ⟨q.1, q.2.1, q.2.2.1, fun j j0 j5 => ?_⟩
      rw [b (54 + 8 * v + (3 + j)) (by omega) (by omega)]
      have qq := q.2.2.2 j j0 j5
      exact ⟨qq.1, fun z => qq.2 (by omega)⟩
    · rw [b 3 (by omega) (by omega)] at u1
      have q := hwf f u0 u1
      rw [b (102 + 4 * f) (by omega) (by omega), b (102 + 4 * f + 1) (by omega) (by omega), b (102 + 4 * f + 2) (by omega) (by omega), b (102 + 4 * f + 3) (by omega) (by omega), b0, b 3 (by omega) (by omega)]
      exact ⟨by omega, q.2⟩
    · rw [b0] at x1 y1
      rw [b (134 + 5 * x + y) (by omega) (by omega)]
      exact (hg x y x0 (by omega) y0 (by omega)).2
theorem bs_Nw_wall {m m' : bc_H} {c be pu : Int} {B NM B' NM' : Int → Int} {l : List Int} (h : bs_Nw m c B NM) (room : B 1 < 7) (hl : bs_word l) (fresh : bs_fst (fun i => m (c + 17) i = bs_c32 l) (m c 11) = -1) (hb : (be = -1 ∧ pu = 0) ∨ (0 ≤ be ∧ be < B 0 ∧ 1 ≤ pu ∧ pu ≤ 9)) (e : ∀ x, c < x → x < c + 17 → x ≠ c + 3 → x ≠ c + 3 + 1 → x ≠ c + 3 + 2 → m' x = m x) (ec : ∀ y, y ≠ 11 → m' c y = m c y) (e30 : m' (c + 3) 0 = m (c + 3) 0 + 1) (e31 : m' (c + 3) 1 = m (c + 3) 1) (e4 : m' (c + 3 + 1) = bc_set (m (c + 3 + 1)) (m (c + 3) 0) be) (e5 : m' (c + 3 + 2) = bc_set (m (c + 3 + 2)) (m (c + 3) 0) pu) (en : m' c 11 = m c 11 + 1) (e17 : m' (c + 17) = bc_set (m (c + 17)) (m c 11) (bs_c32 l)) (e18 : m' (c + 18) = bc_set (m (c + 18)) (m c 11) 3) (e19 : m' (c + 19) = bc_set (m (c + 19)) (m c 11) (m (c + 3) 0)) (eB : ∀ k, 0 ≤ k → k < 160 → k ≠ 10 + 2 * B 1 → k ≠ 10 + 2 * B 1 + 1 → B' k = bc_set B 1 (B 1 + 1) k) (eb : B' (10 + 2 * B 1) = be) (ep : B' (10 + 2 * B 1 + 1) = pu) (eN : ∀ k, 0 ≤ k → k < 26 → NM' k = bc_set NM (5 + B 1) (bs_c256 l) k) : bs_Nw m' c B' NM' := by
  obtain ⟨⟨k0, k1, k2, k3, k4, k5, k6, k7⟩, ⟨z6, z8⟩, hw, hf, hm, hg, hd, hz, hW, hN⟩ := h
  have hW' := hW
  obtain ⟨⟨w0, w1, w2, w3, w4, w5, w7⟩, hww, hwy, hwv, hwf, hwg⟩ := hW'
  have b : ∀ k, 0 ≤ k → k < 160 → k ≠ 1 → k ≠ 10 + 2 * B 1 → k ≠ 10 + 2 * B 1 + 1 → B' k = B k := fun k a c' d1 d2 d3 => by rw [eB k a c' d2 d3, bc_setn d1]
  have b1 : B' 1 = B 1 + 1 := by rw [eB 1 (by omega) (by omega) (by omega) (by omega), bc_setj]
  have r : ∀ x, c < x → x < c + 17 → x ≠ c + 3 → x ≠ c + 3 + 1 → x ≠ c + 3 + 2 → m' x = m x := e
  have c0 : B' 0 = B 0 := b 0 (by omega) (by omega) (by omega) (by omega) (by omega)
  have c2 : B' 2 = B 2 := b 2 (by omega) (by omega) (by omega) (by omega) (by omega)
  have c3 : B' 3 = B 3 := b 3 (by omega) (by omega) (by omega) (by omega) (by omega)
  have c4 : B' 4 = B 4 := b 4 (by omega) (by omega) (by omega) (by omega) (by omega)
  have c5 : B' 5 = B 5 := b 5 (by omega) (by omega) (by omega) (by omega) (by omega)
  have c6 : B' 6 = B 6 := b 6 (by omega) (by omega) (by omega) (by omega) (by omega)
  have c7 : B' 7 = B 7 := b 7 (by omega) (by omega) (by omega) (by omega) (by omega)
  have c8 : B' 8 = B 8 := b 8 (by omega) (by omega) (by omega) (by omega) (by omega)
  have hi : ∀ k, 24 ≤ k → k < 160 → B' k = B k := fun k a a' => b k (by omega) a' (by omega) (by omega) (by omega)
  refine ⟨⟨by rw [ec 0 (by decide), c4]; exact k0, by rw [ec 1 (by decide), c5]; exact k1, by rw [ec 2 (by decide), c6]; exact k2, by rw [ec 3 (by decide), c2]; exact k3, by rw [r (c + 1) (by omega) (by omega) (by omega) (by omega) (by omega), c0]; exact k4, by rw [e30, b1, k5], by rw [e31, c7]; exact k6, by rw [r (c + 8) (by omega) (by omega) (by omega) (by omega) (by omega), c3]; exact k7⟩, ⟨by rw [c6]; exact z6, by rw [c8]; exact z8⟩, ?_, bs_Cf_e w3.2 (r _ (by omega) (by omega) (by omega) (by omega) (by omega)) (r _ (by omega) (by omega) (by omega) (by omega) (by omega)) (r _ (by omega) (by omega) (by omega) (by omega) (by omega)) (r _ (by omega) (by omega) (by omega) (by omega) (by omega)) c3 (fun k a a' => hi k (by omega) (by omega)) hf, bs_Cm_e w2.2 (r _ (by omega) (by omega) (by omega) (by omega) (by omega)) (r _ (by omega) (by omega) (by omega) (by omega) (by omega)) (r _ (by omega) (by omega) (by omega) (by omega) (by omega)) (r _ (by omega) (by omega) (by omega) (by omega) (by omega)) c2 (fun k a a' => hi k (by omega) (by omega)) hm, bs_NwG_e (r _ (by omega) (by omega) (by omega) (by omega) (by omega)) (fun k a a' => hi k (by omega) (by omega)) hg, bs_NwD_e w7 (r _ (by omega) (by omega) (by omega) (by omega) (by omega)) c7 (fun k a a' => hi k (by omega) (by omega)) hd, ⟨fun f f0 f1 => by rw [c3] at f0; rw [hi _ (by omega) (by omega)]; exact hz.1 f f0 f1, fun v v0 v1 => ?_, fun w u0 u1 => ?_⟩, ?_, bs_Nm_new hN (Or.inr (Or.inl ⟨rfl, rfl, rfl⟩)) w0 w1 w2 w3 (by rw [if_neg (by decide), if_pos rfl]; exact room) hl fresh en e17 e18 (by rw [e19, k5]) (fun j j0 j1 => eB j j0 (by omega) (by omega) (by omega)) eN⟩
  · intro w u0 u1
    rw [b1] at u1
    rw [e4, e5, k5]
    by_cases z : w = B 1
    · subst z
      rw [bc_setj, bc_setj, eb, ep]; exact ⟨rfl, fun _ => rfl⟩
    · rw [bc_setn z, bc_setn z, b (10 + 2 * w) (by omega) (by omega) (by omega) (by omega) (by omega), b (10 + 2 * w + 1) (by omega) (by omega) (by omega) (by omega) (by omega)]
      exact hw w u0 (by omega)
  · rw [c2] at v0
    rw [hi _ (by omega) (by omega)]
    refine ⟨(hz.2.1 v v0 v1).1, fun j j0 j5 => ?_⟩
    rw [hi _ (by omega) (by omega)]; exact (hz.2.1 v v0 v1).2 j j0 j5
  · rw [b1] at u0
    rw [b (10 + 2 * w + 1) (by omega) (by omega) (by omega) (by omega) (by omega)]
    exact hz.2.2 w (by omega) u1
  · refine ⟨?_, fun w u0 u1 => ?_, fun k u0 u1 => ?_, fun v u0 u1 => ?_, bs_WF_p w3.2 c0 c3 (fun k a a' => hi k (by omega) (by omega)) hwf, bs_WG_p w0.2 c0 (fun k a a' => hi k (by omega) (by omega)) hwg⟩
    · rw [c0, b1, c2, c3, c4, c5, c7]
      exact ⟨w0, by omega, w2, w3, w4, w5, w7⟩
    · rw [b1] at u1
      rw [c0]
      by_cases z : w = B 1
      · subst z
        rw [eb, ep]
        omega
      · rw [b (10 + 2 * w) (by omega) (by omega) (by omega) (by omega) (by omega), b (10 + 2 * w + 1) (by omega) (by omega) (by omega) (by omega) (by omega)]
        exact hww w u0 (by omega)
    · rw [c7] at u1
      have q := hwy k u0 u1
      rw [hi (24 + 3 * k) (by omega) (by omega), hi (24 + 3 * k + 1) (by omega) (by omega), hi (24 + 3 * k + 2) (by omega) (by omega), b1]
      exact ⟨by omega, by omega, q.2.2⟩
    · rw [c2] at u1
      have q := hwv v u0 u1
      rw [hi (54 + 8 * v) (by omega) (by omega), hi (54 + 8 * v + 1) (by omega) (by omega), hi (54 + 8 * v + 2) (by omega) (by omega), b1, c0]
      refine ⟨q.1, by omega, q.2.2.1, fun j j0 j5 => ?_⟩
      rw [hi (54 + 8 * v + (3 + j)) (by omega) (by omega)]
      exact q.2.2.2 j j0 j5
theorem bs_way_add {B B' : Int → Int} {a0 b0 l0 : Int} (b7 : 0 ≤ B 7 ∧ B 7 < 10) (e7 : B' 7 = B 7 + 1) (e : ∀ k, 24 ≤ k → k < 54 → k ≠ 24 + 3 * B 7 → k ≠ 24 + 3 * B 7 + 1 → k ≠ 24 + 3 * B 7 + 2 → B' k = B k) (ea : B' (24 + 3 * B 7) = a0) (eb : B' (24 + 3 * B 7 + 1) = b0) (el : B' (24 + 3 * B 7 + 2) = l0) (a b : Int) : bs_way B' a b = if (a0 = a ∧ b0 = b) ∨ (a0 = b ∧ b0 = a) then (if l0 < bs_way B a b then l0 else bs_way B a b) else bs_way B a b := by
  have u : bs_way B' a b = bs_wayf B' a b (B 7) (bc_it (bs_wayf B' a b) 1000000 (B 7)) := by
    unfold bs_way; rw [e7]; exact bc_its _ _ b7.1
  have v : bc_it (bs_wayf B' a b) 1000000 (B 7) = bs_way B a b := by
    unfold bs_way
    refine bc_it_congr (fun i x i0 i1 => ?_)
    unfold bs_wayf
    rw [e _ (by omega) (by omega) (by omega) (by omega) (by omega), e _ (by omega) (by omega) (by omega) (by omega) (by omega), e _ (by omega) (by omega) (by omega) (by omega) (by omega)]
  rw [u, v]
  unfold bs_wayf
  rw [ea, eb, el]
theorem bs_Nw_way {m m' : bc_H} {c a0 b0 l0 : Int} {B NM B' NM' : Int → Int} (h : bs_Nw m c B NM) (room : B 7 < 10) (ha : 0 ≤ a0 ∧ a0 < B 1) (hb : 0 ≤ b0 ∧ b0 < B 1) (ne : a0 ≠ b0) (hl : 1 ≤ l0 ∧ l0 ≤ 9) (e : ∀ x, c < x → x < c + 20 → x ≠ c + 3 → x ≠ c + 3 + 3 → m' x = m x) (ec : ∀ y, m' c y = m c y) (e30 : m' (c + 3) 0 = m (c + 3) 0) (e31 : m' (c + 3) 1 = m (c + 3) 1 + 1) (e6 : ∀ a b, 0 ≤ a → a < 7 → 0 ≤ b → b < 7 → m' (c + 3 + 3) (a * 7 + b) = if ((a0 = a ∧ b0 = b) ∨ (a0 = b ∧ b0 = a)) ∧ (m (c + 3 + 3) (a * 7 + b) = 0 ∨ l0 < m (c + 3 + 3) (a * 7 + b)) then l0 else m (c + 3 + 3) (a * 7 + b)) (eB : ∀ k, 0 ≤ k → k < 160 → k ≠ 24 + 3 * B 7 → k ≠ 24 + 3 * B 7 + 1 → k ≠ 24 + 3 * B 7 + 2 → k ≠ 7 → B' k = B k) (e7 : B' 7 = B 7 + 1) (ea : B' (24 + 3 * B 7) = a0) (eb : B' (24 + 3 * B 7 + 1) = b0) (el : B' (24 + 3 * B 7 + 2) = l0) (eN : ∀ k, 0 ≤ k → k < 26 → NM' k = NM k) : bs_Nw m' c B' NM' := by
  obtain ⟨⟨k0, k1, k2, k3, k4, k5, k6, k7⟩, ⟨z6, z8⟩, hw, hf, hm, hg, hd, hz, hW, hN⟩ := h
  have hW' := hW
  obtain ⟨⟨w0, w1, w2, w3, w4, w5, w7⟩, hww, hwy, hwv, hwf, hwg⟩ := hW'
  have lo : ∀ k, 0 ≤ k → k < 24 → k ≠ 7 → B' k = B k := fun k a a' a'' => eB k a (by omega) (by omega) (by omega) (by omega) a''
  have hi : ∀ k, 54 ≤ k → k < 160 → B' k = B k := fun k a a' => eB k (by omega) a' (by omega) (by omega) (by omega) (by omega)
  have c0 := lo 0 (by omega) (by omega) (by omega)
  have c1 := lo 1 (by omega) (by omega) (by omega)
  have c2 := lo 2 (by omega) (by omega) (by omega)
  have c3 := lo 3 (by omega) (by omega) (by omega)
  have c4 := lo 4 (by omega) (by omega) (by omega)
  have c5 := lo 5 (by omega) (by omega) (by omega)
  have c6 := lo 6 (by omega) (by omega) (by omega)
  have c8 := lo 8 (by omega) (by omega) (by omega)
  have r : ∀ x, c < x → x < c + 20 → x ≠ c + 3 → x ≠ c + 3 + 3 → m' x = m x := e
  refine ⟨⟨by rw [ec, c4]; exact k0, by rw [ec, c5]; exact k1, by rw [ec, c6]; exact k2, by rw [ec, c2]; exact k3, by rw [r (c + 1) (by omega) (by omega) (by omega) (by omega), c0]; exact k4, by rw [e30, c1]; exact k5, by rw [e31, e7, k6], by rw [r (c + 8) (by omega) (by omega) (by omega) (by omega), c3]; exact k7⟩, ⟨by rw [c6]; exact z6, by rw [c8]; exact z8⟩, bs_Cw_e w1.2 (r _ (by omega) (by omega) (by omega) (by omega)) (r _ (by omega) (by omega) (by omega) (by omega)) c1 (fun k a a' => lo k (by omega) (by omega) (by omega)) hw, bs_Cf_e w3.2 (r _ (by omega) (by omega) (by omega) (by omega)) (r _ (by omega) (by omega) (by omega) (by omega)) (r _ (by omega) (by omega) (by omega) (by omega)) (r _ (by omega) (by omega) (by omega) (by omega)) c3 (fun k a a' => hi k (by omega) (by omega)) hf, bs_Cm_e w2.2 (r _ (by omega) (by omega) (by omega) (by omega)) (r _ (by omega) (by omega) (by omega) (by omega)) (r _ (by omega) (by omega) (by omega) (by omega)) (r _ (by omega) (by omega) (by omega) (by omega)) c2 (fun k a a' => hi k (by omega) (by omega)) hm, bs_NwG_e (r _ (by omega) (by omega) (by omega) (by omega)) (fun k a a' => hi k (by omega) (by omega)) hg, fun x y x0 x1 y0 y1 => ?_, bs_NwZ_e ⟨w2.1, w3.1, w1.1⟩ c1 c2 c3 (fun k a => by rcases a with a | a; exact lo k (by omega) (by omega) (by omega); exact hi k (by omega) (by omega)) hz, ?_, bs_Nm_eq hW (ec 11) (r _ (by omega) (by omega) (by omega) (by omega)) (r _ (by omega) (by omega) (by omega) (by omega)) (r _ (by omega) (by omega) (by omega) (by omega)) (fun k a a' => lo k a (by omega) (by omega)) eN hN⟩
  · have wr := (bs_way_r hwy w7.1 x y).1
    rw [e6 x y x0 x1 y0 y1, hd x y x0 x1 y0 y1, bs_way_add ⟨w7.1, room⟩ e7 (fun k a a' d1 d2 d3 => eB k (by omega) (by omega) d1 d2 d3 (by omega)) ea eb el]
    by_cases u : (a0 = x ∧ b0 = y) ∨ (a0 = y ∧ b0 = x)
    · rw [if_pos u]
      (repeat' split) <;> omega
    · rw [if_neg u, if_neg (fun v => u v.1)]
  · refine ⟨?_, bs_WW_p w1.2 c0 c1 (fun k a a' => lo k (by omega) (by omega) (by omega)) hww, fun k u0 u1 => ?_, bs_WV_p w2.2 c0 c1 c2 (fun k a a' => hi k (by omega) (by omega)) hwv, bs_WF_p w3.2 c0 c3 (fun k a a' => hi k (by omega) (by omega)) hwf, bs_WG_p w0.2 c0 (fun k a a' => hi k (by omega) (by omega)) hwg⟩
    · rw [c0, c1, c2, c3, c4, c5, e7]
      exact ⟨w0, w1, w2, w3, w4, w5, by omega⟩
    · rw [e7] at u1
      rw [c1]
      by_cases z : k = B 7
      · subst z
        rw [ea, eb, el]
        exact ⟨ha, hb, ne, hl⟩
      · rw [eB (24 + 3 * k) (by omega) (by omega) (by omega) (by omega) (by omega) (by omega), eB (24 + 3 * k + 1) (by omega) (by omega) (by omega) (by omega) (by omega) (by omega), eB (24 + 3 * k + 2) (by omega) (by omega) (by omega) (by omega) (by omega) (by omega)]
        exact hwy k u0 (by omega)
