theorem bs_shlF : ∀ n : Fin 9, bc_shl 1 (n.val : Int) = (2 ^ n.val : Nat) := by decide +kernel
theorem bs_shl {n : Int} (h0 : 0 ≤ n) (h8 : n ≤ 8) : bc_shl 1 n = (2 ^ n.toNat : Nat) := by
  have t := bs_shlF ⟨n.toNat, by omega⟩
  dsimp only at t
  rw [show ((n.toNat : Nat) : Int) = n by omega] at t
  exact t
theorem bs_shl_r {n : Int} (h0 : 0 ≤ n) (h8 : n ≤ 8) : 1 ≤ bc_shl 1 n ∧ bc_shl 1 n ≤ 256 := by
  rw [bs_shl h0 h8]
  have h1 := bs_pow8 (m := n.toNat) (by omega)
  have h2 : 0 < 2 ^ n.toNat := Nat.pow_pos (by decide)
  omega
theorem bs_shl_s {n : Int} (h0 : 0 ≤ n) (h8 : n < 8) : bc_shl 1 (n + 1) = 2 * bc_shl 1 n := by
  rw [bs_shl h0 (by omega), bs_shl (by omega) (by omega), show (n + 1).toNat = n.toNat + 1 by omega, Nat.pow_succ]
  omega
theorem bs_bit {s k : Int} (h0 : 0 ≤ s) (h1 : s < 256) (k0 : 0 ≤ k) (k1 : k < 8) : bc_and (bc_shr s k) 1 = 0 ∨ bc_and (bc_shr s k) 1 = 1 := by
  have t := (bs_bits8 (s := s.toNat) (k := k.toNat) (by omega) (by omega)).1
  rw [show ((s.toNat : Nat) : Int) = s by omega, show ((k.toNat : Nat) : Int) = k by omega] at t
  rw [t]; omega
theorem bs_orF : ∀ (s : Fin 256) (k : Fin 8) (n : Fin 9), k.val < n.val → s.val < 2 ^ n.val → 0 ≤ bc_or (s.val : Int) (bc_shl 1 (k.val : Int)) ∧ bc_or (s.val : Int) (bc_shl 1 (k.val : Int)) < (2 ^ n.val : Nat) := by decide +kernel
theorem bs_or_r {s k n : Int} (h0 : 0 ≤ s) (k0 : 0 ≤ k) (kn : k < n) (n8 : n ≤ 8) (h1 : s < bc_shl 1 n) : 0 ≤ bc_or s (bc_shl 1 k) ∧ bc_or s (bc_shl 1 k) < bc_shl 1 n := by
  have r := bs_shl_r (n := n) (by omega) n8
  rw [bs_shl (n := n) (by omega) n8] at h1 r ⊢
  have t := bs_orF ⟨s.toNat, by omega⟩ ⟨k.toNat, by omega⟩ ⟨n.toNat, by omega⟩ (by show k.toNat < n.toNat; omega) (by show s.toNat < 2 ^ n.toNat; omega)
  dsimp only at t
  rw [show ((s.toNat : Nat) : Int) = s by omega, show ((k.toNat : Nat) : Int) = k by omega] at t
  exact t
/-! one figure more -/
def bs_draw (A : Int → Int) (a b e : Int) : Int → Int := bc_set (bc_set (bc_set (bc_set (bc_set A 3 (A 3 + 1)) (102 + 4 * A 3) a) (102 + 4 * A 3 + 1) b) (102 + 4 * A 3 + 2) e) (102 + 4 * A 3 + 3) 0
theorem bs_draw_n {A : Int → Int} {a b e k : Int} (h3 : k ≠ 3) (h : k < 102 + 4 * A 3 ∨ 102 + 4 * A 3 + 4 ≤ k) : bs_draw A a b e k = A k := by
  unfold bs_draw; rw [bc_setn (by omega), bc_setn (by omega), bc_setn (by omega), bc_setn (by omega), bc_setn h3]
theorem bs_draw_3 {A : Int → Int} {a b e : Int} (h : 0 ≤ A 3) : bs_draw A a b e 3 = A 3 + 1 := by
  unfold bs_draw; rw [bc_setn (by omega), bc_setn (by omega), bc_setn (by omega), bc_setn (by omega), bc_setj]
theorem bs_draw_v {A : Int → Int} {a b e : Int} : bs_draw A a b e (102 + 4 * A 3) = a ∧ bs_draw A a b e (102 + 4 * A 3 + 1) = b ∧ bs_draw A a b e (102 + 4 * A 3 + 2) = e ∧ bs_draw A a b e (102 + 4 * A 3 + 3) = 0 := by
  unfold bs_draw
  refine ⟨?_, ?_, ?_, ?_⟩
  · rw [bc_setn (by omega), bc_setn (by omega), bc_setn (by omega), bc_setj]
  · rw [bc_setn (by omega), bc_setn (by omega), bc_setj]
  · rw [bc_setn (by omega), bc_setj]
  · rw [bc_setj]
theorem bs_W_draw {A : Int → Int} {a b e : Int} (hW : bs_W A) (h8 : A 3 < 8) (ha : 0 ≤ a ∧ a < A 0) (hb : 0 ≤ b ∧ b ≤ 9) (he : 0 ≤ e ∧ e ≤ 9) : bs_W (bs_draw A a b e) := by
  obtain ⟨⟨w0, w1, w2, w3, w4, w5, w7⟩, hw, hy, hv, hf, hg⟩ := hW
  have es : ∀ k, k ≠ 3 → (k < 102 ∨ 134 ≤ k) → bs_draw A a b e k = A k := fun k k2 hk => bs_draw_n k2 (by omega)
  have e3 := bs_draw_3 (a := a) (b := b) (e := e) w3.1
  refine ⟨?_, bs_WW_p w1.2 (es _ (by omega) (by omega)) (es _ (by omega) (by omega)) (fun k _ _ => es k (by omega) (by omega)) hw, bs_WY_p w7.2 ⟨es _ (by omega) (by omega), es _ (by omega) (by omega), fun k _ _ => es k (by omega) (by omega)⟩ hy, bs_WV_p w2.2 (es _ (by omega) (by omega)) (es _ (by omega) (by omega)) (es _ (by omega) (by omega)) (fun k _ _ => es k (by omega) (by omega)) hv, fun f f0 f1 => ?_, bs_WG_p w0.2 (es _ (by omega) (by omega)) (fun k _ _ => es k (by omega) (by omega)) hg⟩
  · rw [es 0 (by omega) (by omega), es 1 (by omega) (by omega), e3, es 2 (by omega) (by omega), es 4 (by omega) (by omega), es 5 (by omega) (by omega), es 7 (by omega) (by omega)]
    exact ⟨w0, w1, w2, by omega, w4, w5, w7⟩
  · rw [e3] at f1
    rw [e3, es 0 (by omega) (by omega), bs_shl_s w3.1 h8]
    have sr := bs_shl_r (n := A 3) w3.1 (by omega)
    by_cases q : f = A 3
    · obtain ⟨v1, v2, v3, v4⟩ := bs_draw_v (A := A) (a := a) (b := b) (e := e)
      rw [q, v1, v2, v3, v4]
      exact ⟨ha, hb, he, by omega, by omega⟩
    · rw [bs_draw_n (by omega) (by omega), bs_draw_n (k := 102 + 4 * f + 1) (by omega) (by omega), bs_draw_n (k := 102 + 4 * f + 2) (by omega) (by omega), bs_draw_n (k := 102 + 4 * f + 3) (by omega) (by omega)]
      have g := hf f f0 (by omega)
      exact ⟨g.1, g.2.1, g.2.2.1, g.2.2.2.1, by omega⟩
theorem bc_c_figAdd {d : Nat} {c a b e n : Int} {h : bc_H} {K : bc_H → Prop} (hn : h (c + 8) 0 = n) (n0 : 0 ≤ n) (n8 : n < 8) (hK : ∀ h', (∀ x y, (x ≠ c + 8 ∨ y ≠ 0) → x ≠ c + 8 + 1 → x ≠ c + 8 + 2 → x ≠ c + 8 + 3 → x ≠ c + 8 + 4 → h' x y = h x y) → h' (c + 8) 0 = n + 1 → h' (c + 8 + 1) = bc_set (h (c + 8 + 1)) n a → h' (c + 8 + 2) = bc_set (h (c + 8 + 2)) n b → h' (c + 8 + 3) = bc_set (h (c + 8 + 3)) n e → h' (c + 8 + 4) = bc_set (h (c + 8 + 4)) n 0 → K h') : bf_Figures_add d (c + 8) a b e h (bc_U K) := by
  refine rv_Figures_add ?_
  simp (disch := omega) only [bc_ur, bc_uu, bc_uj, bc_wi, Int.add_zero]
  rw [hn]
  refine ⟨by omega, by omega, by omega, fun m em => ?_⟩
  have m8 : m (c + 8) 0 = n := by rw [em, bc_ur (by omega), bc_ur (by omega), bc_ur (by omega), hn]
  rw [m8]
  simp (disch := omega) only [bc_ur, bc_uu, bc_uj, bc_wi, Int.add_zero]
  refine ⟨by omega, hK _ (fun x y k1 k2 k3 k4 k5 => ?_) (by rw [bc_uu]) ?_ ?_ ?_ ?_⟩
  · rw [bc_un2 k1, bc_ur k5, em, bc_ur k4, bc_ur k3, bc_ur k2]
  · rw [bc_urow (by omega), bc_urow (by omega), em, bc_urow (by omega), bc_urow (by omega), bc_u_row, bs_rr]
  · rw [bc_urow (by omega), bc_urow (by omega), em, bc_urow (by omega), bc_u_row, bs_rr, bc_urow (by omega)]
  · rw [bc_urow (by omega), bc_urow (by omega), em, bc_u_row, bs_rr, bc_urow (by omega), bc_urow (by omega)]
  · rw [bc_urow (by omega), bc_u_row, bs_rr, em, bc_urow (by omega), bc_urow (by omega), bc_urow (by omega)]
theorem bs_C_draw {h h' : bc_H} {c a b e : Int} {A : Int → Int} (hC : bs_C h c A) (hW : bs_W A) (h8 : A 3 < 8) (f1 : ∀ x y, (x ≠ c + 8 ∨ y ≠ 0) → x ≠ c + 8 + 1 → x ≠ c + 8 + 2 → x ≠ c + 8 + 3 → x ≠ c + 8 + 4 → h' x y = h x y) (f2 : h' (c + 8) 0 = A 3 + 1) (f3 : h' (c + 8 + 1) = bc_set (h (c + 8 + 1)) (A 3) a) (f4 : h' (c + 8 + 2) = bc_set (h (c + 8 + 2)) (A 3) b) (f5 : h' (c + 8 + 3) = bc_set (h (c + 8 + 3)) (A 3) e) (f6 : h' (c + 8 + 4) = bc_set (h (c + 8 + 4)) (A 3) 0) : bs_C h' c (bs_draw A a b e) := by
  obtain ⟨⟨n4, n5, n6, n2, n0, n1, n3⟩, hw, hd, hg, hf, hm⟩ := id hC
  obtain ⟨⟨w0, w1, w2, w3, w4, w5, w7⟩, hww, hwy, hwv, hwf, hwg⟩ := id hW
  have es : ∀ k, k ≠ 3 → (k < 102 ∨ 134 ≤ k) → bs_draw A a b e k = A k := fun k k2 hk => bs_draw_n k2 (by omega)
  have e3 := bs_draw_3 (a := a) (b := b) (e := e) w3.1
  have er : ∀ x, x ≠ c + 8 → x ≠ c + 8 + 1 → x ≠ c + 8 + 2 → x ≠ c + 8 + 3 → x ≠ c + 8 + 4 → h' x = h x := fun x x1 x2 x3 x4 x5 => funext fun y => f1 x y (Or.inl x1) x2 x3 x4 x5
  refine ⟨⟨?_, ?_, ?_, ?_, ?_, ?_, ?_⟩, ?_, ?_, ?_, fun u u0 u1 => ?_, ?_⟩
  · rw [er _ (by omega) (by omega) (by omega) (by omega) (by omega), es _ (by omega) (by omega)]; exact n4
  · rw [er _ (by omega) (by omega) (by omega) (by omega) (by omega), es _ (by omega) (by omega)]; exact n5
  · rw [er _ (by omega) (by omega) (by omega) (by omega) (by omega), es _ (by omega) (by omega)]; exact n6
  · rw [er _ (by omega) (by omega) (by omega) (by omega) (by omega), es _ (by omega) (by omega)]; exact n2
  · rw [er _ (by omega) (by omega) (by omega) (by omega) (by omega), es _ (by omega) (by omega)]; exact n0
  · rw [er _ (by omega) (by omega) (by omega) (by omega) (by omega), es _ (by omega) (by omega)]; exact n1
  · rw [f2, e3]
  · exact bs_Cw_p w1.2 (er _ (by omega) (by omega) (by omega) (by omega) (by omega)) (er _ (by omega) (by omega) (by omega) (by omega) (by omega)) (es _ (by omega) (by omega)) (fun k _ _ => es k (by omega) (by omega)) hw
  · exact bs_Cd_p w7 (er _ (by omega) (by omega) (by omega) (by omega) (by omega)) (er _ (by omega) (by omega) (by omega) (by omega) (by omega)) ⟨es _ (by omega) (by omega), es _ (by omega) (by omega), fun k _ _ => es k (by omega) (by omega)⟩ hd
  · exact bs_Cg_p w0.2 (er _ (by omega) (by omega) (by omega) (by omega) (by omega)) (es _ (by omega) (by omega)) (fun k _ _ => es k (by omega) (by omega)) hg
  · rw [e3] at u1
    rw [f3, f4, f5, f6]
    by_cases q : u = A 3
    · obtain ⟨v1, v2, v3, v4⟩ := bs_draw_v (A := A) (a := a) (b := b) (e := e)
      rw [q, v1, v2, v3, v4, bc_setj, bc_setj, bc_setj, bc_setj]
      exact ⟨rfl, rfl, rfl, rfl⟩
    · rw [bs_draw_n (by omega) (by omega), bs_draw_n (k := 102 + 4 * u + 1) (by omega) (by omega), bs_draw_n (k := 102 + 4 * u + 2) (by omega) (by omega), bs_draw_n (k := 102 + 4 * u + 3) (by omega) (by omega), bc_setn q, bc_setn q, bc_setn q, bc_setn q]
      exact hf u u0 (by omega)
  · exact bs_Cm_p w2.2 (er _ (by omega) (by omega) (by omega) (by omega) (by omega)) (er _ (by omega) (by omega) (by omega) (by omega) (by omega)) (er _ (by omega) (by omega) (by omega) (by omega) (by omega)) (er _ (by omega) (by omega) (by omega) (by omega) (by omega)) (es _ (by omega) (by omega)) (fun k _ _ => es k (by omega) (by omega)) hm
theorem bs_o_draw {d : Nat} {a b e : Int} {S : Int → Int} {L c s p q : Int} {h : bc_H} (hR : bs_R S L c s p q h) {P : Int → Int → bc_H → Prop} {Q1 : Int → bc_H → Prop} (hQ : ∀ y h1, h1 (-2) = h (-2) → h1 (-3) = h (-3) → bf_M_draw (d + 4) a b e h1 (bc_I fun y2 h2 => P y y2 h2) → Q1 y h1) (hK : ∀ y h2, bs_R S L c s p q h2 → P y y h2) : bf_X_draw (d + 4) a b e h (bc_I Q1) := by
  obtain ⟨⟨hcs, hpq⟩, ⟨e12, e13, e14, e15⟩, hS, est, efr, htr, htp, hfa, hlv, hlo, hrs, hmk, ⟨hC, hW, hck, hN, hP⟩⟩ := id hR
  obtain ⟨⟨n4, n5, n6, n2, n0, n1, n3⟩, hw, hd, hg, hf, hm⟩ := id hC
  obtain ⟨⟨w0, w1, w2, w3, w4, w5, w7⟩, hww, hwy, hwv, hwf, hwg⟩ := id hW
  have hq : ∀ y v, P y y (bc_upd (bc_upd h 0 0 v) 156 2 v) := fun y v => hK _ _ (bs_R_st hR v)
  have e157 : ∀ v, bc_upd h 0 0 v 157 = h 157 := fun v => bc_urow (by decide)
  have bad : ¬ ((0 ≤ a ∧ a < h 157 0) ∧ (0 ≤ b ∧ b ≤ 9) ∧ 0 ≤ e ∧ e ≤ 9) → Q1 (-1) (bc_upd h 0 0 1) := fun z => by
    refine hQ _ _ (by first | rfl | exact bc_urow (by decide)) (by first | rfl | exact bc_urow (by decide)) ?_
    refine rv_M_draw (d := d + 3) ?_
    rw [e157]
    exact ⟨fun z1 => ⟨fun z2 => ⟨fun z3 => absurd ⟨z1, z2, z3⟩ z, fun _ => hq _ _⟩, fun _ => hq _ _⟩, fun _ => hq _ _⟩
  refine rv_X_draw (d := d + 2) ?_
  rw [e12, n0, n3, bc_wi (x := h 157 0 - 1) (by omega) (by omega)]
  refine ⟨by omega, fun za => ⟨fun zb => ⟨fun ze => ⟨by omega, fun z => ⟨by omega, ?_⟩, fun z => ?_⟩, fun z => bad (by omega)⟩, fun z => bad (by omega)⟩, fun z => bad (by omega)⟩
  · refine bc_c_figAdd n3 w3.1 z (fun h1 f1 f2 f3 f4 f5 f6 => ?_)
    have e0 : ∀ x y, (x < 24 ∨ 155 < x) → h1 x y = h x y := fun x y hx => f1 x y (by omega) (by omega) (by omega) (by omega) (by omega)
    have hC1 := bs_C_draw (a := a) (b := b) (e := e) hC hW z f1 f2 f3 f4 f5 f6
    have hW1 := bs_W_draw hW z (by omega : 0 ≤ a ∧ a < h 157 0) zb ze
    rw [e0 0 12 (by omega), e12, f2, bc_wi (x := h 157 3 + 1 - 1) (by omega) (by omega), show h 157 3 + 1 - 1 = h 157 3 by omega]
    refine ⟨by omega, ?_⟩
    refine hQ _ _ (by rw [bc_urow (by decide)]; exact funext fun y => e0 _ _ (by omega)) (by rw [bc_urow (by decide)]; exact funext fun y => e0 _ _ (by omega)) ?_
    have e1571 : bc_upd h1 0 0 0 157 = h 157 := by rw [bc_urow (by decide)]; exact funext fun y => e0 _ _ (by omega)
    have e1581 : bc_upd h1 0 0 0 158 = h 158 := by rw [bc_urow (by decide)]; exact funext fun y => e0 _ _ (by omega)
    refine rv_M_draw (d := d + 3) ?_
    rw [e1571]
    simp (disch := omega) only [bc_wi, Int.add_zero]
    refine ⟨fun _ => ⟨fun _ => ⟨fun _ => ⟨fun _ => ⟨by omega, by omega, fun g eg => ⟨by omega, by omega, fun g2 eg2 => ⟨by omega, ?_⟩⟩⟩, fun q => absurd q (by omega)⟩, fun q => absurd ze q⟩, fun q => absurd zb q⟩, fun q => absurd (by omega) q⟩
    have g157 : bc_upd (bc_upd g2 158 (18 + h 157 3) 0) 156 2 0 157 = bs_draw (h 157) a b e := by
      have th : bc_upd h1 0 0 0 = bc_row (bc_upd h1 0 0 0) 157 (h 157) := by rw [← e1571, bc_rself]
      rw [bc_urow (by decide), bc_urow (by decide), eg2, eg, th, bc_ru, bc_ru, bc_ru, bc_ru, bc_ru, bs_rr, show 102 + 4 * h 157 3 + 1 + 1 = 102 + 4 * h 157 3 + 2 by omega]; rfl
    have g158 : bc_upd (bc_upd g2 158 (18 + h 157 3) 0) 156 2 0 158 = bc_set (h 158) (18 + h 157 3) 0 := by
      rw [bc_urow (by decide), bc_u_row, bs_rr, eg2, eg, bc_urow (by decide), bc_urow (by decide), bc_urow (by decide), bc_urow (by decide), bc_urow (by decide), e1581]
    have go : ∀ x y, x ≠ 157 → x ≠ 158 → (x ≠ 0 ∨ y ≠ 0) → (x ≠ 156 ∨ y ≠ 2) → bc_upd (bc_upd g2 158 (18 + h 157 3) 0) 156 2 0 x y = h1 x y := fun x y k1 k2 k3 k4 => by
      rw [bc_un2 k4, bc_ur k2, eg2, eg, bc_ur k1, bc_ur k1, bc_ur k1, bc_ur k1, bc_ur k1, bc_un2 k3]
    refine hK _ _ (bs_R_G hR (fun x y k k1 k2 k3 k4 => ?_) ?_ ⟨?_, ?_, ?_, ?_, ?_⟩)
    · have kf := bs_kf k
      by_cases q7 : x = 157
      · subst q7; rw [g157]; exact bs_draw_n (by omega) (by omega)
      · by_cases q8 : x = 158
        · subst q8; rw [g158, bc_setn (by omega)]
        · rw [go x y q7 q8 kf.1 kf.2]; exact f1 x y (by omega) (by omega) (by omega) (by omega) (by omega)
    · rw [bc_uu, bc_ur (by decide), bc_ur (by decide), eg2, eg, bc_ur (by decide), bc_ur (by decide), bc_ur (by decide), bc_ur (by decide), bc_ur (by decide), bc_uu]
    · rw [g157]
      exact bs_C_h (fun x y x0 x1 _ => go x y (by omega) (by omega) (by omega) (by omega)) hC1
    · rw [g157]; exact hW1
    · rw [g157, bs_draw_n (by omega) (by omega)]; exact hck
    · rw [g157, g158, go c 11 (by omega) (by omega) (by omega) (by omega), f1 c 11 (by omega) (by omega) (by omega) (by omega) (by omega)]
      have rr : ∀ x, c + 17 ≤ x → x ≤ c + 19 → bc_upd (bc_upd g2 158 (18 + h 157 3) 0) 156 2 0 x = h x := fun x x0 x1 => funext fun y => by rw [go x y (by omega) (by omega) (by omega) (by omega)]; exact f1 x y (by omega) (by omega) (by omega) (by omega) (by omega)
      rw [rr _ (by omega) (by omega), rr _ (by omega) (by omega), rr _ (by omega) (by omega)]
      refine ⟨?_, fun l hl => ?_⟩
      · rw [bs_draw_n (k := 0) (by omega) (by omega), bs_draw_n (k := 1) (by omega) (by omega), bs_draw_3 w3.1, bs_draw_n (k := 2) (by omega) (by omega)]
        have := hN.1
        omega
      · have t := hN.2 l hl
        rw [bs_draw_n (k := 0) (by omega) (by omega), bs_draw_n (k := 1) (by omega) (by omega), bs_draw_3 w3.1, bs_draw_n (k := 2) (by omega) (by omega)]
        rw [bs_rn_A (NM' := bc_set (h 158) (18 + h 157 3) 0) (NM := h 158) (off := 0) (fun k k0 k1 => bc_setn (by omega)), bs_rn_A (NM' := bc_set (h 158) (18 + h 157 3) 0) (NM := h 158) (off := 5) (fun k k0 k1 => bc_setn (by omega)), bs_rn_A (NM' := bc_set (h 158) (18 + h 157 3) 0) (NM := h 158) (off := 12) (fun k k0 k1 => bc_setn (by omega)), bs_rn_more (NM := h 158) w3.1 (fun k k0 k1 => bc_setn (by omega)) (bc_setj _ _ _) (bs_c256_pos hl)]
        exact t
    · rw [g157]
      refine bs_Pl_A (A := h 157) (fun x y x0 x1 => ?_) (by rw [bs_draw_n (k := 1) (by omega) (by omega)]; exact Int.le_refl _) (by rw [bs_draw_n (k := 2) (by omega) (by omega)]; exact Int.le_refl _) (fun k hk => bs_draw_n (by omega) (by omega)) hP
      rw [go x y (by omega) (by omega) (by omega) (by omega)]; exact f1 x y (by omega) (by omega) (by omega) (by omega) (by omega)
  · refine hQ _ _ (by first | rfl | exact bc_urow (by decide)) (by first | rfl | exact bc_urow (by decide)) ?_
    refine rv_M_draw (d := d + 3) ?_
    rw [e157]
    exact ⟨fun _ => ⟨fun _ => ⟨fun _ => ⟨fun q => absurd (by omega) q, fun _ => hq _ _⟩, fun q => absurd ze q⟩, fun q => absurd zb q⟩, fun q => absurd (by omega) q⟩
theorem bs_o_cover {d : Nat} {a b : Int} {S : Int → Int} {L c s p q : Int} {h : bc_H} (hR : bs_R S L c s p q h) {P N1 N2 : bc_H → Prop} {Q1 Q0 : bc_H → Prop} (hQ : ∀ h1, h1 (-2) = h (-2) → h1 (-3) = h (-3) → bf_M_cover (d + 4) a b h1 (bc_B P N1) → Q1 h1) (hQ0 : ∀ h1, h1 (-2) = h (-2) → h1 (-3) = h (-3) → bf_M_cover (d + 4) a b h1 (bc_B N2 P) → Q0 h1) (hK : ∀ h2, bs_R S L c s p q h2 → P h2) : bf_X_cover (d + 4) a b h (bc_B Q1 Q0) := by
  obtain ⟨⟨hcs, hpq⟩, ⟨e12, e13, e14, e15⟩, hS, est, efr, htr, htp, hfa, hlv, hlo, hrs, hmk, ⟨hC, hW, hck, hN, hP⟩⟩ := id hR
  obtain ⟨⟨n4, n5, n6, n2, n0, n1, n3⟩, hw, hd, hg, hf, hm⟩ := id hC
  obtain ⟨⟨w0, w1, w2, w3, w4, w5, w7⟩, hww, hwy, hwv, hwf, hwg⟩ := id hW
  have hq : ∀ v, P (bc_upd (bc_upd h 0 0 v) 156 2 v) := fun v => hK _ (bs_R_st hR v)
  have e157 : ∀ v, bc_upd h 0 0 v 157 = h 157 := fun v => bc_urow (by decide)
  have bad : ¬ ((0 ≤ a ∧ a < h 157 3) ∧ (0 ≤ b ∧ b < h 157 3) ∧ a ≠ b) → Q0 (bc_upd h 0 0 1) := fun z => by
    refine hQ0 _ (bc_urow (by decide)) (bc_urow (by decide)) ?_
    refine rv_M_cover (d := d + 2) ?_
    rw [e157]
    exact ⟨fun z1 => ⟨fun z2 => ⟨fun z3 => absurd ⟨z1, z2, z3⟩ z, fun _ => hq _⟩, fun _ => hq _⟩, fun _ => hq _⟩
  refine rv_X_cover (d := d + 2) ?_
  rw [e12, n3, bc_wi (x := h 157 3 - 1) (by omega) (by omega)]
  refine ⟨by omega, fun za => ⟨by omega, fun zb => ⟨fun zn => ?_, fun z => bad (by omega)⟩, fun z => bad (by omega)⟩, fun z => bad (by omega)⟩
  have ff := hf a za.1 (by omega)
  have wf := hwf a za.1 (by omega)
  have sr := bs_shl_r (n := h 157 3) w3.1 w3.2
  rw [ff.2.2.2]
  have hb := bs_bit (s := h 157 (102 + 4 * a + 3)) (k := b) wf.2.2.2.1 (by omega) zb.1 (by omega)
  refine ⟨by omega, by omega, fun z => ?_, fun z => ⟨by omega, by omega, by omega, ?_⟩⟩
  · refine hQ0 _ (bc_urow (by decide)) (bc_urow (by decide)) ?_
    refine rv_M_cover (d := d + 2) ?_
    rw [e157]
    simp (disch := omega) only [bc_wi, Int.add_zero]
    exact ⟨fun _ => ⟨fun _ => ⟨fun _ => ⟨by omega, fun _ => hq _, fun q => absurd (hb.resolve_left z) q⟩, fun q => absurd q zn⟩, fun q => absurd (by omega) q⟩, fun q => absurd (by omega) q⟩
  · refine hQ _ (by rw [bc_urow (by omega), bc_urow (by omega)]) (by rw [bc_urow (by omega), bc_urow (by omega)]) ?_
    have e1571 : bc_upd (bc_upd h (c + 8 + 4) a (bc_or (h 157 (102 + 4 * a + 3)) (bc_shl 1 b))) 0 0 0 157 = h 157 := by rw [bc_urow (by decide), bc_urow (by omega)]
    refine rv_M_cover (d := d + 2) ?_
    rw [e1571]
    simp (disch := omega) only [bc_wi, Int.add_zero]
    refine ⟨fun _ => ⟨fun _ => ⟨fun _ => ⟨by omega, fun q => absurd (by omega) z, fun _ => ⟨by omega, by omega, fun g eg => ?_⟩⟩, fun q => absurd q zn⟩, fun q => absurd (by omega) q⟩, fun q => absurd (by omega) q⟩
    have or1 := bs_or_r (s := h 157 (102 + 4 * a + 3)) (k := b) (n := h 157 3) wf.2.2.2.1 zb.1 (by omega) w3.2 wf.2.2.2.2
    have g157 : bc_upd g 156 2 0 157 = bc_set (h 157) (102 + 4 * a + 3) (bc_or (h 157 (102 + 4 * a + 3)) (bc_shl 1 b)) := by
      rw [bc_urow (by decide), eg, bc_u_row _ 157, e1571, bs_rr]
    have er : ∀ x y, x ≠ 157 → x ≠ c + 8 + 4 → (x ≠ 0 ∨ y ≠ 0) → (x ≠ 156 ∨ y ≠ 2) → bc_upd g 156 2 0 x y = h x y := fun x y k1 k2 k3 k4 => by
      rw [bc_un2 k4, eg, bc_ur k1, bc_un2 k3, bc_ur k2]
    have rw0 : ∀ x, x ≠ 157 → x ≠ c + 8 + 4 → x ≠ 0 → x ≠ 156 → bc_upd g 156 2 0 x = h x := fun x k1 k2 k3 k4 => funext fun y => er x y k1 k2 (Or.inl k3) (Or.inl k4)
    have es : ∀ k, k ≠ 102 + 4 * a + 3 → bc_upd g 156 2 0 157 k = h 157 k := fun k hk => by rw [g157, bc_setn hk]
    refine hK _ (bs_R_mut hR (fun x y k k1 k2 => ?_) ?_ (es _ (by omega)) (es _ (by omega)) (es _ (by omega)) (es _ (by omega)) ?_ ?_ ?_)
    · have kf := bs_kf k
      by_cases e : x = 157
      · subst e; exact es y (by omega)
      · exact er x y e (by omega) kf.1 kf.2
    · rw [bc_uu, bc_ur (by decide), eg, bc_ur (by decide), bc_uu]
    · refine ⟨⟨?_, ?_, ?_, ?_, ?_, ?_, ?_⟩, ?_, ?_, ?_, fun f h0 h1 => ?_, ?_⟩
      · rw [er _ _ (by omega) (by omega) (by omega) (by omega), es _ (by omega)]; exact n4
      · rw [er _ _ (by omega) (by omega) (by omega) (by omega), es _ (by omega)]; exact n5
      · rw [er _ _ (by omega) (by omega) (by omega) (by omega), es _ (by omega)]; exact n6
      · rw [er _ _ (by omega) (by omega) (by omega) (by omega), es _ (by omega)]; exact n2
      · rw [er _ _ (by omega) (by omega) (by omega) (by omega), es _ (by omega)]; exact n0
      · rw [er _ _ (by omega) (by omega) (by omega) (by omega), es _ (by omega)]; exact n1
      · rw [er _ _ (by omega) (by omega) (by omega) (by omega), es _ (by omega)]; exact n3
      · exact bs_Cw_p w1.2 (rw0 _ (by omega) (by omega) (by omega) (by omega)) (rw0 _ (by omega) (by omega) (by omega) (by omega)) (es _ (by omega)) (fun k _ _ => es k (by omega)) hw
      · exact bs_Cd_p w7 (rw0 _ (by omega) (by omega) (by omega) (by omega)) (rw0 _ (by omega) (by omega) (by omega) (by omega)) ⟨es _ (by omega), es _ (by omega), fun k _ _ => es k (by omega)⟩ hd
      · exact bs_Cg_p w0.2 (rw0 _ (by omega) (by omega) (by omega) (by omega)) (es _ (by omega)) (fun k _ _ => es k (by omega)) hg
      · rw [es 3 (by omega)] at h1
        rw [rw0 (c + 8 + 1) (by omega) (by omega) (by omega) (by omega), rw0 (c + 8 + 2) (by omega) (by omega) (by omega) (by omega), rw0 (c + 8 + 3) (by omega) (by omega) (by omega) (by omega)]
        have e4 : bc_upd g 156 2 0 (c + 8 + 4) f = if f = a then bc_or (h 157 (102 + 4 * a + 3)) (bc_shl 1 b) else h (c + 8 + 4) f := by
          rw [bc_ur (by omega), eg, bc_ur (by omega), bc_ur (by omega)]
          by_cases q : f = a
          · rw [if_pos q, q, bc_uu]
          · rw [if_neg q, bc_uj q]
        have q4 := hf f h0 h1
        rw [e4, es _ (by omega), es (102 + 4 * f + 1) (by omega), es (102 + 4 * f + 2) (by omega)]
        refine ⟨q4.1, q4.2.1, q4.2.2.1, ?_⟩
        by_cases q : f = a
        · rw [if_pos q, q, g157, bc_setj]
        · rw [if_neg q, es _ (by omega)]; exact q4.2.2.2
      · exact bs_Cm_p w2.2 (rw0 _ (by omega) (by omega) (by omega) (by omega)) (rw0 _ (by omega) (by omega) (by omega) (by omega)) (rw0 _ (by omega) (by omega) (by omega) (by omega)) (rw0 _ (by omega) (by omega) (by omega) (by omega)) (es _ (by omega)) (fun k _ _ => es k (by omega)) hm
    · refine ⟨?_, bs_WW_p w1.2 (es _ (by omega)) (es _ (by omega)) (fun k _ _ => es k (by omega)) hww, bs_WY_p w7.2 ⟨es _ (by omega), es _ (by omega), fun k _ _ => es k (by omega)⟩ hwy, bs_WV_p w2.2 (es _ (by omega)) (es _ (by omega)) (es _ (by omega)) (fun k _ _ => es k (by omega)) hwv, fun f h0 h1 => ?_, bs_WG_p w0.2 (es _ (by omega)) (fun k _ _ => es k (by omega)) hwg⟩
      · rw [es 0 (by omega), es 1 (by omega), es 2 (by omega), es 3 (by omega), es 4 (by omega), es 5 (by omega), es 7 (by omega)]
        exact ⟨w0, w1, w2, w3, w4, w5, w7⟩
      · rw [es 3 (by omega)] at h1
        have q4 := hwf f h0 h1
        rw [es _ (by omega), es (102 + 4 * f + 1) (by omega), es (102 + 4 * f + 2) (by omega), es 0 (by omega), es 3 (by omega)]
        refine ⟨q4.1, q4.2.1, q4.2.2.1, ?_⟩
        by_cases q : f = a
        · rw [q, g157, bc_setj]; exact or1
        · rw [es _ (by omega)]; exact q4.2.2.2
    · rw [es _ (by omega)]; exact hck
