/-! ===== a cave that is being told: visitors, figures, single numbers ===== -/
theorem bs_Nw_visitor {m m' : bc_H} {c se wa : Int} {B NM B' NM' : Int → Int} {l : List Int} (h : bs_Nw m c B NM) (room : B 2 < 6) (hl : bs_word l) (fresh : bs_fst (fun i => m (c + 17) i = bs_c32 l) (m c 11) = -1) (hs : 1 ≤ se ∧ se ≤ 60) (hwa : 0 ≤ wa ∧ wa < B 1) (e : ∀ x, c < x → x < c + 17 → x ≠ c + 13 → x ≠ c + 14 → x ≠ c + 15 → x ≠ c + 16 → m' x = m x) (ec : ∀ y, y ≠ 11 → y ≠ 3 → m' c y = m c y) (e3 : m' c 3 = m c 3 + 1) (e13 : m' (c + 13) = bc_set (m (c + 13)) (m c 3) se) (e14 : m' (c + 14) = bc_set (m (c + 14)) (m c 3) wa) (e15 : m' (c + 15) = bc_set (m (c + 15)) (m c 3) 0) (e16 : ∀ v b, 0 ≤ v → 0 ≤ b → b < 5 → m' (c + 16) (v * 5 + b) = if v = m c 3 then 0 else m (c + 16) (v * 5 + b)) (en : m' c 11 = m c 11 + 1) (e17 : m' (c + 17) = bc_set (m (c + 17)) (m c 11) (bs_c32 l)) (e18 : m' (c + 18) = bc_set (m (c + 18)) (m c 11) 8) (e19 : m' (c + 19) = bc_set (m (c + 19)) (m c 11) (m c 3)) (eB : ∀ k, 0 ≤ k → k < 160 → k ≠ 54 + 8 * B 2 → k ≠ 54 + 8 * B 2 + 1 → B' k = bc_set B 2 (B 2 + 1) k) (eb : B' (54 + 8 * B 2) = se) (ep : B' (54 + 8 * B 2 + 1) = wa) (eN : ∀ k, 0 ≤ k → k < 26 → NM' k = bc_set NM (12 + B 2) (bs_c256 l) k) : bs_Nw m' c B' NM' := by
  obtain ⟨⟨k0, k1, k2, k3, k4, k5, k6, k7⟩, ⟨z6, z8⟩, hw, hf, hm, hg, hd, hz, hW, hN⟩ := h
  have hW' := hW
  obtain ⟨⟨w0, w1, w2, w3, w4, w5, w7⟩, hww, hwy, hwv, hwf, hwg⟩ := hW'
  have b : ∀ k, 0 ≤ k → k < 160 → k ≠ 2 → k ≠ 54 + 8 * B 2 → k ≠ 54 + 8 * B 2 + 1 → B' k = B k := fun k a c' d1 d2 d3 => by rw [eB k a c' d2 d3, bc_setn d1]
  have b2 : B' 2 = B 2 + 1 := by rw [eB 2 (by omega) (by omega) (by omega) (by omega), bc_setj]
  have r : ∀ x, c < x → x < c + 13 → m' x = m x := fun x a a' => e x a (by omega) (by omega) (by omega) (by omega) (by omega)
  have lo : ∀ k, 0 ≤ k → k < 54 → k ≠ 2 → B' k = B k := fun k a a' a'' => b k a (by omega) a'' (by omega) (by omega)
  have hi : ∀ k, 102 ≤ k → k < 160 → B' k = B k := fun k a a' => b k (by omega) a' (by omega) (by omega) (by omega)
  have c0 := lo 0 (by omega) (by omega) (by omega)
  have c1 := lo 1 (by omega) (by omega) (by omega)
  have c3 := lo 3 (by omega) (by omega) (by omega)
  have c4 := lo 4 (by omega) (by omega) (by omega)
  have c5 := lo 5 (by omega) (by omega) (by omega)
  have c6 := lo 6 (by omega) (by omega) (by omega)
  have c7 := lo 7 (by omega) (by omega) (by omega)
  have c8 := lo 8 (by omega) (by omega) (by omega)
  refine ⟨⟨by rw [ec 0 (by decide) (by decide), c4]; exact k0, by rw [ec 1 (by decide) (by decide), c5]; exact k1, by rw [ec 2 (by decide) (by decide), c6]; exact k2, by rw [e3, b2, k3], by rw [r (c + 1) (by omega) (by omega), c0]; exact k4, by rw [r (c + 3) (by omega) (by omega), c1]; exact k5, by rw [r (c + 3) (by omega) (by omega), c7]; exact k6, by rw [r (c + 8) (by omega) (by omega), c3]; exact k7⟩, ⟨by rw [c6]; exact z6, by rw [c8]; exact z8⟩, bs_Cw_e w1.2 (r _ (by omega) (by omega)) (r _ (by omega) (by omega)) c1 (fun k a a' => lo k (by omega) (by omega) (by omega)) hw, bs_Cf_e w3.2 (r _ (by omega) (by omega)) (r _ (by omega) (by omega)) (r _ (by omega) (by omega)) (r _ (by omega) (by omega)) c3 (fun k a a' => hi k (by omega) (by omega)) hf, fun v v0 v1 => ?_, bs_NwG_e (r _ (by omega) (by omega)) (fun k a a' => hi k (by omega) (by omega)) hg, bs_NwD_e w7 (r _ (by omega) (by omega)) c7 (fun k a a' => lo k (by omega) (by omega) (by omega)) hd, ⟨fun f f0 f1 => by rw [c3] at f0; rw [hi _ (by omega) (by omega)]; exact hz.1 f f0 f1, fun v v0 v1 => ?_, fun w u0 u1 => by rw [c1] at u0; rw [lo _ (by omega) (by omega) (by omega)]; exact hz.2.2 w u0 u1⟩, ?_, bs_Nm_new hN (Or.inr (Or.inr (Or.inl ⟨rfl, rfl, rfl⟩))) w0 w1 w2 w3 (by rw [if_neg (by decide), if_neg (by decide), if_pos rfl]; exact room) hl fresh en e17 e18 (by rw [e19, k3]) (fun j j0 j1 => eB j j0 (by omega) (by omega) (by omega)) eN⟩
  · rw [b2] at v1
    rw [e13, e14, e15, k3]
    by_cases z : v = B 2
    · subst z
      have zz := hz.2.1 (B 2) (Int.le_refl _) (by omega)
      rw [bc_setj, bc_setj, bc_setj, eb, ep, b (54 + 8 * B 2 + 2) (by omega) (by omega) (by omega) (by omega) (by omega)]
      refine ⟨rfl, rfl, zz.1.symm, fun j j0 j5 => ?_⟩
      rw [e16 _ j v0 j0 j5, if_pos k3.symm, b (54 + 8 * B 2 + (3 + j)) (by omega) (by omega) (by omega) (by omega) (by omega)]
      exact (zz.2 j j0 j5).symm
    · have q := hm v v0 (by omega)
      rw [bc_setn z, bc_setn z, bc_setn z, b (54 + 8 * v) (by omega) (by omega) (by omega) (by omega) (by omega), b (54 + 8 * v + 1) (by omega) (by omega) (by omega) (by omega) (by omega), b (54 + 8 * v + 2) (by omega) (by omega) (by omega) (by omega) (by omega)]
      refine ⟨q.1, q.2.1, q.2.2.1, fun j j0 j5 => ?_⟩
      rw [e16 _ j v0 j0 j5, if_neg (by omega), b (54 + 8 * v + (3 + j)) (by omega) (by omega) (by omega) (by omega) (by omega)]
      exact q.2.2.2 j j0 j5
  · rw [b2] at v0
    have zz := hz.2.1 v (by omega) v1
    rw [b (54 + 8 * v + 2) (by omega) (by omega) (by omega) (by omega) (by omega)]
    refine ⟨zz.1, fun j j0 j5 => ?_⟩
    rw [b (54 + 8 * v + (3 + j)) (by omega) (by omega) (by omega) (by omega) (by omega)]
    exact zz.2 j j0 j5
  · refine ⟨?_, bs_WW_p w1.2 c0 c1 (fun k a a' => lo k (by omega) (by omega) (by omega)) hww, bs_WY_p w7.2 ⟨c1, c7, fun k a a' => lo k (by omega) (by omega) (by omega)⟩ hwy, fun v u0 u1 => ?_, bs_WF_p w3.2 c0 c3 (fun k a a' => hi k (by omega) (by omega)) hwf, bs_WG_p w0.2 c0 (fun k a a' => hi k (by omega) (by omega)) hwg⟩
    · rw [c0, c1, b2, c3, c4, c5, c7]
      exact ⟨w0, w1, by omega, w3, w4, w5, w7⟩
    · rw [b2] at u1
      rw [c1, c0]
      by_cases z : v = B 2
      · subst z
        have zz := hz.2.1 (B 2) (Int.le_refl _) (by omega)
        rw [eb, ep, b (54 + 8 * B 2 + 2) (by omega) (by omega) (by omega) (by omega) (by omega), zz.1]
        refine ⟨hs, hwa, by omega, fun j j0 j5 => ?_⟩
        rw [b (54 + 8 * B 2 + (3 + j)) (by omega) (by omega) (by omega) (by omega) (by omega), zz.2 j j0 j5]
        exact ⟨by omega, fun _ => rfl⟩
      · have q := hwv v u0 (by omega)
        rw [b (54 + 8 * v) (by omega) (by omega) (by omega) (by omega) (by omega), b (54 + 8 * v + 1) (by omega) (by omega) (by omega) (by omega) (by omega), b (54 + 8 * v + 2) (by omega) (by omega) (by omega) (by omega) (by omega)]
        refine ⟨q.1, q.2.1, q.2.2.1, fun j j0 j5 => ?_⟩
        rw [b (54 + 8 * v + (3 + j)) (by omega) (by omega) (by omega) (by omega) (by omega)]
        exact q.2.2.2 j j0 j5
theorem bs_Nw_figure {m m' : bc_H} {c be s1 s2 : Int} {B NM B' NM' : Int → Int} {l : List Int} (h : bs_Nw m c B NM) (room : B 3 < 8) (hl : bs_word l) (fresh : bs_fst (fun i => m (c + 17) i = bs_c32 l) (m c 11) = -1) (hb : 0 ≤ be ∧ be < B 0) (h1 : 0 ≤ s1 ∧ s1 ≤ 9) (h2 : 0 ≤ s2 ∧ s2 ≤ 9) (e : ∀ x, c < x → x < c + 17 → (x < c + 8 ∨ c + 12 < x) → m' x = m x) (ec : ∀ y, y ≠ 11 → m' c y = m c y) (e80 : m' (c + 8) 0 = m (c + 8) 0 + 1) (f1 : m' (c + 8 + 1) = bc_set (m (c + 8 + 1)) (m (c + 8) 0) be) (f2 : m' (c + 8 + 2) = bc_set (m (c + 8 + 2)) (m (c + 8) 0) s1) (f3 : m' (c + 8 + 3) = bc_set (m (c + 8 + 3)) (m (c + 8) 0) s2) (f4 : m' (c + 8 + 4) = bc_set (m (c + 8 + 4)) (m (c + 8) 0) 0) (en : m' c 11 = m c 11 + 1) (e17 : m' (c + 17) = bc_set (m (c + 17)) (m c 11) (bs_c32 l)) (e18 : m' (c + 18) = bc_set (m (c + 18)) (m c 11) 11) (e19 : m' (c + 19) = bc_set (m (c + 19)) (m c 11) (m (c + 8) 0)) (eB : ∀ k, 0 ≤ k → k < 160 → k ≠ 102 + 4 * B 3 → k ≠ 102 + 4 * B 3 + 1 → k ≠ 102 + 4 * B 3 + 2 → B' k = bc_set B 3 (B 3 + 1) k) (g0 : B' (102 + 4 * B 3) = be) (g1 : B' (102 + 4 * B 3 + 1) = s1) (g2 : B' (102 + 4 * B 3 + 2) = s2) (eN : ∀ k, 0 ≤ k → k < 26 → NM' k = bc_set NM (18 + B 3) (bs_c256 l) k) : bs_Nw m' c B' NM' := by
  obtain ⟨⟨k0, k1, k2, k3, k4, k5, k6, k7⟩, ⟨z6, z8⟩, hw, hf, hm, hg, hd, hz, hW, hN⟩ := h
  have hW' := hW
  obtain ⟨⟨w0, w1, w2, w3, w4, w5, w7⟩, hww, hwy, hwv, hwf, hwg⟩ := hW'
  have b : ∀ k, 0 ≤ k → k < 160 → k ≠ 3 → k ≠ 102 + 4 * B 3 → k ≠ 102 + 4 * B 3 + 1 → k ≠ 102 + 4 * B 3 + 2 → B' k = B k := fun k a c' d1 d2 d3 d4 => by rw [eB k a c' d2 d3 d4, bc_setn d1]
  have b3 : B' 3 = B 3 + 1 := by rw [eB 3 (by omega) (by omega) (by omega) (by omega) (by omega), bc_setj]
  have lo : ∀ k, 0 ≤ k → k < 102 → k ≠ 3 → B' k = B k := fun k a a' a'' => b k a (by omega) a'' (by omega) (by omega) (by omega)
  have hi : ∀ k, 134 ≤ k → k < 160 → B' k = B k := fun k a a' => b k (by omega) a' (by omega) (by omega) (by omega) (by omega)
  have c0 := lo 0 (by omega) (by omega) (by omega)
  have c1 := lo 1 (by omega) (by omega) (by omega)
  have c2 := lo 2 (by omega) (by omega) (by omega)
  have c4 := lo 4 (by omega) (by omega) (by omega)
  have c5 := lo 5 (by omega) (by omega) (by omega)
  have c6 := lo 6 (by omega) (by omega) (by omega)
  have c7 := lo 7 (by omega) (by omega) (by omega)
  have c8 := lo 8 (by omega) (by omega) (by omega)
  have sh : bc_shl 1 (B 3) ≤ bc_shl 1 (B 3 + 1) := by
    have := bs_shl_s (n := B 3) w3.1 (by omega)
    have := bs_shl_r w3.1 w3.2
    omega
  have sh1 := bs_shl_r (n := B 3 + 1) (by omega) (by omega)
  refine ⟨⟨by rw [ec 0 (by decide), c4]; exact k0, by rw [ec 1 (by decide), c5]; exact k1, by rw [ec 2 (by decide), c6]; exact k2, by rw [ec 3 (by decide), c2]; exact k3, by rw [e (c + 1) (by omega) (by omega) (by omega), c0]; exact k4, by rw [e (c + 3) (by omega) (by omega) (by omega), c1]; exact k5, by rw [e (c + 3) (by omega) (by omega) (by omega), c7]; exact k6, by rw [e80, b3, k7]⟩, ⟨by rw [c6]; exact z6, by rw [c8]; exact z8⟩, bs_Cw_e w1.2 (e _ (by omega) (by omega) (by omega)) (e _ (by omega) (by omega) (by omega)) c1 (fun k a a' => lo k (by omega) (by omega) (by omega)) hw, fun f u0 u1 => ?_, bs_Cm_e w2.2 (e _ (by omega) (by omega) (by omega)) (e _ (by omega) (by omega) (by omega)) (e _ (by omega) (by omega) (by omega)) (e _ (by omega) (by omega) (by omega)) c2 (fun k a a' => lo k (by omega) (by omega) (by omega)) hm, bs_NwG_e (e _ (by omega) (by omega) (by omega)) (fun k a a' => hi k (by omega) (by omega)) hg, bs_NwD_e w7 (e _ (by omega) (by omega) (by omega)) c7 (fun k a a' => lo k (by omega) (by omega) (by omega)) hd, ⟨fun f u0 u1 => ?_, fun v v0 v1 => ?_, fun w u0 u1 => by rw [c1] at u0; rw [lo _ (by omega) (by omega) (by omega)]; exact hz.2.2 w u0 u1⟩, ?_, bs_Nm_new hN (Or.inr (Or.inr (Or.inr ⟨rfl, rfl, rfl⟩))) w0 w1 w2 w3 (by rw [if_neg (by decide), if_neg (by decide), if_neg (by decide)]; exact room) hl fresh en e17 e18 (by rw [e19, k7]) (fun j j0 j1 => eB j j0 (by omega) (by omega) (by omega) (by omega)) eN⟩
  · rw [b3] at u1
    rw [f1, f2, f3, f4, k7]
    by_cases z : f = B 3
    · subst z
      rw [bc_setj, bc_setj, bc_setj, bc_setj, g0, g1, g2, b (102 + 4 * B 3 + 3) (by omega) (by omega) (by omega) (by omega) (by omega) (by omega)]
      exact ⟨rfl, rfl, rfl, (hz.1 _ (Int.le_refl _) (by omega)).symm⟩
    · rw [bc_setn z, bc_setn z, bc_setn z, bc_setn z, b (102 + 4 * f) (by omega) (by omega) (by omega) (by omega) (by omega) (by omega), b (102 + 4 * f + 1) (by omega) (by omega) (by omega) (by omega) (by omega) (by omega), b (102 + 4 * f + 2) (by omega) (by omega) (by omega) (by omega) (by omega) (by omega), b (102 + 4 * f + 3) (by omega) (by omega) (by omega) (by omega) (by omega) (by omega)]
      exact hf f u0 (by omega)
  · rw [b3] at u0
    rw [b (102 + 4 * f + 3) (by omega) (by omega) (by omega) (by omega) (by omega) (by omega)]
    exact hz.1 f (by omega) u1
  · rw [c2] at v0
    rw [lo _ (by omega) (by omega) (by omega)]
    refine ⟨(hz.2.1 v v0 v1).1, fun j j0 j5 => ?_⟩
    rw [lo _ (by omega) (by omega) (by omega)]; exact (hz.2.1 v v0 v1).2 j j0 j5
  · refine ⟨?_, bs_WW_p w1.2 c0 c1 (fun k a a' => lo k (by omega) (by omega) (by omega)) hww, bs_WY_p w7.2 ⟨c1, c7, fun k a a' => lo k (by omega) (by omega) (by omega)⟩ hwy, bs_WV_p w2.2 c0 c1 c2 (fun k a a' => lo k (by omega) (by omega) (by omega)) hwv, fun f u0 u1 => ?_, bs_WG_p w0.2 c0 (fun k a a' => hi k (by omega) (by omega)) hwg⟩
    · rw [c0, c1, c2, b3, c4, c5, c7]
      exact ⟨w0, w1, w2, by omega, w4, w5, w7⟩
    · rw [b3] at u1
      rw [c0, b3]
      by_cases z : f = B 3
      · subst z
        rw [g0, g1, g2, b (102 + 4 * B 3 + 3) (by omega) (by omega) (by omega) (by omega) (by omega) (by omega), hz.1 _ (Int.le_refl _) (by omega)]
        exact ⟨hb, h1, h2, by omega, by omega⟩
      · have q := hwf f u0 (by omega)
        rw [b (102 + 4 * f) (by omega) (by omega) (by omega) (by omega) (by omega) (by omega), b (102 + 4 * f + 1) (by omega) (by omega) (by omega) (by omega) (by omega) (by omega), b (102 + 4 * f + 2) (by omega) (by omega) (by omega) (by omega) (by omega) (by omega), b (102 + 4 * f + 3) (by omega) (by omega) (by omega) (by omega) (by omega) (by omega)]
        exact ⟨q.1, q.2.1, q.2.2.1, by omega, by omega⟩
theorem bs_Nw_over {m m' : bc_H} {c a b : Int} {B NM B' NM' : Int → Int} (h : bs_Nw m c B NM) (ha : 0 ≤ a ∧ a < B 3) (hb : 0 ≤ b ∧ b < B 3) (e : ∀ x, c ≤ x → x < c + 20 → x ≠ c + 8 + 4 → m' x = m x) (f4 : m' (c + 8 + 4) = bc_set (m (c + 8 + 4)) a (bc_or (m (c + 8 + 4) a) (bc_shl 1 b))) (eB : ∀ k, 0 ≤ k → k < 160 → k ≠ 102 + 4 * a + 3 → B' k = B k) (g3 : B' (102 + 4 * a + 3) = bc_or (B (102 + 4 * a + 3)) (bc_shl 1 b)) (eN : ∀ k, 0 ≤ k → k < 26 → NM' k = NM k) : bs_Nw m' c B' NM' := by
  obtain ⟨⟨k0, k1, k2, k3, k4, k5, k6, k7⟩, ⟨z6, z8⟩, hw, hf, hm, hg, hd, hz, hW, hN⟩ := h
  have hW' := hW
  obtain ⟨⟨w0, w1, w2, w3, w4, w5, w7⟩, hww, hwy, hwv, hwf, hwg⟩ := hW'
  have lo : ∀ k, 0 ≤ k → k < 102 → B' k = B k := fun k a a' => eB k a (by omega) (by omega)
  have hi : ∀ k, 134 ≤ k → k < 160 → B' k = B k := fun k a a' => eB k (by omega) a' (by omega)
  have c0 := lo 0 (by omega) (by omega)
  have c1 := lo 1 (by omega) (by omega)
  have c2 := lo 2 (by omega) (by omega)
  have c3 := lo 3 (by omega) (by omega)
  have c4 := lo 4 (by omega) (by omega)
  have c5 := lo 5 (by omega) (by omega)
  have c6 := lo 6 (by omega) (by omega)
  have c7 := lo 7 (by omega) (by omega)
  have c8 := lo 8 (by omega) (by omega)
  have qa := hwf a ha.1 ha.2
  refine ⟨⟨by rw [e c (by omega) (by omega) (by omega), c4]; exact k0, by rw [e c (by omega) (by omega) (by omega), c5]; exact k1, by rw [e c (by omega) (by omega) (by omega), c6]; exact k2, by rw [e c (by omega) (by omega) (by omega), c2]; exact k3, by rw [e (c + 1) (by omega) (by omega) (by omega), c0]; exact k4, by rw [e (c + 3) (by omega) (by omega) (by omega), c1]; exact k5, by rw [e (c + 3) (by omega) (by omega) (by omega), c7]; exact k6, by rw [e (c + 8) (by omega) (by omega) (by omega), c3]; exact k7⟩, ⟨by rw [c6]; exact z6, by rw [c8]; exact z8⟩, bs_Cw_e w1.2 (e _ (by omega) (by omega) (by omega)) (e _ (by omega) (by omega) (by omega)) c1 (fun k a a' => lo k (by omega) (by omega)) hw, fun f u0 u1 => ?_, bs_Cm_e w2.2 (e _ (by omega) (by omega) (by omega)) (e _ (by omega) (by omega) (by omega)) (e _ (by omega) (by omega) (by omega)) (e _ (by omega) (by omega) (by omega)) c2 (fun k a a' => lo k (by omega) (by omega)) hm, bs_NwG_e (e _ (by omega) (by omega) (by omega)) (fun k a a' => hi k (by omega) (by omega)) hg, bs_NwD_e w7 (e _ (by omega) (by omega) (by omega)) c7 (fun k a a' => lo k (by omega) (by omega)) hd, ⟨fun f u0 u1 => ?_, fun v v0 v1 => ?_, fun w u0 u1 => by rw [c1] at u0; rw [lo _ (by omega) (by omega)]; exact hz.2.2 w u0 u1⟩, ?_, bs_Nm_eq hW (by rw [e c (by omega) (by omega) (by omega)]) (e _ (by omega) (by omega) (by omega)) (e _ (by omega) (by omega) (by omega)) (e _ (by omega) (by omega) (by omega)) (fun k a a' => lo k a (by omega)) eN hN⟩
  · rw [c3] at u1
    have q := hf f u0 u1
    rw [f4, e (c + 8 + 1) (by omega) (by omega) (by omega), e (c + 8 + 2) (by omega) (by omega) (by omega), e (c + 8 + 3) (by omega) (by omega) (by omega), eB (102 + 4 * f) (by omega) (by omega) (by omega), eB (102 + 4 * f + 1) (by omega) (by omega) (by omega), eB (102 + 4 * f + 2) (by omega) (by omega) (by omega)]
    refine ⟨q.1, q.2.1, q.2.2.1, ?_⟩
    by_cases z : f = a
    · subst z; rw [bc_setj, g3, q.2.2.2]
    · rw [bc_setn z, eB (102 + 4 * f + 3) (by omega) (by omega) (by omega)]; exact q.2.2.2
  · rw [c3] at u0
    rw [eB (102 + 4 * f + 3) (by omega) (by omega) (by omega)]
    exact hz.1 f u0 u1
  · rw [c2] at v0
    rw [lo _ (by omega) (by omega)]
    refine ⟨(hz.2.1 v v0 v1).1, fun j j0 j5 => ?_⟩
    rw [lo _ (by omega) (by omega)]; exact (hz.2.1 v v0 v1).2 j j0 j5
  · refine ⟨?_, bs_WW_p w1.2 c0 c1 (fun k a a' => lo k (by omega) (by omega)) hww, bs_WY_p w7.2 ⟨c1, c7, fun k a a' => lo k (by omega) (by omega)⟩ hwy, bs_WV_p w2.2 c0 c1 c2 (fun k a a' => lo k (by omega) (by omega)) hwv, fun f u0 u1 => ?_, bs_WG_p w0.2 c0 (fun k a a' => hi k (by omega) (by omega)) hwg⟩
    · rw [c0, c1, c2, c3, c4, c5, c7]
      exact ⟨w0, w1, w2, w3, w4, w5, w7⟩
    · rw [c3] at u1
      have q := hwf f u0 u1
      rw [c0, c3, eB (102 + 4 * f) (by omega) (by omega) (by omega), eB (102 + 4 * f + 1) (by omega) (by omega) (by omega), eB (102 + 4 * f + 2) (by omega) (by omega) (by omega)]
      refine ⟨q.1, q.2.1, q.2.2.1, ?_⟩
      by_cases z : f = a
      · subst z
        rw [g3]
        exact bs_or_r qa.2.2.2.1 hb.1 hb.2 w3.2 qa.2.2.2.2
      · rw [eB (102 + 4 * f + 3) (by omega) (by omega) (by omega)]; exact q.2.2.2
theorem bs_Nw_follows {m m' : bc_H} {c a b x : Int} {B NM B' NM' : Int → Int} (h : bs_Nw m c B NM) (ha : 0 ≤ a ∧ a < 5) (hb : 0 ≤ b ∧ b < 5) (hx : 0 ≤ x ∧ x ≤ 9) (e : ∀ y, c ≤ y → y < c + 20 → y ≠ c + 1 + 1 → m' y = m y) (f2 : m' (c + 1 + 1) = bc_set (m (c + 1 + 1)) (a * 5 + b) x) (eB : ∀ k, 0 ≤ k → k < 160 → k ≠ 134 + 5 * a + b → B' k = B k) (g : B' (134 + 5 * a + b) = x) (eN : ∀ k, 0 ≤ k → k < 26 → NM' k = NM k) : bs_Nw m' c B' NM' := by
  obtain ⟨⟨k0, k1, k2, k3, k4, k5, k6, k7⟩, ⟨z6, z8⟩, hw, hf, hm, hg, hd, hz, hW, hN⟩ := h
  have hW' := hW
  obtain ⟨⟨w0, w1, w2, w3, w4, w5, w7⟩, hww, hwy, hwv, hwf, hwg⟩ := hW'
  have lo : ∀ k, 0 ≤ k → k < 134 → B' k = B k := fun k a a' => eB k a (by omega) (by omega)
  have c0 := lo 0 (by omega) (by omega)
  have c1 := lo 1 (by omega) (by omega)
  have c2 := lo 2 (by omega) (by omega)
  have c3 := lo 3 (by omega) (by omega)
  have c4 := lo 4 (by omega) (by omega)
  have c5 := lo 5 (by omega) (by omega)
  have c6 := lo 6 (by omega) (by omega)
  have c7 := lo 7 (by omega) (by omega)
  have c8 := lo 8 (by omega) (by omega)
  have hg' : bs_NwG m' c B' := fun u v u0 u1 v0 v1 => by
    rw [f2]
    by_cases z : u = a ∧ v = b
    · obtain ⟨rfl, rfl⟩ := z
      rw [bc_setj, g]; exact ⟨rfl, hx⟩
    · rw [bc_setn (by omega), eB _ (by omega) (by omega) (by omega)]
      exact hg u v u0 u1 v0 v1
  refine ⟨⟨by rw [e c (by omega) (by omega) (by omega), c4]; exact k0, by rw [e c (by omega) (by omega) (by omega), c5]; exact k1, by rw [e c (by omega) (by omega) (by omega), c6]; exact k2, by rw [e c (by omega) (by omega) (by omega), c2]; exact k3, by rw [e (c + 1) (by omega) (by omega) (by omega), c0]; exact k4, by rw [e (c + 3) (by omega) (by omega) (by omega), c1]; exact k5, by rw [e (c + 3) (by omega) (by omega) (by omega), c7]; exact k6, by rw [e (c + 8) (by omega) (by omega) (by omega), c3]; exact k7⟩, ⟨by rw [c6]; exact z6, by rw [c8]; exact z8⟩, bs_Cw_e w1.2 (e _ (by omega) (by omega) (by omega)) (e _ (by omega) (by omega) (by omega)) c1 (fun k a a' => lo k (by omega) (by omega)) hw, bs_Cf_e w3.2 (e _ (by omega) (by omega) (by omega)) (e _ (by omega) (by omega) (by omega)) (e _ (by omega) (by omega) (by omega)) (e _ (by omega) (by omega) (by omega)) c3 (fun k a a' => lo k (by omega) (by omega)) hf, bs_Cm_e w2.2 (e _ (by omega) (by omega) (by omega)) (e _ (by omega) (by omega) (by omega)) (e _ (by omega) (by omega) (by omega)) (e _ (by omega) (by omega) (by omega)) c2 (fun k a a' => lo k (by omega) (by omega)) hm, hg', bs_NwD_e w7 (e _ (by omega) (by omega) (by omega)) c7 (fun k a a' => lo k (by omega) (by omega)) hd, bs_NwZ_e ⟨w2.1, w3.1, w1.1⟩ c1 c2 c3 (fun k a => lo k (by omega) (by omega)) hz, ?_, bs_Nm_eq hW (by rw [e c (by omega) (by omega) (by omega)]) (e _ (by omega) (by omega) (by omega)) (e _ (by omega) (by omega) (by omega)) (e _ (by omega) (by omega) (by omega)) (fun k a a' => lo k a (by omega)) eN hN⟩
  refine ⟨?_, bs_WW_p w1.2 c0 c1 (fun k a a' => lo k (by omega) (by omega)) hww, bs_WY_p w7.2 ⟨c1, c7, fun k a a' => lo k (by omega) (by omega)⟩ hwy, bs_WV_p w2.2 c0 c1 c2 (fun k a a' => lo k (by omega) (by omega)) hwv, bs_WF_p w3.2 c0 c3 (fun k a a' => lo k (by omega) (by omega)) hwf, fun u v u0 u1 v0 v1 => ?_⟩
  · rw [c0, c1, c2, c3, c4, c5, c7]
    exact ⟨w0, w1, w2, w3, w4, w5, w7⟩
  · rw [c0] at u1 v1
    exact (hg' u v u0 (by omega) v0 (by omega)).2
theorem bs_Nw_one {m m' : bc_H} {c i j x : Int} {B NM B' NM' : Int → Int} (h : bs_Nw m c B NM) (hij : (i = 4 ∧ j = 0 ∧ 0 ≤ x ∧ x ≤ 99) ∨ (i = 5 ∧ j = 1 ∧ 0 ≤ x ∧ x ≤ 16)) (e : ∀ y, c < y → y < c + 20 → m' y = m y) (ec : ∀ y, y ≠ j → m' c y = m c y) (ex : m' c j = x) (eB : ∀ k, 0 ≤ k → k < 160 → k ≠ i → B' k = B k) (g : B' i = x) (eN : ∀ k, 0 ≤ k → k < 26 → NM' k = NM k) : bs_Nw m' c B' NM' := by
  obtain ⟨⟨k0, k1, k2, k3, k4, k5, k6, k7⟩, ⟨z6, z8⟩, hw, hf, hm, hg, hd, hz, hW, hN⟩ := h
  have hW' := hW
  obtain ⟨⟨w0, w1, w2, w3, w4, w5, w7⟩, hww, hwy, hwv, hwf, hwg⟩ := hW'
  have lo : ∀ k, 0 ≤ k → k < 160 → k ≠ 4 → k ≠ 5 → B' k = B k := fun k a a' b b' => eB k a a' (by omega)
  have c0 := lo 0 (by omega) (by omega) (by omega) (by omega)
  have c1 := lo 1 (by omega) (by omega) (by omega) (by omega)
  have c2 := lo 2 (by omega) (by omega) (by omega) (by omega)
  have c3 := lo 3 (by omega) (by omega) (by omega) (by omega)
  have c6 := lo 6 (by omega) (by omega) (by omega) (by omega)
  have c7 := lo 7 (by omega) (by omega) (by omega) (by omega)
  have c8 := lo 8 (by omega) (by omega) (by omega) (by omega)
  have two : (m' c 0 = B' 4 ∧ 0 ≤ B' 4 ∧ B' 4 ≤ 999) ∧ m' c 1 = B' 5 ∧ 0 ≤ B' 5 ∧ B' 5 ≤ 16 := by
    rcases hij with ⟨rfl, rfl, x0, x1⟩ | ⟨rfl, rfl, x0, x1⟩
    · rw [ex, g, ec 1 (by decide), eB 5 (by omega) (by omega) (by omega), k1]; omega
    · rw [ex, g, ec 0 (by decide), eB 4 (by omega) (by omega) (by omega), k0]; omega
  have jj : j ≠ 2 ∧ j ≠ 3 ∧ j ≠ 11 := by omega
  refine ⟨⟨two.1.1, two.2.1, by rw [ec 2 (by omega), c6]; exact k2, by rw [ec 3 (by omega), c2]; exact k3, by rw [e (c + 1) (by omega) (by omega), c0]; exact k4, by rw [e (c + 3) (by omega) (by omega), c1]; exact k5, by rw [e (c + 3) (by omega) (by omega), c7]; exact k6, by rw [e (c + 8) (by omega) (by omega), c3]; exact k7⟩, ⟨by rw [c6]; exact z6, by rw [c8]; exact z8⟩, bs_Cw_e w1.2 (e _ (by omega) (by omega)) (e _ (by omega) (by omega)) c1 (fun k a a' => lo k (by omega) (by omega) (by omega) (by omega)) hw, bs_Cf_e w3.2 (e _ (by omega) (by omega)) (e _ (by omega) (by omega)) (e _ (by omega) (by omega)) (e _ (by omega) (by omega)) c3 (fun k a a' => lo k (by omega) (by omega) (by omega) (by omega)) hf, bs_Cm_e w2.2 (e _ (by omega) (by omega)) (e _ (by omega) (by omega)) (e _ (by omega) (by omega)) (e _ (by omega) (by omega)) c2 (fun k a a' => lo k (by omega) (by omega) (by omega) (by omega)) hm, bs_NwG_e (e _ (by omega) (by omega)) (fun k a a' => lo k (by omega) (by omega) (by omega) (by omega)) hg, bs_NwD_e w7 (e _ (by omega) (by omega)) c7 (fun k a a' => lo k (by omega) (by omega) (by omega) (by omega)) hd, bs_NwZ_e ⟨w2.1, w3.1, w1.1⟩ c1 c2 c3 (fun k a => lo k (by omega) (by omega) (by omega) (by omega)) hz, ?_, bs_Nm_eq hW (ec 11 (by omega)) (e _ (by omega) (by omega)) (e _ (by omega) (by omega)) (e _ (by omega) (by omega)) (fun k a a' => lo k a (by omega) (by omega) (by omega)) eN hN⟩
  refine ⟨?_, bs_WW_p w1.2 c0 c1 (fun k a a' => lo k (by omega) (by omega) (by omega) (by omega)) hww, bs_WY_p w7.2 ⟨c1, c7, fun k a a' => lo k (by omega) (by omega) (by omega) (by omega)⟩ hwy, bs_WV_p w2.2 c0 c1 c2 (fun k a a' => lo k (by omega) (by omega) (by omega) (by omega)) hwv, bs_WF_p w3.2 c0 c3 (fun k a a' => lo k (by omega) (by omega) (by omega) (by omega)) hwf, bs_WG_p w0.2 c0 (fun k a a' => lo k (by omega) (by omega) (by omega) (by omega)) hwg⟩
  rw [c0, c1, c2, c3, c7]
  exact ⟨w0, w1, w2, w3, two.1.2, two.2.2, w7⟩
