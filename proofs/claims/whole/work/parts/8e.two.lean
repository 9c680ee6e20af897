/-! ===== two names of a kind; over; way; follows ===== -/
theorem bs_NmAt_h {SM : bc_H → Prop} {X Y X' : (Int → Int) → Int → Int} {m m1 : bc_H} {c K off ci : Int} (h : bs_NmAt SM X Y m c K off ci) (hc : 24 ≤ c) (a : bs_Ch m m1) (hX : ∀ A, X' A ci = X A ci) : bs_NmAt SM X' Y m1 c K off ci := fun g l sm hl => by
  rw [bs_Kn_h hc a, hX]; exact h g l sm hl
theorem bs_ptwo {d D : Nat} {T : Int → Int} {n c K off ci q a2 : Int} {SM : bc_H → Prop} {G : bs_RT} {X Y : (Int → Int) → Int → Int} {m : bc_H} {R : bs_RT} {P : bc_H → bc_H → Prop} {N : bc_H → Prop} (hc : 24 ≤ c ∧ c ≤ 44) (n0 : 0 ≤ n ∧ n ≤ 900) (hb : bs_tb8 T n) (h : bs_PT T n m) (h9 : m 9 1 = c) (q0 : 0 ≤ m c 11) (q1 : m c 11 ≤ 26) (K0 : 0 ≤ K) (K1 : K < 12) (hX : bs_okX X) (hY : bs_okY Y) (t0 : 2112 ≤ a2 ∧ a2 + 1 < 2640) (o0 : 0 ≤ off) (hNm : bs_NmAt SM X Y m c K off ci) (hq : ∀ g, SM g → X (g 157) ci = q) (c1 : ci ≠ a2) (c2 : ci ≠ a2 + 1)
    (hT : bs_Tr T n SM G X Y m (fun g1 P' N' => bf_M_oldTwo (D + 4) off (g1 157 ci) a2 g1 (bc_B (fun h2 => R h2 P' N') (fun h2 => N' h2))))
    (hP : ∀ m1 m2 y z, y ≠ -1 → z ≠ -1 → z ≠ y → bs_isn m → bs_isn m1 → y = bs_cn (m c 11) (m (c + 17)) (m (c + 18)) (m (c + 19)) K (m 6 5) → z = bs_cn (m1 c 11) (m1 (c + 17)) (m1 (c + 18)) (m1 (c + 19)) K (m1 6 5) → bs_Tl6 (bc_upd m 10 K y) m1 → bs_nx T n m m1 → bs_Tl6 (bc_upd m1 10 K z) m2 → bs_nx T n m1 m2 → bs_Tr T n SM G (fun A => bc_set (bc_set (X A) a2 y) (a2 + 1) z) Y m2 R → P m1 m2) (hN : ∀ m' k, bs_Ch m m' → (k = 2 ∨ k = 3 ∨ k = 4 ∨ k = 5 ∨ k = 6) → bs_Fa SM G (bs_fl m' k) → N (bs_fl m' k)) : bf_Reader_knownName (d + 2) K (-1) m (bc_B (fun h4 => bf_Reader_knownName (d + 2) K (h4 10 K) h4 (bc_B (fun h6 => P h4 h6) (fun h6 => N h6))) (fun h4 => N h4)) := by
  have t1 : bs_Tr T n SM G X Y m (fun g1 P' N' => bf_M_oldOne (D + 3) off (g1 157 ci) a2 g1 (bc_B (fun h1 => bf_M_isName (D + 3) h1 (bc_B (fun h3 => bf_M_findHere (D + 3) off q h3 (bc_I (fun y7 h5 => (0 ≤ a2 ∧ a2 < 3968) ∧ (y7 ≠ (h5 157 a2) → (bf_M_oldOne (D + 3) off q (bc_w32 (a2 + 1)) h5 (bc_B (fun h9 => R h9 P' N') (fun h9 => N' h9)))) ∧ (y7 = (h5 157 a2) → (bf_M_fails (D + 3) 5 h5 (bc_B (fun h11 => R h11 P' N') (fun h11 => N' h11))))))) (fun h3 => bf_M_oldOne (D + 3) off q (bc_w32 (a2 + 1)) h3 (bc_B (fun h13 => R h13 P' N') (fun h13 => N' h13))))) (fun h1 => N' h1))) := bs_Tr_r hT (fun g g1 P' N' sm mid k => by
      have e : g1 157 ci = q := by rw [mid.2.2.1]; exact hq g sm
      have k1 := k g1 mid
      rw [e] at k1 ⊢
      exact rv_M_oldTwo (d := D + 3) k1)
  refine bs_pk' (d := d) (d' := D) (R := _) hc n0 hb h h9 q0 q1 K0 K1 hX hY (by omega) o0 hNm t1 (fun m1 y ny z' ey l1 x1 t2 => ?_) (fun k hk fa => hN m k ⟨fun _ _ _ => rfl, fun _ _ => rfl⟩ hk fa)
  have ch := bs_Ch_k l1
  have t3 : bs_Tr T n SM G (fun A => bc_set (X A) a2 y) Y m1 (fun g1 P' N' => bf_M_isName (D + 3) g1 (bc_B (fun h3 => bf_M_findHere (D + 3) off (g1 157 ci) h3 (bc_I (fun y7 h5 => (0 ≤ a2 ∧ a2 < 3968) ∧ (y7 ≠ (h5 157 a2) → (bf_M_oldOne (D + 3) off (g1 157 ci) (bc_w32 (a2 + 1)) h5 (bc_B (fun h9 => R h9 P' N') (fun h9 => N' h9)))) ∧ (y7 = (h5 157 a2) → (bf_M_fails (D + 3) 5 h5 (bc_B (fun h11 => R h11 P' N') (fun h11 => N' h11))))))) (fun h3 => bf_M_oldOne (D + 3) off (g1 157 ci) (bc_w32 (a2 + 1)) h3 (bc_B (fun h13 => R h13 P' N') (fun h13 => N' h13))))) := bs_Tr_r t2 (fun g g1 P' N' sm mid k => by
      have e : g1 157 ci = q := by rw [mid.2.2.1]; show bc_set _ _ _ _ = q; rw [bc_setn c1]; exact hq g sm
      have k1 := k g1 mid
      rw [e] at k1
      exact k1)
  rw [(bs_Tl6_k l1).1]
  exact bs_pk2 (d := d) (d' := D) (R := R) hc n0 hb x1.1 (by rw [ch.1 9 (by decide) (by decide)]; exact h9) (by rw [ch.1 c (by omega) (by omega)]; exact q0) (by rw [ch.1 c (by omega) (by omega)]; exact q1) K0 K1 (bs_okX_s hX (by omega)) hY t0 o0 ny (bs_NmAt_h hNm (by omega) ch (fun A => bc_setn c1)) (fun g sm => ⟨bc_setj _ _ _, c2⟩) t3 (fun m2 z nz nzy z'' ez l2 x2 t4 => hP m1 m2 y z ny nz nzy z' z'' ey ez l1 x1 l2 x2 t4) (fun k hk fa => hN m1 k ch hk fa)
theorem bs_Mid_X {T : Int → Int} {n : Int} {m g g1 : bc_H} {X X' Y : (Int → Int) → Int → Int} (h : bs_Mid T n m X Y g g1) (e : X' (g 157) = X (g 157)) : bs_Mid T n m X' Y g g1 := ⟨h.1, h.2.1, by rw [e]; exact h.2.2.1, h.2.2.2⟩
theorem bs_P_over {d D : Nat} {T : Int → Int} {n c : Int} {h m : bc_H} {P N : bc_H → Prop} (hc : 24 ≤ c ∧ c ≤ 44) (n0 : 0 ≤ n ∧ n ≤ 900) (hb : bs_tb8 T n) (ps : bs_PS h T n c m) (hP : ∀ m', bs_PS h T n c m' → m 6 10 ≤ m' 6 10 → bs_Go1 T n c m m' (fun g P N => bf_M_anOver (D + 5) g (bc_B P N)) → P m') (hN : ∀ m', bs_PF h c m' → bs_Go0 T n c m m' (fun g P N => bf_M_anOver (D + 5) g (bc_B P N)) → N m') : bf_Reader_takeOver (d + 3) m (bc_B P N) := by
  have ps' := ps
  obtain ⟨pt, ⟨z0, z1, z2⟩, z9, fr, B, NM, nw⟩ := ps'
  have cn := bs_Nw_n nw
  have cg : ∀ g, bs_SE T n c m g → g 157 2115 = m (c + 8) 0 := fun g ⟨g0, sm⟩ => (bs_Nw_n sm.2.2.2.2.2.2.1).1.2.2.2.1
  have q0 : 0 ≤ m (c + 8) 0 ∧ m (c + 8) 0 ≤ 8 := by omega
  have c11 : 0 ≤ m c 11 ∧ m c 11 ≤ 26 := by omega
  generalize eq : m (c + 8) 0 = q at cg q0
  have ff : ∀ {m' : bc_H}, bs_Ch m m' → ∀ k, (k = 2 ∨ k = 3 ∨ k = 4 ∨ k = 5 ∨ k = 6) → bs_Fa (bs_SE T n c m) (fun g P N => bf_M_anOver (D + 5) g (bc_B P N)) (bs_fl m' k) → N (bs_fl m' k) := fun a k hk fa => hN _ (bs_PFm ps (by rw [a.2 0 (by decide)]; exact z0) (fun x u v w y => a.1 x u w) hk) (bs_Go0_of fa)
  refine rv_Reader_takeOver (d := d + 2) ?_
  refine bs_pa (d := d + 1) (d' := D + 3) (SM := bs_SE T n c m) (G := fun g P N => bf_M_anOver (D + 5) g (bc_B P N)) (X := fun A => A) (Y := fun A => A) (R := _) n0 hb pt (by
    intro g P' N' se k
    obtain ⟨g0, sm⟩ := se
    refine rv_M_anOver (d := D + 4) ?_
    exact k g (bs_Mid_0 sm)) (fun m1 l1 x1 t1 => ?_)
  have ch1 := bs_Ch_l l1
  refine bs_ptwo (d := d) (D := D) (q := q) (a2 := 2632) (ci := 2115) (off := 122) (R := _) hc n0 hb x1.1 (by rw [ch1.1 9 (by decide) (by decide)]; exact z9) (by rw [ch1.1 c (by omega) (by omega)]; exact c11.1) (by rw [ch1.1 c (by omega) (by omega)]; exact c11.2) (by decide) (by decide) bs_okX_0 bs_okY_0 (by decide) (by decide) (bs_NmAt_1 (K := 11) (i := 3) (off := 18) (Or.inr (Or.inr (Or.inr ⟨rfl, rfl, rfl⟩))) (bs_Kn_h (by omega) ch1) (fun A => rfl) (fun A k k0 k1 => rfl)) cg (by decide) (by decide) t1 (fun m2 m3 y z ny nz nzy z1' z2' ey ez l2 x2 l3 x3 t3 => ?_) (fun m' k ch hk fa => ff (bs_Ch_t ch1 ch) k hk fa)
  have ch2 := bs_Ch_t ch1 (bs_Ch_k l2)
  have ch3 := bs_Ch_t ch2 (bs_Ch_k l3)
  have yr : ∀ B NM, bs_Nw m c B NM → 0 ≤ y ∧ y < B 3 := fun B NM nw => bs_kr (h := h) nw (Or.inr (Or.inr (Or.inr ⟨rfl, rfl, rfl⟩))) x1.1 z1' (bs_Kn_h (by omega) ch1) ny ey
  have zr : ∀ B NM, bs_Nw m c B NM → 0 ≤ z ∧ z < B 3 := fun B NM nw => bs_kr (h := h) nw (Or.inr (Or.inr (Or.inr ⟨rfl, rfl, rfl⟩))) x2.1 z2' (bs_Kn_h (by omega) ch2) nz ez
  have yb := yr _ _ nw
  have zb := zr _ _ nw
  have a1 := ch3.1
  rw [a1 9 (by decide) (by decide), z9, (bs_Tl6_k l2).1, (bs_Tl6_k l3).1, a1 (c + 8 + 4) (by omega) (by omega)]
  refine ⟨by omega, by omega, by omega, ?_⟩
  have rr : ∀ x, x ≠ c + 8 + 4 → bc_upd m3 (c + 8 + 4) y (bc_or (m (c + 8 + 4) y) (bc_shl 1 z)) x = m3 x := fun x u => bc_urow u
  have hO : bc_w32 (bc_w32 (2112 + bc_w32 (102 + bc_w32 (4 * y))) + 3) = 2217 + 4 * y := by
    rw [bc_wi (x := 4 * y) (by omega) (by omega), bc_wi (x := 102 + 4 * y) (by omega) (by omega), bc_wi (x := 2112 + (102 + 4 * y)) (by omega) (by omega), bc_wi (by omega) (by omega)]; omega
  refine bs_fin (m5 := m3) (X := fun A => bc_set (bc_set A 2632 y) (2632 + 1) z) (Y := fun A => A) (X' := fun A => bc_set (bc_set (bc_set A 2632 y) (2632 + 1) z) (2217 + 4 * y) (bc_or (A (2217 + 4 * y)) (bc_shl 1 z))) (Y' := fun A => A) hc ps x3.1 (Int.le_trans (Int.le_trans (bs_nx_p x1) (bs_nx_p x2)) (bs_nx_p x3)) (rr 6 (by omega)) ch3.2 (fun r u v w => by rw [rr r (by omega), a1 r u v]) ⟨a1 7 (by decide) (by decide), a1 8 (by decide) (by decide)⟩ (fun A k hk => ?_) bs_okY_0 t3 (fun g g1 P' N' se mid k => ?_) (fun A N' nw => ?_) hP
  · show bc_set (bc_set (bc_set A _ _) _ _) _ _ k = A k
    rw [bc_setn (by omega), bc_setn (by omega), bc_setn (by omega)]
  · have e2 : g1 157 2632 = y := by rw [mid.2.2.1]; show bc_set (bc_set (g 157) _ _) _ _ _ = y; rw [bc_setn (by omega), bc_setj]
    have e3 : g1 157 2633 = z := by rw [mid.2.2.1]; show bc_set (bc_set (g 157) _ _) (2632 + 1) _ 2633 = z; rw [show (2632 : Int) + 1 = 2633 by omega, bc_setj]
    have e4 : g1 157 (2217 + 4 * y) = g 157 (2217 + 4 * y) := by rw [mid.2.2.1]; show bc_set (bc_set (g 157) _ _) _ _ _ = _; rw [bc_setn (by omega), bc_setn (by omega)]
    rw [e2, e3, hO, e4]
    refine ⟨by omega, by omega, fun g2 eg => ?_⟩
    rw [eg]
    exact k _ (bs_Mid_X (bs_Mid_set mid (fun _ _ => rfl) (fun y _ => by rw [bc_urow (by decide)]) (bs_Tk_h mid.2.2.2.2.1 (fun y _ => by rw [rr 6 (by omega)]) (fun y _ => by rw [bc_urow (by decide)]) (bc_urow (by decide)))) rfl)
  · refine bs_Nw_over (a := y) (b := z) nw (yr _ _ nw) (zr _ _ nw) (fun x u v w => by rw [rr x w, a1 x (by omega) (by omega)]) (by rw [bs_rset, a1 _ (by omega) (by omega)]) (fun k k0 k1 k2 => ?_) ?_ (fun _ _ _ => rfl)
    · show bc_set (bc_set (bc_set A _ _) _ _) _ _ (2112 + k) = A (2112 + k)
      rw [bc_setn (by omega), bc_setn (by omega), bc_setn (by omega)]
    · show bc_set (bc_set (bc_set A _ _) _ _) (2217 + 4 * y) _ (2112 + (102 + 4 * y + 3)) = bc_or (A (2112 + (102 + 4 * y + 3))) _
      rw [show 2112 + (102 + 4 * y + 3) = 2217 + 4 * y by omega, bc_setj]
theorem bs_P_follows {d D : Nat} {T : Int → Int} {n c : Int} {h m : bc_H} {P N : bc_H → Prop} (hc : 24 ≤ c ∧ c ≤ 44) (n0 : 0 ≤ n ∧ n ≤ 900) (hb : bs_tb8 T n) (ps : bs_PS h T n c m) (hP : ∀ m', bs_PS h T n c m' → m 6 10 ≤ m' 6 10 → bs_Go1 T n c m m' (fun g P N => bf_M_aFollowing (D + 5) g (bc_B P N)) → P m') (hN : ∀ m', bs_PF h c m' → bs_Go0 T n c m m' (fun g P N => bf_M_aFollowing (D + 5) g (bc_B P N)) → N m') : bf_Reader_takeFollows (d + 3) m (bc_B P N) := by
  have ps' := ps
  obtain ⟨pt, ⟨z0, z1, z2⟩, z9, fr, B, NM, nw⟩ := ps'
  have cn := bs_Nw_n nw
  have c11 : 0 ≤ m c 11 ∧ m c 11 ≤ 26 := by omega
  have ff : ∀ {m' : bc_H}, bs_Ch m m' → ∀ k, (k = 2 ∨ k = 3 ∨ k = 4 ∨ k = 5 ∨ k = 6) → bs_Fa (bs_SE T n c m) (fun g P N => bf_M_aFollowing (D + 5) g (bc_B P N)) (bs_fl m' k) → N (bs_fl m' k) := fun a k hk fa => hN _ (bs_PFm ps (by rw [a.2 0 (by decide)]; exact z0) (fun x u v w y => a.1 x u w) hk) (bs_Go0_of fa)
  refine rv_Reader_takeFollows (d := d + 2) ?_
  refine bs_pa (d := d + 1) (d' := D + 3) (SM := bs_SE T n c m) (G := fun g P N => bf_M_aFollowing (D + 5) g (bc_B P N)) (X := fun A => A) (Y := fun A => A) (R := _) n0 hb pt (by
    intro g P' N' se k
    obtain ⟨g0, sm⟩ := se
    refine rv_M_aFollowing (d := D + 4) ?_
    exact k g (bs_Mid_0 sm)) (fun m1 l1 x1 t1 => ?_)
  have ch1 := bs_Ch_l l1
  refine bs_pkB (d := d) (d' := D) (to := 2632) (R := _) hc n0 hb x1.1 (by rw [ch1.1 9 (by decide) (by decide)]; exact z9) (by rw [ch1.1 c (by omega) (by omega)]; exact c11.1) (by rw [ch1.1 c (by omega) (by omega)]; exact c11.2) bs_okX_0 bs_okY_0 (by decide) (bs_NmAt_1 (K := 2) (i := 0) (off := 0) (Or.inl ⟨rfl, rfl, rfl⟩) (bs_Kn_h (by omega) ch1) (fun A => rfl) (fun A k k0 k1 => rfl)) t1 (fun m2 y ny z1' ey l2 x2 t2 => ?_) (ff ch1)
  have ch2 := bs_Ch_t ch1 (bs_Ch_k l2)
  have oX1 := bs_okX_s (v := y) bs_okX_0 (to := 2632) (by decide)
  refine bs_pkB (d := d) (d' := D) (to := 2633) (R := _) hc n0 hb x2.1 (by rw [ch2.1 9 (by decide) (by decide)]; exact z9) (by rw [ch2.1 c (by omega) (by omega)]; exact c11.1) (by rw [ch2.1 c (by omega) (by omega)]; exact c11.2) oX1 bs_okY_0 (by decide) (bs_NmAt_1 (K := 2) (i := 0) (off := 0) (Or.inl ⟨rfl, rfl, rfl⟩) (bs_Kn_h (by omega) ch2) (fun A => bc_setn (by omega)) (fun A k k0 k1 => rfl)) t2 (fun m3 z nz z2' ez l3 x3 t3 => ?_) (ff ch2)
  have ch3 := bs_Ch_t ch2 (bs_Ch_k l3)
  have oX2 := bs_okX_s (v := z) oX1 (to := 2633) (by decide)
  have yr : ∀ B NM, bs_Nw m c B NM → 0 ≤ y ∧ y < B 0 := fun B NM nw => bs_kr (h := h) nw (Or.inl ⟨rfl, rfl, rfl⟩) x1.1 z1' (bs_Kn_h (by omega) ch1) ny ey
  have zr : ∀ B NM, bs_Nw m c B NM → 0 ≤ z ∧ z < B 0 := fun B NM nw => bs_kr (h := h) nw (Or.inl ⟨rfl, rfl, rfl⟩) x2.1 z2' (bs_Kn_h (by omega) ch2) nz ez
  have yb := yr _ _ nw
  have zb := zr _ _ nw
  refine bs_pwd (d := d) (d' := D + 2) (i := 15) (w := 15) (R := _) n0 hb x3.1 oX2 bs_okY_0 (by decide) (by decide) rfl t3 (fun m4 l4 x4 t4 => ?_) (ff ch3)
  have ch4 := bs_Ch_t ch3 (bs_Ch_l l4)
  have hO : bc_w32 (bc_w32 (2246 + bc_w32 (5 * y)) + z) = 2246 + 5 * y + z := by
    rw [bc_wi (x := 5 * y) (by omega) (by omega), bc_wi (x := 2246 + 5 * y) (by omega) (by omega), bc_wi (by omega) (by omega)]
  have t5 : bs_Tr T n (bs_SE T n c m) (fun g P N => bf_M_aFollowing (D + 5) g (bc_B P N)) (fun A => bc_set (bc_set A 2632 y) 2633 z) (fun A => A) m4 (fun g1 P' N' => bf_M_number (D + 4) (2246 + 5 * y + z) 1 9 g1 (bc_B (fun h2 => P' h2) (fun h2 => N' h2))) := bs_Tr_r t4 (fun g g1 P' N' sm mid k => by
    have e2 : g1 157 2632 = y := by rw [mid.2.2.1]; show bc_set (bc_set (g 157) _ _) _ _ _ = y; rw [bc_setn (by omega), bc_setj]
    have e3 : g1 157 2633 = z := by rw [mid.2.2.1]; exact bc_setj _ _ _
    rw [e2, e3, hO]
    exact k g1 mid)
  refine bs_pn' (d := d) (d' := D + 2) (to := 2246 + 5 * y + z) (R := fun g P' N' => P' g) n0 hb x4.1 oX2 bs_okY_0 (by omega) t5 (fun m5 nu l5 x5 t6 => ?_) (ff ch4)
  have ch5 := bs_Ch_t ch4 (bs_Ch_n l5)
  have a1 := ch5.1
  have e10 : m5 10 2 = z := by rw [(bs_Tl6_n l5).2, l4.1 10 (by decide)]; exact (bs_Tl6_k l3).1
  have hS : bc_w32 (bc_w32 (y * 5) + z) = y * 5 + z := by
    rw [bc_wi (x := y * 5) (by omega) (by omega), bc_wi (by omega) (by omega)]
  rw [a1 9 (by decide) (by decide), z9, e10, (bs_Tl6_k l2).1, (bs_Tl6_n l5).1, hS]
  refine ⟨by omega, by omega, ?_⟩
  have nu2 := nu.2
  generalize m4 6 14 = x at nu2 t6
  have rr : ∀ r, r ≠ c + 1 + 1 → bc_upd m5 (c + 1 + 1) (y * 5 + z) x r = m5 r := fun r u => bc_urow u
  refine bs_fin (m5 := m5) (X := fun A => bc_set (bc_set (bc_set A 2632 y) 2633 z) (2246 + 5 * y + z) x) (Y := fun A => A) (X' := fun A => bc_set (bc_set (bc_set A 2632 y) 2633 z) (2246 + 5 * y + z) x) (Y' := fun A => A) hc ps x5.1 (Int.le_trans (Int.le_trans (Int.le_trans (Int.le_trans (bs_nx_p x1) (bs_nx_p x2)) (bs_nx_p x3)) (bs_nx_p x4)) (bs_nx_p x5)) (rr 6 (by omega)) ch5.2 (fun r u v w => by rw [rr r (by omega), a1 r u v]) ⟨a1 7 (by decide) (by decide), a1 8 (by decide) (by decide)⟩ (bs_okX_s oX2 (by omega)) bs_okY_0 t6 (fun g g1 P' N' se mid k => ?_) (fun A N' nw => ?_) hP
  · exact k _ ⟨mid.1, mid.2.1, mid.2.2.1, mid.2.2.2.1, bs_Tk_h mid.2.2.2.2.1 (fun y _ => by rw [rr 6 (by omega)]) (fun _ _ => rfl) rfl, mid.2.2.2.2.2⟩
  · refine bs_Nw_follows (a := y) (b := z) (x := x) nw (by omega) (by omega) (by omega) (fun r u v w => by rw [rr r w, a1 r (by omega) (by omega)]) (by rw [bs_rset, a1 _ (by omega) (by omega)]) (fun k k0 k1 k2 => ?_) ?_ (fun _ _ _ => rfl)
    · show bc_set (bc_set (bc_set A _ _) _ _) _ _ (2112 + k) = A (2112 + k)
      rw [bc_setn (by omega), bc_setn (by omega), bc_setn (by omega)]
    · show bc_set (bc_set (bc_set A _ _) _ _) (2246 + 5 * y + z) _ (2112 + (134 + 5 * y + z)) = x
      rw [show 2112 + (134 + 5 * y + z) = 2246 + 5 * y + z by omega, bc_setj]
