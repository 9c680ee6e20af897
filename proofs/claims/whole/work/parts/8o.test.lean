/-! ===== a day's test ===== -/
theorem bs_T_23 {d D : Nat} {T : Int → Int} {n c to w1 w2 : Int} {m m2 : bc_H} {A0 NM0 : Int → Int} {G : bs_RT} {P N : bc_H → Prop} (hc : 24 ≤ c ∧ c ≤ 44) (n0 : 0 ≤ n ∧ n ≤ 900) (hb : bs_tb8 T n) (t0 : 2112 ≤ to ∧ to + 5 < 2640) (w : (0 ≤ w1 ∧ w1 ≤ 7) ∧ 0 ≤ w2 ∧ w2 ≤ 6) (c1 : m 9 1 = c) (nm : bs_Nm (m c 11) (m (c + 17)) (m (c + 18)) (m (c + 19)) A0 NM0) (a12 : A0 1 = w1 ∧ A0 2 = w2) (n11 : 0 ≤ m c 11 ∧ m c 11 ≤ 26) (pt2 : bs_PT T n m2) (dh : bs_Dh m m2) (pr : m 6 10 ≤ m2 6 10) (z : m2 6 4 = 23) (t2 : bs_Tr T n (bs_DE T n m c to 21 w1 w2) G (fun A => A) (fun A => A) m2 (fun g1 P' N' => bf_M_test (D + 5) to g1 (bc_B (fun h4 => P' h4) (fun h4 => N' h4)))) (hP : bs_DPp T n 21 to w1 w2 m (bs_DE T n m c to 21 w1 w2) G P) (hN : bs_DNn m (bs_DE T n m c to 21 w1 w2) G N) : bf_Reader_takeTest (d + 3) m2 (bc_B P N) := by
  refine rv_Reader_takeTest (d := d + 2) ⟨fun q => absurd (z.symm.trans q) (by decide), fun _ => ⟨fun q => absurd (z.symm.trans q) (by decide), fun _ => ⟨fun _ => ?_, fun q => absurd z q⟩⟩⟩
  rw [z]
  have dh' := bs_Dh_8 (v := 23) dh
  have e6 : bc_upd m2 9 8 23 6 = m2 6 := bc_urow (by decide)
  have e98 : bc_upd m2 9 8 23 9 8 = 23 := bc_uu _ _ _ _
  have pt' : bs_PT T n (bc_upd m2 9 8 23) := bs_PT_8 pt2
  have r := bs_PT_r pt2
  have ky : bs_km (m2 6 4) = 26 := (bs_km_i (i := 23) (w := 26) (by decide) (by decide) rfl r.2.2.2.1 r.2.2.2.2).2 z
  have t1 := bs_Tr_6 e6 t2
  generalize bc_upd m2 9 8 23 = m3 at dh' e6 e98 pt' t1 ⊢
  refine bs_pa (d := d + 1) (d' := D + 3) (X := fun A => bc_set A to 2126) (Y := fun A => A) (R := _) n0 hb pt' (by
    refine bs_Tr_r t1 (fun g g1 P' N' sm mid k => ?_)
    obtain ⟨p, p0, tt⟩ := pt'.2.2.2
    refine rv_M_test (d := D + 4) (bc_m_inWords (d := D + 3) n0 p0 hb tt mid.2.2.2.2.1 ?_)
    rw [e6, ky]
    refine ⟨fun q => absurd q (by decide), fun _ => ⟨fun q => absurd q (by decide), fun _ => ⟨fun _ => ⟨by omega, ?_⟩, fun q => absurd q (by decide)⟩⟩⟩
    rw [show bc_w32 (2100 + 26) = 2126 from rfl]
    have mid' := bs_Mid_set (m1 := m3) (g2 := bc_upd g1 157 to 2126) mid (fun _ _ => rfl) (fun y _ => by rw [bc_urow (by decide)]) (bs_Tk_h mid.2.2.2.2.1 (fun _ _ => rfl) (fun y _ => by rw [bc_urow (by decide)]) (bc_urow (by decide)))
    generalize bc_upd g1 157 to 2126 = g2 at mid' ⊢
    exact k g2 mid') (fun m4 l4 x4 t4 => ?_)
  have oX := bs_okX_s (v := 2126) bs_okX_0 (to := to) (by omega)
  have dh4 := bs_Dh_t dh' (bs_Ch_l l4)
  have e4 : m4 9 8 = 23 := by rw [l4.1 9 (by decide)]; exact e98
  have pr4 : m 6 10 ≤ m4 6 10 := Int.le_trans pr (by have := bs_nx_p x4; rw [e6] at this; exact this)
  refine ⟨fun q => absurd e4 q, fun _ => ?_⟩
  refine hP m4 _ x4.1 pr4 dh4 ⟨fun g sm => ?_, oX, fun A k hk => bc_setn (by omega)⟩ (bs_Tr_r t4 (fun g g1 P' N' sm mid kk => ⟨fun q => absurd rfl q, fun _ => kk g1 mid⟩))
  have e1 : bc_set (g 157) to 2126 to = 2126 := bc_setj _ _ _
  try dsimp only
  rw [e1, e4]
  unfold bs_ln
  exact Or.inr (Or.inr (Or.inr (Or.inr (Or.inr (Or.inl ⟨rfl, rfl, Or.inr (Or.inr (Or.inl ⟨rfl, rfl⟩))⟩)))))
theorem bs_T_22 {d D : Nat} {T : Int → Int} {n c to w1 w2 : Int} {m m2 : bc_H} {A0 NM0 : Int → Int} {G : bs_RT} {P N : bc_H → Prop} (hc : 24 ≤ c ∧ c ≤ 44) (n0 : 0 ≤ n ∧ n ≤ 900) (hb : bs_tb8 T n) (t0 : 2112 ≤ to ∧ to + 5 < 2640) (w : (0 ≤ w1 ∧ w1 ≤ 7) ∧ 0 ≤ w2 ∧ w2 ≤ 6) (c1 : m 9 1 = c) (nm : bs_Nm (m c 11) (m (c + 17)) (m (c + 18)) (m (c + 19)) A0 NM0) (a12 : A0 1 = w1 ∧ A0 2 = w2) (n11 : 0 ≤ m c 11 ∧ m c 11 ≤ 26) (pt2 : bs_PT T n m2) (dh : bs_Dh m m2) (pr : m 6 10 ≤ m2 6 10) (z : m2 6 4 = 22) (t2 : bs_Tr T n (bs_DE T n m c to 21 w1 w2) G (fun A => A) (fun A => A) m2 (fun g1 P' N' => bf_M_test (D + 5) to g1 (bc_B (fun h4 => P' h4) (fun h4 => N' h4)))) (hP : bs_DPp T n 21 to w1 w2 m (bs_DE T n m c to 21 w1 w2) G P) (hN : bs_DNn m (bs_DE T n m c to 21 w1 w2) G N) : bf_Reader_takeTest (d + 3) m2 (bc_B P N) := by
  refine rv_Reader_takeTest (d := d + 2) ⟨fun _ => ?_, fun q => absurd z q⟩
  rw [z]
  have dh' := bs_Dh_8 (v := 22) dh
  have e6 : bc_upd m2 9 8 22 6 = m2 6 := bc_urow (by decide)
  have e98 : bc_upd m2 9 8 22 9 8 = 22 := bc_uu _ _ _ _
  have pt' : bs_PT T n (bc_upd m2 9 8 22) := bs_PT_8 pt2
  have r := bs_PT_r pt2
  have ky : bs_km (m2 6 4) = 25 := (bs_km_i (i := 22) (w := 25) (by decide) (by decide) rfl r.2.2.2.1 r.2.2.2.2).2 z
  have t1 := bs_Tr_6 e6 t2
  generalize bc_upd m2 9 8 22 = m3 at dh' e6 e98 pt' t1 ⊢
  refine bs_pa (d := d + 1) (d' := D + 3) (X := fun A => bc_set A to 2125) (Y := fun A => A) (R := _) n0 hb pt' (by
    refine bs_Tr_r t1 (fun g g1 P' N' sm mid k => ?_)
    obtain ⟨p, p0, tt⟩ := pt'.2.2.2
    refine rv_M_test (d := D + 4) (bc_m_inWords (d := D + 3) n0 p0 hb tt mid.2.2.2.2.1 ?_)
    rw [e6, ky]
    refine ⟨fun q => absurd q (by decide), fun _ => ⟨fun q => absurd q (by decide), fun _ => ⟨fun _ => ⟨by omega, ?_⟩, fun q => absurd q (by decide)⟩⟩⟩
    rw [show bc_w32 (2100 + 25) = 2125 from rfl]
    have mid' := bs_Mid_set (m1 := m3) (g2 := bc_upd g1 157 to 2125) mid (fun _ _ => rfl) (fun y _ => by rw [bc_urow (by decide)]) (bs_Tk_h mid.2.2.2.2.1 (fun _ _ => rfl) (fun y _ => by rw [bc_urow (by decide)]) (bc_urow (by decide)))
    generalize bc_upd g1 157 to 2125 = g2 at mid' ⊢
    exact k g2 mid') (fun m4 l4 x4 t4 => ?_)
  have oX := bs_okX_s (v := 2125) bs_okX_0 (to := to) (by omega)
  have dh4 := bs_Dh_t dh' (bs_Ch_l l4)
  have e4 : m4 9 8 = 22 := by rw [l4.1 9 (by decide)]; exact e98
  have pr4 : m 6 10 ≤ m4 6 10 := Int.le_trans pr (by have := bs_nx_p x4; rw [e6] at this; exact this)
  refine ⟨fun _ => ?_, fun q => absurd (e4.symm.trans q) (by decide)⟩
  refine bs_pv (d := d) (D := D) (tt := to + 1) (R := _) hc n0 hb t0 w c1 nm a12 n11 x4.1 dh4 pr4 (by omega) oX (by
    refine bs_Tr_r t4 (fun g g1 P' N' sm mid kk => ⟨fun _ => ?_, fun q => absurd q (by decide)⟩)
    rw [bc_wi (x := to + 1) (by omega) (by omega)]
    exact kk g1 mid) (fun m5 y yr e10 pt5 pr5 dh5 e9 t5 => ?_) hN
  have oX5 := bs_okX_s (v := y) oX (to := to + 1) (by omega)
  have e5 : m5 9 8 = 22 := by rw [e9]; exact e4
  refine ⟨fun _ => ⟨fun q => absurd e5 q, fun _ => ?_⟩, fun q => absurd (e5.symm.trans q) (by decide)⟩
  refine hP m5 _ pt5 pr5 dh5 ⟨fun g sm => ?_, oX5, fun A k hk => by rw [bc_setn (by omega), bc_setn (by omega)]⟩ (bs_Tr_r t5 (fun g g1 P' N' sm mid kk => ⟨fun q => absurd rfl q, fun _ => kk g1 mid⟩))
  have e1 : bc_set (bc_set (g 157) to 2125) (to + 1) y to = 2125 := by rw [bc_setn (by omega)]; exact bc_setj _ _ _
  have e2 : bc_set (bc_set (g 157) to 2125) (to + 1) y (to + 1) = y := bc_setj _ _ _
  try dsimp only
  rw [e1, e2, e5, e10]
  unfold bs_ln
  exact Or.inr (Or.inr (Or.inr (Or.inr (Or.inr (Or.inl ⟨rfl, rfl, Or.inl ⟨rfl, rfl, rfl, yr.1, yr.2⟩⟩)))))
theorem bs_T_10 {d D : Nat} {T : Int → Int} {n c to w1 w2 : Int} {m m2 : bc_H} {A0 NM0 : Int → Int} {G : bs_RT} {P N : bc_H → Prop} (hc : 24 ≤ c ∧ c ≤ 44) (n0 : 0 ≤ n ∧ n ≤ 900) (hb : bs_tb8 T n) (t0 : 2112 ≤ to ∧ to + 5 < 2640) (w : (0 ≤ w1 ∧ w1 ≤ 7) ∧ 0 ≤ w2 ∧ w2 ≤ 6) (c1 : m 9 1 = c) (nm : bs_Nm (m c 11) (m (c + 17)) (m (c + 18)) (m (c + 19)) A0 NM0) (a12 : A0 1 = w1 ∧ A0 2 = w2) (n11 : 0 ≤ m c 11 ∧ m c 11 ≤ 26) (pt2 : bs_PT T n m2) (dh : bs_Dh m m2) (pr : m 6 10 ≤ m2 6 10) (z : m2 6 4 = 10) (t2 : bs_Tr T n (bs_DE T n m c to 21 w1 w2) G (fun A => A) (fun A => A) m2 (fun g1 P' N' => bf_M_test (D + 5) to g1 (bc_B (fun h4 => P' h4) (fun h4 => N' h4)))) (hP : bs_DPp T n 21 to w1 w2 m (bs_DE T n m c to 21 w1 w2) G P) (hN : bs_DNn m (bs_DE T n m c to 21 w1 w2) G N) : bf_Reader_takeTest (d + 3) m2 (bc_B P N) := by
  refine rv_Reader_takeTest (d := d + 2) ⟨fun q => absurd (z.symm.trans q) (by decide), fun _ => ⟨fun _ => ?_, fun q => absurd z q⟩⟩
  rw [z]
  have dh' := bs_Dh_8 (v := 10) dh
  have e6 : bc_upd m2 9 8 10 6 = m2 6 := bc_urow (by decide)
  have e98 : bc_upd m2 9 8 10 9 8 = 10 := bc_uu _ _ _ _
  have pt' : bs_PT T n (bc_upd m2 9 8 10) := bs_PT_8 pt2
  have r := bs_PT_r pt2
  have ky : bs_km (m2 6 4) = 13 := (bs_km_i (i := 10) (w := 13) (by decide) (by decide) rfl r.2.2.2.1 r.2.2.2.2).2 z
  have t1 := bs_Tr_6 e6 t2
  generalize bc_upd m2 9 8 10 = m3 at dh' e6 e98 pt' t1 ⊢
  refine bs_pa (d := d + 1) (d' := D + 3) (X := fun A => bc_set A to 2113) (Y := fun A => A) (R := _) n0 hb pt' (by
    refine bs_Tr_r t1 (fun g g1 P' N' sm mid k => ?_)
    obtain ⟨p, p0, tt⟩ := pt'.2.2.2
    refine rv_M_test (d := D + 4) (bc_m_inWords (d := D + 3) n0 p0 hb tt mid.2.2.2.2.1 ?_)
    rw [e6, ky]
    refine ⟨fun _ => ⟨by omega, ?_⟩, fun q => absurd rfl q⟩
    rw [show bc_w32 (2100 + 13) = 2113 from rfl]
    have mid' := bs_Mid_set (m1 := m3) (g2 := bc_upd g1 157 to 2113) mid (fun _ _ => rfl) (fun y _ => by rw [bc_urow (by decide)]) (bs_Tk_h mid.2.2.2.2.1 (fun _ _ => rfl) (fun y _ => by rw [bc_urow (by decide)]) (bc_urow (by decide)))
    generalize bc_upd g1 157 to 2113 = g2 at mid' ⊢
    exact k g2 mid') (fun m4 l4 x4 t4 => ?_)
  have oX := bs_okX_s (v := 2113) bs_okX_0 (to := to) (by omega)
  have dh4 := bs_Dh_t dh' (bs_Ch_l l4)
  have e4 : m4 9 8 = 10 := by rw [l4.1 9 (by decide)]; exact e98
  have pr4 : m 6 10 ≤ m4 6 10 := Int.le_trans pr (by have := bs_nx_p x4; rw [e6] at this; exact this)
  refine ⟨fun _ => ?_, fun q => absurd (e4.symm.trans q) (by decide)⟩
  refine bs_pv (d := d) (D := D) (tt := to + 1) (R := _) hc n0 hb t0 w c1 nm a12 n11 x4.1 dh4 pr4 (by omega) oX (by
    refine bs_Tr_r t4 (fun g g1 P' N' sm mid kk => ⟨fun _ => ?_, fun q => absurd q (by decide)⟩)
    rw [bc_wi (x := to + 1) (by omega) (by omega)]
    exact kk g1 mid) (fun m5 y yr e10 pt5 pr5 dh5 e9 t5 => ?_) hN
  have oX5 := bs_okX_s (v := y) oX (to := to + 1) (by omega)
  have e5 : m5 9 8 = 10 := by rw [e9]; exact e4
  refine ⟨fun q => absurd e5 q, fun _ => ?_⟩
  refine bs_pwl (d := d) (D := D) (tt := to + 2) (R := fun g P' N' => P' g) hc n0 hb t0 w c1 nm a12 n11 pt5 dh5 pr5 (by omega) oX5 (bs_Tr_r t5 (fun g g1 P' N' sm mid kk => ⟨fun _ => ⟨fun q => absurd rfl q, fun _ => ?_⟩, fun q => absurd q (by decide)⟩)) (fun m6 u ur e103 ek pt6 pr6 dh6 e96 t6 => ?_) hN
  · rw [bc_wi (x := to + 2) (by omega) (by omega)]
    exact kk g1 mid
  · have e6' : m6 9 8 = 10 := by rw [e96]; exact e5
    refine hP m6 _ pt6 pr6 dh6 ⟨fun g sm => ?_, bs_okX_s oX5 (by omega), fun A k hk => by rw [bc_setn (by omega), bc_setn (by omega), bc_setn (by omega)]⟩ t6
    have e1 : bc_set (bc_set (bc_set (g 157) to 2113) (to + 1) y) (to + 2) u to = 2113 := by rw [bc_setn (by omega), bc_setn (by omega)]; exact bc_setj _ _ _
    have e2 : bc_set (bc_set (bc_set (g 157) to 2113) (to + 1) y) (to + 2) u (to + 1) = y := by rw [bc_setn (by omega)]; exact bc_setj _ _ _
    have e3 : bc_set (bc_set (bc_set (g 157) to 2113) (to + 1) y) (to + 2) u (to + 2) = u := bc_setj _ _ _
    try dsimp only
    rw [e1, e2, e3, if_pos (Or.inr e6'), e6', e103, ek, e10]
    unfold bs_ln
    exact Or.inr (Or.inr (Or.inr (Or.inr (Or.inr (Or.inl ⟨rfl, rfl, Or.inr (Or.inl ⟨rfl, rfl, rfl, rfl, yr, ur⟩)⟩)))))
theorem bs_T_s {d D : Nat} {T : Int → Int} {n c to w1 w2 : Int} {m m2 : bc_H} {A0 NM0 : Int → Int} {G : bs_RT} {P N : bc_H → Prop} {y s : Int} {X : (Int → Int) → Int → Int} (hc : 24 ≤ c ∧ c ≤ 44) (n0 : 0 ≤ n ∧ n ≤ 900) (hb : bs_tb8 T n) (t0 : 2112 ≤ to ∧ to + 5 < 2640) (w : (0 ≤ w1 ∧ w1 ≤ 7) ∧ 0 ≤ w2 ∧ w2 ≤ 6) (c1 : m 9 1 = c) (nm : bs_Nm (m c 11) (m (c + 17)) (m (c + 18)) (m (c + 19)) A0 NM0) (a12 : A0 1 = w1 ∧ A0 2 = w2) (n11 : 0 ≤ m c 11 ∧ m c 11 ≤ 26) (pt2 : bs_PT T n m2) (dh : bs_Dh m m2) (pr : m 6 10 ≤ m2 6 10) (hs : s = 60 ∨ s = 61 ∨ s = 62) (z : m2 6 6 = s) (e10 : m2 10 8 = y) (yr : 0 ≤ y ∧ y < w2) (oX : bs_okX X) (X0 : ∀ A, X A to = 2112) (X1 : ∀ A, X A (to + 1) = y) (X9 : ∀ A k, (k < to ∨ to + 5 < k) → X A k = A k) (t2 : bs_Tr T n (bs_DE T n m c to 21 w1 w2) G X (fun A => A) m2 (fun g1 P' N' => bf_M_ahead (D + 4) (bc_upd g1 157 (to + 5) s) (bc_U (fun h14 => bf_M_number (D + 4) (to + 2) 0 99 h14 (bc_B (fun h16 => P' h16) (fun h16 => N' h16)))))) (hP : bs_DPp T n 21 to w1 w2 m (bs_DE T n m c to 21 w1 w2) G P) (hN : bs_DNn m (bs_DE T n m c to 21 w1 w2) G N) : bf_Text_advance (d + 2) (bc_upd m2 9 8 s) (bc_U (fun h10 => bf_Text_needNumber (d + 2) 0 99 h10 (bc_B (fun h12 => P h12) (fun h12 => N h12)))) := by
  have dh' := bs_Dh_8 (v := s) dh
  have e6 : bc_upd m2 9 8 s 6 = m2 6 := bc_urow (by decide)
  have e98 : bc_upd m2 9 8 s 9 8 = s := bc_uu _ _ _ _
  have ea : bc_upd m2 9 8 s 10 = m2 10 := bc_urow (by decide)
  have pt' : bs_PT T n (bc_upd m2 9 8 s) := bs_PT_8 pt2
  have t1 := bs_Tr_6 e6 t2
  generalize bc_upd m2 9 8 s = m3 at dh' e6 e98 ea pt' t1 ⊢
  refine bs_pa (d := d + 1) (d' := D + 3) (X := fun A => bc_set (X A) (to + 5) s) (Y := fun A => A) (R := _) n0 hb pt' (by
    refine bs_Tr_r t1 (fun g g1 P' N' sm mid k => ?_)
    have mid' := bs_Mid_set (m1 := m3) (g2 := bc_upd g1 157 (to + 5) s) mid (fun _ _ => rfl) (fun y _ => by rw [bc_urow (by decide)]) (bs_Tk_h mid.2.2.2.2.1 (fun _ _ => rfl) (fun y _ => by rw [bc_urow (by decide)]) (bc_urow (by decide)))
    generalize bc_upd g1 157 (to + 5) s = g2 at mid' ⊢
    exact k g2 mid') (fun m4 l4 x4 t4 => ?_)
  have oX4 := bs_okX_s (v := s) oX (to := to + 5) (by omega)
  have dh4 := bs_Dh_t dh' (bs_Ch_l l4)
  have pr4 : m 6 10 ≤ m4 6 10 := Int.le_trans pr (by have := bs_nx_p x4; rw [e6] at this; exact this)
  refine bs_pn' (d := d) (d' := D + 2) (to := to + 2) (R := fun g P' N' => P' g) n0 hb x4.1 oX4 bs_okY_0 (by omega) t4 (fun m5 nu l5 x5 t5 => ?_) (hN m4 dh4)
  have nu2 := nu.2
  have dh5 := bs_Dh_t dh4 (bs_Ch_n l5)
  have e5 : m5 9 8 = s := by rw [l5.1 9 (by decide), bc_ur (by decide), l4.1 9 (by decide)]; exact e98
  have f5 : m5 10 8 = y := by rw [(bs_Tl6_n l5).2, l4.1 10 (by decide), ea]; exact e10
  refine hP m5 _ x5.1 (Int.le_trans pr4 (bs_nx_p x5)) dh5 ⟨fun g sm => ?_, bs_okX_s oX4 (by omega), fun A k hk => by rw [bc_setn (by omega), bc_setn (by omega)]; exact X9 A k hk⟩ t5
  have g1 : bc_set (bc_set (X (g 157)) (to + 5) s) (to + 2) (m4 6 14) to = 2112 := by rw [bc_setn (by omega), bc_setn (by omega)]; exact X0 _
  have g2 : bc_set (bc_set (X (g 157)) (to + 5) s) (to + 2) (m4 6 14) (to + 1) = y := by rw [bc_setn (by omega), bc_setn (by omega)]; exact X1 _
  have g3 : bc_set (bc_set (X (g 157)) (to + 5) s) (to + 2) (m4 6 14) (to + 2) = m4 6 14 := bc_setj _ _ _
  have g4 : bc_set (bc_set (X (g 157)) (to + 5) s) (to + 2) (m4 6 14) (to + 5) = s := by rw [bc_setn (by omega)]; exact bc_setj _ _ _
  try dsimp only
  rw [g1, g2, g3, g4, if_neg (by omega), e5, f5, (bs_Tl6_n l5).1]
  unfold bs_ln
  exact Or.inr (Or.inr (Or.inr (Or.inr (Or.inr (Or.inl ⟨rfl, rfl, Or.inr (Or.inr (Or.inr ⟨by omega, rfl, rfl, rfl, rfl, yr, nu2⟩))⟩)))))
theorem bs_T_9 {d D : Nat} {T : Int → Int} {n c to w1 w2 : Int} {m m2 : bc_H} {A0 NM0 : Int → Int} {G : bs_RT} {P N : bc_H → Prop} (hc : 24 ≤ c ∧ c ≤ 44) (n0 : 0 ≤ n ∧ n ≤ 900) (hb : bs_tb8 T n) (t0 : 2112 ≤ to ∧ to + 5 < 2640) (w : (0 ≤ w1 ∧ w1 ≤ 7) ∧ 0 ≤ w2 ∧ w2 ≤ 6) (c1 : m 9 1 = c) (nm : bs_Nm (m c 11) (m (c + 17)) (m (c + 18)) (m (c + 19)) A0 NM0) (a12 : A0 1 = w1 ∧ A0 2 = w2) (n11 : 0 ≤ m c 11 ∧ m c 11 ≤ 26) (pt2 : bs_PT T n m2) (dh : bs_Dh m m2) (pr : m 6 10 ≤ m2 6 10) (z : m2 6 4 = 9) (t2 : bs_Tr T n (bs_DE T n m c to 21 w1 w2) G (fun A => A) (fun A => A) m2 (fun g1 P' N' => bf_M_test (D + 5) to g1 (bc_B (fun h4 => P' h4) (fun h4 => N' h4)))) (hP : bs_DPp T n 21 to w1 w2 m (bs_DE T n m c to 21 w1 w2) G P) (hN : bs_DNn m (bs_DE T n m c to 21 w1 w2) G N) : bf_Reader_takeTest (d + 3) m2 (bc_B P N) := by
  refine rv_Reader_takeTest (d := d + 2) ⟨fun q => absurd (z.symm.trans q) (by decide), fun _ => ⟨fun q => absurd (z.symm.trans q) (by decide), fun _ => ⟨fun q => absurd (z.symm.trans q) (by decide), fun _ => ⟨fun _ => ?_, fun q => absurd z q⟩⟩⟩⟩
  rw [z]
  have dh' := bs_Dh_8 (v := 9) dh
  have e6 : bc_upd m2 9 8 9 6 = m2 6 := bc_urow (by decide)
  have e98 : bc_upd m2 9 8 9 9 8 = 9 := bc_uu _ _ _ _
  have pt' : bs_PT T n (bc_upd m2 9 8 9) := bs_PT_8 pt2
  have r := bs_PT_r pt2
  have ky : bs_km (m2 6 4) = 12 := (bs_km_i (i := 9) (w := 12) (by decide) (by decide) rfl r.2.2.2.1 r.2.2.2.2).2 z
  have t1 := bs_Tr_6 e6 t2
  generalize bc_upd m2 9 8 9 = m3 at dh' e6 e98 pt' t1 ⊢
  refine bs_pa (d := d + 1) (d' := D + 3) (X := fun A => bc_set A to 2112) (Y := fun A => A) (R := _) n0 hb pt' (by
    refine bs_Tr_r t1 (fun g g1 P' N' sm mid k => ?_)
    obtain ⟨p, p0, tt⟩ := pt'.2.2.2
    refine rv_M_test (d := D + 4) (bc_m_inWords (d := D + 3) n0 p0 hb tt mid.2.2.2.2.1 ?_)
    rw [e6, ky]
    refine ⟨fun q => absurd q (by decide), fun _ => ⟨fun _ => ⟨by omega, ?_⟩, fun q => absurd rfl q⟩⟩
    rw [show bc_w32 (2100 + 12) = 2112 from rfl]
    have mid' := bs_Mid_set (m1 := m3) (g2 := bc_upd g1 157 to 2112) mid (fun _ _ => rfl) (fun y _ => by rw [bc_urow (by decide)]) (bs_Tk_h mid.2.2.2.2.1 (fun _ _ => rfl) (fun y _ => by rw [bc_urow (by decide)]) (bc_urow (by decide)))
    generalize bc_upd g1 157 to 2112 = g2 at mid' ⊢
    exact k g2 mid') (fun m4 l4 x4 t4 => ?_)
  have oX := bs_okX_s (v := 2112) bs_okX_0 (to := to) (by omega)
  have dh4 := bs_Dh_t dh' (bs_Ch_l l4)
  have e4 : m4 9 8 = 9 := by rw [l4.1 9 (by decide)]; exact e98
  have pr4 : m 6 10 ≤ m4 6 10 := Int.le_trans pr (by have := bs_nx_p x4; rw [e6] at this; exact this)
  refine ⟨fun _ => ?_, fun q => absurd (e4.symm.trans q) (by decide)⟩
  refine bs_pv (d := d) (D := D) (tt := to + 1) (R := _) hc n0 hb t0 w c1 nm a12 n11 x4.1 dh4 pr4 (by omega) oX (by
    refine bs_Tr_r t4 (fun g g1 P' N' sm mid kk => ⟨fun _ => ?_, fun q => absurd q (by decide)⟩)
    rw [bc_wi (x := to + 1) (by omega) (by omega)]
    exact kk g1 mid) (fun m5 y yr e10 pt5 pr5 dh5 e9 t5 => ?_) hN
  have oX5 := bs_okX_s (v := y) oX (to := to + 1) (by omega)
  have e5 : m5 9 8 = 9 := by rw [e9]; exact e4
  refine ⟨fun _ => ⟨fun _ => ?_, fun q => absurd (e5.symm.trans q) (by decide)⟩, fun q => absurd (e5.symm.trans q) (by decide)⟩
  have X0 : ∀ A : Int → Int, bc_set (bc_set A to 2112) (to + 1) y to = 2112 := fun A => by rw [bc_setn (by omega)]; exact bc_setj _ _ _
  have X1 : ∀ A : Int → Int, bc_set (bc_set A to 2112) (to + 1) y (to + 1) = y := fun A => bc_setj _ _ _
  have X9 : ∀ (A : Int → Int) k, (k < to ∨ to + 5 < k) → bc_set (bc_set A to 2112) (to + 1) y k = A k := fun A k hk => by rw [bc_setn (by omega), bc_setn (by omega)]
  have sg : ∀ {g1 : bc_H} (s : Int), 0 ≤ s → bs_Tk T n m5 g1 → ((g1 156 12 = 4 ∧ g1 156 15 = s) ↔ m5 6 6 = s) := fun s s0 tk => bs_sign pt5 tk s0
  have w2' : bc_w32 (to + 2) = to + 2 := bc_wi (by omega) (by omega)
  have w5' : bc_w32 (to + 5) = to + 5 := bc_wi (by omega) (by omega)
  refine ⟨fun u60 => ?_, fun u60 => ⟨fun u62 => ?_, fun u62 => ⟨fun u61 => ?_, fun u61 => ?_⟩⟩⟩
  · rw [u60]
    exact bs_T_s (d := d) (D := D) (s := 60) (X := fun A => bc_set (bc_set A to 2112) (to + 1) y) hc n0 hb t0 w c1 nm a12 n11 pt5 dh5 pr5 (by omega) u60 e10 yr oX5 X0 X1 X9 (by
      refine bs_Tr_r t5 (fun g g1 P' N' sm mid kk => ⟨fun _ => ⟨fun _ => ?_, fun q => absurd q (by decide)⟩, fun q => absurd q (by decide)⟩)
      refine rv_M_isSign ⟨fun q => ⟨by omega, ?_⟩, fun q => absurd ((sg 60 (by decide) mid.2.2.2.2.1).2 u60) q⟩
      rw [q.2, w5', w2']
      exact kk g1 mid) hP hN
  · rw [u62]
    exact bs_T_s (d := d) (D := D) (s := 62) (X := fun A => bc_set (bc_set A to 2112) (to + 1) y) hc n0 hb t0 w c1 nm a12 n11 pt5 dh5 pr5 (by omega) u62 e10 yr oX5 X0 X1 X9 (by
      refine bs_Tr_r t5 (fun g g1 P' N' sm mid kk => ⟨fun _ => ⟨fun _ => ?_, fun q => absurd q (by decide)⟩, fun q => absurd q (by decide)⟩)
      refine rv_M_isSign ⟨fun q => absurd ((sg 60 (by decide) mid.2.2.2.2.1).1 q) u60, fun _ => ?_⟩
      refine rv_M_isSign ⟨fun q => ⟨by omega, ?_⟩, fun q => absurd ((sg 62 (by decide) mid.2.2.2.2.1).2 u62) q⟩
      rw [q.2, w5', w2']
      exact kk g1 mid) hP hN
  · rw [u61]
    exact bs_T_s (d := d) (D := D) (s := 61) (X := fun A => bc_set (bc_set A to 2112) (to + 1) y) hc n0 hb t0 w c1 nm a12 n11 pt5 dh5 pr5 (by omega) u61 e10 yr oX5 X0 X1 X9 (by
      refine bs_Tr_r t5 (fun g g1 P' N' sm mid kk => ⟨fun _ => ⟨fun _ => ?_, fun q => absurd q (by decide)⟩, fun q => absurd q (by decide)⟩)
      refine rv_M_isSign ⟨fun q => absurd ((sg 60 (by decide) mid.2.2.2.2.1).1 q) u60, fun _ => ?_⟩
      refine rv_M_isSign ⟨fun q => absurd ((sg 62 (by decide) mid.2.2.2.2.1).1 q) u62, fun _ => ?_⟩
      refine rv_M_isSign ⟨fun q => ⟨by omega, ?_⟩, fun q => absurd ((sg 61 (by decide) mid.2.2.2.2.1).2 u61) q⟩
      rw [q.2, w5', w2']
      exact kk g1 mid) hP hN
  · refine rv_Text_fail (hN (bc_upd m5 9 8 (m5 6 6)) (bs_Dh_8 dh5) 2 (Or.inl rfl) (bs_Fa_of oX5 bs_okY_0 (bs_Tr_6 (bc_urow (by decide)) t5) (fun g g1 P' N' sm mid hN' => ⟨fun _ => ⟨fun _ => ?_, fun q => absurd q (by decide)⟩, fun q => absurd q (by decide)⟩)))
    have e66 : bc_upd m5 9 8 (m5 6 6) 6 = m5 6 := bc_urow (by decide)
    have tk : bs_Tk T n m5 g1 := bs_Tk_h mid.2.2.2.2.1 (fun y _ => by rw [e66]) (fun _ _ => rfl) rfl
    refine rv_M_isSign ⟨fun q => absurd ((sg 60 (by decide) tk).1 q) u60, fun _ => ?_⟩
    refine rv_M_isSign ⟨fun q => absurd ((sg 62 (by decide) tk).1 q) u62, fun _ => ?_⟩
    refine rv_M_isSign ⟨fun q => absurd ((sg 61 (by decide) tk).1 q) u61, fun _ => ?_⟩
    exact bc_m_fails mid.2.2.2.2.1 mid.2.2.2.2.2 hN'
theorem bs_D_21 {d D : Nat} {T : Int → Int} {n c to w1 w2 : Int} {m m2 : bc_H} {A0 NM0 : Int → Int} {G : bs_RT} {P N : bc_H → Prop} (hc : 24 ≤ c ∧ c ≤ 44) (n0 : 0 ≤ n ∧ n ≤ 900) (hb : bs_tb8 T n) (t0 : 2112 ≤ to ∧ to + 5 < 2640) (w : (0 ≤ w1 ∧ w1 ≤ 7) ∧ 0 ≤ w2 ∧ w2 ≤ 6) (c1 : m 9 1 = c) (nm : bs_Nm (m c 11) (m (c + 17)) (m (c + 18)) (m (c + 19)) A0 NM0) (a12 : A0 1 = w1 ∧ A0 2 = w2) (n11 : 0 ≤ m c 11 ∧ m c 11 ≤ 26) (pt2 : bs_PT T n m2) (dh : bs_Dh m m2) (pr : m 6 10 ≤ m2 6 10) (t2 : bs_Tr T n (bs_DE T n m c to 21 w1 w2) G (fun A => A) (fun A => A) m2 (fun g1 P' N' => bf_M_test (D + 5) to g1 (bc_B (fun h4 => P' h4) (fun h4 => N' h4)))) (hP : bs_DPp T n 21 to w1 w2 m (bs_DE T n m c to 21 w1 w2) G P) (hN : bs_DNn m (bs_DE T n m c to 21 w1 w2) G N) : bf_Reader_takeTest (d + 3) m2 (bc_B P N) := by
  by_cases z22 : m2 6 4 = 22
  · exact bs_T_22 (D := D) hc n0 hb t0 w c1 nm a12 n11 pt2 dh pr z22 t2 hP hN
  by_cases z10 : m2 6 4 = 10
  · exact bs_T_10 (D := D) hc n0 hb t0 w c1 nm a12 n11 pt2 dh pr z10 t2 hP hN
  by_cases z23 : m2 6 4 = 23
  · exact bs_T_23 (D := D) hc n0 hb t0 w c1 nm a12 n11 pt2 dh pr z23 t2 hP hN
  by_cases z9 : m2 6 4 = 9
  · exact bs_T_9 (D := D) hc n0 hb t0 w c1 nm a12 n11 pt2 dh pr z9 t2 hP hN
  have e6 : bc_upd m2 9 8 (m2 6 4) 6 = m2 6 := bc_urow (by decide)
  refine rv_Reader_takeTest (d := d + 2) ⟨fun q => absurd q z22, fun _ => ⟨fun q => absurd q z10, fun _ => ⟨fun q => absurd q z23, fun _ => ⟨fun q => absurd q z9, fun _ => ?_⟩⟩⟩⟩
  refine rv_Text_fail (hN (bc_upd m2 9 8 (m2 6 4)) (bs_Dh_8 dh) 2 (Or.inl rfl) (bs_Fa_of bs_okX_0 bs_okY_0 (bs_Tr_6 e6 t2) (fun g g1 P' N' sm mid hN' => ?_)))
  have tk : bs_Tk T n m2 g1 := bs_Tk_h mid.2.2.2.2.1 (fun y _ => by rw [e6]) (fun _ _ => rfl) rfl
  obtain ⟨p, p0, tt⟩ := pt2.2.2.2
  have r := bs_PT_r pt2
  have f12 := (bs_km_i (i := 9) (w := 12) (by decide) (by decide) rfl r.2.2.2.1 r.2.2.2.2).1
  have f13 := (bs_km_i (i := 10) (w := 13) (by decide) (by decide) rfl r.2.2.2.1 r.2.2.2.2).1
  have f25 := (bs_km_i (i := 22) (w := 25) (by decide) (by decide) rfl r.2.2.2.1 r.2.2.2.2).1
  have f26 := (bs_km_i (i := 23) (w := 26) (by decide) (by decide) rfl r.2.2.2.1 r.2.2.2.2).1
  have k26 : bs_km (m2 6 4) ≤ 26 := by
    unfold bs_km
    split
    · decide
    · have := (bs_w4 (i := m2 6 4) (by omega) r.2.2.2.2).1; omega
  refine rv_M_test (d := D + 4) (bc_m_inWords (d := D + 3) n0 p0 hb tt tk ?_)
  exact ⟨fun q => absurd (f13 q) z10, fun _ => ⟨fun q => absurd (f12 q) z9, fun _ => ⟨fun q => by
    by_cases u : bs_km (m2 6 4) = 25
    · exact absurd (f25 u) z22
    · exact absurd (f26 (by omega)) z23, fun _ => bc_m_fails mid.2.2.2.2.1 mid.2.2.2.2.2 hN'⟩⟩⟩
