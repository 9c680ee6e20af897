/-! ===== a way that is told ===== -/
theorem bs_way_y (B : Int → Int) (a b : Int) (h7 : 0 ≤ B 7) : bs_way B a b = bs_way B b a := by
  unfold bs_way
  refine bc_it_congr (fun i x i0 i1 => ?_)
  unfold bs_wayf
  by_cases u : B (24 + 3 * i) = a ∧ B (24 + 3 * i + 1) = b
  · rw [if_pos (Or.inl u), if_pos (Or.inr u)]
  · by_cases v : B (24 + 3 * i) = b ∧ B (24 + 3 * i + 1) = a
    · rw [if_pos (Or.inr v), if_pos (Or.inl v)]
    · rw [if_neg (fun w => by rcases w with w | w; exact u w; exact v w), if_neg (fun w => by rcases w with w | w; exact v w; exact u w)]
theorem bs_ix7 {a b y z : Int} (ha : 0 ≤ a ∧ a < 7) (hb : 0 ≤ b ∧ b < 7) (hy : 0 ≤ y ∧ y < 7) (hz : 0 ≤ z ∧ z < 7) : a * 7 + b = y * 7 + z ↔ a = y ∧ b = z := by omega
/-- two walls are joined -/
theorem bc_c_join {d : Nat} {c y z x : Int} {m : bc_H} {K : bc_H → Prop} (hy : 0 ≤ y ∧ y < 7) (hz : 0 ≤ z ∧ z < 7) (hx : 1 ≤ x) (sy : m (c + 3 + 3) (y * 7 + z) = m (c + 3 + 3) (z * 7 + y)) (c1 : 0 ≤ m (c + 3) 1 ∧ m (c + 3) 1 < 10) (hK : ∀ m', (∀ r, r ≠ c + 3 → r ≠ c + 3 + 3 → m' r = m r) → m' (c + 3) 0 = m (c + 3) 0 → m' (c + 3) 1 = m (c + 3) 1 + 1 → (∀ a b, 0 ≤ a → a < 7 → 0 ≤ b → b < 7 → m' (c + 3 + 3) (a * 7 + b) = if ((y = a ∧ z = b) ∨ (y = b ∧ z = a)) ∧ (m (c + 3 + 3) (a * 7 + b) = 0 ∨ x < m (c + 3 + 3) (a * 7 + b)) then x else m (c + 3 + 3) (a * 7 + b)) → K m') : bf_Walls_join d (c + 3) y z x m (bc_U K) := by
  have i1 : bc_w32 (bc_w32 (y * 7) + z) = y * 7 + z := by rw [bc_wi (x := y * 7) (by omega) (by omega), bc_wi (by omega) (by omega)]
  have i2 : bc_w32 (bc_w32 (z * 7) + y) = z * 7 + y := by rw [bc_wi (x := z * 7) (by omega) (by omega), bc_wi (by omega) (by omega)]
  have set2 : (m (c + 3 + 3) (y * 7 + z) = 0 ∨ x < m (c + 3 + 3) (y * 7 + z)) → ∀ m', m' = bc_upd (bc_upd (bc_upd m (c + 3 + 3) (y * 7 + z) x) (c + 3 + 3) (z * 7 + y) x) (c + 3) 1 (bc_w32 (bc_upd (bc_upd m (c + 3 + 3) (y * 7 + z) x) (c + 3 + 3) (z * 7 + y) x (c + 3) 1 + 1)) → K m' := fun o m' em => by
    have e1 : bc_upd (bc_upd m (c + 3 + 3) (y * 7 + z) x) (c + 3 + 3) (z * 7 + y) x (c + 3) = m (c + 3) := by rw [bc_urow (by omega), bc_urow (by omega)]
    rw [e1, bc_wi (by omega) (by omega)] at em
    refine hK m' (fun r u v => by rw [em, bc_urow u, bc_urow v, bc_urow v]) (by rw [em, bc_uj (by decide), e1]) (by rw [em, bc_uu]) (fun a b a0 a1 b0 b1 => ?_)
    rw [em, bc_urow (by omega)]
    have j1 := bs_ix7 (a := a) (b := b) (y := z) (z := y) ⟨a0, a1⟩ ⟨b0, b1⟩ hz hy
    have j2 := bs_ix7 (a := a) (b := b) (y := y) (z := z) ⟨a0, a1⟩ ⟨b0, b1⟩ hy hz
    by_cases u : a = z ∧ b = y
    · obtain ⟨rfl, rfl⟩ := u
      rw [bc_uu, if_pos ⟨Or.inr ⟨rfl, rfl⟩, by rw [← sy]; exact o⟩]
    · rw [bc_uj (fun w => u (j1.1 w))]
      by_cases v : a = y ∧ b = z
      · obtain ⟨rfl, rfl⟩ := v
        rw [bc_uu, if_pos ⟨Or.inl ⟨rfl, rfl⟩, o⟩]
      · rw [bc_uj (fun w => v (j2.1 w)), if_neg (fun w => by rcases w.1 with w | w; exact v ⟨w.1.symm, w.2.symm⟩; exact u ⟨w.2.symm, w.1.symm⟩)]
  refine rv_Walls_join ?_
  rw [i1, i2]
  refine ⟨by omega, fun e => ⟨by omega, by omega, set2 (Or.inl e)⟩, fun ne => ⟨by omega, fun le => ?_, fun lt => ⟨by omega, by omega, set2 (Or.inr lt)⟩⟩⟩
  rw [bc_wi (by omega) (by omega)]
  refine hK _ (fun r u v => bc_urow u) (by rw [bc_uj (by decide)]) (bc_uu _ _ _ _) (fun a b a0 a1 b0 b1 => ?_)
  rw [bc_urow (by omega)]
  by_cases u : (y = a ∧ z = b) ∨ (y = b ∧ z = a)
  · have same : m (c + 3 + 3) (a * 7 + b) = m (c + 3 + 3) (y * 7 + z) := by
      rcases u with u | u
      · rw [u.1, u.2]
      · rw [← u.1, ← u.2]; exact sy.symm
    rw [same, if_neg (fun w => by rcases w.2 with w | w; exact ne w; omega)]
  · rw [if_neg (fun w => u w.1)]
theorem bs_P_way {d D : Nat} {T : Int → Int} {n c : Int} {h m : bc_H} {P N : bc_H → Prop} (hc : 24 ≤ c ∧ c ≤ 44) (n0 : 0 ≤ n ∧ n ≤ 900) (hb : bs_tb8 T n) (ps : bs_PS h T n c m) (hP : ∀ m', bs_PS h T n c m' → m 6 10 ≤ m' 6 10 → bs_Go1 T n c m m' (fun g P N => bf_M_aWay (D + 5) g (bc_B P N)) → P m') (hN : ∀ m', bs_PF h c m' → bs_Go0 T n c m m' (fun g P N => bf_M_aWay (D + 5) g (bc_B P N)) → N m') : bf_Reader_takeWay (d + 3) m (bc_B P N) := by
  have ps' := ps
  obtain ⟨pt, ⟨z0, z1, z2⟩, z9, fr, B, NM, nw⟩ := ps'
  have cn := bs_Nw_n nw
  have cg : ∀ g, bs_SE T n c m g → g 157 2113 = m (c + 3) 0 := fun g ⟨g0, sm⟩ => (bs_Nw_n sm.2.2.2.2.2.2.1).1.2.1
  have cw : ∀ g, bs_SE T n c m g → g 157 2119 = m (c + 3) 1 := fun g ⟨g0, sm⟩ => (bs_Nw_n sm.2.2.2.2.2.2.1).1.2.2.2.2
  have q0 : 0 ≤ m (c + 3) 0 ∧ m (c + 3) 0 ≤ 7 := by omega
  have w0 : 0 ≤ m (c + 3) 1 ∧ m (c + 3) 1 ≤ 10 := by omega
  have c11 : 0 ≤ m c 11 ∧ m c 11 ≤ 26 := by omega
  have eqB : B 1 = m (c + 3) 0 := cn.1.2.1
  have ff : ∀ {m' : bc_H}, bs_Ch m m' → ∀ k, (k = 2 ∨ k = 3 ∨ k = 4 ∨ k = 5 ∨ k = 6) → bs_Fa (bs_SE T n c m) (fun g P N => bf_M_aWay (D + 5) g (bc_B P N)) (bs_fl m' k) → N (bs_fl m' k) := fun a k hk fa => hN _ (bs_PFm ps (by rw [a.2 0 (by decide)]; exact z0) (fun x u v w y => a.1 x u w) hk) (bs_Go0_of fa)
  refine rv_Reader_takeWay (d := d + 2) ?_
  rw [z9]
  generalize eq : m (c + 3) 0 = q at cg q0 eqB
  generalize eqw : m (c + 3) 1 = p at cw w0
  have hW : bc_w32 (2136 + bc_w32 (3 * p)) = 2136 + 3 * p := by rw [bc_wi (x := 3 * p) (by omega) (by omega), bc_wi (by omega) (by omega)]
  have hW2 : bc_w32 (2136 + 3 * p + 2) = 2136 + 3 * p + 2 := bc_wi (by omega) (by omega)
  refine ⟨by omega, fun lt => ?_, fun ge => rv_Text_fail (hN _ (bs_PF_of z0 fr (by decide)) (bs_Go0_of (bs_Fa_of (X := fun A => A) (Y := fun A => A) (R := fun g1 P' N' => bf_M_aWay (D + 5) g1 (bc_B P' N')) bs_okX_0 bs_okY_0 (fun g P' N' ⟨_, sm⟩ k => k g (bs_Mid_0 sm)) (fun g g1 P' N' sm mid hN' => rv_M_aWay (d := D + 4) ?_))))⟩
  · refine bs_pa (d := d + 1) (d' := D + 3) (SM := bs_SE T n c m) (G := fun g P N => bf_M_aWay (D + 5) g (bc_B P N)) (X := fun A => A) (Y := fun A => A) (R := _) n0 hb pt (by
      intro g P' N' se k
      have e1 := cw g se
      obtain ⟨g0, sm⟩ := se
      refine rv_M_aWay (d := D + 4) ?_
      rw [e1, hW, hW2]
      exact ⟨fun _ => k g (bs_Mid_0 sm), fun u => absurd u (by omega)⟩) (fun m1 l1 x1 t1 => ?_)
    have ch1 := bs_Ch_l l1
    refine bs_ptwo (d := d) (D := D) (q := q) (a2 := 2136 + 3 * p) (ci := 2113) (off := 109) (R := _) hc n0 hb x1.1 (by rw [ch1.1 9 (by decide) (by decide)]; exact z9) (by rw [ch1.1 c (by omega) (by omega)]; exact c11.1) (by rw [ch1.1 c (by omega) (by omega)]; exact c11.2) (by decide) (by decide) bs_okX_0 bs_okY_0 (by omega) (by decide) (bs_NmAt_1 (K := 3) (i := 1) (off := 5) (Or.inr (Or.inl ⟨rfl, rfl, rfl⟩)) (bs_Kn_h (by omega) ch1) (fun A => rfl) (fun A k k0 k1 => rfl)) cg (by omega) (by omega) t1 (fun m2 m3 y z ny nz nzy z1' z2' ey ez l2 x2 l3 x3 t3 => ?_) (fun m' k ch hk fa => ff (bs_Ch_t ch1 ch) k hk fa)
    have ch2 := bs_Ch_t ch1 (bs_Ch_k l2)
    have ch3 := bs_Ch_t ch2 (bs_Ch_k l3)
    have yr : ∀ B NM, bs_Nw m c B NM → 0 ≤ y ∧ y < B 1 := fun B NM nw => bs_kr (h := h) nw (Or.inr (Or.inl ⟨rfl, rfl, rfl⟩)) x1.1 z1' (bs_Kn_h (by omega) ch1) ny ey
    have zr : ∀ B NM, bs_Nw m c B NM → 0 ≤ z ∧ z < B 1 := fun B NM nw => bs_kr (h := h) nw (Or.inr (Or.inl ⟨rfl, rfl, rfl⟩)) x2.1 z2' (bs_Kn_h (by omega) ch2) nz ez
    have yb := yr _ _ nw
    have zb := zr _ _ nw
    have oX2 : bs_okX (fun A => bc_set (bc_set A (2136 + 3 * p) y) (2136 + 3 * p + 1) z) := bs_okX_s (bs_okX_s bs_okX_0 (by omega)) (by omega)
    refine bs_pwd (d := d) (d' := D + 2) (i := 7) (w := 11) (R := _) n0 hb x3.1 oX2 bs_okY_0 (by decide) (by decide) rfl t3 (fun m4 l4 x4 t4 => ?_) (ff ch3)
    have ch4 := bs_Ch_t ch3 (bs_Ch_l l4)
    refine bs_pn' (d := d) (d' := D + 2) (to := 2136 + 3 * p + 2) (R := _) n0 hb x4.1 oX2 bs_okY_0 (by omega) t4 (fun m5 nu l5 x5 t5 => ?_) (ff ch4)
    have ch5 := bs_Ch_t ch4 (bs_Ch_n l5)
    have a1 := ch5.1
    have e10 : m5 10 3 = z := by rw [(bs_Tl6_n l5).2, l4.1 10 (by decide)]; exact (bs_Tl6_k l3).1
    rw [a1 9 (by decide) (by decide), z9, e10, (bs_Tl6_k l2).1, (bs_Tl6_n l5).1]
    have nu2 := nu.2
    generalize m4 6 14 = x at nu2 t5
    have hD := nw.2.2.2.2.2.2.1
    have b70 : 0 ≤ B 7 := cn.2.2.2.2.2.1.1
    refine ⟨by omega, bc_c_join (by omega) (by omega) (by omega) ?_ (by rw [a1 _ (by omega) (by omega), eqw]; omega) (fun m' f1 f2 f3 f4 => ?_)⟩
    · rw [a1 _ (by omega) (by omega), hD y z (by omega) (by omega) (by omega) (by omega), hD z y (by omega) (by omega) (by omega) (by omega), bs_way_y B y z b70]
    have rr : ∀ r, r ≠ c + 3 → r ≠ c + 3 + 3 → m' r = m5 r := f1
    refine bs_fin (m5 := m5) (m' := m') (X := fun A => bc_set (bc_set (bc_set A (2136 + 3 * p) y) (2136 + 3 * p + 1) z) (2136 + 3 * p + 2) x) (Y := fun A => A) (X' := fun A => bc_set (bc_set (bc_set (bc_set A (2136 + 3 * p) y) (2136 + 3 * p + 1) z) (2136 + 3 * p + 2) x) 2119 (p + 1)) (Y' := fun A => A) hc ps x5.1 (Int.le_trans (Int.le_trans (Int.le_trans (Int.le_trans (bs_nx_p x1) (bs_nx_p x2)) (bs_nx_p x3)) (bs_nx_p x4)) (bs_nx_p x5)) (rr 6 (by omega) (by omega)) ch5.2 (fun r u v w => by rw [rr r (by omega) (by omega), a1 r u v]) ⟨a1 7 (by decide) (by decide), a1 8 (by decide) (by decide)⟩ (bs_okX_s (bs_okX_s oX2 (by omega)) (by decide)) bs_okY_0 t5 (fun g g1 P' N' se mid k => ?_) (fun A N' nw => ?_) hP
    · have e1 : g1 157 2119 = p := by rw [mid.2.2.1]; show bc_set (bc_set (bc_set (g 157) _ _) _ _) _ _ _ = p; rw [bc_setn (by omega), bc_setn (by omega), bc_setn (by omega)]; exact cw g se
      rw [e1, bc_wi (x := p + 1) (by omega) (by omega)]
      exact k _ (bs_Mid_set mid (fun _ _ => rfl) (fun y _ => by rw [bc_urow (by decide)]) (bs_Tk_h mid.2.2.2.2.1 (fun y _ => by rw [rr 6 (by omega) (by omega)]) (fun y _ => by rw [bc_urow (by decide)]) (bc_urow (by decide))))
    · have b7 : A (2112 + 7) = p := (bs_Nw_n nw).1.2.2.2.2.trans eqw
      have ew : 2112 + (24 + 3 * A (2112 + 7)) = 2136 + 3 * p := by rw [b7]; omega
      have ew1 : 2112 + (24 + 3 * A (2112 + 7) + 1) = 2136 + 3 * p + 1 := by rw [b7]; omega
      have ew2 : 2112 + (24 + 3 * A (2112 + 7) + 2) = 2136 + 3 * p + 2 := by rw [b7]; omega
      refine bs_Nw_way (a0 := y) (b0 := z) (l0 := x) nw (by show A (2112 + 7) < 10; omega) (yr _ _ nw) (zr _ _ nw) (fun e => nzy e.symm) nu2 (fun r u v w1 w2 => by rw [rr r w1 w2, a1 r (by omega) (by omega)]) (fun k => by rw [rr c (by omega) (by omega), a1 c (by omega) (by omega)]) (by rw [f2, a1 _ (by omega) (by omega)]) (by rw [f3, a1 _ (by omega) (by omega)]) (fun a b a0 a6 b0 b6 => by rw [f4 a b a0 a6 b0 b6, a1 _ (by omega) (by omega)]) (fun k k0 k1 k2 k3 k4 k7 => ?_) ?_ ?_ ?_ ?_ (fun _ _ _ => rfl)
      · show bc_set (bc_set (bc_set (bc_set A _ _) _ _) _ _) _ _ (2112 + k) = A (2112 + k)
        have k2 : k ≠ 24 + 3 * A (2112 + 7) := k2
        have k3 : k ≠ 24 + 3 * A (2112 + 7) + 1 := k3
        have k4 : k ≠ 24 + 3 * A (2112 + 7) + 2 := k4
        rw [bc_setn (by omega), bc_setn (by omega), bc_setn (by omega), bc_setn (by omega)]
      · show bc_set (bc_set (bc_set (bc_set A _ _) _ _) _ _) 2119 (p + 1) (2112 + 7) = A (2112 + 7) + 1
        rw [b7, show (2112 : Int) + 7 = 2119 by omega, bc_setj]
      · show bc_set (bc_set (bc_set (bc_set A _ _) _ _) _ _) 2119 (p + 1) (2112 + (24 + 3 * A (2112 + 7))) = y
        rw [ew, bc_setn (by omega), bc_setn (by omega), bc_setn (by omega), bc_setj]
      · show bc_set (bc_set (bc_set (bc_set A _ _) _ _) _ _) 2119 (p + 1) (2112 + (24 + 3 * A (2112 + 7) + 1)) = z
        rw [ew1, bc_setn (by omega), bc_setn (by omega), bc_setj]
      · show bc_set (bc_set (bc_set (bc_set A _ _) _ _) _ _) 2119 (p + 1) (2112 + (24 + 3 * A (2112 + 7) + 2)) = x
        rw [ew2, bc_setn (by omega), bc_setj]
  · have e1 : g1 157 2119 = 10 := by rw [mid.2.2.1]; have := cw g sm; show g 157 2119 = 10; omega
    exact ⟨fun u => absurd e1 u, fun _ => bc_m_fails mid.2.2.2.2.1 mid.2.2.2.2.2 hN'⟩
