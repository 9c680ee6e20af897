/-! ===== a figure that is told ===== -/
theorem bs_P_figure {d D : Nat} {T : Int → Int} {n c : Int} {h m : bc_H} {P N : bc_H → Prop} (hc : 24 ≤ c ∧ c ≤ 44) (n0 : 0 ≤ n ∧ n ≤ 900) (hb : bs_tb8 T n) (ps : bs_PS h T n c m) (hP : ∀ m', bs_PS h T n c m' → m 6 10 ≤ m' 6 10 → bs_Go1 T n c m m' (fun g P N => bf_M_aFigure (D + 5) g (bc_B P N)) → P m') (hN : ∀ m', bs_PF h c m' → bs_Go0 T n c m m' (fun g P N => bf_M_aFigure (D + 5) g (bc_B P N)) → N m') : bf_Reader_takeFigure (d + 3) m (bc_B P N) := by
  have ps' := ps
  obtain ⟨pt, ⟨z0, z1, z2⟩, z9, fr, B, NM, nw⟩ := ps'
  have cn := bs_Nw_n nw
  have cg : ∀ g, bs_SE T n c m g → g 157 2115 = m (c + 8) 0 := fun g ⟨g0, sm⟩ => (bs_Nw_n sm.2.2.2.2.2.2.1).1.2.2.2.1
  have q0 : 0 ≤ m (c + 8) 0 ∧ m (c + 8) 0 ≤ 8 := by omega
  generalize eq : m (c + 8) 0 = q at cg q0
  have hW : bc_w32 (2112 + (bc_w32 (102 + (bc_w32 (4 * q))))) = 2214 + 4 * q := by
    rw [bc_wi (x := 4 * q) (by omega) (by omega), bc_wi (x := 102 + 4 * q) (by omega) (by omega), bc_wi (by omega) (by omega)]; omega
  have hW1 : bc_w32 (2214 + 4 * q + 1) = 2214 + 4 * q + 1 := bc_wi (by omega) (by omega)
  have hW2 : bc_w32 (2214 + 4 * q + 1 + 1) = 2214 + 4 * q + 2 := by rw [bc_wi (by omega) (by omega)]; omega
  refine rv_Reader_takeFigure (d := d + 2) ?_
  rw [z9, eq]
  refine ⟨by omega, fun lt => ?_, fun ge => rv_Text_fail (hN _ (bs_PF_of z0 fr (by decide)) (bs_Go0_of (bs_Fa_of (X := fun A => A) (Y := fun A => A) (R := fun g1 P' N' => bf_M_aFigure (D + 5) g1 (bc_B P' N')) bs_okX_0 bs_okY_0 (fun g P' N' ⟨_, sm⟩ k => k g (bs_Mid_0 sm)) (fun g g1 P' N' sm mid hN' => rv_M_aFigure (d := D + 4) (rv_M_newOne (d := D + 3) ?_)))))⟩
  · refine bs_pa (d := d + 1) (d' := D + 2) (SM := bs_SE T n c m) (G := fun g P N => bf_M_aFigure (D + 5) g (bc_B P N)) (X := fun A => A) (Y := fun A => A) (R := _) n0 hb pt (by
      intro g P' N' se k
      have e0 : g 157 2115 ≠ 8 := by rw [cg g se]; omega
      have e1 := cg g se
      obtain ⟨g0, sm⟩ := se
      refine rv_M_aFigure (d := D + 4) (rv_M_newOne (d := D + 3) ⟨by decide, fun _ => ?_, fun u => absurd u e0⟩)
      rw [e1, hW, hW1, hW2]
      exact k g (bs_Mid_0 sm)) (fun m1 l1 x1 t1 => ?_)
    have c1 := bs_Ch_l l1
    have r1 := c1.1
    have ct : m1 c = m c := r1 c (by omega) (by omega)
    rw [r1 9 (by decide) (by decide), z9, r1 (c + 8) (by omega) (by omega), eq]
    refine ⟨by omega, ?_⟩
    refine bs_pnew (d := d) (d' := D) (i := 3) (so := 18) (cnt := q) (R := _) hc n0 hb x1.1 (by rw [r1 9 (by decide) (by decide)]; exact z9) (by rw [ct]; exact cn.2.2.2.2.2.2.1) (by rw [ct]; omega) bs_okX_0 bs_okY_0 (fun g l ⟨g0, sm⟩ hl => bs_TkAt_0 (g0 := g0) (by rw [ct]) (r1 _ (by omega) (by omega)) g l sm hl) (by decide) (by decide) (by omega) cg t1 (fun m2 l z wl el fresh l2 x2 t2 => ?_) (fun k hk fa => hN _ (bs_PFm ps (by rw [l1.2 0 (by decide)]; exact z0) (fun x a b e f => r1 x a e) hk) (bs_Go0_of fa))
    have ca := bs_Ca_of (by omega) c1 el l2
    have fr1 : bs_fst (fun i => m (c + 17) i = bs_c32 l) (m c 11) = -1 := by rw [← r1 (c + 17) (by omega) (by omega), ← ct]; exact fresh
    have c11 : 0 ≤ m c 11 := cn.2.2.2.2.2.2.1
    have oY : bs_okY (fun A => bc_set A (104 + 18 + q) (bs_c256 l)) := bs_okY_s bs_okY_0 (by omega)
    have ff : ∀ {m' : bc_H} {K x : Int} {l : List Int}, bs_Ca c K x l m m' → ∀ k, (k = 2 ∨ k = 3 ∨ k = 4 ∨ k = 5 ∨ k = 6) → bs_Fa (bs_SE T n c m) (fun g P N => bf_M_aFigure (D + 5) g (bc_B P N)) (bs_fl m' k) → N (bs_fl m' k) := fun a k hk fa => hN _ (bs_PFm ps (by rw [a.1.2 0 (by decide)]; exact z0) (fun x u v w y => a.1.1 x u w (by omega) (by omega) (by omega) (by omega)) hk) (bs_Go0_of fa)
    refine bs_pwd (d := d) (d' := D + 2) (i := 4) (w := 9) (R := _) n0 hb x2.1 bs_okX_0 oY (by decide) (by decide) rfl t2 (fun m3 l3 x3 t3 => ?_) (ff ca)
    have ca3 := bs_Ca_t (by omega) ca (bs_Ch_l l3)
    refine bs_pkB (d := d) (d' := D) (to := 2214 + 4 * q) (R := _) hc n0 hb x3.1 (by rw [ca3.1.1 9 (by decide) (by decide) (by omega) (by omega) (by omega) (by omega)]; exact z9) (by rw [ca3.2.2.1]; omega) (by rw [ca3.2.2.1]; omega) bs_okX_0 oY (by omega) (bs_NmAt_1 (K := 2) (i := 0) (off := 0) (Or.inl ⟨rfl, rfl, rfl⟩) (bs_Kn_a ca3 c11 (by omega) (by decide)) (fun A => rfl) (fun A k k0 k1 => bc_setn (by rw [if_pos rfl] at k1; omega))) t3 (fun m4 y ny z' ey l4 x4 t4 => ?_) (ff ca3)
    have ca4 := bs_Ca_t (by omega) ca3 (bs_Ch_k l4)
    have by' : ∀ B NM, bs_Nw m c B NM → 0 ≤ y ∧ y < B 0 := fun B NM nw => bs_kr (h := h) nw (Or.inl ⟨rfl, rfl, rfl⟩) x3.1 z' (bs_Kn_a ca3 c11 (by omega) (by decide)) ny ey
    have oX1 := bs_okX_s (v := y) bs_okX_0 (to := 2214 + 4 * q) (by omega)
    refine bs_pwd (d := d) (d' := D + 2) (i := 12) (w := 14) (R := _) n0 hb x4.1 oX1 oY (by decide) (by decide) rfl t4 (fun m5 l5 x5 t5 => ?_) (ff ca4)
    have ca5 := bs_Ca_t (by omega) ca4 (bs_Ch_l l5)
    refine bs_pn' (d := d) (d' := D + 2) (to := 2214 + 4 * q + 1) (R := _) n0 hb x5.1 oX1 oY (by omega) t5 (fun m6 nu l6 x6 t6 => ?_) (ff ca5)
    have ca6 := bs_Ca_t (by omega) ca5 (bs_Ch_n l6)
    have oX2 := bs_okX_s (v := m5 6 14) oX1 (to := 2214 + 4 * q + 1) (by omega)
    refine bs_pn' (d := d) (d' := D + 2) (to := 2214 + 4 * q + 2) (R := _) n0 hb x6.1 oX2 oY (by omega) t6 (fun m7 nv l7 x7 t7 => ?_) (ff ca6)
    have ca7 := bs_Ca_t (by omega) ca6 (bs_Ch_n l7)
    have oX3 := bs_okX_s (v := m6 6 14) oX2 (to := 2214 + 4 * q + 2) (by omega)
    have e10 : m7 10 2 = y := by rw [(bs_Tl6_n l7).2, (bs_Tl6_n l6).2, l5.1 10 (by decide)]; exact (bs_Tl6_k l4).1
    rw [e10, (bs_Tl6_n l6).1, (bs_Tl6_n l7).1]
    have nu2 := nu.2
    have nv2 := nv.2
    generalize m5 6 14 = s1 at nu2 t7 oX3
    generalize m6 6 14 = s2 at nv2 t7 oX3
    have a1 := ca7.1.1
    rw [a1 9 (by decide) (by decide) (by omega) (by omega) (by omega) (by omega), z9]
    have a8 : m7 (c + 8) = m (c + 8) := a1 _ (by omega) (by omega) (by omega) (by omega) (by omega) (by omega)
    refine ⟨by omega, bc_c_figAdd (n := q) (by rw [a8]; exact eq) q0.1 lt (fun m' g1 g2 g3 g4 g5 g6 => ?_)⟩
    have rr : ∀ x, x ≠ c + 8 → x ≠ c + 8 + 1 → x ≠ c + 8 + 2 → x ≠ c + 8 + 3 → x ≠ c + 8 + 4 → m' x = m7 x := fun x u v w s t => funext (fun k => g1 x k (Or.inl u) v w s t)
    refine bs_fin (m5 := m7) (m' := m') (X := fun A => bc_set (bc_set (bc_set A (2214 + 4 * q) y) (2214 + 4 * q + 1) s1) (2214 + 4 * q + 2) s2) (Y := fun A => bc_set A (104 + 18 + q) (bs_c256 l)) (X' := fun A => bc_set (bc_set (bc_set (bc_set A (2214 + 4 * q) y) (2214 + 4 * q + 1) s1) (2214 + 4 * q + 2) s2) 2115 (q + 1)) (Y' := fun A => bc_set A (104 + 18 + q) (bs_c256 l)) hc ps x7.1 (Int.le_trans (Int.le_trans (Int.le_trans (Int.le_trans (Int.le_trans (Int.le_trans (bs_nx_p x1) (bs_nx_p x2)) (bs_nx_p x3)) (bs_nx_p x4)) (bs_nx_p x5)) (bs_nx_p x6)) (bs_nx_p x7)) (rr 6 (by omega) (by omega) (by omega) (by omega) (by omega)) ca7.1.2 (fun r u v w => by rw [rr r (by omega) (by omega) (by omega) (by omega) (by omega), a1 r u v (by omega) (by omega) (by omega) (by omega)]) ⟨a1 7 (by omega) (by omega) (by omega) (by omega) (by omega) (by omega), a1 8 (by omega) (by omega) (by omega) (by omega) (by omega) (by omega)⟩ (bs_okX_s oX3 (by decide)) oY t7 (fun g g1 P' N' se' mid k => ?_) (fun A N' nw => ?_) hP
    · have e1 : g1 157 2115 = q := by rw [mid.2.2.1]; show bc_set (bc_set (bc_set (g 157) _ _) _ _) _ _ _ = q; rw [bc_setn (by omega), bc_setn (by omega), bc_setn (by omega)]; exact cg g se'
      rw [e1, bc_wi (x := q + 1) (by omega) (by omega)]
      exact k _ (bs_Mid_set mid (fun _ _ => rfl) (fun y _ => by rw [bc_urow (by decide)]) (bs_Tk_h mid.2.2.2.2.1 (fun y _ => by rw [rr 6 (by omega) (by omega) (by omega) (by omega) (by omega)]) (fun y _ => by rw [bc_urow (by decide)]) (bc_urow (by decide))))
    · have b1 : A (2112 + 3) = q := (bs_Nw_n nw).1.2.2.2.1.trans eq
      have ew : 2112 + (102 + 4 * A (2112 + 3)) = 2214 + 4 * q := by rw [b1]; omega
      have ew1 : 2112 + (102 + 4 * A (2112 + 3) + 1) = 2214 + 4 * q + 1 := by rw [b1]; omega
      have ew2 : 2112 + (102 + 4 * A (2112 + 3) + 2) = 2214 + 4 * q + 2 := by rw [b1]; omega
      refine bs_Nw_figure (be := y) (s1 := s1) (s2 := s2) nw (by show A (2112 + 3) < 8; omega) wl fr1 (by' _ _ nw) nu2 nv2 (fun x u v w1 => by rw [rr x (by omega) (by omega) (by omega) (by omega) (by omega), a1 x (by omega) (by omega) (by omega) (by omega) (by omega) (by omega)]) (fun y hy => by rw [rr c (by omega) (by omega) (by omega) (by omega) (by omega), ca7.2.1 y hy]) (by rw [g2, eq]) (by rw [g3, eq, a1 _ (by omega) (by omega) (by omega) (by omega) (by omega) (by omega)]) (by rw [g4, eq, a1 _ (by omega) (by omega) (by omega) (by omega) (by omega) (by omega)]) (by rw [g5, eq, a1 _ (by omega) (by omega) (by omega) (by omega) (by omega) (by omega)]) (by rw [g6, eq, a1 _ (by omega) (by omega) (by omega) (by omega) (by omega) (by omega)]) (by rw [rr c (by omega) (by omega) (by omega) (by omega) (by omega)]; exact ca7.2.2.1) (by rw [rr _ (by omega) (by omega) (by omega) (by omega) (by omega)]; exact ca7.2.2.2.1) (by rw [rr _ (by omega) (by omega) (by omega) (by omega) (by omega)]; exact ca7.2.2.2.2.1) (by rw [rr _ (by omega) (by omega) (by omega) (by omega) (by omega), eq]; exact ca7.2.2.2.2.2) ?_ ?_ ?_ ?_ ?_
      · intro k k0 k1 k2 k3 k4
        show bc_set (bc_set (bc_set (bc_set A _ y) _ s1) _ s2) 2115 (q + 1) (2112 + k) = bc_set (fun k => A (2112 + k)) 3 (A (2112 + 3) + 1) k
        have k2 : k ≠ 102 + 4 * A (2112 + 3) := k2
        have k3 : k ≠ 102 + 4 * A (2112 + 3) + 1 := k3
        have k4 : k ≠ 102 + 4 * A (2112 + 3) + 2 := k4
        by_cases e : k = 3
        · subst e; rw [show (2112 : Int) + 3 = 2115 by omega, bc_setj, bc_setj, ← b1]; rfl
        · rw [bc_setn (by omega), bc_setn (by omega), bc_setn (by omega), bc_setn (by omega), bc_setn e]
      · show bc_set (bc_set (bc_set (bc_set A _ y) _ s1) _ s2) 2115 (q + 1) (2112 + (102 + 4 * A (2112 + 3))) = y
        rw [ew, bc_setn (by omega), bc_setn (by omega), bc_setn (by omega), bc_setj]
      · show bc_set (bc_set (bc_set (bc_set A _ y) _ s1) _ s2) 2115 (q + 1) (2112 + (102 + 4 * A (2112 + 3) + 1)) = s1
        rw [ew1, bc_setn (by omega), bc_setn (by omega), bc_setj]
      · show bc_set (bc_set (bc_set (bc_set A _ y) _ s1) _ s2) 2115 (q + 1) (2112 + (102 + 4 * A (2112 + 3) + 2)) = s2
        rw [ew2, bc_setn (by omega), bc_setj]
      · intro k k0 k1
        show bc_set N' (104 + 18 + q) (bs_c256 l) (104 + k) = bc_set (fun k => N' (104 + k)) (18 + A (2112 + 3)) (bs_c256 l) k
        rw [b1]
        by_cases e : k = 18 + q
        · subst e; rw [show 104 + (18 + q) = 104 + 18 + q by omega, bc_setj, bc_setj]
        · rw [bc_setn (by omega), bc_setn e]
  · have e1 : g1 157 2115 = 8 := by rw [mid.2.2.1]; have := cg g sm; show g 157 2115 = 8; omega
    exact ⟨by decide, fun u => absurd e1 u, fun _ => bc_m_fails mid.2.2.2.2.1 mid.2.2.2.2.2 hN'⟩
