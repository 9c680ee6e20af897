/-! ===== a visitor that is told ===== -/
theorem bs_P_visitor {d D : Nat} {T : Int → Int} {n c : Int} {h m : bc_H} {P N : bc_H → Prop} (hc : 24 ≤ c ∧ c ≤ 44) (n0 : 0 ≤ n ∧ n ≤ 900) (hb : bs_tb8 T n) (ps : bs_PS h T n c m) (hP : ∀ m', bs_PS h T n c m' → m 6 10 ≤ m' 6 10 → bs_Go1 T n c m m' (fun g P N => bf_M_aVisitor (D + 5) g (bc_B P N)) → P m') (hN : ∀ m', bs_PF h c m' → bs_Go0 T n c m m' (fun g P N => bf_M_aVisitor (D + 5) g (bc_B P N)) → N m') : bf_Reader_takeVisitor (d + 3) m (bc_B P N) := by
  have ps' := ps
  obtain ⟨pt, ⟨z0, z1, z2⟩, z9, fr, B, NM, nw⟩ := ps'
  have cn := bs_Nw_n nw
  have cg : ∀ g, bs_SE T n c m g → g 157 2114 = m c 3 := fun g ⟨g0, sm⟩ => (bs_Nw_n sm.2.2.2.2.2.2.1).1.2.2.1
  have q0 : 0 ≤ m c 3 ∧ m c 3 ≤ 6 := by omega
  generalize eq : m c 3 = q at cg q0
  have hW : bc_w32 (2112 + (bc_w32 (54 + (bc_w32 (8 * q))))) = 2166 + 8 * q := by
    rw [bc_wi (x := 8 * q) (by omega) (by omega), bc_wi (x := 54 + 8 * q) (by omega) (by omega), bc_wi (by omega) (by omega)]; omega
  have hW1 : bc_w32 (2166 + 8 * q + 1) = 2166 + 8 * q + 1 := bc_wi (by omega) (by omega)
  refine rv_Reader_takeVisitor (d := d + 2) ?_
  rw [z9, eq]
  refine ⟨by omega, fun lt => ?_, fun ge => rv_Text_fail (hN _ (bs_PF_of z0 fr (by decide)) (bs_Go0_of (bs_Fa_of (X := fun A => A) (Y := fun A => A) (R := fun g1 P' N' => bf_M_aVisitor (D + 5) g1 (bc_B P' N')) bs_okX_0 bs_okY_0 (fun g P' N' ⟨_, sm⟩ k => k g (bs_Mid_0 sm)) (fun g g1 P' N' sm mid hN' => rv_M_aVisitor (d := D + 4) (rv_M_newOne (d := D + 3) ?_)))))⟩
  · refine bs_pa (d := d + 1) (d' := D + 2) (SM := bs_SE T n c m) (G := fun g P N => bf_M_aVisitor (D + 5) g (bc_B P N)) (X := fun A => A) (Y := fun A => A) (R := _) n0 hb pt (by
      intro g P' N' se k
      have e0 : g 157 2114 ≠ 6 := by rw [cg g se]; omega
      have e1 := cg g se
      obtain ⟨g0, sm⟩ := se
      refine rv_M_aVisitor (d := D + 4) (rv_M_newOne (d := D + 3) ⟨by decide, fun _ => ?_, fun u => absurd u e0⟩)
      rw [e1, hW, hW1]
      exact k g (bs_Mid_0 sm)) (fun m1 l1 x1 t1 => ?_)
    have c1 := bs_Ch_l l1
    have r1 := c1.1
    have ct : m1 c = m c := r1 c (by omega) (by omega)
    rw [r1 9 (by decide) (by decide), z9, ct, eq]
    refine ⟨by omega, ?_⟩
    refine bs_pnew (d := d) (d' := D) (i := 2) (so := 12) (cnt := q) (R := _) hc n0 hb x1.1 (by rw [r1 9 (by decide) (by decide)]; exact z9) (by rw [ct]; exact cn.2.2.2.2.2.2.1) (by rw [ct]; omega) bs_okX_0 bs_okY_0 (fun g l ⟨g0, sm⟩ hl => bs_TkAt_0 (g0 := g0) (by rw [ct]) (r1 _ (by omega) (by omega)) g l sm hl) (by decide) (by decide) (by omega) cg t1 (fun m2 l z wl el fresh l2 x2 t2 => ?_) (fun k hk fa => hN _ (bs_PFm ps (by rw [l1.2 0 (by decide)]; exact z0) (fun x a b e f => r1 x a e) hk) (bs_Go0_of fa))
    have ca := bs_Ca_of (by omega) c1 el l2
    have fr1 : bs_fst (fun i => m (c + 17) i = bs_c32 l) (m c 11) = -1 := by rw [← r1 (c + 17) (by omega) (by omega), ← ct]; exact fresh
    have c11 : 0 ≤ m c 11 := cn.2.2.2.2.2.2.1
    have oY : bs_okY (fun A => bc_set A (104 + 12 + q) (bs_c256 l)) := bs_okY_s bs_okY_0 (by omega)
    have ff : ∀ {m' : bc_H} {K x : Int} {l : List Int}, bs_Ca c K x l m m' → ∀ k, (k = 2 ∨ k = 3 ∨ k = 4 ∨ k = 5 ∨ k = 6) → bs_Fa (bs_SE T n c m) (fun g P N => bf_M_aVisitor (D + 5) g (bc_B P N)) (bs_fl m' k) → N (bs_fl m' k) := fun a k hk fa => hN _ (bs_PFm ps (by rw [a.1.2 0 (by decide)]; exact z0) (fun x u v w y => a.1.1 x u w (by omega) (by omega) (by omega) (by omega)) hk) (bs_Go0_of fa)
    refine bs_pwd (d := d) (d' := D + 2) (i := 9) (w := 12) (R := _) n0 hb x2.1 bs_okX_0 oY (by decide) (by decide) rfl t2 (fun m3 l3 x3 t3 => ?_) (ff ca)
    have ca3 := bs_Ca_t (by omega) ca (bs_Ch_l l3)
    refine bs_pn' (d := d) (d' := D + 2) (to := 2166 + 8 * q) (R := _) n0 hb x3.1 bs_okX_0 oY (by omega) t3 (fun m4 nu l4 x4 t4 => ?_) (ff ca3)
    have ca4 := bs_Ca_t (by omega) ca3 (bs_Ch_n l4)
    have oX1 := bs_okX_s (v := m3 6 14) bs_okX_0 (to := 2166 + 8 * q) (by omega)
    refine bs_pwd (d := d) (d' := D + 2) (i := 10) (w := 13) (R := _) n0 hb x4.1 oX1 oY (by decide) (by decide) rfl t4 (fun m5 l5 x5 t5 => ?_) (ff ca4)
    have ca5 := bs_Ca_t (by omega) ca4 (bs_Ch_l l5)
    refine bs_pk' (d := d) (d' := D + 1) (ci := 2113) (off := 109) (to := 2166 + 8 * q + 1) (R := _) hc n0 hb x5.1 (by rw [ca5.1.1 9 (by decide) (by decide) (by omega) (by omega) (by omega) (by omega)]; exact z9) (by rw [ca5.2.2.1]; omega) (by rw [ca5.2.2.1]; omega) (by decide) (by decide) oX1 oY (by omega) (by decide) (bs_NmAt_1 (K := 3) (i := 1) (off := 5) (Or.inr (Or.inl ⟨rfl, rfl, rfl⟩)) (bs_Kn_a ca5 c11 (by omega) (by decide)) (fun A => bc_setn (by omega)) (fun A k k0 k1 => bc_setn (by rw [if_neg (by decide), if_pos rfl] at k1; omega))) t5 (fun m6 y ny z' ey l6 x6 t6 => ?_) (ff ca5)
    have ca6 := bs_Ca_t (by omega) ca5 (bs_Ch_k l6)
    have by' : ∀ B NM, bs_Nw m c B NM → 0 ≤ y ∧ y < B 1 := fun B NM nw => bs_kr (h := h) nw (Or.inr (Or.inl ⟨rfl, rfl, rfl⟩)) x5.1 z' (bs_Kn_a ca5 c11 (by omega) (by decide)) ny ey
    rw [(bs_Tl6_k l6).1, (bs_Tl6_n l4).1]
    have nu2 := nu.2
    generalize m3 6 14 = se at nu2 t6 oX1
    have a1 := ca6.1.1
    rw [a1 9 (by decide) (by decide) (by omega) (by omega) (by omega) (by omega), z9]
    refine ⟨by omega, bc_c_addVisitor (n := q) (by rw [ca6.2.1 3 (by decide)]; exact eq) q0.1 lt (fun m' g1 g2 g3 g4 g5 g6 => ?_)⟩
    have rr : ∀ x, x ≠ c → x ≠ c + 13 → x ≠ c + 14 → x ≠ c + 15 → x ≠ c + 16 → m' x = m6 x := fun x u v w s t => funext (fun k => g1 x k (Or.inl u) v w s t)
    have rc : ∀ k, k ≠ 3 → m' c k = m6 c k := fun k hk => g1 c k (Or.inr hk) (by omega) (by omega) (by omega) (by omega)
    refine bs_fin (m5 := m6) (m' := m') (X := fun A => bc_set (bc_set A (2166 + 8 * q) se) (2166 + 8 * q + 1) y) (Y := fun A => bc_set A (104 + 12 + q) (bs_c256 l)) (X' := fun A => bc_set (bc_set (bc_set A (2166 + 8 * q) se) (2166 + 8 * q + 1) y) 2114 (q + 1)) (Y' := fun A => bc_set A (104 + 12 + q) (bs_c256 l)) hc ps x6.1 (Int.le_trans (Int.le_trans (Int.le_trans (Int.le_trans (Int.le_trans (bs_nx_p x1) (bs_nx_p x2)) (bs_nx_p x3)) (bs_nx_p x4)) (bs_nx_p x5)) (bs_nx_p x6)) (rr 6 (by omega) (by omega) (by omega) (by omega) (by omega)) ca6.1.2 (fun r u v w => by rw [rr r (by omega) (by omega) (by omega) (by omega) (by omega), a1 r u v (by omega) (by omega) (by omega) (by omega)]) ⟨a1 7 (by omega) (by omega) (by omega) (by omega) (by omega) (by omega), a1 8 (by omega) (by omega) (by omega) (by omega) (by omega) (by omega)⟩ (bs_okX_s (bs_okX_s oX1 (by omega)) (by decide)) oY t6 (fun g g1 P' N' se' mid k => ?_) (fun A N' nw => ?_) hP
    · have e1 : g1 157 2114 = q := by rw [mid.2.2.1]; show bc_set (bc_set (g 157) _ _) _ _ _ = q; rw [bc_setn (by omega), bc_setn (by omega)]; exact cg g se'
      rw [e1, bc_wi (x := q + 1) (by omega) (by omega)]
      exact k _ (bs_Mid_set mid (fun _ _ => rfl) (fun y _ => by rw [bc_urow (by decide)]) (bs_Tk_h mid.2.2.2.2.1 (fun y _ => by rw [rr 6 (by omega) (by omega) (by omega) (by omega) (by omega)]) (fun y _ => by rw [bc_urow (by decide)]) (bc_urow (by decide))))
    · have b1 : A (2112 + 2) = q := (bs_Nw_n nw).1.2.2.1.trans eq
      have ew : 2112 + (54 + 8 * A (2112 + 2)) = 2166 + 8 * q := by rw [b1]; omega
      have ew1 : 2112 + (54 + 8 * A (2112 + 2) + 1) = 2166 + 8 * q + 1 := by rw [b1]; omega
      refine bs_Nw_visitor (se := se) (wa := y) nw (by show A (2112 + 2) < 6; omega) wl fr1 nu2 (by' _ _ nw) (fun x u v w1 w2 w3 w4 => by rw [rr x (by omega) w1 w2 w3 w4, a1 x (by omega) (by omega) (by omega) (by omega) (by omega) (by omega)]) (fun y hy hy3 => by rw [rc y hy3, ca6.2.1 y hy]) (by rw [g2, eq]) (by rw [g3, eq, a1 _ (by omega) (by omega) (by omega) (by omega) (by omega) (by omega)]) (by rw [g4, eq, a1 _ (by omega) (by omega) (by omega) (by omega) (by omega) (by omega)]) (by rw [g5, eq, a1 _ (by omega) (by omega) (by omega) (by omega) (by omega) (by omega)]) ?_ (by rw [rc 11 (by decide)]; exact ca6.2.2.1) (by rw [rr _ (by omega) (by omega) (by omega) (by omega) (by omega)]; exact ca6.2.2.2.1) (by rw [rr _ (by omega) (by omega) (by omega) (by omega) (by omega)]; exact ca6.2.2.2.2.1) (by rw [rr _ (by omega) (by omega) (by omega) (by omega) (by omega), eq]; exact ca6.2.2.2.2.2) ?_ ?_ ?_ ?_
      · intro v b v0 b0 b5
        rw [g6, eq, a1 (c + 16) (by omega) (by omega) (by omega) (by omega) (by omega) (by omega)]
        unfold bs_zer
        by_cases e : v = q
        · rw [if_pos e, if_pos (by omega)]
        · rw [if_neg e, if_neg (by omega)]
      · intro k k0 k1 k2 k3
        show bc_set (bc_set (bc_set A _ se) _ y) 2114 (q + 1) (2112 + k) = bc_set (fun k => A (2112 + k)) 2 (A (2112 + 2) + 1) k
        have k2 : k ≠ 54 + 8 * A (2112 + 2) := k2
        have k3 : k ≠ 54 + 8 * A (2112 + 2) + 1 := k3
        by_cases e : k = 2
        · subst e; rw [show (2112 : Int) + 2 = 2114 by omega, bc_setj, bc_setj, ← b1]; rfl
        · rw [bc_setn (by omega), bc_setn (by omega), bc_setn (by omega), bc_setn e]
      · show bc_set (bc_set (bc_set A _ se) _ y) 2114 (q + 1) (2112 + (54 + 8 * A (2112 + 2))) = se
        rw [ew, bc_setn (by omega), bc_setn (by omega), bc_setj]
      · show bc_set (bc_set (bc_set A _ se) _ y) 2114 (q + 1) (2112 + (54 + 8 * A (2112 + 2) + 1)) = y
        rw [ew1, bc_setn (by omega), bc_setj]
      · intro k k0 k1
        show bc_set N' (104 + 12 + q) (bs_c256 l) (104 + k) = bc_set (fun k => N' (104 + k)) (12 + A (2112 + 2)) (bs_c256 l) k
        rw [b1]
        by_cases e : k = 12 + q
        · subst e; rw [show 104 + (12 + q) = 104 + 12 + q by omega, bc_setj, bc_setj]
        · rw [bc_setn (by omega), bc_setn e]
  · have e1 : g1 157 2114 = 6 := by rw [mid.2.2.1]; have := cg g sm; show g 157 2114 = 6; omega
    exact ⟨by decide, fun u => absurd e1 u, fun _ => bc_m_fails mid.2.2.2.2.1 mid.2.2.2.2.2 hN'⟩
