/-! ===== a wall that is told ===== -/
theorem bs_set_o {A : Int → Int} {j v k : Int} (n : k ≠ j) : bc_set A j v k = A k := bc_setn n
theorem bs_wall_end {d : Nat} {T : Int → Int} {n c q be pu : Int} {h m m5 : bc_H} {l : List Int} {G : bs_RT} {X : (Int → Int) → Int → Int} {P : bc_H → Prop} (hc : 24 ≤ c ∧ c ≤ 44) (ps : bs_PS h T n c m) (eq : m (c + 3) 0 = q) (q7 : 0 ≤ q ∧ q < 7) (ca : bs_Ca c 3 q l m m5) (pt : bs_PT T n m5) (pr : m 6 10 ≤ m5 6 10) (wl : bs_word l) (fr1 : bs_fst (fun i => m (c + 17) i = bs_c32 l) (m c 11) = -1) (hX : bs_okX X) (hb : (be = -1 ∧ pu = 0) ∨ ((∀ B NM, bs_Nw m c B NM → 0 ≤ be ∧ be < B 0) ∧ 1 ≤ pu ∧ pu ≤ 9)) (hT : bs_Tr T n (bs_SE T n c m) G X (fun A => bc_set A (104 + 5 + q) (bs_c256 l)) m5 (fun g P' N' => P' (bc_upd g 157 2113 (bc_w32 (g 157 2113 + 1))))) (X1 : ∀ A k, k ≠ 2122 + 2 * q → k ≠ 2122 + 2 * q + 1 → X A k = A k) (X2 : ∀ A, X A (2122 + 2 * q) = be) (X3 : ∀ A, X A (2122 + 2 * q + 1) = pu ∨ (X A (2122 + 2 * q + 1) = A (2122 + 2 * q + 1) ∧ pu = 0)) (hP : ∀ m', bs_PS h T n c m' → m 6 10 ≤ m' 6 10 → bs_Go1 T n c m m' G → P m') : 0 ≤ m5 9 1 ∧ bf_Walls_add d (m5 9 1 + 3) be pu m5 (bc_U P) := by
  have z9 := ps.2.2.1
  have a1 := ca.1.1
  rw [a1 9 (by decide) (by decide) (by omega) (by omega) (by omega) (by omega), z9]
  have r3 : m5 (c + 3) = m (c + 3) := a1 _ (by omega) (by omega) (by omega) (by omega) (by omega) (by omega)
  refine ⟨by omega, rv_Walls_add ?_⟩
  have e1 : bc_upd m5 (c + 3 + 1) (m5 (c + 3) 0) be (c + 3) = m5 (c + 3) := bc_urow (by omega)
  rw [e1, r3, eq]
  refine ⟨by omega, by omega, fun m' em => ?_⟩
  have e2 : bc_upd (bc_upd m5 (c + 3 + 1) q be) (c + 3 + 2) q pu (c + 3) = m5 (c + 3) := by rw [bc_urow (by omega), bc_urow (by omega)]
  rw [e2, r3, eq, bc_wi (x := q + 1) (by omega) (by omega)] at em
  have rr : ∀ x, x ≠ c + 3 → x ≠ c + 3 + 1 → x ≠ c + 3 + 2 → m' x = m5 x := fun x u v w => by rw [em, bc_urow u, bc_urow w, bc_urow v]
  have f3 : ∀ y, m' (c + 3) y = if y = 0 then q + 1 else m (c + 3) y := fun y => by
    rw [em]
    by_cases u : y = 0
    · subst u; rw [bc_uu, if_pos rfl]
    · rw [bc_uj u, e2, r3, if_neg u]
  have f4 : m' (c + 3 + 1) = bc_set (m (c + 3 + 1)) q be := by rw [em, bc_urow (by omega), bc_urow (by omega), bs_rset, a1 _ (by omega) (by omega) (by omega) (by omega) (by omega) (by omega)]
  have f5 : m' (c + 3 + 2) = bc_set (m (c + 3 + 2)) q pu := by rw [em, bc_urow (by omega), bs_rset, bc_urow (by omega), a1 _ (by omega) (by omega) (by omega) (by omega) (by omega) (by omega)]
  have X0 : ∀ A, X A 2113 = A 2113 := fun A => X1 A 2113 (by omega) (by omega)
  refine bs_fin (m5 := m5) (m' := m') (X := X) (Y := fun A => bc_set A (104 + 5 + q) (bs_c256 l)) (X' := fun A => bc_set (X A) 2113 (q + 1)) (Y' := fun A => bc_set A (104 + 5 + q) (bs_c256 l)) hc ps pt pr (rr 6 (by omega) (by omega) (by omega)) ca.1.2 (fun r u v w => by rw [rr r (by omega) (by omega) (by omega), a1 r u v (by omega) (by omega) (by omega) (by omega)]) ⟨a1 7 (by omega) (by omega) (by omega) (by omega) (by omega) (by omega), a1 8 (by omega) (by omega) (by omega) (by omega) (by omega) (by omega)⟩ (bs_okX_s hX (by decide)) (bs_okY_s bs_okY_0 (by omega)) hT (fun g g1 P' N' se mid k => ?_) (fun A N' nw => ?_) hP
  · have e1 : g1 157 2113 = q := by rw [mid.2.2.1, X0]; obtain ⟨g0, sm⟩ := se; exact ((bs_Nw_n sm.2.2.2.2.2.2.1).1.2.1).trans eq
    rw [e1, bc_wi (x := q + 1) (by omega) (by omega)]
    exact k _ (bs_Mid_set mid (fun _ _ => rfl) (fun y _ => by rw [bc_urow (by decide)]) (bs_Tk_h mid.2.2.2.2.1 (fun y _ => by rw [rr 6 (by omega) (by omega) (by omega)]) (fun y _ => by rw [bc_urow (by decide)]) (bc_urow (by decide))))
  · have b1 : A (2112 + 1) = q := (bs_Nw_n nw).1.2.1.trans eq
    have ew : 2112 + (10 + 2 * A (2112 + 1)) = 2122 + 2 * q := by rw [b1]; omega
    have ew1 : 2112 + (10 + 2 * A (2112 + 1) + 1) = 2122 + 2 * q + 1 := by rw [b1]; omega
    have hz : A (2112 + (10 + 2 * q + 1)) = 0 := by
      have := nw.2.2.2.2.2.2.2.1.2.2 q (by show A (2112 + 1) ≤ q; omega) (by omega)
      exact this
    refine bs_Nw_wall (be := be) (pu := pu) nw (by show A (2112 + 1) < 7; omega) wl fr1 ?_ (fun x u v w1 w2 w3 => by rw [rr x w1 w2 w3, a1 x (by omega) (by omega) (by omega) (by omega) (by omega) (by omega)]) (fun y hy => by rw [rr c (by omega) (by omega) (by omega), ca.2.1 y hy]) (by rw [f3, if_pos rfl, eq]) (by rw [f3, if_neg (by decide)]) (by rw [f4, eq]) (by rw [f5, eq]) (by rw [rr c (by omega) (by omega) (by omega)]; exact ca.2.2.1) (by rw [rr _ (by omega) (by omega) (by omega)]; exact ca.2.2.2.1) (by rw [rr _ (by omega) (by omega) (by omega)]; exact ca.2.2.2.2.1) (by rw [rr _ (by omega) (by omega) (by omega), eq]; exact ca.2.2.2.2.2) ?_ ?_ ?_ ?_
    · rcases hb with u | u
      · exact Or.inl u
      · have := u.1 _ _ nw
        exact Or.inr ⟨this.1, this.2, u.2.1, u.2.2⟩
    · intro k k0 k1 k2 k3
      show bc_set (X A) 2113 (q + 1) (2112 + k) = bc_set (fun k => A (2112 + k)) 1 (A (2112 + 1) + 1) k
      by_cases e : k = 1
      · subst e; rw [show (2112 : Int) + 1 = 2113 by omega, bc_setj, bc_setj, ← b1]; rfl
      · rw [bc_setn (by omega), bc_setn e]
        exact X1 A _ (by omega) (by omega)
    · show bc_set (X A) 2113 (q + 1) (2112 + (10 + 2 * A (2112 + 1))) = be
      rw [ew, bc_setn (by omega)]; exact X2 A
    · show bc_set (X A) 2113 (q + 1) (2112 + (10 + 2 * A (2112 + 1) + 1)) = pu
      rw [ew1, bc_setn (by omega)]
      rcases X3 A with u | u
      · exact u
      · rw [u.1, u.2, show 2122 + 2 * q + 1 = 2112 + (10 + 2 * q + 1) by omega]; exact hz
    · intro k k0 k1
      show bc_set N' (104 + 5 + q) (bs_c256 l) (104 + k) = bc_set (fun k => N' (104 + k)) (5 + A (2112 + 1)) (bs_c256 l) k
      rw [b1]
      by_cases e : k = 5 + q
      · subst e; rw [show 104 + (5 + q) = 104 + 5 + q by omega, bc_setj, bc_setj]
      · rw [bc_setn (by omega), bc_setn e]
theorem bs_P_wall {d D : Nat} {T : Int → Int} {n c : Int} {h m : bc_H} {P N : bc_H → Prop} (hc : 24 ≤ c ∧ c ≤ 44) (n0 : 0 ≤ n ∧ n ≤ 900) (hb : bs_tb8 T n) (ps : bs_PS h T n c m) (hP : ∀ m', bs_PS h T n c m' → m 6 10 ≤ m' 6 10 → bs_Go1 T n c m m' (fun g P N => bf_M_aWall (D + 5) g (bc_B P N)) → P m') (hN : ∀ m', bs_PF h c m' → bs_Go0 T n c m m' (fun g P N => bf_M_aWall (D + 5) g (bc_B P N)) → N m') : bf_Reader_takeWall (d + 3) m (bc_B P N) := by
  have ps' := ps
  obtain ⟨pt, ⟨z0, z1, z2⟩, z9, fr, B, NM, nw⟩ := ps'
  have cn := bs_Nw_n nw
  have cg : ∀ g, bs_SE T n c m g → g 157 2113 = m (c + 3) 0 := fun g ⟨g0, sm⟩ => (bs_Nw_n sm.2.2.2.2.2.2.1).1.2.1
  have q0 : 0 ≤ m (c + 3) 0 ∧ m (c + 3) 0 ≤ 7 := by omega
  generalize eq : m (c + 3) 0 = q at cg q0
  have hW : bc_w32 (2112 + (bc_w32 (10 + (bc_w32 (2 * q))))) = 2122 + 2 * q := by
    rw [bc_wi (x := 2 * q) (by omega) (by omega), bc_wi (x := 10 + 2 * q) (by omega) (by omega), bc_wi (by omega) (by omega)]; omega
  have hW1 : bc_w32 (2122 + 2 * q + 1) = 2122 + 2 * q + 1 := bc_wi (by omega) (by omega)
  refine rv_Reader_takeWall (d := d + 2) ?_
  rw [z9, eq]
  refine ⟨by omega, fun lt => ?_, fun ge => rv_Text_fail (hN _ (bs_PF_of z0 fr (by decide)) (bs_Go0_of (bs_Fa_of (X := fun A => A) (Y := fun A => A) (R := fun g1 P' N' => bf_M_aWall (D + 5) g1 (bc_B P' N')) bs_okX_0 bs_okY_0 (fun g P' N' ⟨_, sm⟩ k => k g (bs_Mid_0 sm)) (fun g g1 P' N' sm mid hN' => rv_M_aWall (d := D + 4) (rv_M_newOne (d := D + 3) ?_)))))⟩
  · refine bs_pa (d := d + 1) (d' := D + 2) (SM := bs_SE T n c m) (G := fun g P N => bf_M_aWall (D + 5) g (bc_B P N)) (X := fun A => A) (Y := fun A => A) (R := _) n0 hb pt (by
      intro g P' N' se k
      have e0 : g 157 2113 ≠ 7 := by rw [cg g se]; omega
      have e1 := cg g se
      obtain ⟨g0, sm⟩ := se
      refine rv_M_aWall (d := D + 4) (rv_M_newOne (d := D + 3) ⟨by decide, fun _ => ?_, fun u => absurd u e0⟩)
      rw [e1, hW, hW1]
      exact k g (bs_Mid_0 sm)) (fun m1 l1 x1 t1 => ?_)
    have c1 := bs_Ch_l l1
    have r1 := c1.1
    rw [r1 9 (by decide) (by decide), z9, r1 (c + 3) (by omega) (by omega), eq]
    refine ⟨by omega, ?_⟩
    have ct : m1 c = m c := r1 c (by omega) (by omega)
    refine bs_pnew (d := d) (d' := D) (i := 1) (so := 5) (cnt := q) (R := _) hc n0 hb x1.1 (by rw [r1 9 (by decide) (by decide)]; exact z9) (by rw [ct]; exact cn.2.2.2.2.2.2.1) (by rw [ct]; omega) bs_okX_0 bs_okY_0 (fun g l ⟨g0, sm⟩ hl => bs_TkAt_0 (g0 := g0) (by rw [ct]) (r1 _ (by omega) (by omega)) g l sm hl) (by decide) (by decide) (by omega) cg t1 (fun m2 l z wl el fresh l2 x2 t2 => ?_) (fun k hk fa => hN _ (bs_PFm ps (by rw [l1.2 0 (by decide)]; exact z0) (fun x a b e f => r1 x a e) hk) (bs_Go0_of fa))
    have ca := bs_Ca_of (by omega) c1 el l2
    have fr1 : bs_fst (fun i => m (c + 17) i = bs_c32 l) (m c 11) = -1 := by rw [← r1 (c + 17) (by omega) (by omega), ← ct]; exact fresh
    have c11 : 0 ≤ m c 11 := cn.2.2.2.2.2.2.1
    have w2 : 2112 ≤ 2122 + 2 * q ∧ 2122 + 2 * q + 1 < 2640 := by omega
    have t3 : bs_Tr T n (bs_SE T n c m) (fun g P N => bf_M_aWall (D + 5) g (bc_B P N)) (fun A => bc_set A (2122 + 2 * q) (-1)) (fun A => bc_set A (104 + 5 + q) (bs_c256 l)) m2 _ := bs_Tr_r t2 (fun g g1 P' N' se mid k => by
      refine ⟨by omega, ?_⟩
      have mid' := bs_Mid_set (m1 := m2) (g2 := bc_upd g1 157 (2122 + 2 * q) (-1)) mid (fun _ _ => rfl) (fun y _ => by rw [bc_urow (by decide)]) (bs_Tk_h mid.2.2.2.2.1 (fun _ _ => rfl) (fun y _ => by rw [bc_urow (by decide)]) (bc_urow (by decide)))
      generalize bc_upd g1 157 (2122 + 2 * q) (-1) = g2 at mid' ⊢
      exact k g2 mid')
    have oX1 : bs_okX (fun A => bc_set A (2122 + 2 * q) (-1)) := bs_okX_s bs_okX_0 (by omega)
    have oY : bs_okY (fun A => bc_set A (104 + 5 + q) (bs_c256 l)) := bs_okY_s bs_okY_0 (by omega)
    have ff : ∀ {m' : bc_H} {K x : Int} {l : List Int}, bs_Ca c K x l m m' → ∀ k, (k = 2 ∨ k = 3 ∨ k = 4 ∨ k = 5 ∨ k = 6) → bs_Fa (bs_SE T n c m) (fun g P N => bf_M_aWall (D + 5) g (bc_B P N)) (bs_fl m' k) → N (bs_fl m' k) := fun a k hk fa => hN _ (bs_PFm ps (by rw [a.1.2 0 (by decide)]; exact z0) (fun x u v w y => a.1.1 x u w (by omega) (by omega) (by omega) (by omega)) hk) (bs_Go0_of fa)
    refine ⟨fun z4 => ?_, fun z4 => ?_⟩
    · refine bs_pth (d := d + 1) (d' := D + 2) (i := 4) (w := 9) n0 hb x2.1 (by decide) (by decide) rfl z4 t3 (fun m3 l3 x3 t4 => ?_)
      have ca3 := bs_Ca_t (by omega) ca (bs_Ch_l l3)
      refine bs_pkB (d := d) (d' := D) (to := 2122 + 2 * q) (R := _) hc n0 hb x3.1 (by rw [ca3.1.1 9 (by decide) (by decide) (by omega) (by omega) (by omega) (by omega)]; exact z9) (by rw [ca3.2.2.1]; omega) (by rw [ca3.2.2.1]; omega) oX1 oY (by omega) (bs_NmAt_1 (K := 2) (i := 0) (off := 0) (Or.inl ⟨rfl, rfl, rfl⟩) (bs_Kn_a ca3 c11 (by omega) (by decide)) (fun A => bs_set_o (by omega)) (fun A k k0 k1 => bs_set_o (by rw [if_pos rfl] at k1; omega))) t4 (fun m4 y ny z' ey l4 x4 t5 => ?_) (ff ca3)
      have ca4 := bs_Ca_t (by omega) ca3 (bs_Ch_k l4)
      have by' : ∀ B NM, bs_Nw m c B NM → 0 ≤ y ∧ y < B 0 := fun B NM nw => bs_kr (h := h) nw (Or.inl ⟨rfl, rfl, rfl⟩) x3.1 z' (bs_Kn_a ca3 c11 (by omega) (by decide)) ny ey
      have oX2 := bs_okX_s (v := y) oX1 (to := 2122 + 2 * q) (by omega)
      refine bs_pwd (d := d) (d' := D + 2) (i := 5) (w := 10) (R := _) n0 hb x4.1 oX2 oY (by decide) (by decide) rfl t5 (fun m5 l5 x5 t6 => ?_) (ff ca4)
      have ca5 := bs_Ca_t (by omega) ca4 (bs_Ch_l l5)
      refine bs_pn' (d := d) (d' := D + 2) (to := 2122 + 2 * q + 1) (R := _) n0 hb x5.1 oX2 oY (by omega) t6 (fun m6 nu l6 x6 t7 => ?_) (ff ca5)
      have ca6 := bs_Ca_t (by omega) ca5 (bs_Ch_n l6)
      have e10 : m6 10 2 = y := by rw [(bs_Tl6_n l6).2, l5.1 10 (by decide)]; exact (bs_Tl6_k l4).1
      rw [e10, (bs_Tl6_n l6).1]
      exact bs_wall_end hc ps eq ⟨q0.1, lt⟩ ca6 x6.1 (Int.le_trans (Int.le_trans (Int.le_trans (Int.le_trans (Int.le_trans (bs_nx_p x1) (bs_nx_p x2)) (bs_nx_p x3)) (bs_nx_p x4)) (bs_nx_p x5)) (bs_nx_p x6)) wl fr1 (bs_okX_s oX2 (by omega)) (Or.inr ⟨by', nu.2⟩) t7 (fun A k k1 k2 => by rw [bs_set_o k2, bs_set_o k1, bs_set_o k1]) (fun A => by rw [bs_set_o (by omega), bc_setj]) (fun A => Or.inl (bc_setj _ _ _)) hP
    · have t4 := bs_pthn (d' := D + 2) (i := 4) (w := 9) n0 hb x2.1 (by decide) (by decide) rfl z4 t3
      exact bs_wall_end hc ps eq ⟨q0.1, lt⟩ ca x2.1 (Int.le_trans (bs_nx_p x1) (bs_nx_p x2)) wl fr1 oX1 (Or.inl ⟨rfl, rfl⟩) t4 (fun A k k1 k2 => bs_set_o k1) (fun A => bc_setj _ _ _) (fun A => Or.inr ⟨bs_set_o (by omega), rfl⟩) hP
  · have e1 : g1 157 2113 = 7 := by rw [mid.2.2.1]; have := cg g sm; show g 157 2113 = 7; omega
    exact ⟨by decide, fun u => absurd e1 u, fun _ => bc_m_fails mid.2.2.2.2.1 mid.2.2.2.2.2 hN'⟩
