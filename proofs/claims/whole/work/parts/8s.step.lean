/-! ===== days: a step ===== -/
theorem bs_D_mid {d D : Nat} {T : Int → Int} {n c to w1 w2 i k : Int} {m : bc_H} {A0 NM0 : Int → Int} {P N : bc_H → Prop} (hc : 24 ≤ c ∧ c ≤ 44) (n0 : 0 ≤ n ∧ n ≤ 900) (hb : bs_tb8 T n) (t0 : 2112 ≤ to ∧ to + 5 < 2640) (w : (0 ≤ w1 ∧ w1 ≤ 7) ∧ 0 ≤ w2 ∧ w2 ≤ 6) (c1 : m 9 1 = c) (nm : bs_Nm (m c 11) (m (c + 17)) (m (c + 18)) (m (c + 19)) A0 NM0) (a12 : A0 1 = w1 ∧ A0 2 = w2) (n11 : 0 ≤ m c 11 ∧ m c 11 ≤ 26) (hik : (i = 16 ∧ k = 16) ∨ (i = 17 ∧ k = 17) ∨ (i = 18 ∧ k = 18) ∨ (i = 19 ∧ k = 19) ∨ (i = 20 ∧ k = 20) ∨ (i = 21 ∧ k = 21) ∨ (i = 24 ∧ k = 22) ∨ (i = 26 ∧ k = 24)) (pt : bs_PT T n m) (hP : bs_DPp T n i to w1 w2 m (bs_DE T n m c to k w1 w2) (bs_dG D k to) P) (hN : bs_DNn m (bs_DE T n m c to k w1 w2) (bs_dG D k to) N) : bf_Text_advance (d + 3) m (bc_U (fun h6 => (i ≠ 21 → bf_Reader_takeRest (d + 3) i (bc_upd h6 9 8 (-1)) (bc_B P N)) ∧ (i = 21 → bf_Reader_takeTest (d + 3) (bc_upd h6 9 8 (-1)) (bc_B P N)))) := by
  refine bs_pa (d := d + 2) (d' := D + 5) (SM := bs_DE T n m c to k w1 w2) (G := bs_dG D k to) (X := fun A => A) (Y := fun A => A) (R := fun g1 P' N' => bf_M_dayOrder (D + 6) k to g1 (bc_B (fun h4 => P' h4) (fun h4 => N' h4))) n0 hb pt (fun g P' N' se kk => by
    unfold bs_dG
    exact kk g ⟨fun _ _ _ _ => rfl, fun _ _ => rfl, rfl, rfl, se.1, se.2.1⟩) (fun m1 l1 x1 t1 => ?_)
  have dh : bs_Dh m (bc_upd m1 9 8 (-1)) := bs_Dh_8 (bs_Dh_l (bs_Ch_l l1))
  have pt2 : bs_PT T n (bc_upd m1 9 8 (-1)) := bs_PT_8 x1.1
  have e6 : bc_upd m1 9 8 (-1) 6 = m1 6 := bc_urow (by decide)
  have e8 : bc_upd m1 9 8 (-1) 9 8 = -1 := bc_uu _ _ _ _
  have t2 := bs_Tr_6 e6 t1
  have pr : m 6 10 ≤ bc_upd m1 9 8 (-1) 6 10 := by rw [e6]; exact bs_nx_p x1
  generalize bc_upd m1 9 8 (-1) = m2 at dh pt2 e6 e8 t2 pr ⊢
  rcases hik with ⟨rfl, rfl⟩ | ⟨rfl, rfl⟩ | ⟨rfl, rfl⟩ | ⟨rfl, rfl⟩ | ⟨rfl, rfl⟩ | ⟨rfl, rfl⟩ | ⟨rfl, rfl⟩ | ⟨rfl, rfl⟩
  · exact ⟨fun _ => bs_D_16 (d := d) (D := D) hc n0 hb t0 w c1 nm a12 n11 pt2 dh pr e8 t2 hP hN, fun q => absurd q (by decide)⟩
  · exact ⟨fun _ => bs_D_17 (d := d) (D := D) hc n0 hb t0 w c1 nm a12 n11 pt2 dh pr e8 t2 hP hN, fun q => absurd q (by decide)⟩
  · exact ⟨fun _ => bs_D_18 (d := d) (D := D) hc n0 hb t0 w c1 nm a12 n11 pt2 dh pr e8 t2 hP hN, fun q => absurd q (by decide)⟩
  · exact ⟨fun _ => bs_D_19 (d := d) (D := D) hc n0 hb t0 w c1 nm a12 n11 pt2 dh pr e8 t2 hP hN, fun q => absurd q (by decide)⟩
  · exact ⟨fun _ => bs_D_20 (d := d) (D := D) hc n0 hb t0 w c1 nm a12 n11 pt2 dh pr e8 t2 hP hN, fun q => absurd q (by decide)⟩
  · exact ⟨fun q => absurd rfl q, fun _ => bs_D_21 (d := d) (D := D) hc n0 hb t0 w c1 nm a12 n11 pt2 dh pr (bs_Tr_r t2 (fun g g1 P' N' sm mid kk => rv_M_dayOrder (d := D + 5) ⟨fun q => absurd q (by decide), fun _ => ⟨fun q => absurd q (by decide), fun _ => ⟨fun q => absurd q (by decide), fun _ => ⟨fun q => absurd q (by decide), fun _ => ⟨fun q => absurd q (by decide), fun _ => ⟨fun _ => kk g1 mid, fun q => absurd rfl q⟩⟩⟩⟩⟩⟩)) hP hN⟩
  · exact ⟨fun _ => bs_D_24 (d := d) (D := D) hc n0 hb t0 w c1 nm a12 n11 pt2 dh pr e8 t2 hP hN, fun q => absurd q (by decide)⟩
  · exact ⟨fun _ => bs_D_26 (d := d) (D := D) hc n0 hb t0 w c1 nm a12 n11 pt2 dh pr e8 t2 hP hN, fun q => absurd q (by decide)⟩
theorem bs_DS_nm {h : bc_H} {T : Int → Int} {n c q : Int} {m : bc_H} (hc : 24 ≤ c ∧ c ≤ 44) (hq : 64 ≤ q) (ds : bs_DS h T n c q m) : ∀ x, c ≤ x → x < c + 20 → m x = h x := fun x x0 x1 => ds.2.2.2.1 x (by omega) (by omega) (by omega) (by omega) (by omega)
/-- the sign behind a line -/
theorem bs_D_sign {d D : Nat} {T : Int → Int} {n c q w1 w2 : Int} {h m mF : bc_H} {P N : bc_H → Prop} (hc : 24 ≤ c ∧ c ≤ 44) (hq : 64 ≤ q) (n0 : 0 ≤ n ∧ n ≤ 900) (hb : bs_tb8 T n) (ds : bs_DS h T n c q mF) (pr : m 6 10 ≤ mF 6 10) (go : ∀ (g0 g : bc_H) (A B : bc_H → Prop), bs_DM T n c q w1 w2 g0 m g → (∀ g1, bs_DM T n c q w1 w2 g0 mF g1 → bf_M_wantSign (D + 6) 59 g1 (bc_B A B)) → bf_M_dayStep (D + 7) g (bc_B A B)) (hP : ∀ m', bs_DS h T n c q m' → m 6 10 ≤ m' 6 11 → bs_Dc1 T n c q w1 w2 m m' (bs_dSt D) → P m') (hN : ∀ m', bs_DF h q m' → bs_Dc0 T n c q w1 w2 m m' (bs_dSt D) → N m') : bf_Text_needSign (d + 2) 59 mF (bc_B P N) := by
  obtain ⟨s1, s2, s3, s4, s5, s6⟩ := ds
  refine bc_c_needSign n0 s1 (fun z m2 l x => ?_) (fun z => ?_)
  · have q1 := x.2.1.1
    have r := l.1
    refine hP m2 ⟨x.1, ⟨by rw [l.2 0 (by decide)]; exact s2.1, by rw [l.2 1 (by decide)]; exact s2.2.1, by rw [l.2 2 (by decide)]; exact s2.2.2⟩, by rw [r 9 (by decide)]; exact s3, fun x a b e f i => by rw [r x a]; exact s4 x a b e f i, by rw [r q (by omega), r 9 (by decide)]; exact s5, by rw [r _ (by omega), r _ (by omega), r q (by omega), r 9 (by decide), r 11 (by decide)]; exact s6⟩ (by omega) (fun g0 g P' N' dm hP' => ?_)
    unfold bs_dSt
    refine go g0 g _ _ dm (fun g1 dm1 => ?_)
    refine bc_m_wantSign (d := D + 4) n0 hb s1 dm1.2.2.2.1 (by decide) dm1.2.2.1.2.2 (fun _ => ⟨m2, x, fun g2 a b t => hP' g2 (bs_DM_nx hc hq dm1 l a b t)⟩) (fun u => absurd z u)
  · refine hN _ (bs_DF_of s2.1 s4 (by decide)) (fun g0 g P' N' dm hN' => ?_)
    unfold bs_dSt
    refine go g0 g _ _ dm (fun g1 dm1 => ?_)
    refine bc_m_wantSign (d := D + 4) n0 hb s1 dm1.2.2.2.1 (by decide) dm1.2.2.1.2.2 (fun u => absurd u z) (fun _ => hN' _ (bs_DQ_fg dm1))
/-- a fault within a line -/
theorem bs_DQ_sf {T : Int → Int} {n c q w1 w2 k inc : Int} {g0 m g gz g' mf : bc_H} (cnt : 0 ≤ m q 2 ∧ m q 2 ≤ 59) (dm : bs_DM T n c q w1 w2 g0 m g) (gf : bs_gz g k inc gz) (sf : bs_SF mf gz g') : bs_DQ g0 mf g' := by
  obtain ⟨a1, a2, ⟨a3, a4, a5⟩, a6, a7, ⟨b1, b2, b3⟩, a9, a10, a11⟩ := dm
  obtain ⟨c1, c2, c3, c4, c5, c6⟩ := gf
  obtain ⟨d1, d2, d3, d4, d5⟩ := sf
  refine ⟨fun x x1 x2 x3 x4 x5 => by rw [d1 x x1 x2 x3, c1 x x1 x2]; exact a1 x x1 x2 x4 x5, fun y hy => by rw [d2 y (by omega) (by omega) (by omega), c2 y (by omega)]; exact a2 y hy, by rw [d2 10 (by decide) (by decide) (by decide), c2 10 (by decide)]; exact a3, d3, fun k hk => by rw [d4 k hk, c6 k (by omega) (by omega)]; exact a7 k hk, fun k hk => by rw [d5 k hk, c1 158 (by decide) (by decide), a1 158 (by decide) (by decide) (by decide) (by decide)]⟩

