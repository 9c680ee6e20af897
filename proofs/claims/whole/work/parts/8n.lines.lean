/-! ===== a day's line: what it says ===== -/
theorem bs_Tr_6 {T : Int → Int} {n : Int} {SM : bc_H → Prop} {G R : bs_RT} {X Y : (Int → Int) → Int → Int} {m m2 : bc_H} (e : m2 6 = m 6) (h : bs_Tr T n SM G X Y m R) : bs_Tr T n SM G X Y m2 R := bs_Tr_r h (fun g g1 P' N' sm mid k => k g1 ⟨mid.1, mid.2.1, mid.2.2.1, mid.2.2.2.1, bs_Tk_h mid.2.2.2.2.1 (fun y _ => by rw [e]) (fun _ _ => rfl) rfl, mid.2.2.2.2.2⟩)
def bs_Dh (m m' : bc_H) : Prop := (∀ r, r ≠ 6 → r ≠ 9 → r ≠ 10 → m' r = m r) ∧ (∀ y, y < 3 → m' 6 y = m 6 y) ∧ ∀ y, y ≠ 8 → m' 9 y = m 9 y
theorem bs_Dh_t {m m1 m2 : bc_H} (a : bs_Dh m m1) (b : bs_Ch m1 m2) : bs_Dh m m2 := ⟨fun r r1 r2 r3 => by rw [b.1 r r1 r3, a.1 r r1 r2 r3], fun y hy => by rw [b.2 y hy, a.2.1 y hy], fun y hy => by rw [b.1 9 (by decide) (by decide), a.2.2 y hy]⟩
theorem bs_Dh_8 {m m1 : bc_H} {v : Int} (a : bs_Dh m m1) : bs_Dh m (bc_upd m1 9 8 v) := ⟨fun r r1 r2 r3 => by rw [bc_urow r2, a.1 r r1 r2 r3], fun y hy => by rw [bc_ur (by decide), a.2.1 y hy], fun y hy => by rw [bc_uj hy, a.2.2 y hy]⟩
theorem bs_Dh_l {m m1 : bc_H} (a : bs_Ch m m1) : bs_Dh m m1 := ⟨fun r r1 _ r3 => a.1 r r1 r3, a.2, fun y _ => by rw [a.1 9 (by decide) (by decide)]⟩
theorem bs_PT_8 {T : Int → Int} {n v : Int} {m : bc_H} (h : bs_PT T n m) : bs_PT T n (bc_upd m 9 8 v) := bs_PT_h h (fun y _ => by rw [bc_ur (by decide)]) (bc_urow (by decide)) (bc_urow (by decide))
def bs_DE (T : Int → Int) (n : Int) (m : bc_H) (c to kk w1 w2 : Int) (g : bc_H) : Prop := bs_Tk T n m g ∧ g 156 18 = 0 ∧ g 157 to = kk ∧ (g 157 1 = w1 ∧ g 157 2 = w2) ∧ bs_Nm (m c 11) (m (c + 17)) (m (c + 18)) (m (c + 19)) (g 157) (g 158)
def bs_Dln (i : Int) (m' : bc_H) (X' : (Int → Int) → Int → Int) (SM : bc_H → Prop) (to w1 w2 : Int) : Prop := (∀ g, SM g → bs_ln i (m' 9 8) (m' 10 8) (if i = 17 ∨ m' 9 8 = 10 then m' 10 3 else m' 6 3) (X' (g 157) (to + 4)) (X' (g 157) to) (X' (g 157) (to + 1)) (X' (g 157) (to + 2)) (X' (g 157) (to + 4)) (X' (g 157) (to + 5)) w1 w2) ∧ bs_okX X' ∧ ∀ A k, (k < to ∨ to + 5 < k) → X' A k = A k
def bs_DPp (T : Int → Int) (n i to w1 w2 : Int) (m : bc_H) (SM : bc_H → Prop) (G : bs_RT) (P : bc_H → Prop) : Prop := ∀ m' X', bs_PT T n m' → m 6 10 ≤ m' 6 10 → bs_Dh m m' → bs_Dln i m' X' SM to w1 w2 → bs_Tr T n SM G X' (fun A => A) m' (fun g P' N' => P' g) → P m'
def bs_DNn (m : bc_H) (SM : bc_H → Prop) (G : bs_RT) (N : bc_H → Prop) : Prop := ∀ m', bs_Dh m m' → ∀ k, (k = 2 ∨ k = 3 ∨ k = 4 ∨ k = 5 ∨ k = 6) → bs_Fa SM G (bs_fl m' k) → N (bs_fl m' k)
theorem bs_dNm {T : Int → Int} {n c K i off to kk w1 w2 : Int} {m m' : bc_H} {X : (Int → Int) → Int → Int} (hc : 24 ≤ c ∧ c ≤ 44) (hk : (K = 8 ∧ i = 2 ∧ off = 12) ∨ (K = 3 ∧ i = 1 ∧ off = 5)) (w : (0 ≤ w1 ∧ w1 ≤ 7) ∧ 0 ≤ w2 ∧ w2 ≤ 6) (dh : bs_Dh m m') (hX : bs_okX X) : bs_NmAt (bs_DE T n m c to kk w1 w2) X (fun A => A) m' c K off i := fun g l sm hl => by
  have nm := sm.2.2.2.2
  have w' := sm.2.2.2.1
  rw [dh.1 c (by omega) (by omega) (by omega), dh.1 (c + 17) (by omega) (by omega) (by omega), dh.1 (c + 18) (by omega) (by omega) (by omega), dh.1 (c + 19) (by omega) (by omega) (by omega), hX _ i (by omega)]
  rcases hk with ⟨rfl, rfl, rfl⟩ | ⟨rfl, rfl, rfl⟩
  · rw [bs_Nm_kd nm (Or.inr (Or.inr (Or.inl ⟨rfl, rfl, rfl⟩))) hl]
    exact ⟨rfl, by omega, by omega⟩
  · rw [bs_Nm_kd nm (Or.inr (Or.inl ⟨rfl, rfl, rfl⟩)) hl]
    exact ⟨rfl, by omega, by omega⟩
theorem bs_dr {T : Int → Int} {n c K i off y : Int} {m m1 : bc_H} {A0 NM0 : Int → Int} (hc : 24 ≤ c ∧ c ≤ 44) (nm : bs_Nm (m c 11) (m (c + 17)) (m (c + 18)) (m (c + 19)) A0 NM0) (hk : bs_kd K i off) (b0 : 0 ≤ A0 i) (pt : bs_PT T n m1) (z : bs_isn m1) (dh : bs_Dh m m1) (ne : y ≠ -1) (e : y = bs_cn (m1 c 11) (m1 (c + 17)) (m1 (c + 18)) (m1 (c + 19)) K (m1 6 5)) : 0 ≤ y ∧ y < A0 i := by
  have l := bs_isn_l pt z
  rw [dh.1 c (by omega) (by omega) (by omega), dh.1 (c + 17) (by omega) (by omega) (by omega), dh.1 (c + 18) (by omega) (by omega) (by omega), dh.1 (c + 19) (by omega) (by omega) (by omega), l.2, bs_Nm_kd nm hk l.1] at e
  have r : bs_rn NM0 off (A0 i) (bs_c256 (bs_wl T (m1 6 11) (m1 6 10))) = -1 ∨ (0 ≤ bs_rn NM0 off (A0 i) (bs_c256 (bs_wl T (m1 6 11) (m1 6 10))) ∧ bs_rn NM0 off (A0 i) (bs_c256 (bs_wl T (m1 6 11) (m1 6 10))) < A0 i) := by
    unfold bs_rn
    refine bc_it_ind (fun (n : Int) (r : Int) => r = -1 ∨ (0 ≤ r ∧ r < n)) (Or.inl rfl) (fun i r i0 ih => ?_) b0
    (repeat' split) <;> omega
  omega

theorem bs_D_16 {d D : Nat} {T : Int → Int} {n c to w1 w2 : Int} {m m2 : bc_H} {A0 NM0 : Int → Int} {G : bs_RT} {P N : bc_H → Prop} (hc : 24 ≤ c ∧ c ≤ 44) (n0 : 0 ≤ n ∧ n ≤ 900) (hb : bs_tb8 T n) (t0 : 2112 ≤ to ∧ to + 5 < 2640) (w : (0 ≤ w1 ∧ w1 ≤ 7) ∧ 0 ≤ w2 ∧ w2 ≤ 6) (c1 : m 9 1 = c) (nm : bs_Nm (m c 11) (m (c + 17)) (m (c + 18)) (m (c + 19)) A0 NM0) (a12 : A0 1 = w1 ∧ A0 2 = w2) (n11 : 0 ≤ m c 11 ∧ m c 11 ≤ 26) (pt2 : bs_PT T n m2) (dh : bs_Dh m m2) (pr : m 6 10 ≤ m2 6 10) (e8 : m2 9 8 = -1) (t2 : bs_Tr T n (bs_DE T n m c to 16 w1 w2) G (fun A => A) (fun A => A) m2 (fun g1 P' N' => bf_M_dayOrder (D + 6) 16 to g1 (bc_B (fun h4 => P' h4) (fun h4 => N' h4)))) (hP : bs_DPp T n 16 to w1 w2 m (bs_DE T n m c to 16 w1 w2) G P) (hN : bs_DNn m (bs_DE T n m c to 16 w1 w2) G N) : bf_Reader_takeRest (d + 3) 16 m2 (bc_B P N) := by
  refine rv_Reader_takeRest (d := d + 2) ⟨fun _ => ?_, fun q => absurd rfl q⟩
  refine bs_pn' (d := d) (d' := D + 3) (to := to + 1) (R := fun g P' N' => P' g) n0 hb pt2 bs_okX_0 bs_okY_0 (by omega) (bs_Tr_r t2 (fun g g1 P' N' sm mid kk => rv_M_dayOrder (d := D + 5) ⟨fun _ => ?_, fun q => absurd rfl q⟩)) (fun m3 nu l3 x3 t3 => ?_) (hN m2 dh)
  · rw [bc_wi (x := to + 1) (by omega) (by omega)]
    exact kk g1 mid
  · have ch := bs_Dh_t dh (bs_Ch_n l3)
    have e9 : m3 9 8 = -1 := by rw [l3.1 9 (by decide), bc_ur (by decide)]; exact e8
    refine hP m3 _ x3.1 (Int.le_trans pr (bs_nx_p x3)) ch ⟨fun g sm => ?_, bs_okX_s bs_okX_0 (by omega), fun A k hk => bc_setn (by omega)⟩ t3
    have e0 : g 157 to = 16 := sm.2.2.1
    have e1 : bc_set (g 157) (to + 1) (m2 6 14) to = 16 := by rw [bc_setn (by omega)]; exact e0
    have e2 : bc_set (g 157) (to + 1) (m2 6 14) (to + 1) = m2 6 14 := bc_setj _ _ _
    have e3 : (if (16 : Int) = 17 ∨ m3 9 8 = 10 then m3 10 3 else m3 6 3) = m2 6 14 := by rw [if_neg (by omega)]; exact (bs_Tl6_n l3).1
    have nu2 := nu.2
    try dsimp only
    rw [e3, e1, e2, e9]
    unfold bs_ln
    exact Or.inl ⟨rfl, rfl, rfl, nu2.1, nu2.2⟩
theorem bs_D_19 {d D : Nat} {T : Int → Int} {n c to w1 w2 : Int} {m m2 : bc_H} {A0 NM0 : Int → Int} {G : bs_RT} {P N : bc_H → Prop} (hc : 24 ≤ c ∧ c ≤ 44) (n0 : 0 ≤ n ∧ n ≤ 900) (hb : bs_tb8 T n) (t0 : 2112 ≤ to ∧ to + 5 < 2640) (w : (0 ≤ w1 ∧ w1 ≤ 7) ∧ 0 ≤ w2 ∧ w2 ≤ 6) (c1 : m 9 1 = c) (nm : bs_Nm (m c 11) (m (c + 17)) (m (c + 18)) (m (c + 19)) A0 NM0) (a12 : A0 1 = w1 ∧ A0 2 = w2) (n11 : 0 ≤ m c 11 ∧ m c 11 ≤ 26) (pt2 : bs_PT T n m2) (dh : bs_Dh m m2) (pr : m 6 10 ≤ m2 6 10) (e8 : m2 9 8 = -1) (t2 : bs_Tr T n (bs_DE T n m c to 19 w1 w2) G (fun A => A) (fun A => A) m2 (fun g1 P' N' => bf_M_dayOrder (D + 6) 19 to g1 (bc_B (fun h4 => P' h4) (fun h4 => N' h4)))) (hP : bs_DPp T n 19 to w1 w2 m (bs_DE T n m c to 19 w1 w2) G P) (hN : bs_DNn m (bs_DE T n m c to 19 w1 w2) G N) : bf_Reader_takeRest (d + 3) 19 m2 (bc_B P N) := by
  refine rv_Reader_takeRest (d := d + 2) ⟨fun q => absurd q (by decide), fun _ => ⟨fun q => absurd q (by decide), fun _ => ⟨fun q => absurd q (by decide), fun _ => ⟨fun _ => ?_, fun q => absurd rfl q⟩⟩⟩⟩
  refine bs_pn' (d := d) (d' := D + 3) (to := to + 1) (R := fun g P' N' => P' g) n0 hb pt2 bs_okX_0 bs_okY_0 (by omega) (bs_Tr_r t2 (fun g g1 P' N' sm mid kk => rv_M_dayOrder (d := D + 5) ⟨fun q => absurd q (by decide), fun _ => ⟨fun q => absurd q (by decide), fun _ => ⟨fun q => absurd q (by decide), fun _ => ⟨fun _ => ?_, fun q => absurd rfl q⟩⟩⟩⟩)) (fun m3 nu l3 x3 t3 => ?_) (hN m2 dh)
  · rw [bc_wi (x := to + 1) (by omega) (by omega)]
    exact kk g1 mid
  · have ch := bs_Dh_t dh (bs_Ch_n l3)
    have e9 : m3 9 8 = -1 := by rw [l3.1 9 (by decide), bc_ur (by decide)]; exact e8
    refine hP m3 _ x3.1 (Int.le_trans pr (bs_nx_p x3)) ch ⟨fun g sm => ?_, bs_okX_s bs_okX_0 (by omega), fun A k hk => bc_setn (by omega)⟩ t3
    have e0 : g 157 to = 19 := sm.2.2.1
    have e1 : bc_set (g 157) (to + 1) (m2 6 14) to = 19 := by rw [bc_setn (by omega)]; exact e0
    have e2 : bc_set (g 157) (to + 1) (m2 6 14) (to + 1) = m2 6 14 := bc_setj _ _ _
    have e3 : (if (19 : Int) = 17 ∨ m3 9 8 = 10 then m3 10 3 else m3 6 3) = m2 6 14 := by rw [if_neg (by omega)]; exact (bs_Tl6_n l3).1
    have nu2 := nu.2
    try dsimp only
    rw [e3, e1, e2, e9]
    unfold bs_ln
    exact Or.inr (Or.inr (Or.inr (Or.inl ⟨rfl, rfl, rfl, nu2.1, nu2.2⟩)))
theorem bs_D_24 {d D : Nat} {T : Int → Int} {n c to w1 w2 : Int} {m m2 : bc_H} {A0 NM0 : Int → Int} {G : bs_RT} {P N : bc_H → Prop} (hc : 24 ≤ c ∧ c ≤ 44) (n0 : 0 ≤ n ∧ n ≤ 900) (hb : bs_tb8 T n) (t0 : 2112 ≤ to ∧ to + 5 < 2640) (w : (0 ≤ w1 ∧ w1 ≤ 7) ∧ 0 ≤ w2 ∧ w2 ≤ 6) (c1 : m 9 1 = c) (nm : bs_Nm (m c 11) (m (c + 17)) (m (c + 18)) (m (c + 19)) A0 NM0) (a12 : A0 1 = w1 ∧ A0 2 = w2) (n11 : 0 ≤ m c 11 ∧ m c 11 ≤ 26) (pt2 : bs_PT T n m2) (dh : bs_Dh m m2) (pr : m 6 10 ≤ m2 6 10) (e8 : m2 9 8 = -1) (t2 : bs_Tr T n (bs_DE T n m c to 22 w1 w2) G (fun A => A) (fun A => A) m2 (fun g1 P' N' => bf_M_dayOrder (D + 6) 22 to g1 (bc_B (fun h4 => P' h4) (fun h4 => N' h4)))) (hP : bs_DPp T n 24 to w1 w2 m (bs_DE T n m c to 22 w1 w2) G P) (hN : bs_DNn m (bs_DE T n m c to 22 w1 w2) G N) : bf_Reader_takeRest (d + 3) 24 m2 (bc_B P N) := by
  refine rv_Reader_takeRest (d := d + 2) ⟨fun q => absurd q (by decide), fun _ => ⟨fun q => absurd q (by decide), fun _ => ⟨fun q => absurd q (by decide), fun _ => ⟨fun q => absurd q (by decide), fun _ => ⟨fun q => absurd q (by decide), fun _ => ⟨fun q => absurd q (by decide), fun _ => ⟨fun q => absurd q (by decide), fun _ => ⟨fun q => absurd q (by decide), fun _ => ⟨fun _ => ?_, fun q => absurd rfl q⟩⟩⟩⟩⟩⟩⟩⟩⟩
  refine bs_pn' (d := d) (d' := D + 3) (to := to + 1) (R := fun g P' N' => P' g) n0 hb pt2 bs_okX_0 bs_okY_0 (by omega) (bs_Tr_r t2 (fun g g1 P' N' sm mid kk => rv_M_dayOrder (d := D + 5) ⟨fun q => absurd q (by decide), fun _ => ⟨fun q => absurd q (by decide), fun _ => ⟨fun q => absurd q (by decide), fun _ => ⟨fun q => absurd q (by decide), fun _ => ⟨fun q => absurd q (by decide), fun _ => ⟨fun q => absurd q (by decide), fun _ => ⟨fun _ => ?_, fun q => absurd rfl q⟩⟩⟩⟩⟩⟩⟩)) (fun m3 nu l3 x3 t3 => ?_) (hN m2 dh)
  · rw [bc_wi (x := to + 1) (by omega) (by omega)]
    exact kk g1 mid
  · have ch := bs_Dh_t dh (bs_Ch_n l3)
    have e9 : m3 9 8 = -1 := by rw [l3.1 9 (by decide), bc_ur (by decide)]; exact e8
    refine hP m3 _ x3.1 (Int.le_trans pr (bs_nx_p x3)) ch ⟨fun g sm => ?_, bs_okX_s bs_okX_0 (by omega), fun A k hk => bc_setn (by omega)⟩ t3
    have e0 : g 157 to = 22 := sm.2.2.1
    have e1 : bc_set (g 157) (to + 1) (m2 6 14) to = 22 := by rw [bc_setn (by omega)]; exact e0
    have e2 : bc_set (g 157) (to + 1) (m2 6 14) (to + 1) = m2 6 14 := bc_setj _ _ _
    have e3 : (if (24 : Int) = 17 ∨ m3 9 8 = 10 then m3 10 3 else m3 6 3) = m2 6 14 := by rw [if_neg (by omega)]; exact (bs_Tl6_n l3).1
    have nu2 := nu.2
    try dsimp only
    rw [e3, e1, e2, e9]
    unfold bs_ln
    exact Or.inr (Or.inr (Or.inr (Or.inr (Or.inr (Or.inr (Or.inl ⟨rfl, rfl, rfl, rfl, nu2.1, nu2.2⟩))))))
theorem bs_D_20 {d D : Nat} {T : Int → Int} {n c to w1 w2 : Int} {m m2 : bc_H} {A0 NM0 : Int → Int} {G : bs_RT} {P N : bc_H → Prop} (hc : 24 ≤ c ∧ c ≤ 44) (n0 : 0 ≤ n ∧ n ≤ 900) (hb : bs_tb8 T n) (t0 : 2112 ≤ to ∧ to + 5 < 2640) (w : (0 ≤ w1 ∧ w1 ≤ 7) ∧ 0 ≤ w2 ∧ w2 ≤ 6) (c1 : m 9 1 = c) (nm : bs_Nm (m c 11) (m (c + 17)) (m (c + 18)) (m (c + 19)) A0 NM0) (a12 : A0 1 = w1 ∧ A0 2 = w2) (n11 : 0 ≤ m c 11 ∧ m c 11 ≤ 26) (pt2 : bs_PT T n m2) (dh : bs_Dh m m2) (pr : m 6 10 ≤ m2 6 10) (e8 : m2 9 8 = -1) (t2 : bs_Tr T n (bs_DE T n m c to 20 w1 w2) G (fun A => A) (fun A => A) m2 (fun g1 P' N' => bf_M_dayOrder (D + 6) 20 to g1 (bc_B (fun h4 => P' h4) (fun h4 => N' h4)))) (hP : bs_DPp T n 20 to w1 w2 m (bs_DE T n m c to 20 w1 w2) G P) (hN : bs_DNn m (bs_DE T n m c to 20 w1 w2) G N) : bf_Reader_takeRest (d + 3) 20 m2 (bc_B P N) := by
  refine rv_Reader_takeRest (d := d + 2) ⟨fun q => absurd q (by decide), fun _ => ⟨fun q => absurd q (by decide), fun _ => ⟨fun q => absurd q (by decide), fun _ => ⟨fun q => absurd q (by decide), fun _ => ⟨fun _ => ?_, fun q => absurd rfl q⟩⟩⟩⟩⟩
  refine hP m2 (fun A => A) pt2 pr dh ⟨fun g sm => ?_, bs_okX_0, fun _ _ _ => rfl⟩ (bs_Tr_r t2 (fun g g1 P' N' sm mid kk => rv_M_dayOrder (d := D + 5) ⟨fun q => absurd q (by decide), fun _ => ⟨fun q => absurd q (by decide), fun _ => ⟨fun q => absurd q (by decide), fun _ => ⟨fun q => absurd q (by decide), fun _ => ⟨fun _ => (kk g1 mid), fun q => absurd rfl q⟩⟩⟩⟩⟩))
  have e0 : g 157 to = 20 := sm.2.2.1
  try dsimp only
  rw [e0]
  unfold bs_ln
  exact Or.inr (Or.inr (Or.inr (Or.inr (Or.inl ⟨rfl, rfl⟩))))
theorem bs_D_26 {d D : Nat} {T : Int → Int} {n c to w1 w2 : Int} {m m2 : bc_H} {A0 NM0 : Int → Int} {G : bs_RT} {P N : bc_H → Prop} (hc : 24 ≤ c ∧ c ≤ 44) (n0 : 0 ≤ n ∧ n ≤ 900) (hb : bs_tb8 T n) (t0 : 2112 ≤ to ∧ to + 5 < 2640) (w : (0 ≤ w1 ∧ w1 ≤ 7) ∧ 0 ≤ w2 ∧ w2 ≤ 6) (c1 : m 9 1 = c) (nm : bs_Nm (m c 11) (m (c + 17)) (m (c + 18)) (m (c + 19)) A0 NM0) (a12 : A0 1 = w1 ∧ A0 2 = w2) (n11 : 0 ≤ m c 11 ∧ m c 11 ≤ 26) (pt2 : bs_PT T n m2) (dh : bs_Dh m m2) (pr : m 6 10 ≤ m2 6 10) (e8 : m2 9 8 = -1) (t2 : bs_Tr T n (bs_DE T n m c to 24 w1 w2) G (fun A => A) (fun A => A) m2 (fun g1 P' N' => bf_M_dayOrder (D + 6) 24 to g1 (bc_B (fun h4 => P' h4) (fun h4 => N' h4)))) (hP : bs_DPp T n 26 to w1 w2 m (bs_DE T n m c to 24 w1 w2) G P) (hN : bs_DNn m (bs_DE T n m c to 24 w1 w2) G N) : bf_Reader_takeRest (d + 3) 26 m2 (bc_B P N) := by
  refine rv_Reader_takeRest (d := d + 2) ⟨fun q => absurd q (by decide), fun _ => ⟨fun q => absurd q (by decide), fun _ => ⟨fun q => absurd q (by decide), fun _ => ⟨fun q => absurd q (by decide), fun _ => ⟨fun q => absurd q (by decide), fun _ => ⟨fun q => absurd q (by decide), fun _ => ⟨fun q => absurd q (by decide), fun _ => ⟨fun q => absurd q (by decide), fun _ => ⟨fun q => absurd q (by decide), fun _ => ?_⟩⟩⟩⟩⟩⟩⟩⟩⟩
  refine hP m2 (fun A => A) pt2 pr dh ⟨fun g sm => ?_, bs_okX_0, fun _ _ _ => rfl⟩ (bs_Tr_r t2 (fun g g1 P' N' sm mid kk => rv_M_dayOrder (d := D + 5) ⟨fun q => absurd q (by decide), fun _ => ⟨fun q => absurd q (by decide), fun _ => ⟨fun q => absurd q (by decide), fun _ => ⟨fun q => absurd q (by decide), fun _ => ⟨fun q => absurd q (by decide), fun _ => ⟨fun q => absurd q (by decide), fun _ => ⟨fun q => absurd q (by decide), fun _ => (kk g1 mid)⟩⟩⟩⟩⟩⟩⟩))
  have e0 : g 157 to = 24 := sm.2.2.1
  try dsimp only
  rw [e0]
  unfold bs_ln
  exact Or.inr (Or.inr (Or.inr (Or.inr (Or.inr (Or.inr (Or.inr (Or.inr ⟨rfl, rfl⟩)))))))
theorem bs_pv {d D : Nat} {T : Int → Int} {n c to tt kk w1 w2 : Int} {m m2 : bc_H} {A0 NM0 : Int → Int} {G R : bs_RT} {X : (Int → Int) → Int → Int} {P N : bc_H → Prop} (hc : 24 ≤ c ∧ c ≤ 44) (n0 : 0 ≤ n ∧ n ≤ 900) (hb : bs_tb8 T n) (t0 : 2112 ≤ to ∧ to + 5 < 2640) (w : (0 ≤ w1 ∧ w1 ≤ 7) ∧ 0 ≤ w2 ∧ w2 ≤ 6) (c1 : m 9 1 = c) (nm : bs_Nm (m c 11) (m (c + 17)) (m (c + 18)) (m (c + 19)) A0 NM0) (a12 : A0 1 = w1 ∧ A0 2 = w2) (n11 : 0 ≤ m c 11 ∧ m c 11 ≤ 26) (pt2 : bs_PT T n m2) (dh : bs_Dh m m2) (pr : m 6 10 ≤ m2 6 10) (tt0 : 2112 ≤ tt ∧ tt < 2640) (hX : bs_okX X) (t2 : bs_Tr T n (bs_DE T n m c to kk w1 w2) G X (fun A => A) m2 (fun g1 P' N' => bf_M_visitorTo (D + 4) tt g1 (bc_B (fun h2 => R h2 P' N') (fun h2 => N' h2)))) (hP : ∀ m3 y, (0 ≤ y ∧ y < w2) → m3 10 8 = y → bs_PT T n m3 → m 6 10 ≤ m3 6 10 → bs_Dh m m3 → m3 9 = m2 9 → bs_Tr T n (bs_DE T n m c to kk w1 w2) G (fun A => bc_set (X A) tt y) (fun A => A) m3 R → P m3) (hN : bs_DNn m (bs_DE T n m c to kk w1 w2) G N) : bf_Reader_knownName (d + 2) 8 (-1) m2 (bc_B P N) := by
  refine bs_pk' (d := d) (d' := D) (off := 12) (ci := 2) (to := tt) (R := R) hc n0 hb pt2 (by rw [dh.2.2 1 (by decide)]; exact c1) (by rw [dh.1 c (by omega) (by omega) (by omega)]; exact n11.1) (by rw [dh.1 c (by omega) (by omega) (by omega)]; exact n11.2) (by decide) (by decide) hX bs_okY_0 tt0 (by decide) (bs_dNm hc (Or.inl ⟨rfl, rfl, rfl⟩) w dh hX) (bs_Tr_r t2 (fun g g1 P' N' sm mid kk => rv_M_visitorTo (d := D + 3) (kk g1 mid))) (fun m3 y ne z ey l3 x3 t3 => ?_) (hN m2 dh)
  have yr := bs_dr (i := 2) (off := 12) hc nm (Or.inr (Or.inr (Or.inl ⟨rfl, rfl, rfl⟩))) (by omega) pt2 z dh ne ey
  exact hP m3 y (by omega) (bs_Tl6_k l3).1 x3.1 (Int.le_trans pr (bs_nx_p x3)) (bs_Dh_t dh (bs_Ch_k l3)) (by rw [l3.1 9 (by decide), bc_urow (by decide)]) t3
theorem bs_pwl {d D : Nat} {T : Int → Int} {n c to tt kk w1 w2 : Int} {m m2 : bc_H} {A0 NM0 : Int → Int} {G R : bs_RT} {X : (Int → Int) → Int → Int} {P N : bc_H → Prop} (hc : 24 ≤ c ∧ c ≤ 44) (n0 : 0 ≤ n ∧ n ≤ 900) (hb : bs_tb8 T n) (t0 : 2112 ≤ to ∧ to + 5 < 2640) (w : (0 ≤ w1 ∧ w1 ≤ 7) ∧ 0 ≤ w2 ∧ w2 ≤ 6) (c1 : m 9 1 = c) (nm : bs_Nm (m c 11) (m (c + 17)) (m (c + 18)) (m (c + 19)) A0 NM0) (a12 : A0 1 = w1 ∧ A0 2 = w2) (n11 : 0 ≤ m c 11 ∧ m c 11 ≤ 26) (pt2 : bs_PT T n m2) (dh : bs_Dh m m2) (pr : m 6 10 ≤ m2 6 10) (tt0 : 2112 ≤ tt ∧ tt < 2640) (hX : bs_okX X) (t2 : bs_Tr T n (bs_DE T n m c to kk w1 w2) G X (fun A => A) m2 (fun g1 P' N' => bf_M_wallTo (D + 4) tt g1 (bc_B (fun h2 => R h2 P' N') (fun h2 => N' h2)))) (hP : ∀ m3 y, (0 ≤ y ∧ y < w1) → m3 10 3 = y → m3 10 8 = m2 10 8 → bs_PT T n m3 → m 6 10 ≤ m3 6 10 → bs_Dh m m3 → m3 9 = m2 9 → bs_Tr T n (bs_DE T n m c to kk w1 w2) G (fun A => bc_set (X A) tt y) (fun A => A) m3 R → P m3) (hN : bs_DNn m (bs_DE T n m c to kk w1 w2) G N) : bf_Reader_knownName (d + 2) 3 (-1) m2 (bc_B P N) := by
  refine bs_pk' (d := d) (d' := D) (off := 5) (ci := 1) (to := tt) (R := R) hc n0 hb pt2 (by rw [dh.2.2 1 (by decide)]; exact c1) (by rw [dh.1 c (by omega) (by omega) (by omega)]; exact n11.1) (by rw [dh.1 c (by omega) (by omega) (by omega)]; exact n11.2) (by decide) (by decide) hX bs_okY_0 tt0 (by decide) (bs_dNm hc (Or.inr ⟨rfl, rfl, rfl⟩) w dh hX) (bs_Tr_r t2 (fun g g1 P' N' sm mid kk => rv_M_wallTo (d := D + 3) (kk g1 mid))) (fun m3 y ne z ey l3 x3 t3 => ?_) (hN m2 dh)
  have yr := bs_dr (i := 1) (off := 5) hc nm (Or.inr (Or.inl ⟨rfl, rfl, rfl⟩)) (by omega) pt2 z dh ne ey
  exact hP m3 y (by omega) (bs_Tl6_k l3).1 ((bs_Tl6_k l3).2 8 (by decide)) x3.1 (Int.le_trans pr (bs_nx_p x3)) (bs_Dh_t dh (bs_Ch_k l3)) (by rw [l3.1 9 (by decide), bc_urow (by decide)]) t3
theorem bs_D_18 {d D : Nat} {T : Int → Int} {n c to w1 w2 : Int} {m m2 : bc_H} {A0 NM0 : Int → Int} {G : bs_RT} {P N : bc_H → Prop} (hc : 24 ≤ c ∧ c ≤ 44) (n0 : 0 ≤ n ∧ n ≤ 900) (hb : bs_tb8 T n) (t0 : 2112 ≤ to ∧ to + 5 < 2640) (w : (0 ≤ w1 ∧ w1 ≤ 7) ∧ 0 ≤ w2 ∧ w2 ≤ 6) (c1 : m 9 1 = c) (nm : bs_Nm (m c 11) (m (c + 17)) (m (c + 18)) (m (c + 19)) A0 NM0) (a12 : A0 1 = w1 ∧ A0 2 = w2) (n11 : 0 ≤ m c 11 ∧ m c 11 ≤ 26) (pt2 : bs_PT T n m2) (dh : bs_Dh m m2) (pr : m 6 10 ≤ m2 6 10) (e8 : m2 9 8 = -1) (t2 : bs_Tr T n (bs_DE T n m c to 18 w1 w2) G (fun A => A) (fun A => A) m2 (fun g1 P' N' => bf_M_dayOrder (D + 6) 18 to g1 (bc_B (fun h4 => P' h4) (fun h4 => N' h4)))) (hP : bs_DPp T n 18 to w1 w2 m (bs_DE T n m c to 18 w1 w2) G P) (hN : bs_DNn m (bs_DE T n m c to 18 w1 w2) G N) : bf_Reader_takeRest (d + 3) 18 m2 (bc_B P N) := by
  refine rv_Reader_takeRest (d := d + 2) ⟨fun q => absurd q (by decide), fun _ => ⟨fun q => absurd q (by decide), fun _ => ⟨fun _ => ?_, fun q => absurd rfl q⟩⟩⟩
  refine bs_pv (d := d) (D := D + 1) (tt := to + 1) (R := fun g P' N' => P' g) hc n0 hb t0 w c1 nm a12 n11 pt2 dh pr (by omega) bs_okX_0 (bs_Tr_r t2 (fun g g1 P' N' sm mid kk => rv_M_dayOrder (d := D + 5) ⟨fun q => absurd q (by decide), fun _ => ⟨fun q => absurd q (by decide), fun _ => ⟨fun _ => ?_, fun q => absurd rfl q⟩⟩⟩)) (fun m3 y yr e10 pt3 pr3 dh3 e9 t3 => ?_) hN
  · rw [bc_wi (x := to + 1) (by omega) (by omega)]
    exact kk g1 mid
  · refine hP m3 _ pt3 pr3 dh3 ⟨fun g sm => ?_, bs_okX_s bs_okX_0 (by omega), fun A k hk => bc_setn (by omega)⟩ t3
    have e1 : bc_set (g 157) (to + 1) y to = 18 := by rw [bc_setn (by omega)]; exact sm.2.2.1
    have e2 : bc_set (g 157) (to + 1) y (to + 1) = y := bc_setj _ _ _
    try dsimp only
    rw [e1, e2, e10]
    unfold bs_ln
    exact Or.inr (Or.inr (Or.inl ⟨rfl, rfl, rfl, yr.1, yr.2⟩))
theorem bs_D_17 {d D : Nat} {T : Int → Int} {n c to w1 w2 : Int} {m m2 : bc_H} {A0 NM0 : Int → Int} {G : bs_RT} {P N : bc_H → Prop} (hc : 24 ≤ c ∧ c ≤ 44) (n0 : 0 ≤ n ∧ n ≤ 900) (hb : bs_tb8 T n) (t0 : 2112 ≤ to ∧ to + 5 < 2640) (w : (0 ≤ w1 ∧ w1 ≤ 7) ∧ 0 ≤ w2 ∧ w2 ≤ 6) (c1 : m 9 1 = c) (nm : bs_Nm (m c 11) (m (c + 17)) (m (c + 18)) (m (c + 19)) A0 NM0) (a12 : A0 1 = w1 ∧ A0 2 = w2) (n11 : 0 ≤ m c 11 ∧ m c 11 ≤ 26) (pt2 : bs_PT T n m2) (dh : bs_Dh m m2) (pr : m 6 10 ≤ m2 6 10) (e8 : m2 9 8 = -1) (t2 : bs_Tr T n (bs_DE T n m c to 17 w1 w2) G (fun A => A) (fun A => A) m2 (fun g1 P' N' => bf_M_dayOrder (D + 6) 17 to g1 (bc_B (fun h4 => P' h4) (fun h4 => N' h4)))) (hP : bs_DPp T n 17 to w1 w2 m (bs_DE T n m c to 17 w1 w2) G P) (hN : bs_DNn m (bs_DE T n m c to 17 w1 w2) G N) : bf_Reader_takeRest (d + 3) 17 m2 (bc_B P N) := by
  refine rv_Reader_takeRest (d := d + 2) ⟨fun q => absurd q (by decide), fun _ => ⟨fun _ => ?_, fun q => absurd rfl q⟩⟩
  refine bs_pv (d := d) (D := D + 1) (tt := to + 1) (R := _) hc n0 hb t0 w c1 nm a12 n11 pt2 dh pr (by omega) bs_okX_0 (by
    refine bs_Tr_r t2 (fun g g1 P' N' sm mid kk => rv_M_dayOrder (d := D + 5) ⟨fun q => absurd q (by decide), fun _ => ⟨fun _ => ?_, fun q => absurd rfl q⟩⟩)
    rw [bc_wi (x := to + 1) (by omega) (by omega)]
    exact kk g1 mid) (fun m3 y yr e10 pt3 pr3 dh3 e9 t3 => ?_) hN
  refine bs_pwl (d := d) (D := D + 1) (tt := to + 2) (R := fun g P' N' => P' g) hc n0 hb t0 w c1 nm a12 n11 pt3 dh3 pr3 (by omega) (bs_okX_s (to := to + 1) (v := y) bs_okX_0 (by omega)) (bs_Tr_r t3 (fun g g1 P' N' sm mid kk => ?_)) (fun m4 u ur e10' ek pt4 pr4 dh4 e9' t4 => ?_) hN
  · rw [bc_wi (x := to + 2) (by omega) (by omega)]
    exact kk g1 mid
  · refine hP m4 _ pt4 pr4 dh4 ⟨fun g sm => ?_, bs_okX_s (bs_okX_s bs_okX_0 (by omega)) (by omega), fun A k hk => by rw [bc_setn (by omega), bc_setn (by omega)]⟩ t4
    have e1 : bc_set (bc_set (g 157) (to + 1) y) (to + 2) u to = 17 := by rw [bc_setn (by omega), bc_setn (by omega)]; exact sm.2.2.1
    have e2 : bc_set (bc_set (g 157) (to + 1) y) (to + 2) u (to + 1) = y := by rw [bc_setn (by omega)]; exact bc_setj _ _ _
    have e3 : bc_set (bc_set (g 157) (to + 1) y) (to + 2) u (to + 2) = u := bc_setj _ _ _
    try dsimp only
    rw [e1, e2, e3, ek, e10, if_pos (Or.inl rfl), e10']
    unfold bs_ln
    exact Or.inr (Or.inl ⟨rfl, rfl, rfl, rfl, yr, ur⟩)
