/-! ===== parts of a cave's text ===== -/
def bs_SM (T : Int → Int) (n c : Int) (g0 m g : bc_H) : Prop := (∀ x, x ≠ 156 → x ≠ 157 → x ≠ 158 → x ≠ 163 → g x = g0 x) ∧ (∀ y, (y < 10 ∨ 20 < y ∨ y = 16) → g 156 y = g0 156 y) ∧ (g 156 10 = 0 ∧ g 156 17 = -1 ∧ g 156 18 = 0) ∧ bs_Tk T n m g ∧ (∀ k, (k < 2112 ∨ 2640 ≤ k) → g 157 k = g0 157 k) ∧ (∀ k, (k < 104 ∨ 130 ≤ k) → g 158 k = g0 158 k) ∧ bs_Nw m c (fun k => g 157 (2112 + k)) (fun k => g 158 (104 + k)) ∧ ((0 ≤ g 156 20 ∧ g 156 20 < 512) ∧ (bc_and (bc_shr (g 156 20) 0) 1 = 1 ↔ m 9 3 ≠ 0) ∧ (bc_and (bc_shr (g 156 20) 1) 1 = 1 ↔ m 9 4 ≠ 0))
def bs_PS (h : bc_H) (T : Int → Int) (n c : Int) (m : bc_H) : Prop := bs_PT T n m ∧ (m 6 0 = 0 ∧ m 6 1 = 0 ∧ m 6 2 = -1) ∧ m 9 1 = c ∧ (∀ x, x ≠ 6 → x ≠ 9 → x ≠ 10 → ¬ (c ≤ x ∧ x < c + 20) → m x = h x) ∧ ∃ B NM, bs_Nw m c B NM
theorem bs_Mid_0 {T : Int → Int} {n c : Int} {g0 m g : bc_H} (h : bs_SM T n c g0 m g) : bs_Mid T n m (fun A => A) (fun A => A) g g := ⟨fun _ _ _ _ => rfl, fun _ _ => rfl, rfl, rfl, h.2.2.2.1, h.2.2.1.2.2⟩
theorem bs_Nw_h {m m' : bc_H} {c : Int} {B NM : Int → Int} (e : ∀ x, c ≤ x → x < c + 20 → m' x = m x) (h : bs_Nw m c B NM) : bs_Nw m' c B NM := by
  unfold bs_Nw bs_NwC bs_NwG bs_NwD bs_Cw bs_Cf bs_Cm at *
  rw [e c (by omega) (by omega), e (c + 1) (by omega) (by omega), e (c + 3) (by omega) (by omega), e (c + 8) (by omega) (by omega), e (c + 3 + 1) (by omega) (by omega), e (c + 3 + 2) (by omega) (by omega), e (c + 8 + 1) (by omega) (by omega), e (c + 8 + 2) (by omega) (by omega), e (c + 8 + 3) (by omega) (by omega), e (c + 8 + 4) (by omega) (by omega), e (c + 13) (by omega) (by omega), e (c + 14) (by omega) (by omega), e (c + 15) (by omega) (by omega), e (c + 16) (by omega) (by omega), e (c + 1 + 1) (by omega) (by omega), e (c + 3 + 3) (by omega) (by omega), e (c + 17) (by omega) (by omega), e (c + 18) (by omega) (by omega), e (c + 19) (by omega) (by omega)]
  exact h
theorem bs_okX_0 : bs_okX (fun A => A) := fun _ _ _ => rfl
theorem bs_okY_0 : bs_okY (fun A => A) := fun _ _ _ => rfl
theorem bs_okY_s {Y : (Int → Int) → Int → Int} {to v : Int} (h : bs_okY Y) (t0 : 104 ≤ to ∧ to < 130) : bs_okY (fun A => bc_set (Y A) to v) := fun A k hk => by
  show bc_set (Y A) to v k = A k
  rw [bc_setn (by omega)]; exact h A k hk
/-- what the counts are -/
theorem bs_Nw_n {m : bc_H} {c : Int} {B NM : Int → Int} (h : bs_Nw m c B NM) : (B 0 = m (c + 1) 0 ∧ B 1 = m (c + 3) 0 ∧ B 2 = m c 3 ∧ B 3 = m (c + 8) 0 ∧ B 7 = m (c + 3) 1) ∧ (0 ≤ B 0 ∧ B 0 ≤ 5) ∧ (0 ≤ B 1 ∧ B 1 ≤ 7) ∧ (0 ≤ B 2 ∧ B 2 ≤ 6) ∧ (0 ≤ B 3 ∧ B 3 ≤ 8) ∧ (0 ≤ B 7 ∧ B 7 ≤ 10) ∧ (0 ≤ m c 11 ∧ m c 11 ≤ B 0 + B 1 + B 2 + B 3) := by
  obtain ⟨⟨k0, k1, k2, k3, k4, k5, k6, k7⟩, _, _, _, _, _, _, _, hW, hN⟩ := h
  obtain ⟨⟨w0, w1, w2, w3, w4, w5, w7⟩, _⟩ := hW
  exact ⟨⟨k4.symm, k5.symm, k3.symm, k7.symm, k6.symm⟩, w0, w1, w2, w3, w7, hN.1⟩
theorem bs_NmAt_0 {T : Int → Int} {n c K i off : Int} {g0 m m' : bc_H} {X Y : (Int → Int) → Int → Int} (hk : bs_kd K i off) (en : m' c 11 = m c 11) (e17 : m' (c + 17) = m (c + 17)) (e18 : m' (c + 18) = m (c + 18)) (e19 : m' (c + 19) = m (c + 19)) (hX : ∀ A, X A (2112 + i) = A (2112 + i)) (hY : ∀ A k, 104 + off ≤ k → k < 104 + off + (if i = 0 then 5 else if i = 1 then 7 else if i = 2 then 6 else 8) → Y A k = A k) : bs_NmAt (bs_SM T n c g0 m) X Y m' c K (104 + off) (2112 + i) := fun g l sm hl => by
  have nw := sm.2.2.2.2.2.2.1
  have t := bs_Nm_kd nw.2.2.2.2.2.2.2.2.2 hk hl
  have b := bs_Nw_n nw
  rw [en, e17, e18, e19, t, hX]
  unfold bs_rn
  have bd : 0 ≤ g 157 (2112 + i) ∧ g 157 (2112 + i) ≤ (if i = 0 then 5 else if i = 1 then 7 else if i = 2 then 6 else 8) ∧ off ≤ 18 := by
    rcases hk with ⟨rfl, rfl, rfl⟩ | ⟨rfl, rfl, rfl⟩ | ⟨rfl, rfl, rfl⟩ | ⟨rfl, rfl, rfl⟩
    · rw [if_pos rfl]; exact ⟨b.2.1.1, b.2.1.2, by omega⟩
    · rw [if_neg (by decide), if_pos rfl]; exact ⟨b.2.2.1.1, b.2.2.1.2, by omega⟩
    · rw [if_neg (by decide), if_neg (by decide), if_pos rfl]; exact ⟨b.2.2.2.1.1, b.2.2.2.1.2, by omega⟩
    · rw [if_neg (by decide), if_neg (by decide), if_neg (by decide)]; exact ⟨b.2.2.2.2.1.1, b.2.2.2.2.1.2, by omega⟩
  refine ⟨bs_fst_congr (fun k k0 k1 => ?_), bd.1, ?_⟩
  · show g 158 (104 + (off + k)) = bs_c256 l ↔ _
    rw [hY _ (104 + off + k) (by omega) (by have k1' : k < g 157 (2112 + i) := k1; omega), show 104 + (off + k) = 104 + off + k by omega]
  · have : (if i = 0 then (5 : Int) else if i = 1 then 7 else if i = 2 then 6 else 8) ≤ 8 := by (repeat' split) <;> omega
    omega
theorem bs_TkAt_0 {T : Int → Int} {n c : Int} {g0 m m' : bc_H} (en : m' c 11 = m c 11) (e17 : m' (c + 17) = m (c + 17)) : bs_TkAt (bs_SM T n c g0 m) (fun A => A) (fun A => A) m' c := fun g l sm hl => by
  have nw := sm.2.2.2.2.2.2.1
  have t := (nw.2.2.2.2.2.2.2.2.2.2 l hl).2
  have b := bs_Nw_n nw
  rw [en, e17, t]
  refine ⟨?_, b.2.1, b.2.2.1, b.2.2.2.1, b.2.2.2.2.1⟩
  have e : ∀ off ci m', m' = g 157 (2112 + ci) → bs_rn (fun k => g 158 (104 + k)) off m' (bs_c256 l) = bs_ct (fun A => A) (fun A => A) g (104 + off) (2112 + ci) l := fun off ci m' em => by
    unfold bs_rn bs_ct
    rw [em]
    exact bs_fst_congr (fun k k0 k1 => by show g 158 (104 + (off + k)) = _ ↔ g 158 (104 + off + k) = _; rw [show 104 + (off + k) = 104 + off + k by omega])
  rw [e 0 0 _ rfl, e 5 1 _ rfl, e 12 2 _ rfl, e 18 3 _ rfl]
  exact Iff.rfl
/-- a fault of the class, and the rest -/
def bs_PF (h : bc_H) (c : Int) (m : bc_H) : Prop := (m 6 0 = 0 ∧ 0 < m 6 1) ∧ ∀ x, x ≠ 6 → x ≠ 9 → x ≠ 10 → ¬ (c ≤ x ∧ x < c + 20) → m x = h x
theorem bs_PF_of {h : bc_H} {c k : Int} {m : bc_H} (z : m 6 0 = 0) (hm : ∀ x, x ≠ 6 → x ≠ 9 → x ≠ 10 → ¬ (c ≤ x ∧ x < c + 20) → m x = h x) (hk : 1 ≤ k) : bs_PF h c (bs_fl m k) := by
  have f := bs_fl_1 m k
  refine ⟨⟨by rw [f.2.2.2 0 (by decide) (by decide)]; exact z, by rw [f.1]; split <;> omega⟩, fun x a b d e => by rw [f.2.2.1 x a]; exact hm x a b d e⟩
/-- the reference's memory behind a part -/
theorem bs_SM_of {T : Int → Int} {n c : Int} {g0 m m' g g1 : bc_H} {X Y : (Int → Int) → Int → Int} (sm : bs_SM T n c g0 m g) (hX : bs_okX X) (hY : bs_okY Y) (mid : bs_Mid T n m' X Y g g1) (nw : bs_Nw m' c (fun k => X (g 157) (2112 + k)) (fun k => Y (g 158) (104 + k))) (e3 : m' 9 3 = m 9 3) (e4 : m' 9 4 = m 9 4) : bs_SM T n c g0 m' g1 := by
  obtain ⟨a1, a2, ⟨a3, a4, a5⟩, a6, a7, a8, a9, a10⟩ := sm
  obtain ⟨b1, b2, b3, b4, b5, b6⟩ := mid
  refine ⟨fun x x1 x2 x3 x4 => by rw [b1 x x1 x2 x3]; exact a1 x x1 x2 x3 x4, fun y hy => by rw [b2 y (by omega)]; exact a2 y hy, ⟨by rw [b2 10 (by omega)]; exact a3, by rw [b2 17 (by omega)]; exact a4, b6⟩, b5, fun k hk => by rw [b3, hX _ k hk]; exact a7 k hk, fun k hk => by rw [b4, hY _ k hk]; exact a8 k hk, by rw [b3, b4]; exact nw, ?_⟩
  rw [b2 20 (by omega), e3, e4]; exact a10
/-- what a part of the text gives: class and reference have come on together -/
def bs_Go1 (T : Int → Int) (n c : Int) (m m' : bc_H) (G : bs_RT) : Prop := ∀ (g0 g : bc_H) (P N : bc_H → Prop), bs_SM T n c g0 m g → (∀ g', bs_SM T n c g0 m' g' → P g') → G g P N
def bs_Go0 (T : Int → Int) (n c : Int) (m m' : bc_H) (G : bs_RT) : Prop := ∀ g0, bs_Fa (bs_SM T n c g0 m) G m'
theorem bs_rset (m : bc_H) (r j v : Int) : bc_upd m r j v r = bc_set (m r) j v := by
  funext k
  by_cases e : k = j
  · subst e; rw [bc_uu, bc_setj]
  · rw [bc_uj e, bc_setn e]
theorem bs_an_1 (m : bc_H) (c k x : Int) : (∀ y, y ≠ c → y ≠ c + 17 → y ≠ c + 18 → y ≠ c + 19 → bs_an m c k x y = m y) ∧ (∀ y, y ≠ 11 → bs_an m c k x c y = m c y) ∧ bs_an m c k x c 11 = m c 11 + 1 ∧ bs_an m c k x (c + 17) = bc_set (m (c + 17)) (m c 11) (m 6 5) ∧ bs_an m c k x (c + 18) = bc_set (m (c + 18)) (m c 11) k ∧ bs_an m c k x (c + 19) = bc_set (m (c + 19)) (m c 11) x := by
  unfold bs_an
  refine ⟨fun y y1 y2 y3 y4 => by rw [bc_urow y1, bc_urow y4, bc_urow y3, bc_urow y2], fun y hy => by rw [bc_uj hy, bc_ur (by omega), bc_ur (by omega), bc_ur (by omega)], bc_uu _ _ _ _, ?_, ?_, ?_⟩
  · rw [bc_urow (by omega), bc_urow (by omega), bc_urow (by omega), bs_rset]
  · rw [bc_urow (by omega), bc_urow (by omega), bs_rset, bc_urow (by omega)]
  · rw [bc_urow (by omega), bs_rset, bc_urow (by omega), bc_urow (by omega)]
def bs_SE (T : Int → Int) (n c : Int) (m g : bc_H) : Prop := ∃ g0, bs_SM T n c g0 m g
theorem bs_Go0_of {T : Int → Int} {n c : Int} {m m' : bc_H} {G : bs_RT} (h : bs_Fa (bs_SE T n c m) G m') : bs_Go0 T n c m m' G := fun g0 g P N sm hN => h g P N ⟨g0, sm⟩ hN
theorem bs_Go1_of {T : Int → Int} {n c : Int} {m m' : bc_H} {G R : bs_RT} {X Y : (Int → Int) → Int → Int} (hT : bs_Tr T n (bs_SE T n c m) G X Y m' R) (hX : bs_okX X) (hY : bs_okY Y) (e3 : m' 9 3 = m 9 3) (e4 : m' 9 4 = m 9 4) (hR : ∀ g g1 P N, bs_SE T n c m g → bs_Mid T n m' X Y g g1 → P g1 → R g1 P N) (nw : ∀ g, bs_SE T n c m g → bs_Nw m' c (fun k => X (g 157) (2112 + k)) (fun k => Y (g 158) (104 + k))) : bs_Go1 T n c m m' G := fun g0 g P N sm hP => hT g P N ⟨g0, sm⟩ (fun g1 mid => hR g g1 P N ⟨g0, sm⟩ mid (hP g1 (bs_SM_of sm hX hY mid (nw g ⟨g0, sm⟩) e3 e4)))
theorem bs_Tr_r {T : Int → Int} {n : Int} {SM : bc_H → Prop} {G R R' : bs_RT} {X Y X' Y' : (Int → Int) → Int → Int} {m m' : bc_H} (h : bs_Tr T n SM G X Y m R) (k : ∀ g g1 P N, SM g → bs_Mid T n m X Y g g1 → (∀ g2, bs_Mid T n m' X' Y' g g2 → R' g2 P N) → R g1 P N) : bs_Tr T n SM G X' Y' m' R' := fun g P N sm hh => h g P N sm (fun g1 mid => k g g1 P N sm mid hh)
theorem bs_PFm {h : bc_H} {T : Int → Int} {n c k : Int} {m m' : bc_H} (ps : bs_PS h T n c m) (z0 : m' 6 0 = 0) (e : ∀ x, x ≠ 6 → x ≠ 9 → x ≠ 10 → ¬ (c ≤ x ∧ x < c + 20) → m' x = m x) (hk : k = 2 ∨ k = 3 ∨ k = 4 ∨ k = 5 ∨ k = 6) : bs_PF h c (bs_fl m' k) := bs_PF_of z0 (fun x a b d f => by rw [e x a b d f]; exact ps.2.2.2.1 x a b d f) (by omega)
theorem bs_nx_p {T : Int → Int} {n : Int} {m m1 : bc_H} (h : bs_nx T n m m1) : m 6 10 ≤ m1 6 10 := by
  have := h.2.1; omega
theorem bs_P_beast {d D : Nat} {T : Int → Int} {n c : Int} {h m : bc_H} {P N : bc_H → Prop} (hc : 24 ≤ c ∧ c ≤ 44) (n0 : 0 ≤ n ∧ n ≤ 900) (hb : bs_tb8 T n) (ps : bs_PS h T n c m) (hP : ∀ m', bs_PS h T n c m' → m 6 10 ≤ m' 6 10 → bs_Go1 T n c m m' (fun g P N => bf_M_aBeast (D + 5) g (bc_B P N)) → P m') (hN : ∀ m', bs_PF h c m' → bs_Go0 T n c m m' (fun g P N => bf_M_aBeast (D + 5) g (bc_B P N)) → N m') : bf_Reader_takeBeast (d + 3) m (bc_B P N) := by
  have ps' := ps
  obtain ⟨pt, ⟨z0, z1, z2⟩, z9, fr, B, NM, nw⟩ := ps'
  have cn := bs_Nw_n nw
  have cg : ∀ g, bs_SE T n c m g → g 157 2112 = m (c + 1) 0 := fun g ⟨g0, sm⟩ => (bs_Nw_n sm.2.2.2.2.2.2.1).1.1
  refine rv_Reader_takeBeast (d := d + 2) ?_
  rw [z9]
  refine ⟨by omega, fun lt => ?_, fun ge => rv_Text_fail (hN _ (bs_PF_of z0 fr (by decide)) (bs_Go0_of (bs_Fa_of (X := fun A => A) (Y := fun A => A) (R := fun g1 P' N' => bf_M_aBeast (D + 5) g1 (bc_B P' N')) bs_okX_0 bs_okY_0 (fun g P' N' ⟨_, sm⟩ k => k g (bs_Mid_0 sm)) (fun g g1 P' N' sm mid hN' => rv_M_aBeast (d := D + 4) (rv_M_newOne (d := D + 3) ?_)))))⟩
  · refine bs_pa (d := d + 1) (d' := D + 2) (n := n) (T := T) (SM := bs_SE T n c m) (G := fun g P N => bf_M_aBeast (D + 5) g (bc_B P N)) (X := fun A => A) (Y := fun A => A) n0 hb pt (R := fun h2 P' N' => bf_M_isName (D + 3) h2 (bc_B (fun h4 => bf_M_isOld (D + 3) h4 (bc_B (fun h6 => bf_M_fails (D + 3) 3 h6 (bc_B (fun h8 => P' (bc_upd h8 157 2112 (bc_w32 ((h8 157 2112) + 1)))) (fun h8 => N' h8))) (fun h6 => (0 ≤ (bc_w32 (2112 + 0)) ∧ (bc_w32 (2112 + 0)) < 3968) ∧ bf_M_nameHere (D + 3) h6 (bc_J (fun y12 h10 => (0 ≤ (bc_w32 ((bc_w32 (104 + 0)) + (h6 157 (bc_w32 (2112 + 0))))) ∧ (bc_w32 ((bc_w32 (104 + 0)) + (h6 157 (bc_w32 (2112 + 0))))) < 156) ∧ bf_M_ahead (D + 3) (bc_upd h10 158 (bc_w32 ((bc_w32 (104 + 0)) + (h6 157 (bc_w32 (2112 + 0))))) y12) (bc_U (fun h13 => P' (bc_upd h13 157 2112 (bc_w32 ((h13 157 2112) + 1)))))))))) (fun h4 => bf_M_fails (D + 3) 2 h4 (bc_B (fun h15 => P' (bc_upd h15 157 2112 (bc_w32 ((h15 157 2112) + 1)))) (fun h15 => N' h15))))) (fun g P' N' se k => ?_) (fun m1 l1 x1 t1 => ?_)
    · have e0 : g 157 2112 ≠ 5 := by rw [cg g se]; omega
      obtain ⟨g0, sm⟩ := se
      exact rv_M_aBeast (d := D + 4) (rv_M_newOne (d := D + 3) ⟨by decide, fun _ => k g (bs_Mid_0 sm), fun u => absurd u e0⟩)
    · have r1 : ∀ x, x ≠ 6 → m1 x = m x := l1.1
      rw [r1 9 (by decide), z9, r1 (c + 1) (by omega)]
      refine ⟨by omega, ?_⟩
      refine bs_pnew (d := d) (d' := D) (i := 0) (so := 0) (cnt := m (c + 1) 0) hc n0 hb x1.1 (by rw [r1 9 (by decide)]; exact z9) (by rw [r1 c (by omega)]; exact cn.2.2.2.2.2.2.1) (by rw [r1 c (by omega)]; omega) bs_okX_0 bs_okY_0 (fun g l ⟨g0, sm⟩ hl => bs_TkAt_0 (g0 := g0) (by rw [r1 c (by omega)]) (r1 _ (by omega)) g l sm hl) (by decide) (by decide) (by omega) cg (R := fun g1 P' N' => P' (bc_upd g1 157 2112 (bc_w32 ((g1 157 2112) + 1)))) t1 (fun m2 l z wl el fresh l2 x2 t2 => ?_) (fun k hk fa => hN _ (bs_PFm ps (by rw [l1.2 0 (by decide)]; exact z0) (fun x a _ _ _ => r1 x a) hk) (bs_Go0_of fa))
      have an := bs_an_1 m1 c 2 (m (c + 1) 0)
      have r2 : ∀ x, x ≠ 6 → x ≠ c → x ≠ c + 17 → x ≠ c + 18 → x ≠ c + 19 → m2 x = m x := fun x y1 y2 y3 y4 y5 => by rw [l2.1 x y1, an.1 x y2 y3 y4 y5, r1 x y1]
      have r6 : ∀ y, y < 4 → m2 6 y = m 6 y := fun y hy => by rw [l2.2 y (Or.inl hy), an.1 6 (by omega) (by omega) (by omega) (by omega), l1.2 y (Or.inl hy)]
      rw [r2 9 (by decide) (by omega) (by omega) (by omega) (by omega), z9, r2 (c + 1) (by omega) (by omega) (by omega) (by omega) (by omega), bc_wi (x := m (c + 1) 0 + 1) (by omega) (by omega)]
      refine ⟨by omega, ?_⟩
      have w1 : ∀ x, x ≠ c + 1 → bc_upd m2 (c + 1) 0 (m (c + 1) 0 + 1) x = m2 x := fun x hx => bc_urow hx
      have nwk : ∀ B NM B' NM', bs_Nw m c B NM → (∀ k, 0 ≤ k → k < 160 → B' k = bc_set B 0 (B 0 + 1) k) → (∀ k, 0 ≤ k → k < 26 → NM' k = bc_set NM (0 + B 0) (bs_c256 l) k) → bs_Nw (bc_upd m2 (c + 1) 0 (m (c + 1) 0 + 1)) c B' NM' := fun B NM B' NM' nw eB eN => by
        have fr1 : bs_fst (fun i => m (c + 17) i = bs_c32 l) (m c 11) = -1 := by rw [← r1 (c + 17) (by omega), ← r1 c (by omega)]; exact fresh
        have b0 := (bs_Nw_n nw).1.1
        refine bs_Nw_beast nw (by omega) wl fr1 (fun x a b e _ => by rw [w1 x e, r2 x (by omega) (by omega) (by omega) (by omega) (by omega)]) (fun y hy => by rw [w1 c (by omega), l2.1 c (by omega), an.2.1 y hy, r1 c (by omega)]) (bc_uu _ _ _ _) (by rw [w1 c (by omega), l2.1 c (by omega), an.2.2.1, r1 c (by omega)]) ?_ ?_ ?_ eB eN
        · rw [w1 _ (by omega), l2.1 _ (by omega), an.2.2.2.1, r1 _ (by omega), r1 c (by omega), el]
        · rw [w1 _ (by omega), l2.1 _ (by omega), an.2.2.2.2.1, r1 _ (by omega), r1 c (by omega)]
        · rw [w1 _ (by omega), l2.1 _ (by omega), an.2.2.2.2.2, r1 _ (by omega), r1 c (by omega)]
      have t9 : bc_upd m2 (c + 1) 0 (m (c + 1) 0 + 1) 9 = m 9 := by rw [w1 9 (by omega), r2 9 (by decide) (by omega) (by omega) (by omega) (by omega)]
      have t6 : bc_upd m2 (c + 1) 0 (m (c + 1) 0 + 1) 6 = m2 6 := w1 6 (by omega)
      refine hP _ ⟨bs_PT_h x2.1 (fun y _ => by rw [t6]) (w1 7 (by omega)) (w1 8 (by omega)), ⟨by rw [t6, r6 0 (by decide)]; exact z0, by rw [t6, r6 1 (by decide)]; exact z1, by rw [t6, r6 2 (by decide)]; exact z2⟩, by rw [t9]; exact z9, fun x a b e f => by rw [w1 x (by omega), r2 x a (by omega) (by omega) (by omega) (by omega)]; exact fr x a b e f, _, _, nwk _ _ (bc_set B 0 (B 0 + 1)) (bc_set NM (0 + B 0) (bs_c256 l)) nw (fun _ _ _ => rfl) (fun _ _ _ => rfl)⟩ (by rw [t6]; exact Int.le_trans (bs_nx_p x1) (bs_nx_p x2)) ?_
      refine bs_Go1_of (X := fun A => bc_set A 2112 (m (c + 1) 0 + 1)) (Y := fun A => bc_set A (104 + 0 + m (c + 1) 0) (bs_c256 l)) (R := fun g P' N' => P' g) (bs_Tr_r t2 (fun g g1 P' N' se mid k => ?_)) (bs_okX_s bs_okX_0 (by decide)) (bs_okY_s bs_okY_0 (by omega)) (by rw [t9]) (by rw [t9]) (fun g g1 P' N' _ _ u => u) (fun g se => ?_)
      · have e1 : g1 157 2112 = m (c + 1) 0 := by rw [mid.2.2.1]; exact cg g se
        rw [e1, bc_wi (x := m (c + 1) 0 + 1) (by omega) (by omega)]
        exact k _ (bs_Mid_set mid (fun _ _ => rfl) (fun y _ => by rw [bc_urow (by decide)]) (bs_Tk_h mid.2.2.2.2.1 (fun y _ => by rw [t6]) (fun y _ => by rw [bc_urow (by decide)]) (bc_urow (by decide))))
      · have nw' := se.choose_spec.2.2.2.2.2.2.1
        have b0 := (bs_Nw_n nw').1.1
        have b0 : g 157 (2112 + 0) = m (c + 1) 0 := b0
        refine nwk _ _ _ _ nw' (fun k k0 k1 => ?_) (fun k k0 k1 => ?_)
        · show bc_set (g 157) 2112 _ (2112 + k) = bc_set (fun k => g 157 (2112 + k)) 0 _ k
          by_cases e : k = 0
          · subst e; rw [show (2112 : Int) + 0 = 2112 by omega, bc_setj, bc_setj]; show _ = g 157 (2112 + 0) + 1; rw [b0]
          · rw [bc_setn (by omega), bc_setn e]
        · show bc_set (g 158) _ _ (104 + k) = bc_set (fun k => g 158 (104 + k)) (0 + g 157 (2112 + 0)) _ k
          rw [b0]
          by_cases e : k = 0 + m (c + 1) 0
          · subst e; rw [show 104 + (0 + m (c + 1) 0) = 104 + 0 + m (c + 1) 0 by omega, bc_setj, bc_setj]
          · rw [bc_setn (by omega), bc_setn e]
  · have e1 : g1 157 2112 = 5 := by rw [mid.2.2.1]; have := cg g sm; show g 157 2112 = 5; omega
    exact ⟨by decide, fun u => absurd e1 u, fun _ => bc_m_fails mid.2.2.2.2.1 mid.2.2.2.2.2 hN'⟩
