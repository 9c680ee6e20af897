/-! ===== parts of a cave's text ===== -/
def bs_SM (T : Int → Int) (n c : Int) (g0 m g : bc_H) : Prop := (∀ x, x ≠ 156 → x ≠ 157 → x ≠ 158 → x ≠ 163 → g x = g0 x) ∧ (∀ y, (y < 10 ∨ 20 < y ∨ y = 16) → g 156 y = g0 156 y) ∧ (g 156 10 = 0 ∧ g 156 17 = -1 ∧ g 156 18 = 0) ∧ bs_Tk T n m g ∧ (∀ k, (k < 2112 ∨ 2640 ≤ k) → g 157 k = g0 157 k) ∧ (∀ k, (k < 104 ∨ 130 ≤ k) → g 158 k = g0 158 k) ∧ bs_Nw m c (fun k => g 157 (2112 + k)) (fun k => g 158 (104 + k)) ∧ ((0 ≤ g 156 20 ∧ g 156 20 < 512) ∧ (bc_and (bc_shr (g 156 20) 0) 1 = 1 ↔ m 9 3 ≠ 0) ∧ (bc_and (bc_shr (g 156 20) 1) 1 = 1 ↔ m 9 4 ≠ 0))
def bs_PS (h : bc_H) (T : Int → Int) (n c : Int) (m : bc_H) : Prop := bs_PT T n m ∧ (m 6 0 = 0 ∧ m 6 1 = 0 ∧ m 6 2 = -1) ∧ m 9 1 = c ∧ (∀ x, x ≠ 6 → x ≠ 9 → x ≠ 10 → ¬ (c ≤ x ∧ x < c + 20) → m x = h x) ∧ ∃ B NM, bs_Nw m c B NM
theorem bs_Mid_0 {T : Int → Int} {n c : Int} {g0 m g : bc_H} (h : bs_SM T n c g0 m g) : bs_Mid T n m (fun A => A) (fun A => A) g g := ⟨fun _ _ _ _ => rfl, fun _ _ => rfl, rfl, rfl, h.2.2.2.1, h.2.2.1.2.2⟩
theorem bs_Nw_h {m m' : bc_H} {c : Int} {B NM : Int → Int} (e : ∀ x, c ≤ x → x < c + 20 → m' x = m x) (h : bs_Nw m c B NM) : bs_Nw m' c B NM := by
  unfold bs_Nw bs_NwC bs_NwG bs_NwD bs_Cw bs_Cf bs_Cm at *
  rw [e c (by omega) (by omega), e (c + 1) (by omega) (by omega), e (c + 3) (by omega) (by omega), e (c + 8) (by omega) (by omega), e (c + 3 + 1) (by omega) (by omega), e (c + 3 + 2) (by omega) (by omega), e (c + 8 + 1) (by omega) (by omega), e (c + 8 + 2) (by omega) (by omega), e (c + 8 + 3) (by omega) (by omega), e (c + 8 + 4) (by omega) (by omega), e (c + 13) (by omega) (by omega), e (c + 14) (by omega) (by omega), e (c + 15) (by omega) (by omega), e (c + 16) (by omega) (by omega), e (c + 1 + 1) (by omega) (by omega), e (c + 3 + 3) (by omega) (by omega), e (c + 17) (by omega) (by omega), e (c + 18) (by omega) (by omega), e (c + 19) (by omega) (by omega)]
  exact h
theorem bs_okX_0 : bs_okX (fun A => A) := fun _ _ _ => rfl
theorem bs_okY_0 : bs_okY (fun A => A) := fun _ _ _ => rfl
theorem bs_okY_s {Y : (Int → Int) → Int → Int} {to v : Int} (h : bs_okY Y) (t0 : 104 ≤ to ∧ to < 130) : bs_okY (fun A => bc_set (Y A) to v) := fun A k hk => by
  show bc_set (Y A) to v k = A k
  rw [bc_setn (by omega)]; exact h A k hk
/-- what the counts are -/
theorem bs_Nw_n {m : bc_H} {c : Int} {B NM : Int → Int} (h : bs_Nw m c B NM) : (B 0 = m (c + 1) 0 ∧ B 1 = m (c + 3) 0 ∧ B 2 = m c 3 ∧ B 3 = m (c + 8) 0 ∧ B 7 = m (c + 3) 1) ∧ (0 ≤ B 0 ∧ B 0 ≤ 5) ∧ (0 ≤ B 1 ∧ B 1 ≤ 7) ∧ (0 ≤ B 2 ∧ B 2 ≤ 6) ∧ (0 ≤ B 3 ∧ B 3 ≤ 8) ∧ (0 ≤ B 7 ∧ B 7 ≤ 10) ∧ (0 ≤ m c 11 ∧ m c 11 ≤ B 0 + B 1 + B 2 + B 3) := by
  obtain ⟨⟨k0, k1, k2, k3, k4, k5, k6, k7⟩, _, _, _, _, _, _, _, hW, hN⟩ := h
  obtain ⟨⟨w0, w1, w2, w3, w4, w5, w7⟩, _⟩ := hW
  exact ⟨⟨k4.symm, k5.symm, k3.symm, k7.symm, k6.symm⟩, w0, w1, w2, w3, w7, hN.1⟩
theorem bs_NmAt_0 {T : Int → Int} {n c K i off : Int} {g0 m m' : bc_H} {X Y : (Int → Int) → Int → Int} (hk : bs_kd K i off) (en : m' c 11 = m c 11) (e17 : m' (c + 17) = m (c + 17)) (e18 : m' (c + 18) = m (c + 18)) (e19 : m' (c + 19) = m (c + 19)) (hX : ∀ A, X A (2112 + i) = A (2112 + i)) (hY : ∀ A k, 104 + off ≤ k → k < 104 + off + (if i = 0 then 5 else if i = 1 then 7 else if i = 2 then 6 else 8) → Y A k = A k) : bs_NmAt (bs_SM T n c g0 m) X Y m' c K (104 + off) (2112 + i) := fun g l sm hl => by
  have nw := sm.2.2.2.2.2.2.1
  have t := bs_Nm_kd nw.2.2.2.2.2.2.2.2.2 hk hl
  have b := bs_Nw_n nw
  rw [en, e17, e18, e19, t, hX]
  unfold bs_rn
  have bd : 0 ≤ g 157 (2112 + i) ∧ g 157 (2112 + i) ≤ (if i = 0 then 5 else if i = 1 then 7 else if i = 2 then 6 else 8) ∧ off ≤ 18 := by
    rcases hk with ⟨rfl, rfl, rfl⟩ | ⟨rfl, rfl, rfl⟩ | ⟨rfl, rfl, rfl⟩ | ⟨rfl, rfl, rfl⟩
    · rw [if_pos rfl]; exact ⟨b.2.1.1, b.2.1.2, by omega⟩
    · rw [if_neg (by decide), if_pos rfl]; exact ⟨b.2.2.1.1, b.2.2.1.2, by omega⟩
    · rw [if_neg (by decide), if_neg (by decide), if_pos rfl]; exact ⟨b.2.2.2.1.1, b.2.2.2.1.2, by omega⟩
    · rw [if_neg (by decide), if_neg (by decide), if_neg (by decide)]; exact ⟨b.2.2.2.2.1.1, b.2.2.2.2.1.2, by omega⟩
  refine ⟨bs_fst_congr (fun k k0 k1 => ?_), bd.1, ?_⟩
  · show g 158 (104 + (off + k)) = bs_c256 l ↔ _
    rw [hY _ (104 + off + k) (by omega) (by have k1' : k < g 157 (2112 + i) := k1; omega), show 104 + (off + k) = 104 + off + k by omega]
  · have : (if i = 0 then (5 : Int) else if i = 1 then 7 else if i = 2 then 6 else 8) ≤ 8 := by (repeat' split) <;> omega
    omega
theorem bs_TkAt_0 {T : Int → Int} {n c : Int} {g0 m m' : bc_H} (en : m' c 11 = m c 11) (e17 : m' (c + 17) = m (c + 17)) : bs_TkAt (bs_SM T n c g0 m) (fun A => A) (fun A => A) m' c := fun g l sm hl => by
  have nw := sm.2.2.2.2.2.2.1
  have t := (nw.2.2.2.2.2.2.2.2.2.2 l hl).2
  have b := bs_Nw_n nw
  rw [en, e17, t]
  refine ⟨?_, b.2.1, b.2.2.1, b.2.2.2.1, b.2.2.2.2.1⟩
  have e : ∀ off ci m', m' = g 157 (2112 + ci) → bs_rn (fun k => g 158 (104 + k)) off m' (bs_c256 l) = bs_ct (fun A => A) (fun A => A) g (104 + off) (2112 + ci) l := fun off ci m' em => by
    unfold bs_rn bs_ct
    rw [em]
    exact bs_fst_congr (fun k k0 k1 => by show g 158 (104 + (off + k)) = _ ↔ g 158 (104 + off + k) = _; rw [show 104 + (off + k) = 104 + off + k by omega])
  rw [e 0 0 _ rfl, e 5 1 _ rfl, e 12 2 _ rfl, e 18 3 _ rfl]
  exact Iff.rfl
/-- a fault of the class, and the rest -/
def bs_PF (h : bc_H) (c : Int) (m : bc_H) : Prop := (m 6 0 = 0 ∧ 0 < m 6 1) ∧ ∀ x, x ≠ 6 → x ≠ 9 → x ≠ 10 → ¬ (c ≤ x ∧ x < c + 20) → m x = h x
theorem bs_PF_of {h : bc_H} {c k : Int} {m : bc_H} (z : m 6 0 = 0) (hm : ∀ x, x ≠ 6 → x ≠ 9 → x ≠ 10 → ¬ (c ≤ x ∧ x < c + 20) → m x = h x) (hk : 1 ≤ k) : bs_PF h c (bs_fl m k) := by
  have f := bs_fl_1 m k
  refine ⟨⟨by rw [f.2.2.2 0 (by decide) (by decide)]; exact z, by rw [f.1]; split <;> omega⟩, fun x a b d e => by rw [f.2.2.1 x a]; exact hm x a b d e⟩
/-- the reference's memory behind a part -/
theorem bs_SM_of {T : Int → Int} {n c : Int} {g0 m m' g g1 : bc_H} {X Y : (Int → Int) → Int → Int} (sm : bs_SM T n c g0 m g) (hX : bs_okX X) (hY : bs_okY Y) (mid : bs_Mid T n m' X Y g g1) (nw : bs_Nw m' c (fun k => X (g 157) (2112 + k)) (fun k => Y (g 158) (104 + k))) (e3 : m' 9 3 = m 9 3) (e4 : m' 9 4 = m 9 4) : bs_SM T n c g0 m' g1 := by
  obtain ⟨a1, a2, ⟨a3, a4, a5⟩, a6, a7, a8, a9, a10⟩ := sm
  obtain ⟨b1, b2, b3, b4, b5, b6⟩ := mid
  refine ⟨fun x x1 x2 x3 x4 => by rw [b1 x x1 x2 x3]; exact a1 x x1 x2 x3 x4, fun y hy => by rw [b2 y (by omega)]; exact a2 y hy, ⟨by rw [b2 10 (by omega)]; exact a3, by rw [b2 17 (by omega)]; exact a4, b6⟩, b5, fun k hk => by rw [b3, hX _ k hk]; exact a7 k hk, fun k hk => by rw [b4, hY _ k hk]; exact a8 k hk, by rw [b3, b4]; exact nw, ?_⟩
  rw [b2 20 (by omega), e3, e4]; exact a10
/-- what a part of the text gives: class and reference have come on together -/
def bs_Go1 (T : Int → Int) (n c : Int) (m m' : bc_H) (G : bs_RT) : Prop := ∀ (g0 g : bc_H) (P N : bc_H → Prop), bs_SM T n c g0 m g → (∀ g', bs_SM T n c g0 m' g' → P g') → G g P N
def bs_Go0 (T : Int → Int) (n c : Int) (m m' : bc_H) (G : bs_RT) : Prop := ∀ g0, bs_Fa (bs_SM T n c g0 m) G m'
theorem bs_P_beast {d D : Nat} {T : Int → Int} {n c : Int} {h m : bc_H} {P N : bc_H → Prop} (hc : 24 ≤ c ∧ c ≤ 44) (n0 : 0 ≤ n ∧ n ≤ 900) (hb : bs_tb8 T n) (ps : bs_PS h T n c m) (hP : ∀ m', bs_PS h T n c m' → bs_Go1 T n c m m' (fun g P N => bf_M_aBeast (D + 5) g (bc_B P N)) → P m') (hN : ∀ m', bs_PF h c m' → bs_Go0 T n c m m' (fun g P N => bf_M_aBeast (D + 5) g (bc_B P N)) → N m') : bf_Reader_takeBeast (d + 3) m (bc_B P N) := by
  obtain ⟨pt, ⟨z0, z1, z2⟩, z9, fr, B, NM, nw⟩ := ps
  have cn := bs_Nw_n nw
  have cg : ∀ g0 g, bs_SM T n c g0 m g → g 157 2112 = m (c + 1) 0 := fun g0 g sm => (bs_Nw_n sm.2.2.2.2.2.2.1).1.1
  refine rv_Reader_takeBeast (d := d + 2) ?_
  rw [z9]
  refine ⟨by omega, fun lt => ?_, fun ge => rv_Text_fail (hN _ (bs_PF_of z0 fr (by decide)) (fun g0 => bs_Fa_of (X := fun A => A) (Y := fun A => A) (R := fun g1 P' N' => bf_M_aBeast (D + 5) g1 (bc_B P' N')) bs_okX_0 bs_okY_0 (fun g P' N' sm k => k g (bs_Mid_0 sm)) (fun g g1 P' N' sm mid hN' => rv_M_aBeast (d := D + 4) (rv_M_newOne (d := D + 3) ?_))))⟩
  · sorry
  · sorry
