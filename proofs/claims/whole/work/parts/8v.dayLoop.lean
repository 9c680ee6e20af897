/-! ===== the loop over a day's lines ===== -/
def bs_De1 (D : Nat) (T : Int → Int) (n c q w1 w2 : Int) (m m' : bc_H) : Prop := ∀ (g0 g : bc_H) (K : Int → bc_H → Prop), bs_DM T n c q w1 w2 g0 m g → (∀ g', bs_DM T n c q w1 w2 g0 m' g' → bl_M_days_54 (D + 8) 160 (bc_upd g' 157 8 (g' 157 2120)) (bc_I K)) → bl_M_days_22 (D + 8) 1 g (bc_I K)
def bs_De0 (D : Nat) (T : Int → Int) (n c q w1 w2 : Int) (m m' : bc_H) : Prop := ∀ (g0 g : bc_H) (K : Int → bc_H → Prop), bs_DM T n c q w1 w2 g0 m g → (∀ g', bs_DQ g0 m' g' → bf_M_taken (D + 7) (g' 156 23) g' (bc_I K)) → bl_M_days_22 (D + 8) 1 g (bc_I K)
theorem bs_De1_c {D : Nat} {T : Int → Int} {n c q w1 w2 : Int} {m m1 m' : bc_H} (z : m 6 12 ≠ 0) (co : bs_Dc1 T n c q w1 w2 m m1 (bs_dSt D)) (ce : bs_De1 D T n c q w1 w2 m1 m') : bs_De1 D T n c q w1 w2 m m' := fun g0 g K dm k => by
  have t := dm.2.2.2.1.2.1.2.2
  have u := (bs_tmk_i dm.2.2.2.1.2.2.2.2.1 dm.2.2.2.1.2.2.2.2.2).1
  refine rv_M_days_22 (d := D + 7) ⟨fun q => absurd q (by decide), fun _ => ⟨fun q => absurd (u.1 (t.symm.trans q)) z, fun _ => ?_⟩⟩
  refine co g0 g _ _ dm (fun g' dm' => ?_)
  exact ce g0 g' K dm' k
theorem bs_De0_c {D : Nat} {T : Int → Int} {n c q w1 w2 : Int} {m m1 m' : bc_H} (z : m 6 12 ≠ 0) (co : bs_Dc1 T n c q w1 w2 m m1 (bs_dSt D)) (ce : bs_De0 D T n c q w1 w2 m1 m') : bs_De0 D T n c q w1 w2 m m' := fun g0 g K dm k => by
  have t := dm.2.2.2.1.2.1.2.2
  have u := (bs_tmk_i dm.2.2.2.1.2.2.2.2.1 dm.2.2.2.1.2.2.2.2.2).1
  refine rv_M_days_22 (d := D + 7) ⟨fun q => absurd q (by decide), fun _ => ⟨fun q => absurd (u.1 (t.symm.trans q)) z, fun _ => ?_⟩⟩
  refine co g0 g _ _ dm (fun g' dm' => ?_)
  exact ce g0 g' K dm' k
theorem bs_De0_f {D : Nat} {T : Int → Int} {n c q w1 w2 : Int} {h m m' : bc_H} (z : m 6 12 ≠ 0) (pf : bs_DF h q m') (co : bs_Dc0 T n c q w1 w2 m m' (bs_dSt D)) : bs_De0 D T n c q w1 w2 m m' := fun g0 g K dm k => by
  have t := dm.2.2.2.1.2.1.2.2
  have u := (bs_tmk_i dm.2.2.2.1.2.2.2.2.1 dm.2.2.2.1.2.2.2.2.2).1
  refine rv_M_days_22 (d := D + 7) ⟨fun q => absurd q (by decide), fun _ => ⟨fun q => absurd (u.1 (t.symm.trans q)) z, fun _ => ?_⟩⟩
  refine co g0 g _ _ dm (fun g' sq => ?_)
  have e := sq.2.2.2.1.1
  have p := pf.1.2
  exact rv_M_days_22 (d := D + 7) ⟨fun _ => ⟨fun _ => ⟨fun _ => k g' sq, fun q => by exfalso; omega⟩, fun q => by exfalso; omega⟩, fun q => absurd rfl q⟩
theorem bs_De1_e {D : Nat} {T : Int → Int} {n c q w1 w2 : Int} {m : bc_H} (z : m 6 12 = 0) (d0 : m 9 6 ≤ 0) : bs_De1 D T n c q w1 w2 m m := fun g0 g K dm k => by
  have t := dm.2.2.2.1.2.1.2.2
  have u := (bs_tmk_i dm.2.2.2.1.2.2.2.2.1 dm.2.2.2.1.2.2.2.2.2).1
  have z18 := dm.2.2.1.2.2
  have g22 : g 156 22 = m 9 6 := dm.2.2.2.2.2.1.2.1
  exact rv_M_days_22 (d := D + 7) ⟨fun q => absurd q (by decide), fun _ => ⟨fun _ => ⟨fun q => absurd z18 q, fun _ => ⟨fun _ => ⟨fun q => absurd z18 q, fun _ => k g dm⟩, fun q => by exfalso; omega⟩⟩, fun q => absurd (t.trans (u.2 z)) q⟩⟩
theorem bs_De0_e {D : Nat} {T : Int → Int} {n c q w1 w2 : Int} {m : bc_H} (z : m 6 12 = 0) (d0 : 0 < m 9 6) : bs_De0 D T n c q w1 w2 m (bs_fl m 2) := fun g0 g K dm k => by
  have t := dm.2.2.2.1.2.1.2.2
  have u := (bs_tmk_i dm.2.2.2.1.2.2.2.2.1 dm.2.2.2.1.2.2.2.2.2).1
  have z18 := dm.2.2.1.2.2
  have g22 : g 156 22 = m 9 6 := dm.2.2.2.2.2.1.2.1
  have sq := bs_DQ_fg (k := 2) dm
  have e := sq.2.2.2.1.1
  have f := (bs_fl_1 m 2).1
  have p : 0 < bs_fl m 2 6 1 := by rw [f]; split <;> omega
  exact rv_M_days_22 (d := D + 7) ⟨fun q => absurd q (by decide), fun _ => ⟨fun _ => ⟨fun q => absurd z18 q, fun _ => ⟨fun q => by exfalso; omega, fun _ => bc_m_fails dm.2.2.2.1 z18 ⟨fun _ => k _ sq, fun q => by exfalso; omega⟩⟩⟩, fun q => absurd (t.trans (u.2 z)) q⟩⟩
theorem bs_daysL {d D : Nat} {T : Int → Int} {n c q w1 w2 : Int} {h : bc_H} {P N : bc_H → Prop} (hc : 24 ≤ c ∧ c ≤ 44) (hq : 64 ≤ q) (n0 : 0 ≤ n ∧ n ≤ 900) (hb : bs_tb8 T n) (w : (0 ≤ w1 ∧ w1 ≤ 7) ∧ 0 ≤ w2 ∧ w2 ≤ 6) (nm : bs_Nm (h c 11) (h (c + 17)) (h (c + 18)) (h (c + 19)) (h 157) (h 158)) (a12 : h 157 1 = w1 ∧ h 157 2 = w2) (n11 : 0 ≤ h c 11 ∧ h c 11 ≤ 26) : ∀ (f : Nat) (m : bc_H) (i : Int), n - m 6 11 < f → 0 ≤ i → i ≤ m 6 11 → bs_DS h T n c q m → (∀ m', bs_DS h T n c q m' → m' 9 6 ≤ 0 → bs_De1 D T n c q w1 w2 m m' → (0 ≤ m' 9 2) ∧ P (bc_upd m' (m' 9 2) 0 1)) → (∀ m', bs_DF h q m' → bs_De0 D T n c q w1 w2 m m' → N m') → bl_Reader_takeDays_18 (d + 5) n i m (bc_B P N)
  | 0, m, i, hf, _, _, ds, _, _ => by
    have r := bs_PT_r ds.1
    omega
  | f + 1, m, i, hf, i0, i1, ds, hP, hN => by
    have r := bs_PT_r ds.1
    have wi : bc_w32 (i + 1) = i + 1 := bc_wi (by omega) (by omega)
    refine rv_Reader_takeDays_18 (d := d + 4) ⟨fun q => by exfalso; omega, fun _ => ⟨fun z => ?_, fun z => ⟨fun d0 => hP m ds d0 (bs_De1_e z d0), fun d0 => rv_Text_fail (hN _ (bs_DF_of (k := 2) ds.2.1.1 ds.2.2.2.1 (by decide)) (bs_De0_e z d0))⟩⟩⟩
    rw [wi]
    obtain ⟨p, p0, tt⟩ := ds.1.2.2.2
    have ne := bs_To_ne tt z
    refine ⟨fun i25 => ?_, fun i25 => ?_⟩
    · refine bs_D_step (d := d) (D := D) hc hq n0 hb w nm a12 n11 ds i25 (fun m1 ds1 pr co => ?_) (fun m' pf co => hN m' pf (bs_De0_f z pf co))
      exact bs_daysL hc hq n0 hb w nm a12 n11 f m1 (i + 1) (by omega) (by omega) (by omega) ds1 (fun m' ds' d0 ce => hP m' ds' d0 (bs_De1_c z co ce)) (fun m' pf ce => hN m' pf (bs_De0_c z co ce))
    · refine bs_D_end (d := d) (D := D) hc hq n0 hb ds i25 (fun m1 ds1 pr co => ?_) (fun m' pf co => hN m' pf (bs_De0_f z pf co))
      exact bs_daysL hc hq n0 hb w nm a12 n11 f m1 (i + 1) (by omega) (by omega) (by omega) ds1 (fun m' ds' d0 ce => hP m' ds' d0 (bs_De1_c z co ce)) (fun m' pf ce => hN m' pf (bs_De0_c z co ce))
/-- the class begins -/
theorem bc_c_beginD {d : Nat} {T : Int → Int} {n c q : Int} {h : bc_H} {K : bc_H → Prop} (hc : 24 ≤ c ∧ c ≤ 44) (hq : 64 ≤ q) (n0 : 0 ≤ n ∧ n ≤ 900) (n6 : n ≤ h 6 0) (hT : ∀ k, 0 ≤ k → k < n → h 7 k = T k) (h8 : ∀ i, 0 ≤ i → i < 27 → h 8 i = bc_hB 8 i) (hK : ∀ m, bs_DS h T n c q m → bs_To T n 0 m → (m q 1 = 0 ∧ m q 2 = 0 ∧ m 9 6 = 0) → K m) : bf_Days_clear (d + 2) q (bc_upd (bc_upd h 9 1 c) 9 2 q) (bc_U (fun h1 => bf_Text_begin (d + 2) n (bc_upd h1 9 6 0) (bc_U K))) := by
  refine rv_Days_clear (rv_Text_begin (d := d + 1) ?_)
  have s : ∀ x, x ≠ 9 → x ≠ q → bc_upd (bc_upd (bc_upd (bc_upd (bc_upd (bc_upd h 9 1 c) 9 2 q) q 0 0) q 1 0) q 2 0) 9 6 0 x = h x := fun x x9 xq => by rw [bc_urow x9, bc_urow xq, bc_urow xq, bc_urow xq, bc_urow x9, bc_urow x9]
  have q0 : bc_upd (bc_upd (bc_upd (bc_upd (bc_upd (bc_upd h 9 1 c) 9 2 q) q 0 0) q 1 0) q 2 0) 9 6 0 q 0 = 0 := by rw [bc_ur (by omega), bc_uj (by decide), bc_uj (by decide), bc_uu]
  have q1 : bc_upd (bc_upd (bc_upd (bc_upd (bc_upd (bc_upd h 9 1 c) 9 2 q) q 0 0) q 1 0) q 2 0) 9 6 0 q 1 = 0 := by rw [bc_ur (by omega), bc_uj (by decide), bc_uu]
  have q2 : bc_upd (bc_upd (bc_upd (bc_upd (bc_upd (bc_upd h 9 1 c) 9 2 q) q 0 0) q 1 0) q 2 0) 9 6 0 q 2 = 0 := by rw [bc_ur (by omega), bc_uu]
  have p1 : bc_upd (bc_upd (bc_upd (bc_upd (bc_upd (bc_upd h 9 1 c) 9 2 q) q 0 0) q 1 0) q 2 0) 9 6 0 9 1 = c := by rw [bc_uj (by decide), bc_ur (by omega), bc_ur (by omega), bc_ur (by omega), bc_uj (by decide), bc_uu]
  have p2 : bc_upd (bc_upd (bc_upd (bc_upd (bc_upd (bc_upd h 9 1 c) 9 2 q) q 0 0) q 1 0) q 2 0) 9 6 0 9 2 = q := by rw [bc_uj (by decide), bc_ur (by omega), bc_ur (by omega), bc_ur (by omega), bc_uu]
  have p6 : bc_upd (bc_upd (bc_upd (bc_upd (bc_upd (bc_upd h 9 1 c) 9 2 q) q 0 0) q 1 0) q 2 0) 9 6 0 9 6 = 0 := bc_uu _ _ _ _
  generalize bc_upd (bc_upd (bc_upd (bc_upd (bc_upd (bc_upd h 9 1 c) 9 2 q) q 0 0) q 1 0) q 2 0) 9 6 0 = hA at s q0 q1 q2 p1 p2 p6 ⊢
  rw [s 6 (by decide) (by omega), if_neg (by omega)]
  have t : ∀ x, x ≠ 6 → bc_upd (bc_upd (bc_upd (bc_upd (bc_upd hA 6 9 n) 6 0 0) 6 10 0) 6 1 0) 6 2 (-1) x = hA x := fun x hx => by rw [bc_urow hx, bc_urow hx, bc_urow hx, bc_urow hx, bc_urow hx]
  have z0 : bc_upd (bc_upd (bc_upd (bc_upd (bc_upd hA 6 9 n) 6 0 0) 6 10 0) 6 1 0) 6 2 (-1) 6 0 = 0 := by rw [bc_uj (by decide), bc_uj (by decide), bc_uj (by decide), bc_uu]
  have z1 : bc_upd (bc_upd (bc_upd (bc_upd (bc_upd hA 6 9 n) 6 0 0) 6 10 0) 6 1 0) 6 2 (-1) 6 1 = 0 := by rw [bc_uj (by decide), bc_uu]
  have z2 : bc_upd (bc_upd (bc_upd (bc_upd (bc_upd hA 6 9 n) 6 0 0) 6 10 0) 6 1 0) 6 2 (-1) 6 2 = -1 := bc_uu _ _ _ _
  have z9 : bc_upd (bc_upd (bc_upd (bc_upd (bc_upd hA 6 9 n) 6 0 0) 6 10 0) 6 1 0) 6 2 (-1) 6 9 = n := by rw [bc_uj (by decide), bc_uj (by decide), bc_uj (by decide), bc_uj (by decide), bc_uu]
  have z10 : bc_upd (bc_upd (bc_upd (bc_upd (bc_upd hA 6 9 n) 6 0 0) 6 10 0) 6 1 0) 6 2 (-1) 6 10 = 0 := by rw [bc_uj (by decide), bc_uj (by decide), bc_uu]
  generalize bc_upd (bc_upd (bc_upd (bc_upd (bc_upd hA 6 9 n) 6 0 0) 6 10 0) 6 1 0) 6 2 (-1) = m0 at t z0 z1 z2 z9 z10 ⊢
  have t7 : m0 7 = h 7 := by rw [t 7 (by decide), s 7 (by decide) (by omega)]
  have t8 : m0 8 = h 8 := by rw [t 8 (by decide), s 8 (by decide) (by omega)]
  refine bc_c_advance (d := d) (T := T) (n := n) (p := 0) n0 ⟨Int.le_refl 0, n0.1⟩ (fun k k0 k1 => by rw [t7]; exact hT k k0 k1) (fun i i0 i1 => by rw [t8]; exact h8 i i0 i1) z9 z10 (fun m l tt => ?_)
  have r9 : m 9 = hA 9 := by rw [l.1 9 (by decide), t 9 (by decide)]
  have rq : m q = hA q := by rw [l.1 q (by omega), t q (by omega)]
  refine hK m ⟨⟨fun k k0 k1 => by rw [l.1 7 (by decide), t7]; exact hT k k0 k1, fun i i0 i1 => by rw [l.1 8 (by decide), t8]; exact h8 i i0 i1, by rw [l.2 9 (by decide)]; exact z9, 0, Int.le_refl 0, tt⟩, ⟨by rw [l.2 0 (by decide)]; exact z0, by rw [l.2 1 (by decide)]; exact z1, by rw [l.2 2 (by decide)]; exact z2⟩, ⟨by rw [r9]; exact p1, by rw [r9]; exact p2⟩, fun x a b e f i => by rw [l.1 x a, t x a]; exact s x b (by omega), ?_, ?_⟩ tt ⟨by rw [rq]; exact q1, by rw [rq]; exact q2, by rw [r9]; exact p6⟩
  · rw [rq, r9, q0, q1, q2, p6]; omega
  · rw [rq, r9, q2, p6]; exact bs_nst_0 _ _ _
theorem bc_m_daysS {D : Nat} {T : Int → Int} {n c q w1 w2 : Int} {g0 m : bc_H} {K : Int → bc_H → Prop} (n0 : 0 ≤ n ∧ n ≤ 300) (hb : bs_tb8 T n) (g10 : n ≤ g0 156 10) (hT : ∀ k, 0 ≤ k → k < n → bc_w8 (g0 162 k) = T k) (t : bs_To T n 0 m) (z : m q 1 = 0 ∧ m q 2 = 0 ∧ m 9 6 = 0) (nm : bs_W (g0 157) ∧ bs_Nm (m c 11) (m (c + 17)) (m (c + 18)) (m (c + 19)) (g0 157) (g0 158) ∧ g0 157 1 = w1 ∧ g0 157 2 = w2) (hK : ∀ g, bs_DM T n c q w1 w2 g0 m g → bl_M_days_22 (D + 8) 1 g (bc_I K)) : bf_M_days (D + 8) n g0 (bc_I K) := by
  refine rv_M_days (d := D + 7) (bc_m_begins (D := D + 5) ⟨n0.1, by omega⟩ n0.2 hb g10 hT t (fun g1 a1 b1 z1 tk => hK _ ?_))
  have u : ∀ x, x ≠ 156 → x ≠ 157 → bc_upd (bc_upd (bc_upd g1 157 2120 0) 156 22 0) 156 23 0 x = g1 x := fun x x1 x2 => by rw [bc_urow x1, bc_urow x1, bc_urow x2]
  have v : ∀ y, y ≠ 22 → y ≠ 23 → bc_upd (bc_upd (bc_upd g1 157 2120 0) 156 22 0) 156 23 0 156 y = g1 156 y := fun y y1 y2 => by rw [bc_uj y2, bc_uj y1, bc_ur (by decide)]
  have w : ∀ j, j ≠ 2120 → bc_upd (bc_upd (bc_upd g1 157 2120 0) 156 22 0) 156 23 0 157 j = g1 157 j := fun j hj => by rw [bc_ur (by decide), bc_ur (by decide), bc_uj hj]
  refine ⟨fun x x1 x2 x3 _ => by rw [u x x1 x2]; exact a1 x x1 x3, fun y hy => by rw [v y (by omega) (by omega)]; exact b1 y (by omega), ⟨by rw [v 10 (by decide) (by decide)]; exact z1.1, by rw [v 17 (by decide) (by decide)]; exact z1.2.1, by rw [v 18 (by decide) (by decide)]; exact z1.2.2⟩, bs_Tk_h tk (fun _ _ => rfl) (fun y hy => v y (by omega) (by omega)) (u 163 (by decide) (by decide)), fun k hk => by rw [w k (by omega), a1 157 (by decide) (by decide)], ⟨by rw [bc_ur (by decide), bc_ur (by decide), bc_uu, z.2.1], by rw [bc_uj (by decide), bc_uu, z.2.2], by rw [bc_uu, z.1]⟩, fun i i0 i1 => by exfalso; omega, fun k k0 k1 => by exfalso; omega, nm⟩
theorem bc_m_daysE {D : Nat} {g : bc_H} {K : Int → bc_H → Prop} (hK : ∀ g1, (∀ x, x ≠ 157 → g1 x = g x) → (∀ k, (k < 160 ∨ 520 ≤ k) → g1 157 k = g 157 k) → (∀ k, 160 ≤ k → k < 520 → g1 157 k = g 157 (2112 + k)) → bf_M_taken (D + 7) (g1 156 23) g1 (bc_I K)) : bl_M_days_54 (D + 8) 160 g (bc_I K) := by
  have k1 : ∀ g1 : bc_H, (∀ x, x ≠ 157 → g1 x = g x) → (∀ k, (k < 160 ∨ (160 : Int) ≤ k) → g1 157 k = g 157 k) → (∀ k, 160 ≤ k → k < (160 : Int) → g1 157 k = g 157 (2112 + k)) → bl_M_days_54 (D + 8) 160 g1 (bc_I K) := by
    refine bc_lupF (P := fun i => ∀ g1 : bc_H, (∀ x, x ≠ 157 → g1 x = g x) → (∀ k, (k < 160 ∨ i ≤ k) → g1 157 k = g 157 k) → (∀ k, 160 ≤ k → k < i → g1 157 k = g 157 (2112 + k)) → bl_M_days_54 (D + 8) i g1 (bc_I K)) (a := 160) (n := 520) ?_ (fun i i0 i1 ih => ?_) (by decide) (by decide)
    · intro g1 e1 e2 e3
      exact rv_M_days_54 (d := D + 7) ⟨fun _ => hK g1 e1 e2 e3, fun q => absurd q (by omega)⟩
    · intro g1 e1 e2 e3
      refine rv_M_days_54 (d := D + 7) ⟨fun q => absurd q (by omega), fun _ => ?_⟩
      rw [bc_wi (x := 2112 + i) (by omega) (by omega), bc_wi (x := i + 1) (by omega) (by omega)]
      refine ⟨by omega, by omega, ih _ (fun x x1 => by rw [bc_urow x1]; exact e1 x x1) (fun k hk => by rw [bc_uj (by omega)]; exact e2 k (by omega)) (fun k k0 k1 => ?_)⟩
      by_cases e : k = i
      · subst e; rw [bc_uu]; exact e2 _ (by omega)
      · rw [bc_uj e]; exact e3 k k0 (by omega)
  exact k1 g (fun _ _ => rfl) (fun _ _ => rfl) (fun k k0 k1 => absurd k1 (by omega))
