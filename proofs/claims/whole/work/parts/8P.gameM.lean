/-! ===== games: the reference ===== -/
theorem bs_a160_way {X B : Int → Int} (h : bs_a160 X B) (hW : bs_W B) (a b : Int) : bs_way X a b = bs_way B a b := bs_way_congr ⟨h 1 (by omega) (by omega), h 7 (by omega) (by omega), fun k k0 k1 => h k (by omega) (by omega)⟩ hW.1.2.2.2.2.2.2 a b
theorem bs_a160_set {X B : Int → Int} (h : bs_a160 X B) (j x : Int) : bs_a160 (bc_set X j x) (bc_set B j x) := fun k k0 k1 => by
  by_cases e : k = j
  · subst e; rw [bc_setj, bc_setj]
  · rw [bc_setn e, bc_setn e]; exact h k k0 k1
theorem bs_a160_lead {X B : Int → Int} {v w : Int} (h : bs_a160 X B) (hW : bs_W B) (v0 : 0 ≤ v) (v1 : v < B 2) : bs_a160 (bs_lead X v w) (bs_lead B v w) := by
  have w2 := hW.1.2.2.1
  unfold bs_lead
  rw [bs_a160_way h hW, h (54 + 8 * v + 1) (by omega) (by omega)]
  exact bs_a160_set (bs_a160_set h _ _) _ _
theorem bs_a160_can {X B : Int → Int} {v w : Int} (h : bs_a160 X B) (hW : bs_W B) (v0 : 0 ≤ v) (v1 : v < B 2) : bs_can X v w ↔ bs_can B v w := by
  have w2 := hW.1.2.2.1
  unfold bs_can
  rw [bs_a160_t h v0 (by omega), bs_a160_way h hW, h (54 + 8 * v + 1) (by omega) (by omega), h (54 + 8 * v + 2) (by omega) (by omega)]
theorem bs_a160_pass {X B : Int → Int} (h : bs_a160 X B) (hW : bs_W B) : bs_a160 (bs_pass X) (bs_pass B) := fun k k0 k1 => by
  have w := hW.1
  have ek := h k k0 k1
  by_cases c : 54 ≤ k ∧ k < 54 + 8 * B 2
  · have q := hW.2.2.2.1 ((k - 54) / 8) (by omega) (by omega)
    have qa := q.2.1
    have ua := h (54 + 8 * ((k - 54) / 8) + 1) (by omega) (by omega)
    have ub := h (54 + 8 * ((k - 54) / 8) + 2) (by omega) (by omega)
    have uc := h (10 + 2 * B (54 + 8 * ((k - 54) / 8) + 1)) (by omega) (by omega)
    have ud := h (10 + 2 * B (54 + 8 * ((k - 54) / 8) + 1) + 1) (by omega) (by omega)
    unfold bs_pass bs_mb
    rw [ua, ub, uc, ud, ek, h 4 (by omega) (by omega), h 6 (by omega) (by omega), h 2 (by omega) (by omega), h 0 (by omega) (by omega)]
  · unfold bs_pass
    rw [ek, h 4 (by omega) (by omega), h 6 (by omega) (by omega), h 2 (by omega) (by omega), if_neg c, if_neg c]
theorem bc_m_deed {d : Nat} {v dp w a2 : Int} {m : bc_H} {A B : Int → Int} {P N : bc_H → Prop} (hI : bs_GI A v dp B) (v0 : 0 ≤ v) (v1 : v < A 2) (w0 : 0 ≤ w) (w1 : w ≤ A 1) (hX : bs_a160 (m 157) B) (ha : (dp.tmod 2 = 0 ∧ a2 = 1) ∨ (dp.tmod 2 ≠ 0 ∧ a2 = 0))
    (hP : bs_Gn B v dp w → ∀ m' : bc_H, (∀ x, x ≠ 157 → m' x = m x) → (∀ k, k < 0 ∨ 160 ≤ k → m' 157 k = m 157 k) → bs_a160 (m' 157) (bs_Gx B v dp w) → P m')
    (hN : ¬ bs_Gn B v dp w → ∀ m' : bc_H, (∀ x, x ≠ 157 → m' x = m x) → (∀ k, k < 0 ∨ 160 ≤ k → m' 157 k = m 157 k) → N m') : bf_M_doesDeed (d + 6) v w a2 m (bc_B P N) := by
  have e1 := hI.2.1
  have w5 := hI.1.1
  have x1 : m 157 1 = B 1 := hX 1 (by omega) (by omega)
  refine rv_M_doesDeed (d := d + 4) ?_
  rw [x1]
  refine ⟨fun nw => ⟨fun z0 => ?_, fun z1 => ?_⟩, fun ew => ?_⟩
  · have odd : dp.tmod 2 ≠ 0 := by omega
    rw [bc_wi (x := 2 * w) (by omega) (by omega), bc_wi (x := 10 + 2 * w) (by omega) (by omega), bc_wi (x := 10 + 2 * w + 0) (by omega) (by omega), Int.add_zero, bc_wi (x := 10 + 2 * w + 1) (by omega) (by omega), hX (10 + 2 * w) (by omega) (by omega), hX (10 + 2 * w + 1) (by omega) (by omega)]
    have qw := hI.1.2.1 w w0 (by omega)
    rw [bc_wi (x := B (10 + 2 * w + 1) + 1) (by omega) (by omega)]
    refine ⟨by omega, fun nb => ⟨by omega, by omega, fun h4 e4 => ?_⟩, fun eb => hN (fun u => ?_) m (fun _ _ => rfl) (fun _ _ => rfl)⟩
    · rw [e4]
      refine hP (Or.inr (Or.inr ⟨odd, nb⟩)) _ (fun x x1 => bc_urow x1) (fun k hk => bc_uj (by omega)) (fun k k0 k1 => ?_)
      unfold bs_Gx bs_pt
      rw [if_neg nw, if_neg odd]
      by_cases e : k = 10 + 2 * w + 1
      · subst e; rw [bc_uu, bc_setj]
      · rw [bc_uj e, bc_setn e]; exact hX k k0 k1
    · rcases u with u | u | u
      · exact nw u
      · exact odd u.1
      · exact u.2 eb
  · have even : dp.tmod 2 = 0 := by omega
    have x2 : m 157 2 = B 2 := hX 2 (by omega) (by omega)
    refine bc_m_leadsX (d := d) rfl (bs_a160_W hX hI.1) v0 (by omega) (fun c => ?_) (fun c => ?_)
    · have c := (bs_a160_can hX hI.1 v0 (by omega)).1 c
      refine hP (Or.inr (Or.inl ⟨even, c.1, c.2.1, c.2.2⟩)) _ (fun x x1 => bc_rn x1) (fun k hk => by rw [bs_rr, bs_lead_n (by omega) (by omega)]) ?_
      unfold bs_Gx
      rw [if_neg nw, if_pos even, bs_rr]
      exact bs_a160_lead hX hI.1 v0 (by omega)
    · refine hN (fun u => c ((bs_a160_can hX hI.1 v0 (by omega)).2 ?_)) _ (fun x x1 => bc_rn x1) (fun k hk => by rw [bs_rr])
      rcases u with u | u | u
      · exact absurd u nw
      · exact ⟨u.2.1, u.2.2.1, u.2.2.2⟩
      · exact absurd even u.1
  · refine hP (Or.inl ew) m (fun _ _ => rfl) (fun _ _ => rfl) ?_
    unfold bs_Gx; rw [if_pos ew]; exact hX
theorem bc_m_settles {d : Nat} {dp x w : Int} {m : bc_H} {r : Int × Int} {K : bc_H → Prop} (dp0 : 0 ≤ dp) (dp5 : dp < 5) (w0 : 0 ≤ w) (h180 : m 180 dp = r.2) (h179 : r.2 ≠ -1 → m 179 dp = r.1) (h178 : m 178 dp = w) (hK : ∀ m' : bc_H, (∀ y, y ≠ 179 → y ≠ 180 → m' y = m y) → (∀ j, j ≠ dp → m' 179 j = m 179 j ∧ m' 180 j = m 180 j) → m' 180 dp = (bs_Gb r dp x w).2 → ((bs_Gb r dp x w).2 ≠ -1 → m' 179 dp = (bs_Gb r dp x w).1) → K m') : bf_M_settles d dp x m (bc_U K) := by
  unfold bs_Gb at hK
  have yes : (r.2 = -1 ∨ (dp.tmod 2 = 0 ∧ r.1 < x) ∨ (dp.tmod 2 ≠ 0 ∧ x < r.1)) → K (bc_upd (bc_upd m 179 dp x) 180 dp (m 178 dp)) := fun c => by
    rw [if_pos c] at hK
    rw [h178]
    exact hK _ (fun y y1 y2 => by rw [bc_urow y2, bc_urow y1]) (fun j hj => ⟨by rw [bc_urow (by decide), bc_uj hj], by rw [bc_uj hj, bc_urow (by decide)]⟩) (bc_uu _ _ _ _) (fun _ => by rw [bc_urow (by decide), bc_uu])
  have no : ¬ (r.2 = -1 ∨ (dp.tmod 2 = 0 ∧ r.1 < x) ∨ (dp.tmod 2 ≠ 0 ∧ x < r.1)) → K m := fun c => by
    rw [if_neg c] at hK
    exact hK m (fun _ _ _ => rfl) (fun _ _ => ⟨rfl, rfl⟩) h180 h179
  refine rv_M_settles ?_
  rw [h180]
  refine ⟨by omega, fun z => ⟨by omega, by omega, by omega, yes (Or.inl z)⟩, fun z => ⟨fun odd => ⟨by omega, fun lt => ⟨by omega, by omega, by omega, yes ?_⟩, fun ge => no ?_⟩, fun even => ⟨by omega, fun lt => ⟨by omega, by omega, by omega, yes ?_⟩, fun ge => no ?_⟩⟩⟩
  · rw [h179 z] at lt; exact Or.inr (Or.inr ⟨odd, lt⟩)
  · rw [h179 z] at ge; omega
  · rw [h179 z] at lt; exact Or.inr (Or.inl ⟨even, lt⟩)
  · rw [h179 z] at ge; omega
def bs_Hm (h m : bc_H) : Prop := ∀ x, x ≠ 157 → x ≠ 178 → x ≠ 179 → x ≠ 180 → m x = h x
def bs_GL (d : Nat) (h : bc_H) (A : Int → Int) (v turns : Int) (k : Nat) : Prop := ∀ (B : Int → Int) (dp : Int) (m : bc_H) (K : Int → bc_H → Prop), bs_GI A v dp B → (0 ≤ dp ∧ dp + (k + 1) = turns) → bs_Hm h m → (∀ q, 0 ≤ q → q < 160 → m 157 (3168 + 160 * dp + q) = B q) → m 178 dp = -1 → m 180 dp = -1 →
  (∀ m', bs_Hm h m' → (∀ q, (160 ≤ q ∧ q < 3168 + 160 * dp) ∨ q < 0 → m' 157 q = m 157 q) → (∀ q, 0 ≤ q → q < 160 → m' 157 (3168 + 160 * dp + q) = B q) → bs_a160 (m' 157) B → (∀ j, 0 ≤ j → j < dp → m' 178 j = m 178 j ∧ m' 179 j = m 179 j ∧ m' 180 j = m 180 j) → m' 179 dp = (bs_Gv v (k + 1) dp B).1 → m' 180 dp = (bs_Gv v (k + 1) dp B).2 → (dp ≠ 0 → bf_M_settles (d + 6) (dp - 1) (m' 179 dp) m' (bc_U (fun h35 => bl_M_playing_22 (d + 7) v turns (dp - 1) h35 (bc_I K)))) ∧ (dp = 0 → bf_M_restores (d + 6) 3168 m' (bc_U (fun h37 => K (h37 179 0) h37)))) → bl_M_playing_22 (d + 7) v turns dp m (bc_I K)
theorem bs_Gv_n (v : Int) (k : Nat) (dp : Int) (B : Int → Int) (h : 0 ≤ B 1) : (bs_Gv v (k + 1) dp B).2 ≠ -1 := by
  rw [bs_Gv_s v k dp B h, bs_Gf_e]
  unfold bs_Gb
  split
  · show B 1 ≠ -1; omega
  · rename_i c; exact fun e => c (Or.inl e)
theorem bc_m_playStep {d : Nat} {h : bc_H} {A : Int → Int} {v turns : Int} (hW : bs_W A) (v0 : 0 ≤ v) (v1 : v < A 2) (t4 : turns ≤ 4) (k : Nat) (IH : ∀ k', k = k' + 1 → bs_GL d h A v turns k') : bs_GL d h A v turns k := by
  intro B dp m K hI hdp hm rec0 tr0 be0 hK
  have w2 := hW.1.2.2.1
  have w7 := hW.1.2.1
  have e1 := hI.2.1
  have w5 := hI.1.1
  have g6 := hI.2.2.2.2.2.2
  have final : bs_Gv v (k + 1) dp B = bc_it (bs_Gf v k dp B) (0, -1) (A 1 + 1) := by
    rw [← e1.2.1]; rfl
  have n1 := bs_Gv_n v k dp B (by omega)
  rw [final] at hK n1
  refine bc_lup (P := fun w => ∀ g, bs_Hm h g → (∀ q, (160 ≤ q ∧ q < 3168 + 160 * dp) ∨ q < 0 → g 157 q = m 157 q) → (∀ q, 0 ≤ q → q < 160 → g 157 (3168 + 160 * dp + q) = B q) → g 178 dp = w - 1 → g 180 dp = (bc_it (bs_Gf v k dp B) (0, -1) w).2 → ((bc_it (bs_Gf v k dp B) (0, -1) w).2 ≠ -1 → g 179 dp = (bc_it (bs_Gf v k dp B) (0, -1) w).1) → (∀ j, 0 ≤ j → j < dp → g 178 j = m 178 j ∧ g 179 j = m 179 j ∧ g 180 j = m 180 j) → bl_M_playing_22 (d + 7) v turns dp g (bc_I K)) (n := A 1 + 1) (fun g g1 g2 g3 g4 g5 g6' g7 => ?_) (fun w w0 w1 ih g g1 g2 g3 g4 g5 g6' g7 => ?_) (Int.le_refl 0) (by omega) m hm (fun _ _ => rfl) rec0 tr0 be0 (fun u => absurd rfl u) (fun _ _ _ => ⟨rfl, rfl, rfl⟩)
  · refine rv_M_playing_22 (d := d + 4) ?_
    rw [bc_wi (x := 160 * dp) (by omega) (by omega), bc_wi (x := 3168 + 160 * dp) (by omega) (by omega)]
    refine bc_m_restoresX rfl (by omega) (by omega) ?_
    have x160 : bs_a160 (bs_rs (g 157) (3168 + 160 * dp) 160) B := fun k k0 k1 => by
      unfold bs_rs; rw [if_pos (by omega)]; exact g3 k k0 k1
    have xr : ∀ q, q < 0 ∨ 160 ≤ q → bs_rs (g 157) (3168 + 160 * dp) 160 q = g 157 q := fun q hq => if_neg (by omega)
    rw [show bc_row g 157 (bs_rs (g 157) (3168 + 160 * dp) 160) 178 = g 178 from bc_rn (by decide), g4, bc_uu, bs_rr, x160 1 (by omega) (by omega), bc_wi (x := A 1 + 1 - 1 + 1) (by omega) (by omega), bc_wi (x := dp + -1) (by omega) (by omega), bc_wi (x := dp + -1 + 1) (by omega) (by omega), show dp + -1 + 1 = dp by omega, show dp + -1 = dp - 1 by omega]
    refine ⟨by omega, by omega, by omega, fun u => absurd u (by omega), fun _ => ?_⟩
    generalize eG : bc_upd (bc_row g 157 (bs_rs (g 157) (3168 + 160 * dp) 160)) 178 dp (A 1 + 1 - 1 + 1) = G
    have G157 : G 157 = bs_rs (g 157) (3168 + 160 * dp) 160 := by rw [← eG, bc_urow (by decide), bs_rr]
    have Gx : ∀ x, x ≠ 157 → x ≠ 178 → G x = g x := fun x x1 x2 => by rw [← eG, bc_urow x2, bc_rn x1]
    have G178 : ∀ j, j ≠ dp → G 178 j = g 178 j := fun j hj => by rw [← eG, bc_uj hj, bc_rn (by decide)]
    have hk := hK G (fun x y1 y2 y3 y4 => by rw [Gx x y1 y2]; exact g1 x y1 y2 y3 y4) (fun q hq => by rw [G157, xr q (by omega)]; exact g2 q hq) (fun q q0 q1 => by rw [G157, xr _ (by omega)]; exact g3 q q0 q1) (by rw [G157]; exact x160) (fun j j0 j1 => by rw [G178 j (by omega), Gx 179 (by decide) (by decide), Gx 180 (by decide) (by decide)]; exact g7 j j0 j1) (by rw [Gx 179 (by decide) (by decide)]; exact g6' n1) (by rw [Gx 180 (by decide) (by decide)]; exact g5)
    refine ⟨fun nz => ⟨by omega, ?_⟩, fun z => hk.2 z⟩
    rw [show bc_row g 157 (bs_rs (g 157) (3168 + 160 * dp) 160) 179 dp = G 179 dp by rw [Gx 179 (by decide) (by decide), bc_rn (by decide)]]
    exact hk.1 nz
  · rw [bc_its _ _ w0] at ih
    refine rv_M_playing_22 (d := d + 4) ?_
    rw [bc_wi (x := 160 * dp) (by omega) (by omega), bc_wi (x := 3168 + 160 * dp) (by omega) (by omega)]
    refine bc_m_restoresX rfl (by omega) (by omega) ?_
    have x160 : bs_a160 (bs_rs (g 157) (3168 + 160 * dp) 160) B := fun k k0 k1 => by
      unfold bs_rs; rw [if_pos (by omega)]; exact g3 k k0 k1
    have xr : ∀ q, q < 0 ∨ 160 ≤ q → bs_rs (g 157) (3168 + 160 * dp) 160 q = g 157 q := fun q hq => if_neg (by omega)
    rw [show bc_row g 157 (bs_rs (g 157) (3168 + 160 * dp) 160) 178 = g 178 from bc_rn (by decide), g4, bc_uu, bs_rr, x160 1 (by omega) (by omega), bc_wi (x := w - 1 + 1) (by omega) (by omega), show w - 1 + 1 = w by omega]
    generalize eG : bc_upd (bc_row g 157 (bs_rs (g 157) (3168 + 160 * dp) 160)) 178 dp w = G
    have G157 : G 157 = bs_rs (g 157) (3168 + 160 * dp) 160 := by rw [← eG, bc_urow (by decide), bs_rr]
    have Gx : ∀ x, x ≠ 157 → x ≠ 178 → G x = g x := fun x x1 x2 => by rw [← eG, bc_urow x2, bc_rn x1]
    have G178 : ∀ j, j ≠ dp → G 178 j = g 178 j := fun j hj => by rw [← eG, bc_uj hj, bc_rn (by decide)]
    have G178d : G 178 dp = w := by rw [← eG, bc_uu]
    have GX : bs_a160 (G 157) B := by rw [G157]; exact x160
    have Gr : ∀ q, q < 0 ∨ 160 ≤ q → G 157 q = g 157 q := fun q hq => by rw [G157]; exact xr q hq
    have rr := bs_Gr_r v k dp B w0
    -- not possible
    have skip : ¬ bs_Gn B v dp w → ∀ m' : bc_H, (∀ x, x ≠ 157 → m' x = G x) → (∀ q, q < 0 ∨ 160 ≤ q → m' 157 q = G 157 q) → bl_M_playing_22 (d + 7) v turns dp m' (bc_I K) := fun no m' f1 f2 => by
      have ef : bs_Gf v k dp B w (bc_it (bs_Gf v k dp B) (0, -1) w) = bc_it (bs_Gf v k dp B) (0, -1) w := if_neg no
      rw [ef] at ih
      refine ih m' (fun x y1 y2 y3 y4 => by rw [f1 x y1, Gx x y1 y2]; exact g1 x y1 y2 y3 y4) (fun q hq => by rw [f2 q (by omega), Gr q (by omega)]; exact g2 q hq) (fun q q0 q1 => by rw [f2 _ (by omega), Gr _ (by omega)]; exact g3 q q0 q1) (by rw [f1 178 (by decide), G178d]; omega) (by rw [f1 180 (by decide), Gx 180 (by decide) (by decide)]; exact g5) (fun u => by rw [f1 179 (by decide), Gx 179 (by decide) (by decide)]; exact g6' u) (fun j j0 j1 => by rw [f1 178 (by decide), f1 179 (by decide), f1 180 (by decide), G178 j (by omega), Gx 179 (by decide) (by decide), Gx 180 (by decide) (by decide)]; exact g7 j j0 j1)
    -- settled with a value
    have settle : bs_Gn B v dp w → ∀ m3 : bc_H, (∀ x, x ≠ 157 → x ≠ 178 → x ≠ 179 → x ≠ 180 → m3 x = g x) → (∀ q, (160 ≤ q ∧ q < 3168 + 160 * (dp + 1)) ∨ q < 0 → m3 157 q = g 157 q) → (∀ j, 0 ≤ j → j < dp + 1 → m3 178 j = G 178 j ∧ m3 179 j = G 179 j ∧ m3 180 j = G 180 j) → bf_M_settles (d + 6) dp (bs_Gv v k (dp + 1) (bs_pass (bs_Gx B v dp w))).1 m3 (bc_U (fun h16 => bl_M_playing_22 (d + 7) v turns dp h16 (bc_I K))) := fun yes m3 f1 f2 f3 => by
      have ef : bs_Gf v k dp B w (bc_it (bs_Gf v k dp B) (0, -1) w) = bs_Gb (bc_it (bs_Gf v k dp B) (0, -1) w) dp (bs_Gv v k (dp + 1) (bs_pass (bs_Gx B v dp w))).1 w := if_pos yes
      rw [ef] at ih
      have f3d := f3 dp hdp.1 (by omega)
      refine bc_m_settles (r := bc_it (bs_Gf v k dp B) (0, -1) w) (w := w) hdp.1 (by omega) w0 (by rw [f3d.2.2, Gx 180 (by decide) (by decide)]; exact g5) (fun u => by rw [f3d.2.1, Gx 179 (by decide) (by decide)]; exact g6' u) (by rw [f3d.1, G178d]) (fun m4 a1 a2 a3 a4 => ?_)
      refine ih m4 (fun x y1 y2 y3 y4 => by rw [a1 x y3 y4, f1 x y1 y2 y3 y4]; exact g1 x y1 y2 y3 y4) (fun q hq => by rw [a1 157 (by decide) (by decide), f2 q (by omega)]; exact g2 q hq) (fun q q0 q1 => by rw [a1 157 (by decide) (by decide), f2 _ (by omega)]; exact g3 q q0 q1) (by rw [a1 178 (by decide) (by decide), f3d.1, G178d]; omega) a3 a4 (fun j j0 j1 => ?_)
      have f3j := f3 j j0 (by omega)
      have a2j := a2 j (by omega)
      rw [a1 178 (by decide) (by decide), a2j.1, a2j.2, f3j.1, f3j.2.1, f3j.2.2, G178 j (by omega), Gx 179 (by decide) (by decide), Gx 180 (by decide) (by decide)]; exact g7 j j0 j1
    -- behind the deed
    have after : bs_Gn B v dp w → ∀ m1 : bc_H, (∀ x, x ≠ 157 → m1 x = G x) → (∀ q, q < 0 ∨ 160 ≤ q → m1 157 q = G 157 q) → bs_a160 (m1 157) (bs_Gx B v dp w) → bf_M_minuteGoes (d + 6) m1 (bc_I (fun y9 h7 => ((bc_w32 (dp + 1)) ≠ turns → (bf_M_keeps (d + 6) (bc_w32 (3168 + (bc_w32 (160 * (bc_w32 (dp + 1)))))) h7 (bc_U (fun h11 => (0 ≤ (bc_w32 (dp + 1)) ∧ (bc_w32 (dp + 1)) < 5) ∧ (0 ≤ (bc_w32 (dp + 1)) ∧ (bc_w32 (dp + 1)) < 5) ∧ bl_M_playing_22 (d + 7) v turns (bc_w32 (dp + 1)) (bc_upd (bc_upd h11 178 (bc_w32 (dp + 1)) (-1)) 180 (bc_w32 (dp + 1)) (-1)) (bc_I K))))) ∧ ((bc_w32 (dp + 1)) = turns → ((0 ≤ (bc_w32 ((bc_w32 (54 + (bc_w32 (8 * v)))) + 0)) ∧ (bc_w32 ((bc_w32 (54 + (bc_w32 (8 * v)))) + 0)) < 3968) ∧ bf_M_mostOf (d + 5) v h7 (bc_I (fun y15 h13 => bf_M_settles (d + 6) dp (bc_w32 ((h7 157 (bc_w32 ((bc_w32 (54 + (bc_w32 (8 * v)))) + 0))) - y15)) h13 (bc_U (fun h16 => bl_M_playing_22 (d + 7) v turns dp h16 (bc_I K))))))))) := fun yes m1 f1 f2 f3 => by
      have hIx := bs_GI_x hI v0 v1 w0 (by omega) yes
      have hIs := bs_GI_s hIx v0 v1 hdp.1
      have x6 : m1 157 6 = bs_Gx B v dp w 6 := f3 6 (by omega) (by omega)
      have g6x := hIx.2.2.2.2.2.2
      refine bc_m_minuteGoesX (d := d) rfl (bs_a160_W f3 hIx.1) (by rw [x6]; omega) ?_
      have p160 : bs_a160 (bs_pass (m1 157)) (bs_pass (bs_Gx B v dp w)) := bs_a160_pass f3 hIx.1
      have x2 : m1 157 2 = A 2 := by rw [f3 2 (by omega) (by omega)]; exact hIx.2.1.2.2.1
      have pr : ∀ q, q < 0 ∨ 160 ≤ q → bs_pass (m1 157) q = g 157 q := fun q hq => by
        have e : bs_pass (m1 157) q = m1 157 q := by
          by_cases z : q < 0
          · exact bs_pass_lo (by omega) (by omega) (by omega)
          · exact bs_pass_hi (by omega) (by omega)
        rw [e, f2 q hq, Gr q hq]
      rw [bc_wi (x := dp + 1) (by omega) (by omega), bc_wi (x := 160 * (dp + 1)) (by omega) (by omega), bc_wi (x := 3168 + 160 * (dp + 1)) (by omega) (by omega), bc_wi (x := 8 * v) (by omega) (by omega), bc_wi (x := 54 + 8 * v) (by omega) (by omega), bc_wi (x := 54 + 8 * v + 0) (by omega) (by omega), Int.add_zero]
      refine ⟨fun nt => ?_, fun et => ⟨by omega, ?_⟩⟩
      · obtain ⟨k', rfl⟩ : ∃ k', k = k' + 1 := ⟨k - 1, by omega⟩
        refine bc_m_keepsX (A := bs_pass (m1 157)) (bs_rr _ _ _) (by omega) (by omega) ⟨by omega, by omega, ?_⟩
        generalize eZ : bc_upd (bc_upd (bc_row (bc_row m1 157 (bs_pass (m1 157))) 157 (bs_kp (bs_pass (m1 157)) (3168 + 160 * (dp + 1)) 160)) 178 (dp + 1) (-1)) 180 (dp + 1) (-1) = Z
        have Z157 : Z 157 = bs_kp (bs_pass (m1 157)) (3168 + 160 * (dp + 1)) 160 := by rw [← eZ, bc_urow (by decide), bc_urow (by decide), bs_rr]
        have Zx : ∀ x, x ≠ 157 → x ≠ 178 → x ≠ 180 → Z x = G x := fun x x1 x2 x3 => by rw [← eZ, bc_urow x3, bc_urow x2, bc_rn x1, bc_rn x1]; exact f1 x x1
        have Z178 : ∀ j, j ≠ dp + 1 → Z 178 j = G 178 j := fun j hj => by rw [← eZ, bc_urow (by decide), bc_uj hj, bc_rn (by decide), bc_rn (by decide), f1 178 (by decide)]
        have Z180 : ∀ j, j ≠ dp + 1 → Z 180 j = G 180 j := fun j hj => by rw [← eZ, bc_uj hj, bc_urow (by decide), bc_rn (by decide), bc_rn (by decide), f1 180 (by decide)]
        have Zl : ∀ q, (160 ≤ q ∧ q < 3168 + 160 * (dp + 1)) ∨ q < 0 → Z 157 q = g 157 q := fun q hq => by
          rw [Z157, show bs_kp (bs_pass (m1 157)) (3168 + 160 * (dp + 1)) 160 q = bs_pass (m1 157) q from if_neg (by omega)]; exact pr q (by omega)
        refine IH k' rfl (bs_pass (bs_Gx B v dp w)) (dp + 1) Z K hIs (by omega) (fun x y1 y2 y3 y4 => by rw [Zx x y1 y2 y4, Gx x y1 y2]; exact g1 x y1 y2 y3 y4) (fun q q0 q1 => ?_) (by rw [← eZ, bc_urow (by decide), bc_uu]) (by rw [← eZ, bc_uu]) (fun m3 a1 a2 a3 a4 a5 a6 a7 => ⟨fun _ => ?_, fun u => absurd u (by omega)⟩)
        · rw [Z157, show bs_kp (bs_pass (m1 157)) (3168 + 160 * (dp + 1)) 160 (3168 + 160 * (dp + 1) + q) = bs_pass (m1 157) (3168 + 160 * (dp + 1) + q - (3168 + 160 * (dp + 1))) from if_pos (by omega), show 3168 + 160 * (dp + 1) + q - (3168 + 160 * (dp + 1)) = q by omega]
          exact p160 q q0 q1
        · rw [show dp + 1 - 1 = dp by omega, a6]
          refine settle yes m3 (fun x y1 y2 y3 y4 => by rw [a1 x y1 y2 y3 y4, ← g1 x y1 y2 y3 y4]) (fun q hq => by rw [a2 q hq]; exact Zl q hq) (fun j j0 j1 => ?_)
          have a5j := a5 j j0 j1
          rw [a5j.1, a5j.2.1, a5j.2.2, Z178 j (by omega), Z180 j (by omega), Zx 179 (by decide) (by decide) (by decide)]
          exact ⟨rfl, rfl, rfl⟩
      · have k0 : k = 0 := by omega
        subst k0
        have mo : bs_most (bs_pass (m1 157)) v = bs_most (bs_pass (bs_Gx B v dp w)) v := bs_gr_congr (fun b b0 b5 => p160 _ (by omega) (by omega))
        have q := hIs.1.2.2.2.1 v v0 (by have := hIs.2.1.2.2.1; omega)
        have gl : 0 ≤ bs_most (bs_pass (bs_Gx B v dp w)) v ∧ bs_most (bs_pass (bs_Gx B v dp w)) v ≤ 99 := ⟨bs_most_nn, bs_gr_le (by omega) (fun b b0 b5 => (q.2.2.2 b b0 b5).1.2)⟩
        refine bc_m_mostOf (d := d + 2) (bs_rr _ _ _) (bs_a160_W p160 hIs.1) v0 (by rw [p160 2 (by omega) (by omega), hIs.2.1.2.2.1]; exact v1) ?_
        rw [bs_rr, p160 (54 + 8 * v) (by omega) (by omega), mo, bc_wi (x := bs_pass (bs_Gx B v dp w) (54 + 8 * v) - bs_most (bs_pass (bs_Gx B v dp w)) v) (by omega) (by omega)]
        refine settle yes _ (fun x y1 y2 y3 y4 => by rw [bc_rn y1, f1 x y1, Gx x y1 y2]) (fun q hq => by rw [bs_rr]; exact pr q (by omega)) (fun j j0 j1 => by rw [bc_rn (by decide), bc_rn (by decide), bc_rn (by decide), f1 178 (by decide), f1 179 (by decide), f1 180 (by decide)]; exact ⟨rfl, rfl, rfl⟩)
    refine ⟨by omega, by omega, by omega, fun _ => ⟨by omega, fun even => ?_, fun odd => ?_⟩, fun u => absurd u (by omega)⟩
    · exact bc_m_deed (d := d) hI v0 v1 w0 (by omega) GX (Or.inl ⟨even, rfl⟩) after skip
    · exact bc_m_deed (d := d) hI v0 v1 w0 (by omega) GX (Or.inr ⟨odd, rfl⟩) after skip
theorem bc_m_playL {d : Nat} {h : bc_H} {A : Int → Int} {v turns : Int} (hW : bs_W A) (v0 : 0 ≤ v) (v1 : v < A 2) (t4 : turns ≤ 4) : ∀ k : Nat, bs_GL d h A v turns k := by
  intro k
  induction k with
  | zero => exact bc_m_playStep hW v0 v1 t4 0 (fun k' e => absurd e (by omega))
  | succ k ih => exact bc_m_playStep hW v0 v1 t4 (k + 1) (fun k' e => by
      have : k' = k := by omega
      subst this; exact ih)
theorem bc_m_playing {d : Nat} {v turns : Int} {h : bc_H} {A : Int → Int} {K : Int → bc_H → Prop} (eA : h 157 = A) (hW : bs_W A) (hck : 0 ≤ A 6 ∧ A 6 ≤ 9999) (v0 : 0 ≤ v) (v1 : v < A 2) (t0 : 0 ≤ turns) (t4 : turns ≤ 4) (hK : ∀ m, bs_Hm h m → (∀ q, q < 3168 → m 157 q = A q) → (turns ≠ 0 → m 180 0 = (bs_Gv v turns.toNat 0 A).2) → K (bs_Gv v turns.toNat 0 A).1 m) : bf_M_playing (d + 7) v turns h (bc_I K) := by
  have w2 := hW.1.2.2.1
  have q := hW.2.2.2.1 v v0 v1
  refine rv_M_playing (d := d + 4) ⟨fun nz => ?_, fun z => ?_⟩
  · refine bc_m_keepsX eA (by omega) (by omega) ?_
    obtain ⟨k, ek⟩ : ∃ k : Nat, turns.toNat = k + 1 := ⟨turns.toNat - 1, by omega⟩
    rw [ek] at hK
    generalize eZ : bc_upd (bc_upd (bc_row h 157 (bs_kp A 3168 160)) 178 0 (-1)) 180 0 (-1) = Z
    have Z157 : Z 157 = bs_kp A 3168 160 := by rw [← eZ, bc_urow (by decide), bc_urow (by decide), bs_rr]
    have lo : ∀ q, q < 3168 → bs_kp A 3168 160 q = A q := fun q hq => if_neg (by omega)
    have hi : ∀ q, 0 ≤ q → q < 160 → bs_kp A 3168 160 (3168 + q) = A q := fun q q0 q1 => by
      unfold bs_kp; rw [if_pos (by omega), show 3168 + q - 3168 = q by omega]
    have w4 := hW.1.2.2.2.2.1
    refine bc_m_playL (d := d) (h := h) hW v0 v1 t4 k A 0 Z K ⟨hW, ⟨rfl, rfl, rfl, rfl⟩, fun _ _ _ => rfl, fun _ _ _ => rfl, rfl, by split <;> omega, by omega⟩ (by omega) (fun x x1 x2 x3 x4 => by rw [← eZ, bc_urow x4, bc_urow x2, bc_rn x1]) (fun q q0 q1 => by rw [Z157, show 3168 + 160 * 0 + q = 3168 + q by omega]; exact hi q q0 q1) (by rw [← eZ, bc_urow (by decide), bc_uu]) (by rw [← eZ, bc_uu]) (fun m a1 a2 a3 a4 a5 a6 a7 => ⟨fun u => absurd rfl u, fun _ => ?_⟩)
    refine bc_m_restoresX rfl (by omega) (by omega) ?_
    rw [bc_rn (by decide), a6]
    refine hK _ (fun x x1 x2 x3 x4 => by rw [bc_rn x1]; exact a1 x x1 x2 x3 x4) (fun q hq => ?_) (fun _ => by rw [bc_rn (by decide)]; exact a7)
    rw [bs_rr]
    unfold bs_rs
    by_cases u : 0 ≤ q ∧ q < 160
    · rw [if_pos u, show (3168 : Int) + q = 3168 + 160 * 0 + q by omega]; exact a3 q u.1 u.2
    · rw [if_neg u, a2 q (by omega), Z157]; exact lo q hq
  · have gl : 0 ≤ bs_most A v ∧ bs_most A v ≤ 99 := ⟨bs_most_nn, bs_gr_le (by omega) (fun b b0 b5 => (q.2.2.2 b b0 b5).1.2)⟩
    subst z
    rw [bc_wi (x := 8 * v) (by omega) (by omega), bc_wi (x := 54 + 8 * v) (by omega) (by omega), bc_wi (x := 54 + 8 * v + 0) (by omega) (by omega), Int.add_zero]
    refine ⟨by omega, bc_m_mostOf (d := d + 2) eA hW v0 v1 ?_⟩
    rw [eA, bc_wi (x := A (54 + 8 * v) - bs_most A v) (by omega) (by omega)]
    exact hK h (fun _ _ _ _ _ => rfl) (fun q _ => by rw [eA]) (fun u => absurd rfl u)
theorem bs_o_game {d : Nat} {v t : Int} {S : Int → Int} {L c s p q : Int} {h : bc_H} (hR : bs_R S L c s p q h) {P : Int → Int → bc_H → Prop} {Q1 : Int → bc_H → Prop} (hQ : ∀ y h1, h1 (-2) = h (-2) → h1 (-3) = h (-3) → bf_M_game (d + 16) v t h1 (bc_I fun y2 h2 => P y y2 h2) → Q1 y h1) (hK : ∀ y h2, bs_R S L c s p q h2 → P y y h2) : bf_X_game (d + 16) v t h (bc_I Q1) := by
  obtain ⟨⟨hcs, hpq⟩, ⟨e12, e13, e14, e15⟩, hS, est, efr, htr, htp, hfa, hlv, hlo, hrs, hmk, ⟨hC, hW, hck, hN, hP⟩⟩ := id hR
  obtain ⟨⟨n4, n5, n6, n2, n0, n1, n3⟩, hw, hd, hg, hf, hm⟩ := id hC
  obtain ⟨⟨w0, w1, w2, w3, w4, w5, w7⟩, hww, hwy, hwv, hwf, hwg⟩ := id hW
  have hq : ∀ y v, P y y (bc_upd (bc_upd h 0 0 v) 156 2 v) := fun y v => hK _ _ (bs_R_st hR v)
  have e157 : ∀ st, bc_upd h 0 0 st 157 = h 157 := fun st => bc_urow (by decide)
  refine rv_X_game (d := d + 14) ?_
  rw [e12, n2, bc_wi (x := h 157 2 - 1) (by omega) (by omega)]
  refine ⟨by omega, fun zv => ⟨fun zt => ⟨by omega, ?_⟩, fun zt => ?_⟩, fun zv => ?_⟩
  · refine bc_c_playGame (d := d + 1) (by omega) hC hW hck zv.1 (by omega) zt.1 zt.2 (fun m a1 a2 => ?_)
    have mx : ∀ x, x ≠ 0 → ¬ (18 ≤ x ∧ x ≤ 22) → bc_upd m 0 0 0 x = h x := fun x x0 x1 => by rw [bc_urow x0]; exact a1 x x1
    have m157 := mx 157 (by decide) (by decide)
    refine hQ _ _ (mx _ (by decide) (by decide)) (mx _ (by decide) (by decide)) ?_
    refine rv_M_game (d := d + 15) ?_
    rw [m157]
    refine ⟨fun _ => ⟨fun _ => ?_, fun u => absurd zt u⟩, fun u => absurd (show 0 ≤ v ∧ v < h 157 2 by omega) u⟩
    refine bc_m_playing (d := d + 8) m157 hW hck zv.1 (by omega) zt.1 zt.2 (fun g g1 g2 _ => ?_)
    exact hK _ _ (bs_Tfin hR (v := 0) (m0 := bc_upd m 0 0 0) (g := g) mx (fun y hy => by rw [bc_uj hy, a1 0 (by decide)]) (bc_uu _ _ _ _) (fun x x1 x2 x3 x4 => g1 x x2 (by omega) (by omega) (by omega)) (fun y _ => by rw [g1 156 (by decide) (by decide) (by decide) (by decide)]) (fun k hk => g2 k (by omega)))
  · refine hQ _ _ (by first | rfl | exact bc_urow (by decide)) (by first | rfl | exact bc_urow (by decide)) ?_
    refine rv_M_game (d := d + 15) ?_
    rw [e157]
    exact ⟨fun _ => ⟨fun u => absurd u zt, fun _ => hq _ _⟩, fun u => absurd (show 0 ≤ v ∧ v < h 157 2 by omega) u⟩
  · refine hQ _ _ (by first | rfl | exact bc_urow (by decide)) (by first | rfl | exact bc_urow (by decide)) ?_
    refine rv_M_game (d := d + 15) ?_
    rw [e157]
    exact ⟨fun u => absurd (show 0 ≤ v ∧ v ≤ h 157 2 - 1 by omega) zv, fun _ => hq _ _⟩
theorem bs_o_moveOf {d : Nat} {v t : Int} {S : Int → Int} {L c s p q : Int} {h : bc_H} (hR : bs_R S L c s p q h) {P : Int → Int → bc_H → Prop} {Q1 : Int → bc_H → Prop} (hQ : ∀ y h1, h1 (-2) = h (-2) → h1 (-3) = h (-3) → bf_M_moveOf (d + 16) v t h1 (bc_I fun y2 h2 => P y y2 h2) → Q1 y h1) (hK : ∀ y h2, bs_R S L c s p q h2 → P y y h2) : bf_X_moveOf (d + 16) v t h (bc_I Q1) := by
  obtain ⟨⟨hcs, hpq⟩, ⟨e12, e13, e14, e15⟩, hS, est, efr, htr, htp, hfa, hlv, hlo, hrs, hmk, ⟨hC, hW, hck, hN, hP⟩⟩ := id hR
  obtain ⟨⟨n4, n5, n6, n2, n0, n1, n3⟩, hw, hd, hg, hf, hm⟩ := id hC
  obtain ⟨⟨w0, w1, w2, w3, w4, w5, w7⟩, hww, hwy, hwv, hwf, hwg⟩ := id hW
  have hq : ∀ y v, P y y (bc_upd (bc_upd h 0 0 v) 156 2 v) := fun y v => hK _ _ (bs_R_st hR v)
  have e157 : ∀ st, bc_upd h 0 0 st 157 = h 157 := fun st => bc_urow (by decide)
  refine rv_X_moveOf (d := d + 14) ?_
  rw [e12, n2, bc_wi (x := h 157 2 - 1) (by omega) (by omega)]
  refine ⟨by omega, fun zv => ⟨fun zt => ⟨by omega, ?_⟩, fun zt => ?_⟩, fun zv => ?_⟩
  · refine bc_c_playGame (d := d + 1) (by omega) hC hW hck zv.1 (by omega) (by omega) zt.2 (fun m a1 a2 => ?_)
    obtain ⟨k, ek⟩ : ∃ k : Nat, t.toNat = k + 1 := ⟨t.toNat - 1, by omega⟩
    have nn := bs_Gv_n v k 0 (h 157) w1.1
    rw [← ek] at nn
    have mid : ∀ st yy, ((bs_Gv v t.toNat 0 (h 157)).2 = h 157 1 → st = 6 ∧ yy = -1) → ((bs_Gv v t.toNat 0 (h 157)).2 ≠ h 157 1 → st = 0 ∧ yy = (bs_Gv v t.toNat 0 (h 157)).2) → Q1 yy (bc_upd m 0 0 st) := fun st yy b1 b2 => by
      have mx : ∀ x, x ≠ 0 → ¬ (18 ≤ x ∧ x ≤ 22) → bc_upd m 0 0 st x = h x := fun x x0 x1 => by rw [bc_urow x0]; exact a1 x x1
      have m157 := mx 157 (by decide) (by decide)
      refine hQ _ _ (mx _ (by decide) (by decide)) (mx _ (by decide) (by decide)) ?_
      refine rv_M_moveOf (d := d + 15) ?_
      rw [m157]
      refine ⟨fun _ => ⟨fun _ => ?_, fun u => absurd zt u⟩, fun u => absurd (show 0 ≤ v ∧ v < h 157 2 by omega) u⟩
      refine bc_m_playing (d := d + 8) m157 hW hck zv.1 (by omega) (by omega) zt.2 (fun g g1 g2 g3 => ?_)
      have fin := bs_Tfin hR (v := st) (m0 := bc_upd m 0 0 st) (g := g) mx (fun y hy => by rw [bc_uj hy, a1 0 (by decide)]) (bc_uu _ _ _ _) (fun x x1 x2 x3 x4 => g1 x x2 (by omega) (by omega) (by omega)) (fun y _ => by rw [g1 156 (by decide) (by decide) (by decide) (by decide)]) (fun k hk => g2 k (by omega))
      rw [g3 (by omega), g2 1 (by omega)]
      refine ⟨fun z => ?_, fun z => ?_⟩
      · obtain ⟨c1, c2⟩ := b2 z
        subst c1; rw [← c2]; exact hK _ _ fin
      · obtain ⟨c1, c2⟩ := b1 z
        subst c1; rw [c2]; exact hK _ _ fin
    rw [a2]
    by_cases z : (bs_Gv v t.toNat 0 (h 157)).2 = h 157 1
    · rw [if_pos (Or.inr z)]
      exact ⟨fun u => absurd rfl u, fun _ => mid 6 _ (fun _ => ⟨rfl, rfl⟩) (fun u => absurd z u)⟩
    · rw [if_neg (by omega)]
      exact ⟨fun _ => mid 0 _ (fun u => absurd u z) (fun _ => ⟨rfl, rfl⟩), fun u => absurd u nn⟩
  · refine hQ _ _ (by first | rfl | exact bc_urow (by decide)) (by first | rfl | exact bc_urow (by decide)) ?_
    refine rv_M_moveOf (d := d + 15) ?_
    rw [e157]
    exact ⟨fun _ => ⟨fun u => absurd u zt, fun _ => hq _ _⟩, fun u => absurd (show 0 ≤ v ∧ v < h 157 2 by omega) u⟩
  · refine hQ _ _ (by first | rfl | exact bc_urow (by decide)) (by first | rfl | exact bc_urow (by decide)) ?_
    refine rv_M_moveOf (d := d + 15) ?_
    rw [e157]
    exact ⟨fun u => absurd (show 0 ≤ v ∧ v ≤ h 157 2 - 1 by omega) zv, fun _ => hq _ _⟩
