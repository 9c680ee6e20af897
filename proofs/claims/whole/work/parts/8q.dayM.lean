/-! ===== days: the reference's step ===== -/
def bs_gz (g : bc_H) (k inc : Int) (gz : bc_H) : Prop := (∀ x, x ≠ 156 → x ≠ 157 → gz x = g x) ∧ (∀ y, y ≠ 23 → gz 156 y = g 156 y) ∧ gz 156 23 = g 156 23 + inc ∧ gz 157 2120 = g 157 2120 + 1 ∧ gz 157 (2272 + 6 * g 157 2120) = k ∧ ∀ j, j ≠ 2120 → (j < 2272 + 6 * g 157 2120 ∨ 2272 + 6 * g 157 2120 + 5 < j) → gz 157 j = g 157 j
def bs_dG (D : Nat) (k to : Int) : bs_RT := fun g P N => bf_M_ahead (D + 6) g (bc_U (fun h2 => bf_M_dayOrder (D + 6) k to h2 (bc_B (fun h4 => P h4) (fun h4 => N h4))))
theorem bc_m_day80 {D : Nat} {k x2 to x4 : Int} {g : bc_H} {A B : bc_H → Prop} (t0 : 2112 ≤ to ∧ to + 5 < 2640) (hK : ∀ gz, (∀ x, x ≠ 157 → gz x = g x) → (∀ j, (j ≤ to ∨ to + 5 < j) → gz 157 j = g 157 j) → bl_M_dayStep_80 (D + 7) k x2 to x4 6 gz (bc_B A B)) : bl_M_dayStep_80 (D + 7) k x2 to x4 1 g (bc_B A B) := by
  have key : ∀ gz : bc_H, (∀ x, x ≠ 157 → gz x = g x) → (∀ j, (j ≤ to ∨ to + 5 < j) → gz 157 j = g 157 j) → bl_M_dayStep_80 (D + 7) k x2 to x4 1 gz (bc_B A B) := by
    refine bc_lupF (P := fun i => ∀ gz : bc_H, (∀ x, x ≠ 157 → gz x = g x) → (∀ j, (j ≤ to ∨ to + 5 < j) → gz 157 j = g 157 j) → bl_M_dayStep_80 (D + 7) k x2 to x4 i gz (bc_B A B)) (a := 1) (n := 6) hK (fun i i0 i1 ih => ?_) (by decide) (by decide)
    intro gz e1 e2
    refine rv_M_dayStep_80 (d := D + 6) ⟨fun q => absurd q (by omega), fun _ => ?_⟩
    rw [bc_wi (x := to + i) (by omega) (by omega), bc_wi (x := i + 1) (by omega) (by omega)]
    exact ⟨by omega, ih _ (fun x hx => by rw [bc_urow hx]; exact e1 x hx) (fun j hj => by rw [bc_uj (by omega)]; exact e2 j hj)⟩
  exact key g (fun _ _ => rfl) (fun _ _ => rfl)
theorem bs_gz_of {g gz : bc_H} {k inc : Int} (inc0 : g 156 23 + inc ≤ 31 ∧ 0 ≤ g 156 23 + inc) (cnt : 0 ≤ g 157 2120 ∧ g 157 2120 ≤ 59) (e1 : ∀ x, x ≠ 157 → gz x = bc_upd (bc_upd g 156 23 (g 156 23 + inc)) 157 (2272 + 6 * g 157 2120) k x) (e2 : ∀ j, (j ≤ 2272 + 6 * g 157 2120 ∨ 2272 + 6 * g 157 2120 + 5 < j) → gz 157 j = bc_upd (bc_upd g 156 23 (g 156 23 + inc)) 157 (2272 + 6 * g 157 2120) k 157 j) : bs_gz g k inc (bc_upd gz 157 2120 (bc_w32 (gz 157 2120 + 1))) := by
  have u : gz 157 2120 = g 157 2120 := by rw [e2 2120 (by omega), bc_uj (by omega), bc_ur (by decide)]
  refine ⟨fun x x1 x2 => by rw [bc_urow x2, e1 x x2, bc_urow x2, bc_urow x1], fun y hy => by rw [bc_ur (by decide), e1 156 (by decide), bc_ur (by decide), bc_uj hy], by rw [bc_ur (by decide), e1 156 (by decide), bc_ur (by decide), bc_uu], by rw [bc_uu, u, bc_wi (by omega) (by omega)], by rw [bc_uj (by omega), e2 _ (by omega), bc_uu], fun j hj hj2 => by rw [bc_uj hj, e2 j (by omega), bc_uj (by omega), bc_ur (by decide)]⟩
theorem bc_m_dayP {D : Nat} {T : Int → Int} {n k : Int} {m g : bc_H} {A B : bc_H → Prop} {Q1 Q0 : bc_H → bc_H → Prop} (n0 : 0 ≤ n ∧ n ≤ 900) (hb : bs_tb8 T n) (pt : bs_PT T n m) (tk : bs_Tk T n m g) (ky : bs_km (m 6 4) = k) (kk : 16 ≤ k ∧ k ≤ 24 ∧ k ≠ 21 ∧ k ≠ 22 ∧ k ≠ 23) (c30 : 0 ≤ g 156 23 ∧ g 156 23 < 30) (cnt : 0 ≤ g 157 2120 ∧ g 157 2120 ≤ 59) (hG : ∀ (gz : bc_H) (P N : bc_H → Prop), bs_gz g k 1 gz → (∀ g1, Q1 gz g1 → P g1) → (∀ g1, Q0 gz g1 → N g1) → bs_dG D k (2272 + 6 * g 157 2120) gz P N) (hK : ∀ gz g1, bs_gz g k 1 gz → Q1 gz g1 → bf_M_wantSign (D + 6) 59 g1 (bc_B A B)) (hN : ∀ gz g1, bs_gz g k 1 gz → Q0 gz g1 → B g1) : bf_M_dayStep (D + 7) g (bc_B A B) := by
  obtain ⟨p, p0, tt⟩ := pt.2.2.2
  refine rv_M_dayStep (d := D + 6) (bc_m_inWords (d := D + 5) n0 p0 hb tt tk ?_)
  have eto : bc_w32 (2272 + bc_w32 (6 * g 157 2120)) = 2272 + 6 * g 157 2120 := by rw [bc_wi (x := 6 * g 157 2120) (by omega) (by omega), bc_wi (by omega) (by omega)]
  rw [ky, eto]
  rw [bc_wi (x := g 156 23 + 1) (by omega) (by omega)]
  refine ⟨fun q => by exfalso; omega, fun _ => ⟨fun q => by exfalso; omega, fun _ => ⟨fun q => by exfalso; omega, fun _ => ⟨fun _ => ⟨fun q => by exfalso; omega, fun _ => ⟨fun _ => ⟨fun _ => ⟨by omega, ?_⟩, fun q => by exfalso; omega⟩, fun q => by exfalso; omega⟩⟩, fun q => by exfalso; omega⟩⟩⟩⟩
  refine bc_m_day80 (by omega) (fun gz e1 e2 => ?_)
  have gzf := bs_gz_of (inc := 1) (by omega) cnt e1 e2
  refine rv_M_dayStep_80 (d := D + 6) ⟨fun _ => ?_, fun q => absurd q (by decide)⟩
  generalize bc_upd gz 157 2120 (bc_w32 (gz 157 2120 + 1)) = g2 at gzf ⊢
  refine hG g2 _ _ gzf (fun g1 q1 => ?_) (fun g1 q0 => hN g2 g1 gzf q0)
  exact ⟨fun _ => ⟨fun _ => hK g2 g1 gzf q1, fun q => by exfalso; omega⟩, fun q => absurd rfl q⟩
theorem bc_m_dayO {D : Nat} {T : Int → Int} {n k : Int} {m g : bc_H} {A B : bc_H → Prop} {Q1 Q0 : bc_H → bc_H → Prop} (n0 : 0 ≤ n ∧ n ≤ 900) (hb : bs_tb8 T n) (pt : bs_PT T n m) (tk : bs_Tk T n m g) (ky : bs_km (m 6 4) = k) (kk : k = 21 ∨ k = 22) (c30 : 0 ≤ g 156 23 ∧ g 156 23 < 30) (d3 : 0 ≤ g 156 22 ∧ g 156 22 < 3) (cnt : 0 ≤ g 157 2120 ∧ g 157 2120 ≤ 59) (hG : ∀ (gz : bc_H) (P N : bc_H → Prop), bs_gz g k 1 gz → (∀ g1, Q1 gz g1 → P g1) → (∀ g1, Q0 gz g1 → N g1) → bs_dG D k (2272 + 6 * g 157 2120) gz P N) (hK : ∀ gz g1, bs_gz g k 1 gz → Q1 gz g1 → g1 156 22 = g 156 22 ∧ bf_M_wantSign (D + 6) 59 (bc_upd (bc_upd g1 164 (g 156 22) (g 157 2120)) 156 22 (g 156 22 + 1)) (bc_B A B)) (hN : ∀ gz g1, bs_gz g k 1 gz → Q0 gz g1 → B g1) : bf_M_dayStep (D + 7) g (bc_B A B) := by
  obtain ⟨p, p0, tt⟩ := pt.2.2.2
  refine rv_M_dayStep (d := D + 6) (bc_m_inWords (d := D + 5) n0 p0 hb tt tk ?_)
  have eto : bc_w32 (2272 + bc_w32 (6 * g 157 2120)) = 2272 + 6 * g 157 2120 := by rw [bc_wi (x := 6 * g 157 2120) (by omega) (by omega), bc_wi (by omega) (by omega)]
  rw [ky, eto]
  rw [bc_wi (x := g 156 23 + 1) (by omega) (by omega)]
  refine ⟨fun _ => ⟨fun q => by exfalso; omega, fun _ => ⟨fun q => by exfalso; omega, fun _ => ⟨fun _ => ⟨fun q => by exfalso; omega, fun _ => ⟨fun _ => ⟨fun _ => ⟨fun _ => ⟨by omega, ?_⟩, fun q => by exfalso; omega⟩, fun q => by exfalso; omega⟩, fun q => by exfalso; omega⟩⟩, fun q => by exfalso; omega⟩⟩⟩, fun q => by exfalso; omega⟩
  refine bc_m_day80 (by omega) (fun gz e1 e2 => ?_)
  have gzf := bs_gz_of (inc := 1) (by omega) cnt e1 e2
  refine rv_M_dayStep_80 (d := D + 6) ⟨fun _ => ?_, fun q => absurd q (by decide)⟩
  generalize bc_upd gz 157 2120 (bc_w32 (gz 157 2120 + 1)) = g2 at gzf ⊢
  refine hG g2 _ _ gzf (fun g1 q1 => ?_) (fun g1 q0 => hN g2 g1 gzf q0)
  have w := hK g2 g1 gzf q1
  refine ⟨fun q => absurd q (by decide), fun _ => ?_⟩
  rw [w.1, bc_wi (x := g 156 22 + 1) (by omega) (by omega)]
  exact ⟨by omega, fun _ => w.2, fun q => by exfalso; omega⟩
theorem bc_m_dayE {D : Nat} {T : Int → Int} {n k : Int} {m g : bc_H} {A B : bc_H → Prop} {Q1 Q0 : bc_H → bc_H → Prop} (n0 : 0 ≤ n ∧ n ≤ 900) (hb : bs_tb8 T n) (pt : bs_PT T n m) (tk : bs_Tk T n m g) (ky : bs_km (m 6 4) = k) (kk : k = 23) (c30 : 0 ≤ g 156 23 ∧ g 156 23 ≤ 30) (d3 : 0 < g 156 22 ∧ g 156 22 ≤ 3) (cnt : 0 ≤ g 157 2120 ∧ g 157 2120 ≤ 59) (hG : ∀ (gz : bc_H) (P N : bc_H → Prop), bs_gz g k 0 gz → (∀ g1, Q1 gz g1 → P g1) → (∀ g1, Q0 gz g1 → N g1) → bs_dG D k (2272 + 6 * g 157 2120) gz P N) (hK : ∀ gz g1, bs_gz g k 0 gz → Q1 gz g1 → g1 156 22 = g 156 22 ∧ (0 ≤ g1 164 (g 156 22 - 1) ∧ g1 164 (g 156 22 - 1) < 60) ∧ bf_M_wantSign (D + 6) 59 (bc_upd (bc_upd (bc_upd g1 156 22 (g 156 22 - 1)) 157 (2272 + 6 * g 157 2120 + 4) (g1 164 (g 156 22 - 1))) 157 (2272 + 6 * g1 164 (g 156 22 - 1) + 4) (g 157 2120)) (bc_B A B)) (hN : ∀ gz g1, bs_gz g k 0 gz → Q0 gz g1 → B g1) : bf_M_dayStep (D + 7) g (bc_B A B) := by
  obtain ⟨p, p0, tt⟩ := pt.2.2.2
  refine rv_M_dayStep (d := D + 6) (bc_m_inWords (d := D + 5) n0 p0 hb tt tk ?_)
  have eto : bc_w32 (2272 + bc_w32 (6 * g 157 2120)) = 2272 + 6 * g 157 2120 := by rw [bc_wi (x := 6 * g 157 2120) (by omega) (by omega), bc_wi (by omega) (by omega)]
  rw [ky, eto]
  rw [bc_wi (x := g 156 23 + 0) (by omega) (by omega)]
  refine ⟨fun q => by exfalso; omega, fun _ => ⟨fun q => by exfalso; omega, fun _ => ⟨fun q => by exfalso; omega, fun _ => ⟨fun q => by exfalso; omega, fun _ => ⟨fun _ => ⟨fun _ => ⟨fun q => by exfalso; omega, fun _ => ⟨by omega, ?_⟩⟩, fun q => by exfalso; omega⟩, fun q => by exfalso; omega⟩⟩⟩⟩⟩
  refine bc_m_day80 (by omega) (fun gz e1 e2 => ?_)
  have gzf := bs_gz_of (inc := 0) (by omega) cnt e1 e2
  refine rv_M_dayStep_80 (d := D + 6) ⟨fun _ => ?_, fun q => absurd q (by decide)⟩
  generalize bc_upd gz 157 2120 (bc_w32 (gz 157 2120 + 1)) = g2 at gzf ⊢
  refine hG g2 _ _ gzf (fun g1 q1 => ?_) (fun g1 q0 => hN g2 g1 gzf q0)
  have w := hK g2 g1 gzf q1
  have w22 := w.1
  have wr := w.2.1
  refine ⟨fun _ => ⟨fun q => by exfalso; omega, fun _ => ?_⟩, fun q => absurd rfl q⟩
  rw [w22, bc_wi (x := g 156 22 - 1) (by omega) (by omega)]
  rw [bc_wi (x := 6 * g1 164 (g 156 22 - 1)) (by omega) (by omega), bc_wi (x := 2272 + 6 * g1 164 (g 156 22 - 1)) (by omega) (by omega), bc_wi (x := 2272 + 6 * g1 164 (g 156 22 - 1) + 4) (by omega) (by omega), bc_wi (x := 2272 + 6 * g 157 2120 + 4) (by omega) (by omega)]
  exact ⟨by omega, by omega, by omega, by omega, w.2.2⟩
theorem bc_m_dayX {D : Nat} {T : Int → Int} {n k : Int} {m g : bc_H} {A B : bc_H → Prop} (n0 : 0 ≤ n ∧ n ≤ 900) (hb : bs_tb8 T n) (pt : bs_PT T n m) (tk : bs_Tk T n m g) (ky : bs_km (m 6 4) = k) (z0 : g 156 18 = 0) (fl : ((k < 16 ∨ 24 < k) ∧ B (bs_fg m g 2)) ∨ ((16 ≤ k ∧ k ≤ 24 ∧ k ≠ 23) ∧ g 156 23 = 30 ∧ B (bs_fg m g 6)) ∨ ((k = 21 ∨ k = 22) ∧ g 156 23 ≠ 30 ∧ g 156 22 = 3 ∧ B (bs_fg m g 7)) ∨ (k = 23 ∧ g 156 22 = 0 ∧ B (bs_fg m g 2))) : bf_M_dayStep (D + 7) g (bc_B A B) := by
  obtain ⟨p, p0, tt⟩ := pt.2.2.2
  refine rv_M_dayStep (d := D + 6) (bc_m_inWords (d := D + 5) n0 p0 hb tt tk ?_)
  rw [ky]
  rcases fl with ⟨kk, b⟩ | ⟨kk, e, b⟩ | ⟨kk, e, e2, b⟩ | ⟨kk, e, b⟩
  · refine ⟨fun q => by exfalso; omega, fun _ => ⟨fun _ => bc_m_fails tk z0 b, fun _ => ⟨fun _ => bc_m_fails tk z0 b, fun q => by exfalso; omega⟩⟩⟩
  · refine ⟨fun _ => ⟨fun q => by exfalso; omega, fun _ => ⟨fun q => by exfalso; omega, fun _ => ⟨fun _ => ⟨fun q => by exfalso; omega, fun _ => ⟨fun q => by exfalso; omega, fun _ => bc_m_fails tk z0 b⟩⟩, fun q => by exfalso; omega⟩⟩⟩, fun _ => ⟨fun q => by exfalso; omega, fun _ => ⟨fun q => by exfalso; omega, fun _ => ⟨fun _ => ⟨fun q => by exfalso; omega, fun _ => ⟨fun q => by exfalso; omega, fun _ => bc_m_fails tk z0 b⟩⟩, fun q => by exfalso; omega⟩⟩⟩⟩
  · refine ⟨fun _ => ⟨fun q => by exfalso; omega, fun _ => ⟨fun q => by exfalso; omega, fun _ => ⟨fun _ => ⟨fun q => by exfalso; omega, fun _ => ⟨fun _ => ⟨fun q => by exfalso; omega, fun _ => bc_m_fails tk z0 b⟩, fun q => by exfalso; omega⟩⟩, fun q => by exfalso; omega⟩⟩⟩, fun q => by exfalso; omega⟩
  · refine ⟨fun q => by exfalso; omega, fun _ => ⟨fun q => by exfalso; omega, fun _ => ⟨fun q => by exfalso; omega, fun _ => ⟨fun q => by exfalso; omega, fun _ => ⟨fun q => by exfalso; omega, fun _ => bc_m_fails tk z0 b⟩⟩⟩⟩⟩
