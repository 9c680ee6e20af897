/-! ===== lamp, odds; a part of a cave ===== -/
theorem bs_20F : ∀ x : Nat, x < 512 → ∀ k : Nat, k < 9 → (0 ≤ bc_or (x : Int) (bc_shl 1 (k : Int)) ∧ bc_or (x : Int) (bc_shl 1 (k : Int)) < 512) ∧ (bc_and (bc_shr (bc_or (x : Int) (bc_shl 1 (k : Int))) 0) 1 = if k = 0 then 1 else bc_and (bc_shr (x : Int) 0) 1) ∧ (bc_and (bc_shr (bc_or (x : Int) (bc_shl 1 (k : Int))) 1) 1 = if k = 1 then 1 else bc_and (bc_shr (x : Int) 1) 1) := by decide +kernel
theorem bs_20 {x k : Int} (x0 : 0 ≤ x) (x1 : x < 512) (k0 : 0 ≤ k) (k1 : k < 9) : (0 ≤ bc_or x (bc_shl 1 k) ∧ bc_or x (bc_shl 1 k) < 512) ∧ (bc_and (bc_shr (bc_or x (bc_shl 1 k)) 0) 1 = if k = 0 then 1 else bc_and (bc_shr x 0) 1) ∧ (bc_and (bc_shr (bc_or x (bc_shl 1 k)) 1) 1 = if k = 1 then 1 else bc_and (bc_shr x 1) 1) := by
  have h := bs_20F x.toNat (by omega) k.toNat (by omega)
  rw [show ((x.toNat : Nat) : Int) = x by omega, show ((k.toNat : Nat) : Int) = k by omega] at h
  refine ⟨h.1, ?_, ?_⟩
  · rw [h.2.1]
    by_cases e : k = 0
    · rw [if_pos e, if_pos (by omega)]
    · rw [if_neg e, if_neg (by omega)]
  · rw [h.2.2]
    by_cases e : k = 1
    · rw [if_pos e, if_pos (by omega)]
    · rw [if_neg e, if_neg (by omega)]
def bs_gk (g : bc_H) (k : Int) : bc_H := bc_upd g 156 20 (bc_or (g 156 20) (bc_shl 1 k))
theorem bs_Tk_gk {T : Int → Int} {n k : Int} {m g : bc_H} (h : bs_Tk T n m g) : bs_Tk T n m (bs_gk g k) := by
  unfold bs_gk
  exact bs_Tk_h h (fun _ _ => rfl) (fun y hy => bc_uj (by omega)) (bc_urow (by decide))
theorem bs_SM_gk {T : Int → Int} {n c k : Int} {g0 m m' g : bc_H} (sm : bs_SM T n c g0 m g) (k0 : 0 ≤ k) (k1 : k < 9) (e : ∀ x, x ≠ 9 → m' x = m x) (hc : 24 ≤ c) (e3 : m' 9 3 = if k = 0 then 1 else m 9 3) (e4 : m' 9 4 = if k = 1 then 1 else m 9 4) : bs_SM T n c g0 m' (bs_gk g k) := by
  obtain ⟨a1, a2, ⟨a3, a4, a5⟩, a6, a7, a8, a9, a10⟩ := sm
  have t := bs_20 a10.1.1 a10.1.2 k0 k1
  have u : ∀ y, y ≠ 20 → bs_gk g k 156 y = g 156 y := fun y hy => bc_uj hy
  have v : ∀ x, x ≠ 156 → bs_gk g k x = g x := fun x hx => bc_urow hx
  have w : bs_gk g k 156 20 = bc_or (g 156 20) (bc_shl 1 k) := bc_uu _ _ _ _
  refine ⟨fun x x1 x2 x3 x4 => by rw [v x x1]; exact a1 x x1 x2 x3 x4, fun y hy => by rw [u y (by omega)]; exact a2 y hy, ⟨by rw [u 10 (by decide)]; exact a3, by rw [u 17 (by decide)]; exact a4, by rw [u 18 (by decide)]; exact a5⟩, bs_Tk_h a6 (fun y _ => by rw [e 6 (by decide)]) (fun y hy => u y (by omega)) (v 163 (by decide)), fun k hk => by rw [v 157 (by decide)]; exact a7 k hk, fun k hk => by rw [v 158 (by decide)]; exact a8 k hk, ?_, ?_⟩
  · rw [v 157 (by decide), v 158 (by decide)]
    exact bs_Nw_h (fun x x0 x1 => e x (by omega)) a9
  · rw [w, t.2.1, t.2.2, e3, e4]
    refine ⟨t.1, ?_, ?_⟩
    · by_cases z : k = 0
      · rw [if_pos z, if_pos z]; exact ⟨fun _ => by decide, fun _ => rfl⟩
      · rw [if_neg z, if_neg z]; exact a10.2.1
    · by_cases z : k = 1
      · rw [if_pos z, if_pos z]; exact ⟨fun _ => by decide, fun _ => rfl⟩
      · rw [if_neg z, if_neg z]; exact a10.2.2
/-- the reference's memory behind a fault, or the end -/
def bs_SQ (g0 m g : bc_H) : Prop := (∀ x, x ≠ 156 → x ≠ 157 → x ≠ 158 → x ≠ 163 → g x = g0 x) ∧ (∀ y, (y < 10 ∨ 20 < y ∨ y = 16) → g 156 y = g0 156 y) ∧ g 156 10 = 0 ∧ (g 156 18 = m 6 1 ∧ g 156 17 = m 6 2) ∧ (∀ k, (k < 2112 ∨ 2640 ≤ k) → g 157 k = g0 157 k) ∧ ∀ k, (k < 104 ∨ 130 ≤ k) → g 158 k = g0 158 k
theorem bs_SQ_of {T : Int → Int} {n c : Int} {g0 m m' g g' : bc_H} (sm : bs_SM T n c g0 m g) (sf : bs_SF m' g g') : bs_SQ g0 m' g' := by
  obtain ⟨a1, a2, ⟨a3, a4, a5⟩, a6, a7, a8, a9, a10⟩ := sm
  obtain ⟨b1, b2, b3, b4, b5⟩ := sf
  exact ⟨fun x x1 x2 x3 x4 => by rw [b1 x x1 x2 x3]; exact a1 x x1 x2 x3 x4, fun y hy => by rw [b2 y (by omega) (by omega) (by omega)]; exact a2 y hy, by rw [b2 10 (by decide) (by decide) (by decide)]; exact a3, b3, fun k hk => by rw [b4 k hk]; exact a7 k hk, fun k hk => by rw [b5 k hk]; exact a8 k hk⟩
def bs_Co1 (T : Int → Int) (n c : Int) (m m' : bc_H) (G : bs_RT) : Prop := ∀ (g0 g : bc_H) (P N : bc_H → Prop), bs_SM T n c g0 m g → (∀ g', bs_SM T n c g0 m' g' → P g') → G g P N
def bs_Co0 (T : Int → Int) (n c : Int) (m m' : bc_H) (G : bs_RT) : Prop := ∀ (g0 g : bc_H) (P N : bc_H → Prop), bs_SM T n c g0 m g → (∀ g', bs_SQ g0 m' g' → N g') → G g P N
theorem bc_m_part {D : Nat} {T : Int → Int} {n : Int} {m g : bc_H} {A B : bc_H → Prop} (n0 : 0 ≤ n ∧ n ≤ 900) (hb : bs_tb8 T n) (h : bs_PT T n m) (hk : bs_Tk T n m g) (z0 : g 156 18 = 0)
    (l0 : m 6 4 = 0 → (bc_and (bc_shr (g 156 20) 0) 1 ≠ 1 → ∀ K : bc_H → Prop, (∀ h2, bf_M_number (D + 5) 2116 0 99 h2 (bc_B (fun h3 => bf_M_wantSign (D + 5) 59 h3 (bc_B A B)) B) → K h2) → bf_M_ahead (D + 5) (bs_gk g 0) (bc_U K)) ∧ (bc_and (bc_shr (g 156 20) 0) 1 = 1 → B (bs_fg m g 5)))
    (l1 : m 6 4 = 1 → (bc_and (bc_shr (g 156 20) 1) 1 ≠ 1 → ∀ K : bc_H → Prop, (∀ h2, bf_M_number (D + 5) 2117 0 16 h2 (bc_B (fun h3 => bf_M_wantSign (D + 5) 59 h3 (bc_B A B)) B) → K h2) → bf_M_ahead (D + 5) (bs_gk g 1) (bc_U K)) ∧ (bc_and (bc_shr (g 156 20) 1) 1 = 1 → B (bs_fg m g 5)))
    (l2 : m 6 4 = 2 → bf_M_aBeast (D + 5) (bs_gk g 2) (bc_B (fun h3 => bf_M_wantSign (D + 5) 59 h3 (bc_B A B)) B))
    (l3 : m 6 4 = 3 → bf_M_aWall (D + 5) (bs_gk g 3) (bc_B (fun h3 => bf_M_wantSign (D + 5) 59 h3 (bc_B A B)) B))
    (l4 : m 6 4 = 6 → bf_M_aWay (D + 5) (bs_gk g 4) (bc_B (fun h3 => bf_M_wantSign (D + 5) 59 h3 (bc_B A B)) B))
    (l5 : m 6 4 = 8 → bf_M_aVisitor (D + 5) (bs_gk g 5) (bc_B (fun h3 => bf_M_wantSign (D + 5) 59 h3 (bc_B A B)) B))
    (l6 : m 6 4 = 11 → bf_M_aFigure (D + 5) (bs_gk g 6) (bc_B (fun h3 => bf_M_wantSign (D + 5) 59 h3 (bc_B A B)) B))
    (l7 : m 6 4 = 13 → bf_M_anOver (D + 5) (bs_gk g 7) (bc_B (fun h3 => bf_M_wantSign (D + 5) 59 h3 (bc_B A B)) B))
    (l8 : m 6 4 = 14 → bf_M_aFollowing (D + 5) (bs_gk g 8) (bc_B (fun h3 => bf_M_wantSign (D + 5) 59 h3 (bc_B A B)) B))
    (lx : m 6 4 ≠ 0 → m 6 4 ≠ 1 → m 6 4 ≠ 2 → m 6 4 ≠ 3 → m 6 4 ≠ 6 → m 6 4 ≠ 8 → m 6 4 ≠ 11 → m 6 4 ≠ 13 → m 6 4 ≠ 14 → B (bs_fg m g 2)) : bf_M_cavePart (D + 6) g (bc_B A B) := by
  have r := bs_PT_r h
  obtain ⟨p, p0, t⟩ := h.2.2.2
  refine rv_M_cavePart (d := D + 5) (bc_m_inWords (d := D + 4) n0 p0 hb t hk ?_)
  have e : ∀ i, 0 ≤ i → i < 27 → (bs_km (m 6 4) = bs_kml i ↔ m 6 4 = i) := fun i i0 i1 => bs_km_i i0 i1 rfl r.2.2.2.1 r.2.2.2.2
  have e0 := e 0 (by decide) (by decide)
  have e1 := e 1 (by decide) (by decide)
  have e2 := e 2 (by decide) (by decide)
  have e3 := e 3 (by decide) (by decide)
  have e4 := e 6 (by decide) (by decide)
  have e5 := e 8 (by decide) (by decide)
  have e6 := e 11 (by decide) (by decide)
  have e7 := e 13 (by decide) (by decide)
  have e8 := e 14 (by decide) (by decide)
  rw [show bs_kml 0 = 0 from rfl] at e0
  rw [show bs_kml 1 = 1 from rfl] at e1
  rw [show bs_kml 2 = 2 from rfl] at e2
  rw [show bs_kml 3 = 3 from rfl] at e3
  rw [show bs_kml 6 = 4 from rfl] at e4
  rw [show bs_kml 8 = 5 from rfl] at e5
  rw [show bs_kml 11 = 6 from rfl] at e6
  rw [show bs_kml 13 = 7 from rfl] at e7
  rw [show bs_kml 14 = 8 from rfl] at e8
  clear e
  generalize bs_km (m 6 4) = y at e0 e1 e2 e3 e4 e5 e6 e7 e8
  have bad : (y < 0 ∨ 8 < y) → B (bs_fg m g 2) := fun u => lx (fun w => by have := e0.2 w; omega) (fun w => by have := e1.2 w; omega) (fun w => by have := e2.2 w; omega) (fun w => by have := e3.2 w; omega) (fun w => by have := e4.2 w; omega) (fun w => by have := e5.2 w; omega) (fun w => by have := e6.2 w; omega) (fun w => by have := e7.2 w; omega) (fun w => by have := e8.2 w; omega)
  refine ⟨fun u => bc_m_fails hk z0 (bad (Or.inl u)), fun u => ⟨fun v => ?_, fun v => bc_m_fails hk z0 (bad (Or.inr v))⟩⟩
  have c : y = 0 ∨ y = 1 ∨ y = 2 ∨ y = 3 ∨ y = 4 ∨ y = 5 ∨ y = 6 ∨ y = 7 ∨ y = 8 := by omega
  clear bad
  unfold bs_gk at l0 l1 l2 l3 l4 l5 l6 l7 l8
  rcases c with rfl | rfl | rfl | rfl | rfl | rfl | rfl | rfl | rfl
  · have q := l0 (e0.1 rfl)
    exact ⟨fun w => absurd w (by decide), fun _ => ⟨fun w => ⟨fun x => absurd x (by decide), fun _ => q.1 w _ (fun h2 x => ⟨fun _ => x, fun u => absurd rfl u⟩)⟩, fun w => bc_m_fails hk z0 (q.2 w)⟩⟩
  · have q := l1 (e1.1 rfl)
    exact ⟨fun w => absurd w (by decide), fun _ => ⟨fun w => ⟨fun x => absurd x (by decide), fun _ => q.1 w _ (fun h2 x => ⟨fun u => absurd u (by decide), fun _ => ⟨fun _ => x, fun u => absurd rfl u⟩⟩)⟩, fun w => bc_m_fails hk z0 (q.2 w)⟩⟩
  · have q := l2 (e2.1 rfl)
    exact ⟨fun _ => ⟨fun _ => ⟨fun w => absurd w (by decide), fun _ => ⟨fun w => absurd w (by decide), fun _ => ⟨fun _ => q, fun w => absurd rfl w⟩⟩⟩, fun w => absurd w (by decide)⟩, fun w => absurd w (by decide)⟩
  · have q := l3 (e3.1 rfl)
    exact ⟨fun _ => ⟨fun _ => ⟨fun w => absurd w (by decide), fun _ => ⟨fun w => absurd w (by decide), fun _ => ⟨fun w => absurd w (by decide), fun _ => ⟨fun _ => q, fun w => absurd rfl w⟩⟩⟩⟩, fun w => absurd w (by decide)⟩, fun w => absurd w (by decide)⟩
  · have q := l4 (e4.1 rfl)
    exact ⟨fun _ => ⟨fun _ => ⟨fun w => absurd w (by decide), fun _ => ⟨fun w => absurd w (by decide), fun _ => ⟨fun w => absurd w (by decide), fun _ => ⟨fun w => absurd w (by decide), fun _ => ⟨fun _ => q, fun w => absurd rfl w⟩⟩⟩⟩⟩, fun w => absurd w (by decide)⟩, fun w => absurd w (by decide)⟩
  · have q := l5 (e5.1 rfl)
    exact ⟨fun _ => ⟨fun _ => ⟨fun w => absurd w (by decide), fun _ => ⟨fun w => absurd w (by decide), fun _ => ⟨fun w => absurd w (by decide), fun _ => ⟨fun w => absurd w (by decide), fun _ => ⟨fun w => absurd w (by decide), fun _ => ⟨fun _ => q, fun w => absurd rfl w⟩⟩⟩⟩⟩⟩, fun w => absurd w (by decide)⟩, fun w => absurd w (by decide)⟩
  · have q := l6 (e6.1 rfl)
    exact ⟨fun _ => ⟨fun _ => ⟨fun w => absurd w (by decide), fun _ => ⟨fun w => absurd w (by decide), fun _ => ⟨fun w => absurd w (by decide), fun _ => ⟨fun w => absurd w (by decide), fun _ => ⟨fun w => absurd w (by decide), fun _ => ⟨fun w => absurd w (by decide), fun _ => ⟨fun _ => q, fun w => absurd rfl w⟩⟩⟩⟩⟩⟩⟩, fun w => absurd w (by decide)⟩, fun w => absurd w (by decide)⟩
  · have q := l7 (e7.1 rfl)
    exact ⟨fun _ => ⟨fun _ => ⟨fun w => absurd w (by decide), fun _ => ⟨fun w => absurd w (by decide), fun _ => ⟨fun w => absurd w (by decide), fun _ => ⟨fun w => absurd w (by decide), fun _ => ⟨fun w => absurd w (by decide), fun _ => ⟨fun w => absurd w (by decide), fun _ => ⟨fun w => absurd w (by decide), fun _ => ⟨fun _ => q, fun w => absurd rfl w⟩⟩⟩⟩⟩⟩⟩⟩, fun w => absurd w (by decide)⟩, fun w => absurd w (by decide)⟩
  · have q := l8 (e8.1 rfl)
    exact ⟨fun _ => ⟨fun _ => ⟨fun w => absurd w (by decide), fun _ => ⟨fun w => absurd w (by decide), fun _ => ⟨fun w => absurd w (by decide), fun _ => ⟨fun w => absurd w (by decide), fun _ => ⟨fun w => absurd w (by decide), fun _ => ⟨fun w => absurd w (by decide), fun _ => ⟨fun w => absurd w (by decide), fun _ => ⟨fun w => absurd w (by decide), fun _ => q⟩⟩⟩⟩⟩⟩⟩⟩, fun w => absurd w (by decide)⟩, fun w => absurd w (by decide)⟩
