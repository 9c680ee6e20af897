/-! ===== texts: what is needed next ===== -/
def bs_PT (T : Int → Int) (n : Int) (m : bc_H) : Prop := (∀ k, 0 ≤ k → k < n → m 7 k = T k) ∧ (∀ i, 0 ≤ i → i < 27 → m 8 i = bc_hB 8 i) ∧ m 6 9 = n ∧ ∃ p, 0 ≤ p ∧ bs_To T n p m
/-- the token of m1 follows that of m -/
def bs_nx (T : Int → Int) (n : Int) (m m1 : bc_H) : Prop := bs_PT T n m1 ∧ bs_To T n (m 6 10) m1
def bs_fl (m : bc_H) (k : Int) : bc_H := bc_upd (bc_upd m 6 1 (if m 6 12 = 4 then 1 else k)) 6 2 (m 6 11)
def bs_fg (m g : bc_H) (k : Int) : bc_H := bc_upd (bc_upd g 156 18 (if m 6 12 = 4 then 1 else k)) 156 17 (m 6 11)
theorem bs_PT_h {T : Int → Int} {n : Int} {m m' : bc_H} (h : bs_PT T n m) (e6 : ∀ y, 3 < y → m' 6 y = m 6 y) (e7 : m' 7 = m 7) (e8 : m' 8 = m 8) : bs_PT T n m' := by
  obtain ⟨a, b, c, p, p0, t⟩ := h
  refine ⟨fun k k0 k1 => by rw [e7]; exact a k k0 k1, fun i i0 i1 => by rw [e8]; exact b i i0 i1, by rw [e6 9 (by decide)]; exact c, p, p0, ?_⟩
  unfold bs_To at t ⊢
  rw [e6 10 (by decide), e6 11 (by decide), e6 12 (by decide), e6 4 (by decide), e6 5 (by decide), e6 6 (by decide), e6 13 (by decide), e6 14 (by decide)]
  exact t
theorem bs_PT_r {T : Int → Int} {n : Int} {m : bc_H} (h : bs_PT T n m) : 0 ≤ m 6 11 ∧ m 6 11 ≤ m 6 10 ∧ m 6 10 ≤ n ∧ (-1 ≤ m 6 4 ∧ m 6 4 < 27) := by
  obtain ⟨_, _, _, p, p0, t⟩ := h
  have b := t.1
  refine ⟨by omega, by omega, by omega, ?_⟩
  by_cases z : m 6 12 = 1
  · have w := bs_To_w t z
    by_cases l8 : m 6 13 ≤ 8
    · exact (w.2.2.2.1 l8).2.1
    · have := w.2.2.2.2 (by omega); omega
  · have := bs_To_n t z; omega
theorem bc_c_adv {d : Nat} {T : Int → Int} {n : Int} {m : bc_H} {K : bc_H → Prop} (n0 : 0 ≤ n ∧ n ≤ 900) (h : bs_PT T n m) (hK : ∀ m1, bs_Tl6 m m1 → bs_nx T n m m1 → K m1) : bf_Text_advance (d + 1) m (bc_U K) := by
  have r := bs_PT_r h
  obtain ⟨a, b, c, _⟩ := h
  refine bc_c_advance n0 (by omega) a b c rfl (fun m1 l t => hK m1 l ⟨⟨fun k k0 k1 => by rw [l.1 7 (by decide)]; exact a k k0 k1, fun i i0 i1 => by rw [l.1 8 (by decide)]; exact b i i0 i1, by rw [l.2 9 (by decide)]; exact c, m 6 10, by omega, t⟩, t⟩)
theorem bc_m_adv {d : Nat} {T : Int → Int} {n : Int} {m m1 g : bc_H} {K : bc_H → Prop} (n0 : 0 ≤ n ∧ n ≤ 900) (hb : bs_tb8 T n) (h : bs_PT T n m) (hx : bs_nx T n m m1) (hk : bs_Tk T n m g) (hK : ∀ g1, (∀ x, x ≠ 156 → g1 x = g x) → (∀ y, (y < 12 ∨ 15 < y) → g1 156 y = g 156 y) → bs_Tk T n m1 g1 → K g1) : bf_M_ahead (d + 1) g (bc_U K) := by
  have r := bs_PT_r h
  exact bc_m_ahead n0 (by omega) hb hk.1 hk.2.1.2.1 hx.2 hK
theorem bs_Tk_h {T : Int → Int} {n : Int} {m m' g g' : bc_H} (h : bs_Tk T n m g) (e6 : ∀ y, 3 < y → m' 6 y = m 6 y) (e : ∀ y, (11 ≤ y ∧ y ≤ 15) → g' 156 y = g 156 y) (e3 : g' 163 = g 163) : bs_Tk T n m' g' := by
  obtain ⟨⟨a, b⟩, ⟨c1, c2, c3⟩, d1, d2, d3⟩ := h
  refine ⟨⟨by rw [e 11 (by decide)]; exact a, by rw [e3]; exact b⟩, ⟨?_, ?_, ?_⟩, ?_, ?_, ?_⟩
  · rw [e 13 (by decide), e6 11 (by decide)]; exact c1
  · rw [e 14 (by decide), e6 10 (by decide)]; exact c2
  · rw [e 12 (by decide), e6 12 (by decide)]; exact c3
  · rw [e 15 (by decide), e6 12 (by decide), e6 14 (by decide)]; exact d1
  · rw [e 15 (by decide), e6 12 (by decide), e6 6 (by decide)]; exact d2
  · rw [e6 12 (by decide)]; exact d3
theorem bs_tmk_i {s : Int} (h0 : 0 ≤ s) (h4 : s ≤ 4) : (bs_tmk s = 0 ↔ s = 0) ∧ (bs_tmk s = 1 ↔ s = 4) ∧ (bs_tmk s = 2 ↔ s = 1) ∧ (bs_tmk s = 3 ↔ s = 2) ∧ (bs_tmk s = 4 ↔ s = 3) := by
  unfold bs_tmk
  (repeat' split) <;> omega
theorem bc_m_fails {d : Nat} {T : Int → Int} {n k : Int} {m g : bc_H} {A B : bc_H → Prop} (hk : bs_Tk T n m g) (z : g 156 18 = 0) (hB : B (bs_fg m g k)) : bf_M_fails d k g (bc_B A B) := by
  have t := (bs_tmk_i hk.2.2.2.2.1 hk.2.2.2.2.2).2.1
  refine rv_M_fails ⟨fun u => absurd z u, fun _ => ?_⟩
  rw [hk.2.1.2.2, hk.2.1.1]
  unfold bs_fg at hB
  by_cases u : m 6 12 = 4
  · rw [if_pos u] at hB; rw [if_pos (t.2 u)]; exact hB
  · rw [if_neg u] at hB; rw [if_neg (fun w => u (t.1 w))]; exact hB
/-! words, signs, numbers -/
theorem bc_c_needWord {d : Nat} {T : Int → Int} {n w : Int} {m : bc_H} {P N : bc_H → Prop} (n0 : 0 ≤ n ∧ n ≤ 900) (h : bs_PT T n m) (hP : m 6 4 = w → ∀ m1, bs_Tl6 m m1 → bs_nx T n m m1 → P m1) (hN : m 6 4 ≠ w → N (bs_fl m 2)) : bf_Text_needWord (d + 2) w m (bc_B P N) :=
  rv_Text_needWord (d := d + 1) ⟨fun z => bc_c_adv n0 h (fun m1 a b => hP z m1 a b), fun z => rv_Text_fail (hN z)⟩
theorem bc_c_needSign {d : Nat} {T : Int → Int} {n w : Int} {m : bc_H} {P N : bc_H → Prop} (n0 : 0 ≤ n ∧ n ≤ 900) (h : bs_PT T n m) (hP : m 6 6 = w → ∀ m1, bs_Tl6 m m1 → bs_nx T n m m1 → P m1) (hN : m 6 6 ≠ w → N (bs_fl m 2)) : bf_Text_needSign (d + 2) w m (bc_B P N) :=
  rv_Text_needSign (d := d + 1) ⟨fun z => bc_c_adv n0 h (fun m1 a b => hP z m1 a b), fun z => rv_Text_fail (hN z)⟩
def bs_nu (m : bc_H) (lo hi : Int) : Prop := m 6 12 = 2 ∧ lo ≤ m 6 14 ∧ m 6 14 ≤ hi
theorem bc_c_needNumber {d : Nat} {T : Int → Int} {n lo hi : Int} {m : bc_H} {P N : bc_H → Prop} (n0 : 0 ≤ n ∧ n ≤ 900) (h : bs_PT T n m) (hP : bs_nu m lo hi → ∀ m1, bs_Tl6 (bc_upd m 6 3 (m 6 14)) m1 → bs_nx T n m m1 → P m1) (hN : ∀ k, ¬ bs_nu m lo hi → (k = if m 6 12 = 2 then 4 else 2) → N (bs_fl m k)) : bf_Text_needNumber (d + 2) lo hi m (bc_B P N) := by
  refine rv_Text_needNumber (d := d + 1) ⟨fun z => ⟨fun lt => rv_Text_fail (hN 4 (fun u => absurd u.2.1 (by omega)) (if_pos z).symm), fun ge => ⟨fun le => ?_, fun gt => rv_Text_fail (hN 4 (fun u => absurd u.2.2 (by omega)) (if_pos z).symm)⟩⟩, fun z => rv_Text_fail (hN 2 (fun u => z u.1) (if_neg z).symm)⟩
  refine bc_c_adv n0 (bs_PT_h h (fun y hy => bc_uj (by omega)) (bc_urow (by decide)) (bc_urow (by decide))) (fun m1 a b => hP ⟨z, ge, le⟩ m1 a ⟨b.1, ?_⟩)
  have := b.2
  rw [bc_uj (by decide)] at this; exact this
theorem bs_km_i {i w : Int} (i0 : 0 ≤ i) (i1 : i < 27) (hw : w = bs_kml i) {x : Int} (x0 : -1 ≤ x) (x1 : x < 27) : bs_km x = w ↔ x = i := by
  unfold bs_km
  have ti := bs_w4 i0 i1
  by_cases z : x = -1
  · rw [if_pos z]; omega
  · rw [if_neg z]
    have tx := bs_w4 (i := x) (by omega) x1
    constructor
    · intro e
      rw [← tx.2, e, hw, ti.2]
    · intro e; rw [e, hw]
theorem bc_m_wantWord {d : Nat} {T : Int → Int} {n i w : Int} {m g : bc_H} {P N : bc_H → Prop} (n0 : 0 ≤ n ∧ n ≤ 900) (hb : bs_tb8 T n) (h : bs_PT T n m) (hk : bs_Tk T n m g) (i0 : 0 ≤ i) (i1 : i < 27) (hw : w = bs_kml i) (z0 : g 156 18 = 0) (hP : m 6 4 = i → ∃ m1, bs_nx T n m m1 ∧ ∀ g1, (∀ x, x ≠ 156 → g1 x = g x) → (∀ y, (y < 12 ∨ 15 < y) → g1 156 y = g 156 y) → bs_Tk T n m1 g1 → P g1) (hN : m 6 4 ≠ i → N (bs_fg m g 2)) : bf_M_wantWord (d + 2) w g (bc_B P N) := by
  have r := bs_PT_r h
  obtain ⟨p, p0, t⟩ := h.2.2.2
  have e := bs_km_i i0 i1 hw r.2.2.2.1 r.2.2.2.2
  refine rv_M_wantWord (d := d + 1) (bc_m_inWords (d := d) n0 p0 hb t hk ⟨fun z => ?_, fun z => bc_m_fails hk z0 (hN (fun u => z (e.2 u)))⟩)
  obtain ⟨m1, hx, hh⟩ := hP (e.1 z)
  exact bc_m_adv n0 hb h hx hk hh
theorem bc_m_isThere {d : Nat} {T : Int → Int} {n i w : Int} {m g : bc_H} {P N : bc_H → Prop} (n0 : 0 ≤ n ∧ n ≤ 900) (hb : bs_tb8 T n) (h : bs_PT T n m) (hk : bs_Tk T n m g) (i0 : 0 ≤ i) (i1 : i < 27) (hw : w = bs_kml i) (hP : m 6 4 = i → ∃ m1, bs_nx T n m m1 ∧ ∀ g1, (∀ x, x ≠ 156 → g1 x = g x) → (∀ y, (y < 12 ∨ 15 < y) → g1 156 y = g 156 y) → bs_Tk T n m1 g1 → P g1) (hN : m 6 4 ≠ i → N g) : bf_M_isThere (d + 2) w g (bc_B P N) := by
  have r := bs_PT_r h
  obtain ⟨p, p0, t⟩ := h.2.2.2
  have e := bs_km_i i0 i1 hw r.2.2.2.1 r.2.2.2.2
  refine rv_M_isThere (d := d + 1) (bc_m_inWords (d := d) n0 p0 hb t hk ⟨fun z => ?_, fun z => hN (fun u => z (e.2 u))⟩)
  obtain ⟨m1, hx, hh⟩ := hP (e.1 z)
  exact bc_m_adv n0 hb h hx hk hh
theorem bs_sign {T : Int → Int} {n c : Int} {m g : bc_H} (h : bs_PT T n m) (hk : bs_Tk T n m g) (c0 : 0 ≤ c) : (g 156 12 = 4 ∧ g 156 15 = c) ↔ m 6 6 = c := by
  obtain ⟨p, p0, t⟩ := h.2.2.2
  have ti := (bs_tmk_i hk.2.2.2.2.1 hk.2.2.2.2.2).2.2.2.2
  rw [hk.2.1.2.2, ti]
  constructor
  · intro u; rw [← hk.2.2.2.1 u.1]; exact u.2
  · intro u
    have z : m 6 12 = 3 := by
      obtain ⟨_, _, cs⟩ := t
      rcases cs with cs | ⟨_, _, cs⟩
      · omega
      · rcases cs with cs | cs | cs
        · omega
        · omega
        · rcases cs.2.2.2.2 with cs | cs
          · exact cs.2.1
          · omega
    exact ⟨z, by rw [hk.2.2.2.1 z]; exact u⟩
theorem bc_m_wantSign {d : Nat} {T : Int → Int} {n c : Int} {m g : bc_H} {P N : bc_H → Prop} (n0 : 0 ≤ n ∧ n ≤ 900) (hb : bs_tb8 T n) (h : bs_PT T n m) (hk : bs_Tk T n m g) (c0 : 0 ≤ c) (z0 : g 156 18 = 0) (hP : m 6 6 = c → ∃ m1, bs_nx T n m m1 ∧ ∀ g1, (∀ x, x ≠ 156 → g1 x = g x) → (∀ y, (y < 12 ∨ 15 < y) → g1 156 y = g 156 y) → bs_Tk T n m1 g1 → P g1) (hN : m 6 6 ≠ c → N (bs_fg m g 2)) : bf_M_wantSign (d + 2) c g (bc_B P N) := by
  have e := bs_sign h hk c0
  refine rv_M_wantSign (d := d + 1) (rv_M_isSign ⟨fun z => ?_, fun z => bc_m_fails hk z0 (hN (fun u => z (e.2 u)))⟩)
  obtain ⟨m1, hx, hh⟩ := hP (e.1 z)
  exact bc_m_adv n0 hb h hx hk hh
theorem bc_m_number {d : Nat} {T : Int → Int} {n to lo hi : Int} {m g : bc_H} {P N : bc_H → Prop} (n0 : 0 ≤ n ∧ n ≤ 900) (hb : bs_tb8 T n) (h : bs_PT T n m) (hk : bs_Tk T n m g) (t0 : 0 ≤ to ∧ to < 3968) (z0 : g 156 18 = 0) (hP : bs_nu m lo hi → ∃ m1, bs_nx T n m m1 ∧ ∀ g1, (∀ x, x ≠ 156 → g1 x = bc_upd g 157 to (m 6 14) x) → (∀ y, (y < 12 ∨ 15 < y) → g1 156 y = g 156 y) → bs_Tk T n m1 g1 → P g1) (hN : ∀ k, ¬ bs_nu m lo hi → (k = if m 6 12 = 2 then 4 else 2) → N (bs_fg m g k)) : bf_M_number (d + 2) to lo hi g (bc_B P N) := by
  have ti := (bs_tmk_i hk.2.2.2.2.1 hk.2.2.2.2.2).2.2.2.1
  refine rv_M_number (d := d + 1) ?_
  rw [hk.2.1.2.2, Ne, ti]
  refine ⟨fun z => ?_, fun z => bc_m_fails hk z0 (hN 2 (fun u => z u.1) (if_neg z).symm)⟩
  have e15 := hk.2.2.1 z
  rw [e15]
  refine ⟨fun lt => bc_m_fails hk z0 (hN 4 (fun u => absurd u.2.1 (by omega)) (if_pos z).symm), fun ge => ⟨fun le => ⟨t0, ?_⟩, fun gt => bc_m_fails hk z0 (hN 4 (fun u => absurd u.2.2 (by omega)) (if_pos z).symm)⟩⟩
  obtain ⟨m1, hx, hh⟩ := hP ⟨z, ge, le⟩
  have hk' : bs_Tk T n m (bc_upd g 157 to (m 6 14)) := bs_Tk_h hk (fun _ _ => rfl) (fun y _ => by rw [bc_urow (by decide)]) (bc_urow (by decide))
  exact bc_m_adv n0 hb h hx hk' (fun g1 a b c => hh g1 a (fun y hy => by rw [b y hy, bc_urow (by decide)]) c)
/-! names -/
def bs_isn (m : bc_H) : Prop := m 6 12 = 1 ∧ (m 6 4 = -1 ∧ m 6 13 ≤ 8)
theorem bs_fstS (p : Int → Prop) [DecidablePred p] {n : Int} (h : 0 ≤ n) : bs_fst p (n + 1) = if bs_fst p n = -1 then (if p n then n else -1) else bs_fst p n := bc_its _ _ h
theorem bs_fst_y (p : Int → Prop) [DecidablePred p] {n k : Int} (k0 : 0 ≤ k) (k1 : k < n) (a : bs_fst p k = -1) (hk : p k) : bs_fst p n = k := by
  have last : ∀ j : Nat, bs_fst p (k + 1 + j) = k := by
    intro j
    induction j with
    | zero => rw [show k + 1 + ((0 : Nat) : Int) = k + 1 by omega, bs_fstS p k0, if_pos a, if_pos hk]
    | succ j ihj => rw [show k + 1 + ((j + 1 : Nat) : Int) = k + 1 + (j : Int) + 1 by omega, bs_fstS p (by omega), ihj, if_neg (by omega)]
  have := last (n - (k + 1)).toNat
  rw [show k + 1 + (((n - (k + 1)).toNat : Nat) : Int) = n by omega] at this
  exact this
theorem bc_c_isTaken {d : Nat} {c x : Int} {m : bc_H} {P N : bc_H → Prop} (n0 : 0 ≤ m c 11) (n1 : m c 11 ≤ 26) (hP : bs_fst (fun i => m (c + 17) i = x) (m c 11) ≠ -1 → P m) (hN : bs_fst (fun i => m (c + 17) i = x) (m c 11) = -1 → N m) : bf_Cave_isTaken d c x m (bc_B P N) := by
  refine rv_Cave_isTaken ?_
  refine bc_lup (P := fun k => bs_fst (fun i => m (c + 17) i = x) k = -1 → bl_Cave_isTaken_2 d c x k m (bc_B P N)) (n := m c 11) (fun a => ?_) (fun k k0 k1 ih a => ?_) (Int.le_refl 0) n0 rfl
  · exact rv_Cave_isTaken_2 ⟨fun _ => hN a, fun u => absurd u (by omega)⟩
  · refine rv_Cave_isTaken_2 ⟨fun u => absurd u (by omega), fun _ => ⟨by omega, fun ne => ?_, fun e => hP ?_⟩⟩
    · rw [bc_wi (x := k + 1) (by omega) (by omega)]
      exact ih (by rw [bs_fstS _ k0, if_pos a, if_neg ne])
    · rw [bs_fst_y _ k0 k1 a e]; omega
theorem bc_c_named {d : Nat} {c x K0 : Int} {m : bc_H} {K : Int → bc_H → Prop} (n0 : 0 ≤ m c 11) (n1 : m c 11 ≤ 26) (hK : K (bs_cn (m c 11) (m (c + 17)) (m (c + 18)) (m (c + 19)) K0 x) m) : bf_Cave_named d c x K0 m (bc_I K) := by
  unfold bs_cn at hK
  refine rv_Cave_named ?_
  refine bc_lup (P := fun k => bs_fst (fun i => m (c + 17) i = x ∧ m (c + 18) i = K0) k = -1 → bl_Cave_named_2 d c x K0 k m (bc_I K)) (n := m c 11) (fun a => ?_) (fun k k0 k1 ih a => ?_) (Int.le_refl 0) n0 rfl
  · rw [if_pos a] at hK
    exact rv_Cave_named_2 ⟨fun _ => hK, fun u => absurd u (by omega)⟩
  · have next : ¬ (m (c + 17) k = x ∧ m (c + 18) k = K0) → bl_Cave_named_2 d c x K0 (bc_w32 (k + 1)) m (bc_I K) := fun ne => by
      rw [bc_wi (x := k + 1) (by omega) (by omega)]
      exact ih (by rw [bs_fstS _ k0, if_pos a, if_neg ne])
    refine rv_Cave_named_2 ⟨fun u => absurd u (by omega), fun _ => ⟨by omega, fun ne => next (fun u => ne u.1), fun e => ⟨by omega, fun ne => next (fun u => ne u.2), fun e2 => ⟨by omega, ?_⟩⟩⟩⟩
    have f := bs_fst_y (fun i => m (c + 17) i = x ∧ m (c + 18) i = K0) k0 k1 a ⟨e, e2⟩
    rw [f, if_neg (by omega)] at hK
    exact hK
/-- a name more in the class's cave c -/
def bs_an (m : bc_H) (c k x : Int) : bc_H := bc_upd (bc_upd (bc_upd (bc_upd m (c + 17) (m c 11) (m 6 5)) (c + 18) (m c 11) k) (c + 19) (m c 11) x) c 11 (m c 11 + 1)
theorem bc_c_newName {d : Nat} {T : Int → Int} {n c k x : Int} {m : bc_H} {P N : bc_H → Prop} (hc : 24 ≤ c ∧ c ≤ 44) (n0 : 0 ≤ n ∧ n ≤ 900) (h : bs_PT T n m) (h9 : m 9 1 = c) (q0 : 0 ≤ m c 11) (q1 : m c 11 < 26)
    (hP : bs_isn m → bs_fst (fun i => m (c + 17) i = m 6 5) (m c 11) = -1 → ∀ m1, bs_Tl6 (bs_an m c k x) m1 → bs_nx T n m m1 → P m1) (hN2 : ¬ bs_isn m → N (bs_fl m 2)) (hN3 : bs_isn m → bs_fst (fun i => m (c + 17) i = m 6 5) (m c 11) ≠ -1 → N (bs_fl m 3)) : bf_Reader_newName (d + 2) k x m (bc_B P N) := by
  refine rv_Reader_newName (d := d + 1) (rv_Text_isName ⟨fun z => ?_, fun z => rv_Text_fail (hN2 z)⟩)
  rw [h9]
  refine ⟨by omega, bc_c_isTaken q0 (by omega) (fun t => rv_Text_fail (hN3 z t)) (fun t => ?_)⟩
  rw [h9]
  refine ⟨by omega, rv_Cave_addName ⟨fun u => absurd u (by omega), fun _ => ?_⟩⟩
  rw [bc_ur (h := m) (r := c + 17) (a := c) (by omega)]
  have e2 : bc_upd (bc_upd m (c + 17) (m c 11) (m 6 5)) (c + 18) (m c 11) k c 11 = m c 11 := by rw [bc_ur (by omega), bc_ur (by omega)]
  rw [e2]
  refine ⟨by omega, by omega, by omega, fun h2 eh => ?_⟩
  have e3 : h2 c 11 = m c 11 := by rw [eh, bc_ur (by omega)]; exact e2
  rw [e3, bc_wi (x := m c 11 + 1) (by omega) (by omega), eh]
  have r6 : bc_upd (bc_upd (bc_upd (bc_upd m (c + 17) (m c 11) (m 6 5)) (c + 18) (m c 11) k) (c + 19) (m c 11) x) c 11 (m c 11 + 1) 6 = m 6 := by rw [bc_urow (by omega), bc_urow (by omega), bc_urow (by omega), bc_urow (by omega)]
  have r7 : bc_upd (bc_upd (bc_upd (bc_upd m (c + 17) (m c 11) (m 6 5)) (c + 18) (m c 11) k) (c + 19) (m c 11) x) c 11 (m c 11 + 1) 7 = m 7 := by rw [bc_urow (by omega), bc_urow (by omega), bc_urow (by omega), bc_urow (by omega)]
  have r8 : bc_upd (bc_upd (bc_upd (bc_upd m (c + 17) (m c 11) (m 6 5)) (c + 18) (m c 11) k) (c + 19) (m c 11) x) c 11 (m c 11 + 1) 8 = m 8 := by rw [bc_urow (by omega), bc_urow (by omega), bc_urow (by omega), bc_urow (by omega)]
  refine bc_c_adv n0 (bs_PT_h h (fun y _ => by rw [r6]) r7 r8) (fun m1 a b => hP z t m1 a ⟨b.1, ?_⟩)
  have := b.2
  rw [r6] at this; exact this
theorem bc_c_knownName {d : Nat} {T : Int → Int} {n c k u : Int} {m : bc_H} {P N : bc_H → Prop} (hc : 24 ≤ c ∧ c ≤ 44) (n0 : 0 ≤ n ∧ n ≤ 900) (h : bs_PT T n m) (h9 : m 9 1 = c) (q0 : 0 ≤ m c 11) (q1 : m c 11 ≤ 26) (k0 : 0 ≤ k) (k1 : k < 12)
    (hP : bs_isn m → bs_cn (m c 11) (m (c + 17)) (m (c + 18)) (m (c + 19)) k (m 6 5) ≠ -1 → bs_cn (m c 11) (m (c + 17)) (m (c + 18)) (m (c + 19)) k (m 6 5) ≠ u → ∀ m1, bs_Tl6 (bc_upd m 10 k (bs_cn (m c 11) (m (c + 17)) (m (c + 18)) (m (c + 19)) k (m 6 5))) m1 → bs_nx T n m m1 → P m1)
    (hN2 : ¬ bs_isn m → N (bs_fl m 2)) (hN3 : bs_isn m → bs_cn (m c 11) (m (c + 17)) (m (c + 18)) (m (c + 19)) k (m 6 5) = -1 → N (bs_fl m 3)) (hN5 : bs_isn m → bs_cn (m c 11) (m (c + 17)) (m (c + 18)) (m (c + 19)) k (m 6 5) ≠ -1 → bs_cn (m c 11) (m (c + 17)) (m (c + 18)) (m (c + 19)) k (m 6 5) = u → N (bs_fl m 5)) : bf_Reader_knownName (d + 2) k u m (bc_B P N) := by
  refine rv_Reader_knownName (d := d + 1) (rv_Text_isName ⟨fun z => ?_, fun z => rv_Text_fail (hN2 z)⟩)
  rw [h9]
  refine ⟨by omega, bc_c_named q0 q1 ⟨fun a => ⟨fun b => ⟨by omega, ?_⟩, fun b => rv_Text_fail (hN5 z a b)⟩, fun a => rv_Text_fail (hN3 z a)⟩⟩
  refine bc_c_adv n0 (bs_PT_h h (fun y _ => by rw [bc_urow (by decide)]) (bc_urow (by decide)) (bc_urow (by decide))) (fun m1 x y => hP z a b m1 x ⟨y.1, ?_⟩)
  have := y.2
  rw [bc_urow (by decide)] at this; exact this
theorem bc_m_oldOne {d : Nat} {T : Int → Int} {n off many to : Int} {m g : bc_H} {NM : Int → Int} {P N : bc_H → Prop} (n0 : 0 ≤ n ∧ n ≤ 900) (hb : bs_tb8 T n) (h : bs_PT T n m) (hk : bs_Tk T n m g) (t0 : 0 ≤ to ∧ to < 3968) (z0 : g 156 18 = 0) (o0 : 0 ≤ off) (m0 : 0 ≤ many) (o1 : off + many ≤ 156) (eN : ∀ k, 0 ≤ k → k < many → g 158 (off + k) = NM k)
    (hP : bs_isn m → bs_fst (fun k => NM k = bs_c256 (bs_wl T (m 6 11) (m 6 10))) many ≠ -1 → ∃ m1, bs_nx T n m m1 ∧ ∀ g1, (∀ x, x ≠ 156 → g1 x = bc_upd g 157 to (bs_fst (fun k => NM k = bs_c256 (bs_wl T (m 6 11) (m 6 10))) many) x) → (∀ y, (y < 12 ∨ 15 < y) → g1 156 y = g 156 y) → bs_Tk T n m1 g1 → P g1)
    (hN2 : ¬ bs_isn m → N (bs_fg m g 2)) (hN3 : bs_isn m → bs_fst (fun k => NM k = bs_c256 (bs_wl T (m 6 11) (m 6 10))) many = -1 → N (bs_fg m (bc_upd g 157 to (-1)) 3)) : bf_M_oldOne (d + 3) off many to g (bc_B P N) := by
  obtain ⟨p, p0, t⟩ := h.2.2.2
  refine rv_M_oldOne (d := d + 2) (bc_m_isName (d := d) n0 p0 hb t hk (fun z => ?_) (fun z => bc_m_fails hk z0 (hN2 z)))
  refine bc_m_findHere (d := d) (NM := NM) n0 p0 hb t hk z.1 z.2.2 o0 m0 o1 eN ⟨t0, t0, ?_, ?_⟩
  · rw [bc_uu]
    intro a
    obtain ⟨m1, hx, hh⟩ := hP z a
    have hk' : bs_Tk T n m (bc_upd g 157 to (bs_fst (fun k => NM k = bs_c256 (bs_wl T (m 6 11) (m 6 10))) many)) := bs_Tk_h hk (fun _ _ => rfl) (fun y _ => by rw [bc_urow (by decide)]) (bc_urow (by decide))
    exact bc_m_adv n0 hb h hx hk' (fun g1 a b c => hh g1 a (fun y hy => by rw [b y hy, bc_urow (by decide)]) c)
  · rw [bc_uu]
    intro a
    rw [a]
    exact bc_m_fails (T := T) (n := n) (bs_Tk_h hk (fun _ _ => rfl) (fun y _ => by rw [bc_urow (by decide)]) (bc_urow (by decide))) (by rw [bc_urow (by decide)]; exact z0) (hN3 z a)
