/-! ===== texts: words that are no names ===== -/
def bs_KY (k : Int) : Int := (bc_str 1).getD k.toNat 0
def bs_wS (j : Int) : Int := ([1, 6, 11, 17, 22, 26, 34, 41, 46, 54, 57, 63, 68, 73, 76, 82, 89, 96, 101, 106, 111, 115, 120, 125, 129, 134, 141, 146] : List Int).getD j.toNat 146
def bs_wE (j : Int) : Int := ([5, 10, 16, 21, 25, 33, 40, 45, 53, 56, 62, 67, 72, 75, 81, 88, 95, 100, 105, 110, 114, 119, 124, 128, 133, 140, 145] : List Int).getD j.toNat 0
def bs_cod (i : Int) : Int := ([394672, 495763, 2262644, 755084, 486, 17478035, 23609, 409031, 23944548850, 628102, 52, 211015237, 20604293, 514226, 6958759667, 777297172, 446125701, 398372, 755045, 206220, 1497, 762030, 693713060, 132683, 409072, 5572, 643568] : List Int).getD i.toNat 0
def bs_kml (i : Int) : Int := ([0, 1, 2, 3, 9, 10, 4, 11, 5, 12, 13, 6, 14, 7, 8, 15, 16, 17, 18, 19, 20, 21, 25, 26, 22, 23, 24] : List Int).getD i.toNat (-1)
def bs_kmi (j : Int) : Int := ([0, 1, 2, 3, 6, 8, 11, 13, 14, 4, 5, 7, 9, 10, 12, 15, 16, 17, 18, 19, 20, 21, 24, 25, 26, 22, 23] : List Int).getD j.toNat (-1)
def bs_km (i : Int) : Int := if i = -1 then -1 else bs_kml i
theorem bs_hB8 : ∀ i : Nat, i < 27 → bc_hB 8 (i : Int) = bs_cod (i : Int) := by decide +kernel
theorem bs_wF : ∀ j : Nat, j < 27 → (1 ≤ bs_wS (j : Int) ∧ bs_wS (j : Int) < bs_wE (j : Int) ∧ bs_wE (j : Int) ≤ bs_wS (j : Int) + 7 ∧ bs_wE (j : Int) ≤ 145) ∧ bs_KY (bs_wE (j : Int)) = 32 ∧ bs_wS ((j : Int) + 1) = bs_wE (j : Int) + 1 := by decide +kernel
theorem bs_wF2 : ∀ j : Nat, j < 27 → ∀ i : Nat, i < 7 → (i : Int) < bs_wE (j : Int) - bs_wS (j : Int) → 97 ≤ bs_KY (bs_wS (j : Int) + (i : Int)) ∧ bs_KY (bs_wS (j : Int) + (i : Int)) ≤ 122 := by decide +kernel
theorem bs_wF3 : ∀ j : Nat, j < 27 → bs_c32 (bs_wl bs_KY (bs_wS (j : Int)) (bs_wE (j : Int))) = bs_cod (bs_kmi (j : Int)) ∧ (0 ≤ bs_kmi (j : Int) ∧ bs_kmi (j : Int) < 27) ∧ bs_kml (bs_kmi (j : Int)) = (j : Int) := by decide +kernel
theorem bs_wF4 : ∀ i : Nat, i < 27 → (0 ≤ bs_kml (i : Int) ∧ bs_kml (i : Int) < 27) ∧ bs_kmi (bs_kml (i : Int)) = (i : Int) := by decide +kernel
theorem bs_wF5 : ∀ i : Nat, i < 27 → ∀ j : Nat, j < 27 → bs_cod (i : Int) = bs_cod (j : Int) → i = j := by decide +kernel

theorem bs_w1 {j : Int} (j0 : 0 ≤ j) (j1 : j < 27) : (1 ≤ bs_wS j ∧ bs_wS j < bs_wE j ∧ bs_wE j ≤ bs_wS j + 7 ∧ bs_wE j ≤ 145) ∧ bs_KY (bs_wE j) = 32 ∧ bs_wS (j + 1) = bs_wE j + 1 := by
  have t := bs_wF j.toNat (by omega)
  rw [show ((j.toNat : Nat) : Int) = j by omega] at t; exact t
theorem bs_w2 {j i : Int} (j0 : 0 ≤ j) (j1 : j < 27) (i0 : bs_wS j ≤ i) (i1 : i < bs_wE j) : bs_let (bs_KY i) := by
  have w := (bs_w1 j0 j1).1
  have t := bs_wF2 j.toNat (by omega) (i - bs_wS j).toNat (by omega)
  rw [show ((j.toNat : Nat) : Int) = j by omega, show (((i - bs_wS j).toNat : Nat) : Int) = i - bs_wS j by omega, show bs_wS j + (i - bs_wS j) = i by omega] at t
  exact t (by omega)
theorem bs_w3 {j : Int} (j0 : 0 ≤ j) (j1 : j < 27) : bs_c32 (bs_wl bs_KY (bs_wS j) (bs_wE j)) = bc_hB 8 (bs_kmi j) ∧ (0 ≤ bs_kmi j ∧ bs_kmi j < 27) ∧ bs_kml (bs_kmi j) = j := by
  have t := bs_wF3 j.toNat (by omega)
  rw [show ((j.toNat : Nat) : Int) = j by omega] at t
  have u := bs_hB8 (bs_kmi j).toNat (by omega)
  rw [show (((bs_kmi j).toNat : Nat) : Int) = bs_kmi j by omega] at u
  rw [u]; exact t
theorem bs_w4 {i : Int} (i0 : 0 ≤ i) (i1 : i < 27) : (0 ≤ bs_kml i ∧ bs_kml i < 27) ∧ bs_kmi (bs_kml i) = i := by
  have t := bs_wF4 i.toNat (by omega)
  rw [show ((i.toNat : Nat) : Int) = i by omega] at t; exact t
theorem bs_w5 {i j : Int} (i0 : 0 ≤ i) (i1 : i < 27) (j0 : 0 ≤ j) (j1 : j < 27) (e : bc_hB 8 i = bc_hB 8 j) : i = j := by
  have u := bs_hB8 i.toNat (by omega)
  have v := bs_hB8 j.toNat (by omega)
  have t := bs_wF5 i.toNat (by omega) j.toNat (by omega)
  rw [show ((i.toNat : Nat) : Int) = i by omega] at u t
  rw [show ((j.toNat : Nat) : Int) = j by omega] at v t
  have := t (by rw [← u, ← v]; exact e)
  omega
theorem bs_wl_inj {T U : Int → Int} {q r : Int} : ∀ m m' : Nat, (∀ k, q ≤ k → k < q + m → bs_let (T k)) → (∀ k, r ≤ k → k < r + m' → bs_let (U k)) → m ≤ 8 → m' ≤ 8 → bs_c32 (bs_wl T q (q + m)) = bs_c32 (bs_wl U r (r + m')) → m = m' ∧ ∀ i : Int, 0 ≤ i → i < m → T (q + i) = U (r + i)
  | 0, 0, _, _, _, _, _ => ⟨rfl, fun i i0 i1 => absurd i1 (by omega)⟩
  | 0, m' + 1, _, hU, _, h8, e => by
    have l := hU (r + m') (by omega) (by omega)
    have c := bs_c32_r U (q := r) m' (by omega) (fun k a b => hU k a (by omega))
    rw [show q + ((0 : Nat) : Int) = q by omega, bs_wl_0, show r + ((m' + 1 : Nat) : Int) = r + (m' : Int) + 1 by omega, bs_wl_s U (by omega), bs_c32_s] at e
    have e : (0 : Int) = bs_c32 (bs_wl U r (r + m')) * 32 + (U (r + m') - 96) := e
    unfold bs_let at l
    omega
  | m + 1, 0, hT, _, h8, _, e => by
    have l := hT (q + m) (by omega) (by omega)
    have c := bs_c32_r T (q := q) m (by omega) (fun k a b => hT k a (by omega))
    rw [show r + ((0 : Nat) : Int) = r by omega, bs_wl_0, show q + ((m + 1 : Nat) : Int) = q + (m : Int) + 1 by omega, bs_wl_s T (by omega), bs_c32_s] at e
    have e : bs_c32 (bs_wl T q (q + m)) * 32 + (T (q + m) - 96) = (0 : Int) := e
    unfold bs_let at l
    omega
  | m + 1, m' + 1, hT, hU, h8, h8', e => by
    have l := hT (q + m) (by omega) (by omega)
    have l' := hU (r + m') (by omega) (by omega)
    rw [show q + ((m + 1 : Nat) : Int) = q + (m : Int) + 1 by omega, bs_wl_s T (by omega), bs_c32_s, show r + ((m' + 1 : Nat) : Int) = r + (m' : Int) + 1 by omega, bs_wl_s U (by omega), bs_c32_s] at e
    unfold bs_let at l l'
    have ih := bs_wl_inj m m' (fun k a b => hT k a (by omega)) (fun k a b => hU k a (by omega)) (by omega) (by omega) (by omega)
    refine ⟨by omega, fun i i0 i1 => ?_⟩
    by_cases z : i = m
    · subst z
      have := ih.1
      subst this
      omega
    · exact ih.2 i i0 (by omega)
theorem bs_wl_eq {T U : Int → Int} {q r : Int} : ∀ m : Nat, (∀ i : Int, 0 ≤ i → i < m → T (q + i) = U (r + i)) → bs_wl T q (q + m) = bs_wl U r (r + m)
  | 0, _ => by rw [show q + ((0 : Nat) : Int) = q by omega, show r + ((0 : Nat) : Int) = r by omega, bs_wl_0, bs_wl_0]
  | m + 1, h => by
    rw [show q + ((m + 1 : Nat) : Int) = q + (m : Int) + 1 by omega, show r + ((m + 1 : Nat) : Int) = r + (m : Int) + 1 by omega, bs_wl_s T (by omega), bs_wl_s U (by omega), bs_wl_eq m (fun i i0 i1 => h i i0 (by omega)), h m (by omega) (by omega)]
/-- what is so of a word -/
def bs_Tw (T : Int → Int) (m : bc_H) : Prop := m 6 11 < m 6 10 ∧ (∀ k, m 6 11 ≤ k → k < m 6 10 → bs_let (T k)) ∧ m 6 13 = m 6 10 - m 6 11 ∧ (m 6 13 ≤ 8 → m 6 5 = bs_c32 (bs_wl T (m 6 11) (m 6 10)) ∧ (-1 ≤ m 6 4 ∧ m 6 4 < 27) ∧ (m 6 4 ≠ -1 → bc_hB 8 (m 6 4) = m 6 5) ∧ (m 6 4 = -1 → ∀ i, 0 ≤ i → i < 27 → bc_hB 8 i ≠ m 6 5)) ∧ (8 < m 6 13 → m 6 4 = -1)
theorem bs_To_w {T : Int → Int} {n p : Int} {m : bc_H} (h : bs_To T n p m) (z : m 6 12 = 1) : bs_Tw T m := by
  obtain ⟨_, _, c⟩ := h
  rcases c with c | ⟨_, _, c⟩
  · omega
  · rcases c with c | c | c
    · exact ⟨c.2.2.1, c.2.2.2.1, c.2.2.2.2.2.1, c.2.2.2.2.2.2.1, c.2.2.2.2.2.2.2⟩
    · omega
    · omega
theorem bs_To_n {T : Int → Int} {n p : Int} {m : bc_H} (h : bs_To T n p m) (z : m 6 12 ≠ 1) : m 6 4 = -1 := by
  obtain ⟨_, _, c⟩ := h
  rcases c with c | ⟨_, _, c⟩
  · exact c.2.2.2.1
  · rcases c with c | c | c
    · exact absurd c.1 z
    · exact c.2.1
    · exact c.2.2.2.1
theorem bs_kw {T : Int → Int} {m : bc_H} (h : bs_Tw T m) {j : Int} (j0 : 0 ≤ j) (j1 : j < 27) : (bs_wE j - bs_wS j = m 6 10 - m 6 11 ∧ ∀ i, 0 ≤ i → i < bs_wE j - bs_wS j → bs_KY (bs_wS j + i) = T (m 6 11 + i)) ↔ m 6 4 = bs_kmi j := by
  obtain ⟨h1, h2, h3, h4, h5⟩ := h
  have w := bs_w1 j0 j1
  have w3 := bs_w3 j0 j1
  constructor
  · intro ⟨a, b⟩
    have q := h4 (by omega)
    have e := bs_wl_eq (T := bs_KY) (U := T) (q := bs_wS j) (r := m 6 11) (bs_wE j - bs_wS j).toNat (fun i i0 i1 => b i i0 (by omega))
    rw [show bs_wS j + (((bs_wE j - bs_wS j).toNat : Nat) : Int) = bs_wE j by omega, show m 6 11 + (((bs_wE j - bs_wS j).toNat : Nat) : Int) = m 6 10 by omega] at e
    rw [e] at w3
    by_cases z : m 6 4 = -1
    · exact absurd (by rw [q.1, ← w3.1]) (q.2.2.2 z (bs_kmi j) w3.2.1.1 w3.2.1.2)
    · exact bs_w5 (by omega) q.2.1.2 w3.2.1.1 w3.2.1.2 (by rw [q.2.2.1 z, q.1, ← w3.1])
  · intro z
    have l8 : m 6 13 ≤ 8 := Classical.byContradiction (fun u => by
      have := h5 (by omega)
      omega)
    have q := h4 l8
    have e : bs_c32 (bs_wl bs_KY (bs_wS j) (bs_wE j)) = bs_c32 (bs_wl T (m 6 11) (m 6 10)) := by
      rw [w3.1, ← z, q.2.2.1 (by omega), q.1]
    have t := bs_wl_inj (T := bs_KY) (U := T) (q := bs_wS j) (r := m 6 11) (bs_wE j - bs_wS j).toNat (m 6 10 - m 6 11).toNat (fun k a b => bs_w2 j0 j1 a (by omega)) (fun k a b => h2 k a (by omega)) (by omega) (by omega) (by
      rw [show bs_wS j + (((bs_wE j - bs_wS j).toNat : Nat) : Int) = bs_wE j by omega, show m 6 11 + (((m 6 10 - m 6 11).toNat : Nat) : Int) = m 6 10 by omega]; exact e)
    exact ⟨by omega, fun i i0 i1 => t.2 i i0 (by omega)⟩
theorem bc_m_inWords {d : Nat} {T : Int → Int} {n p : Int} {m g : bc_H} {K : Int → bc_H → Prop} (n0 : 0 ≤ n ∧ n ≤ 900) (p0 : 0 ≤ p) (hb : bs_tb8 T n) (hT : bs_To T n p m) (hk : bs_Tk T n m g) (hK : K (bs_km (m 6 4)) g) : bf_M_inWords (d + 1) g (bc_I K) := by
  obtain ⟨hx, ⟨k13, k14, k12⟩, _, _, kr⟩ := hk
  have bnd := hT.1
  refine rv_M_inWords (d := d) ?_
  rw [k12]
  refine ⟨fun z2 => ?_, fun n2 => ?_⟩
  · have z1 : m 6 12 = 1 := by
      unfold bs_tmk at z2
      split at z2
      · omega
      · split at z2 <;> omega
    have w := bs_To_w hT z1
    have no27 : (∀ j, 0 ≤ j → j < 27 → m 6 4 ≠ bs_kmi j) → m 6 4 = -1 := fun al => by
      refine Classical.byContradiction (fun u => ?_)
      have l8 : m 6 13 ≤ 8 := Classical.byContradiction (fun v => u (w.2.2.2.2 (by omega)))
      have q := w.2.2.2.1 l8
      have t := bs_w4 (i := m 6 4) (by omega) q.2.1.2
      exact al _ t.1.1 t.1.2 t.2.symm
    have st0 : bs_wS 0 = 1 := by decide +kernel
    have key : bl_M_inWords_10 (d + 1) 0 (bs_wS 0) g (bc_I K) := by
      refine bc_lup (P := fun j => (∀ i, 0 ≤ i → i < j → m 6 4 ≠ bs_kmi i) → bl_M_inWords_10 (d + 1) j (bs_wS j) g (bc_I K)) (n := 27) (fun al => ?_) (fun j j0 j1 ih al => ?_) (Int.le_refl 0) (by omega) (fun i i0 i1 => absurd i1 (by omega))
      · refine rv_M_inWords_10 (d := d) ⟨fun _ => ?_, fun u => absurd u (by decide +kernel)⟩
        have : bs_km (m 6 4) = -1 := by rw [no27 al]; rfl
        rw [this] at hK; exact hK
      · have w1 := bs_w1 j0 j1
        have kw := bs_kw w j0 j1
        have next : m 6 4 ≠ bs_kmi j → bl_M_inWords_10 (d + 1) (bc_w32 (j + 1)) (bc_w32 (bs_wE j + 1)) g (bc_I K) := fun ne => by
          rw [bc_wi (x := j + 1) (by omega) (by omega), bc_wi (x := bs_wE j + 1) (by omega) (by omega), ← w1.2.2]
          refine ih (fun i i0 i1 => ?_)
          by_cases e : i = j
          · subst e; exact ne
          · exact al i i0 (by omega)
        refine rv_M_inWords_10 (d := d) ⟨fun u => absurd u (by omega), fun _ => ?_⟩
        refine bc_lupF (P := fun k => bl_M_inWords_16 (d + 1) j (bs_wS j) k g (bc_I K)) (a := bs_wS j) (n := bs_wE j) ?_ (fun k k0 k1 ihk => ?_) (Int.le_refl _) (by omega)
        · refine rv_M_inWords_16 (d := d) ⟨by omega, fun _ => ?_, fun u => absurd w1.2.1 u⟩
          rw [k13, k14, bc_wi (x := bs_wE j - bs_wS j) (by omega) (by omega), bc_wi (x := m 6 10 - m 6 11) (by omega) (by omega)]
          refine ⟨fun el => ?_, fun nl => ?_⟩
          · refine bc_lupF (P := fun k => (∀ i, 0 ≤ i → i < k - bs_wS j → bs_KY (bs_wS j + i) = T (m 6 11 + i)) → bl_M_inWords_38 (d + 1) j (bs_wS j) (bs_wE j) 1 k g (bc_I K)) (a := bs_wS j) (n := bs_wE j) (fun a => ?_) (fun k k0 k1 ihk a => ?_) (Int.le_refl _) (by omega) (fun i i0 i1 => absurd i1 (by omega))
            · refine rv_M_inWords_38 (d := d) ⟨fun _ => ⟨fun u => absurd u (by decide), fun _ => ?_⟩, fun u => absurd u (by omega)⟩
              have e := kw.1 ⟨el, a⟩
              have w3 := bs_w3 j0 j1
              have : bs_km (m 6 4) = j := by
                unfold bs_km; rw [if_neg (by omega), e]; exact w3.2.2
              rw [this] at hK; exact hK
            · have byk : bs_by T n (m 6 11 + (k - bs_wS j)) = T (m 6 11 + (k - bs_wS j)) := by
                have l := w.2.1 (m 6 11 + (k - bs_wS j)) (by omega) (by omega)
                unfold bs_let at l
                unfold bs_by; rw [if_neg (by omega), if_pos (by omega)]
              refine rv_M_inWords_38 (d := d) ⟨fun u => absurd u (by omega), fun _ => ⟨fun u => absurd u (by decide), fun _ => ⟨by omega, ?_⟩⟩⟩
              rw [k13, bc_wi (x := m 6 11 + k) (by omega) (by omega), bc_wi (x := m 6 11 + k - bs_wS j) (by omega) (by omega), show m 6 11 + k - bs_wS j = m 6 11 + (k - bs_wS j) by omega, bc_wi (x := k + 1) (by omega) (by omega)]
              refine bc_m_byteAt n0 hb hx (by omega) ?_
              rw [byk]
              refine ⟨fun e => ihk (fun i i0 i1 => ?_), fun ne => ?_⟩
              · by_cases ei : i = k - bs_wS j
                · subst ei; rw [show bs_wS j + (k - bs_wS j) = k by omega]; exact e
                · exact a i i0 (by omega)
              · have nx := next (fun u => by
                  have := (kw.2 u).2 (k - bs_wS j) (by omega) (by omega)
                  rw [show bs_wS j + (k - bs_wS j) = k by omega] at this
                  exact ne this)
                exact rv_M_inWords_38 (d := d) ⟨fun _ => ⟨fun _ => nx, fun u => absurd rfl u⟩, fun _ => ⟨fun _ => ⟨fun _ => nx, fun u => absurd rfl u⟩, fun u => absurd rfl u⟩⟩
          · have nx := next (fun u => nl (kw.2 u).1)
            exact rv_M_inWords_38 (d := d) ⟨fun _ => ⟨fun _ => nx, fun u => absurd rfl u⟩, fun _ => ⟨fun _ => ⟨fun _ => nx, fun u => absurd rfl u⟩, fun u => absurd rfl u⟩⟩
        · have l := bs_w2 j0 j1 k0 k1
          refine rv_M_inWords_16 (d := d) ⟨by omega, fun u => ?_, fun _ => ?_⟩
          · have e : bs_KY k = 32 := u
            unfold bs_let at l; omega
          · rw [bc_wi (x := k + 1) (by omega) (by omega)]; exact ihk
    rw [st0] at key
    exact key
  · have z : m 6 4 = -1 := bs_To_n hT (fun u => n2 (by rw [u]; rfl))
    rw [z] at hK
    exact hK
theorem bc_m_isName {d : Nat} {T : Int → Int} {n p : Int} {m g : bc_H} {P N : bc_H → Prop} (n0 : 0 ≤ n ∧ n ≤ 900) (p0 : 0 ≤ p) (hb : bs_tb8 T n) (hT : bs_To T n p m) (hk : bs_Tk T n m g) (hP : (m 6 12 = 1 ∧ (m 6 4 = -1 ∧ m 6 13 ≤ 8)) → P g) (hN : ¬ (m 6 12 = 1 ∧ (m 6 4 = -1 ∧ m 6 13 ≤ 8)) → N g) : bf_M_isName (d + 2) g (bc_B P N) := by
  have hk' := hk
  obtain ⟨hx, ⟨k13, k14, k12⟩, _, _, kr⟩ := hk'
  have bnd := hT.1
  refine rv_M_isName (d := d + 1) ?_
  rw [k12, k13, k14, bc_wi (x := m 6 10 - m 6 11) (by omega) (by omega)]
  have e2 : bs_tmk (m 6 12) = 2 ↔ m 6 12 = 1 := by
    unfold bs_tmk; (repeat' split) <;> omega
  rw [Ne, e2]
  refine ⟨fun z => hN (fun u => z u.1), fun z => ?_⟩
  have w := bs_To_w hT z
  have h13 := w.2.2.1
  refine ⟨fun l => hN (fun u => by omega), fun l => ?_⟩
  refine bc_m_inWords (d := d) n0 p0 hb hT hk ?_
  have q := w.2.2.2.1 (by omega)
  have ek : bs_km (m 6 4) = -1 ↔ m 6 4 = -1 := by
    unfold bs_km
    by_cases u : m 6 4 = -1
    · rw [if_pos u]; exact ⟨fun _ => u, fun _ => rfl⟩
    · rw [if_neg u]
      have t := bs_w4 (i := m 6 4) (by omega) q.2.1.2
      constructor <;> intro v <;> omega
  rw [ek]
  exact ⟨fun u => hP ⟨z, u, by omega⟩, fun u => hN (fun v => u v.2.1)⟩
theorem bs_c256_r (T : Int → Int) {q : Int} : ∀ m : Nat, m ≤ 8 → (∀ k, q ≤ k → k < q + m → bs_let (T k)) → 0 ≤ bs_c256 (bs_wl T q (q + m)) ∧ 2 * bs_c256 (bs_wl T q (q + m)) < 256 ^ m
  | 0, _, _ => by rw [show q + ((0 : Nat) : Int) = q by omega, bs_wl_0]; decide
  | m + 1, h, hl => by
    have ih := bs_c256_r T m (by omega) (fun k a b => hl k a (by omega))
    have l := hl (q + m) (by omega) (by omega)
    unfold bs_let at l
    rw [show q + ((m + 1 : Nat) : Int) = q + (m : Int) + 1 by omega, bs_wl_s T (by omega), bs_c256_s, Int.pow_succ]
    by_cases z : m = 0
    · subst z
      rw [show q + ((0 : Nat) : Int) = q by omega] at l ⊢
      rw [bs_wl_0]
      show 0 ≤ (0 : Int) * 256 + (96 + (T q - 96)) ∧ 2 * ((0 : Int) * 256 + (96 + (T q - 96))) < 256 ^ 0 * 256
      rw [Int.pow_zero]; omega
    · have ev : ∃ a : Int, (256 : Int) ^ m = 2 * a := by
        obtain ⟨k, rfl⟩ : ∃ k, m = k + 1 := ⟨m - 1, by omega⟩
        exact ⟨256 ^ k * 128, by rw [Int.pow_succ]; omega⟩
      obtain ⟨a, ea⟩ := ev
      rw [ea] at ih ⊢
      omega
theorem bc_m_nameHere {d : Nat} {T : Int → Int} {n p : Int} {m g : bc_H} {K : Int → bc_H → Prop} (n0 : 0 ≤ n ∧ n ≤ 900) (p0 : 0 ≤ p) (hb : bs_tb8 T n) (hT : bs_To T n p m) (hk : bs_Tk T n m g) (z : m 6 12 = 1) (l8 : m 6 13 ≤ 8) (hK : K (bs_c256 (bs_wl T (m 6 11) (m 6 10))) g) : bf_M_nameHere (d + 1) g (bc_J K) := by
  obtain ⟨hx, ⟨k13, k14, k12⟩, _, _, kr⟩ := hk
  have bnd := hT.1
  have w := bs_To_w hT z
  refine rv_M_nameHere (d := d) ?_
  rw [k13]
  have h13 := w.2.2.1
  have key : bl_M_nameHere_5 (d + 1) (bs_c256 (bs_wl T (m 6 11) (m 6 11))) (m 6 11) g (bc_J K) := by
    refine bc_lupF (P := fun k => bl_M_nameHere_5 (d + 1) (bs_c256 (bs_wl T (m 6 11) k)) k g (bc_J K)) (a := m 6 11) (n := m 6 10) ?_ (fun k k0 k1 ih => ?_) (Int.le_refl _) (by omega)
    · exact rv_M_nameHere_5 (d := d) ⟨fun _ => hK, fun u => absurd u (by rw [k14]; omega)⟩
    · have l := w.2.1 k k0 k1
      have byk : bs_by T n k = T k := by
        unfold bs_let at l
        unfold bs_by; rw [if_neg (by omega), if_pos (by omega)]
      refine rv_M_nameHere_5 (d := d) ⟨fun u => absurd u (by rw [k14]; omega), fun _ => ?_⟩
      refine bc_m_byteAt n0 hb hx (by omega) ?_
      have cr := bs_c256_r T (q := m 6 11) (k - m 6 11).toNat (by omega) (fun j j0 j1 => w.2.1 j j0 (by omega))
      rw [show m 6 11 + (((k - m 6 11).toNat : Nat) : Int) = k by omega] at cr
      have big : (256 : Int) ^ (k - m 6 11).toNat ≤ 256 ^ 7 := by
        have := Nat.pow_le_pow_right (show 0 < 256 by decide) (show (k - m 6 11).toNat ≤ 7 by omega)
        have h2 : ((256 ^ (k - m 6 11).toNat : Nat) : Int) ≤ ((256 ^ 7 : Nat) : Int) := Int.ofNat_le.2 this
        rw [Int.natCast_pow, Int.natCast_pow] at h2
        exact h2
      rw [show (256 : Int) ^ 7 = 72057594037927936 by decide] at big
      unfold bs_let at l
      rw [byk, bs_lor8 cr.1 (by omega) (by omega) (by omega), bc_wi (x := k + 1) (by omega) (by omega)]
      rw [bs_wl_s T (by omega), bs_c256_s, show 96 + (T k - 96) = T k by omega] at ih
      exact ih
  rw [bs_wl_0] at key
  exact key
theorem bs_wl_word {T : Int → Int} {m : bc_H} (w : bs_Tw T m) (l8 : m 6 13 ≤ 8) : bs_word (bs_wl T (m 6 11) (m 6 10)) := by
  obtain ⟨h1, h2, h3, _⟩ := w
  have len : (bs_wl T (m 6 11) (m 6 10)).length = (m 6 10 - m 6 11).toNat := by unfold bs_wl; rw [List.length_map, List.length_range]
  refine ⟨by rw [len]; omega, by rw [len]; omega, fun c hc => ?_⟩
  unfold bs_wl at hc
  obtain ⟨k, hk, e⟩ := List.mem_map.1 hc
  have := List.mem_range.1 hk
  have l := h2 (m 6 11 + (k : Int)) (by omega) (by omega)
  unfold bs_let at l
  omega
theorem bc_m_findHere {d : Nat} {T : Int → Int} {n p off many : Int} {m g : bc_H} {NM : Int → Int} {K : Int → bc_H → Prop} (n0 : 0 ≤ n ∧ n ≤ 900) (p0 : 0 ≤ p) (hb : bs_tb8 T n) (hT : bs_To T n p m) (hk : bs_Tk T n m g) (z : m 6 12 = 1) (l8 : m 6 13 ≤ 8) (o0 : 0 ≤ off) (m0 : 0 ≤ many) (o1 : off + many ≤ 156) (eN : ∀ k, 0 ≤ k → k < many → g 158 (off + k) = NM k) (hK : K (bs_fst (fun k => NM k = bs_c256 (bs_wl T (m 6 11) (m 6 10))) many) g) : bf_M_findHere (d + 2) off many g (bc_I K) := by
  refine rv_M_findHere (d := d + 1) ?_
  refine bc_lup (P := fun k => bs_fst (fun k => NM k = bs_c256 (bs_wl T (m 6 11) (m 6 10))) k = -1 → bl_M_findHere_2 (d + 2) off many k g (bc_I K)) (n := many) (fun a => ?_) (fun k k0 k1 ih a => ?_) (Int.le_refl 0) m0 rfl
  · rw [a] at hK
    exact rv_M_findHere_2 (d := d + 1) ⟨fun _ => hK, fun u => absurd u (by omega)⟩
  · have st : bs_fst (fun k => NM k = bs_c256 (bs_wl T (m 6 11) (m 6 10))) (k + 1) = if NM k = bs_c256 (bs_wl T (m 6 11) (m 6 10)) then k else -1 := by
      have : bs_fst (fun k => NM k = bs_c256 (bs_wl T (m 6 11) (m 6 10))) (k + 1) = if bs_fst (fun k => NM k = bs_c256 (bs_wl T (m 6 11) (m 6 10))) k = -1 then (if NM k = bs_c256 (bs_wl T (m 6 11) (m 6 10)) then k else -1) else bs_fst (fun k => NM k = bs_c256 (bs_wl T (m 6 11) (m 6 10))) k := bc_its _ _ k0
      rw [this, if_pos a]
    refine rv_M_findHere_2 (d := d + 1) ⟨fun u => absurd u (by omega), fun _ => ?_⟩
    rw [bc_wi (x := off + k) (by omega) (by omega), bc_wi (x := k + 1) (by omega) (by omega), eN k k0 k1]
    refine ⟨by omega, bc_m_nameHere (d := d) n0 p0 hb hT hk z l8 ⟨fun ne => ih (by rw [st, if_neg ne]), fun e => ?_⟩⟩
    rw [if_pos e] at st
    have last : ∀ j : Nat, bs_fst (fun k => NM k = bs_c256 (bs_wl T (m 6 11) (m 6 10))) (k + 1 + j) = k := by
      intro j
      induction j with
      | zero => rw [show k + 1 + ((0 : Nat) : Int) = k + 1 by omega]; exact st
      | succ j ihj =>
        have : bs_fst (fun k => NM k = bs_c256 (bs_wl T (m 6 11) (m 6 10))) (k + 1 + (j : Int) + 1) = if bs_fst (fun k => NM k = bs_c256 (bs_wl T (m 6 11) (m 6 10))) (k + 1 + j) = -1 then (if NM (k + 1 + j) = bs_c256 (bs_wl T (m 6 11) (m 6 10)) then k + 1 + (j : Int) else -1) else bs_fst (fun k => NM k = bs_c256 (bs_wl T (m 6 11) (m 6 10))) (k + 1 + j) := bc_its _ _ (by omega)
        rw [show k + 1 + ((j + 1 : Nat) : Int) = k + 1 + (j : Int) + 1 by omega, this, ihj, if_neg (by omega)]
    have l2 := last (many - (k + 1)).toNat
    rw [show k + 1 + (((many - (k + 1)).toNat : Nat) : Int) = many by omega] at l2
    rw [l2] at hK; exact hK
