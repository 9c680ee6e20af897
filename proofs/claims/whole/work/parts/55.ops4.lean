theorem bc_m_four {d : Nat} {v : Int} {h : bc_H} {K : bc_H → Prop} (h0 : 0 ≤ h 156 10) (h9 : h 156 10 ≤ 896) (hK : ∀ h', h' 156 10 = h 156 10 + 4 → (∀ a b, a ≠ 162 → (a ≠ 156 ∨ b ≠ 10) → h' a b = h a b) → h' 162 = bc_set (bc_set (bc_set (bc_set (h 162) (h 156 10) (bc_w8 (bc_w8 (bc_shr v 24)))) (h 156 10 + 1) (bc_w8 (bc_w8 (bc_shr v 16)))) (h 156 10 + 2) (bc_w8 (bc_w8 (bc_shr v 8)))) (h 156 10 + 3) (bc_w8 (bc_w8 (bc_shr v 0))) → K h') : bf_M_four d v h (bc_U K) := by
  refine rv_M_four ?_
  refine rv_M_four_2 ⟨fun q => absurd q (by decide), fun _ => ⟨by omega, ?_⟩⟩
  simp (disch := omega) only [bc_ur, bc_uu, bc_uj, bc_wi, Int.add_zero]
  refine rv_M_four_2 ⟨fun q => absurd q (by decide), fun _ => ?_⟩
  simp (disch := omega) only [bc_ur, bc_uu, bc_uj, bc_wi, Int.add_zero]
  refine ⟨by omega, ?_⟩
  refine rv_M_four_2 ⟨fun q => absurd q (by decide), fun _ => ?_⟩
  simp (disch := omega) only [bc_ur, bc_uu, bc_uj, bc_wi, Int.add_zero]
  refine ⟨by omega, ?_⟩
  refine rv_M_four_2 ⟨fun q => absurd q (by decide), fun _ => ?_⟩
  simp (disch := omega) only [bc_ur, bc_uu, bc_uj, bc_wi, Int.add_zero]
  refine ⟨by omega, ?_⟩
  refine rv_M_four_2 ⟨fun _ => ?_, fun q => absurd q (by decide)⟩
  refine hK _ ?_ (fun a b n1 n2 => ?_) ?_
  · rw [bc_uu]; omega
  · rw [bc_un2 (by omega), bc_un2 (by omega), bc_un2 (by omega), bc_un2 (by omega), bc_un2 (by omega), bc_un2 (by omega), bc_un2 (by omega), bc_un2 (by omega)]
  · rw [bc_urow (by decide), bc_u_row _ 162, bs_rr, bc_urow (by decide), bc_u_row _ 162, bs_rr, bc_urow (by decide), bc_u_row _ 162, bs_rr, bc_urow (by decide), bc_u_row _ 162, bs_rr]
    rw [show h 156 10 + 1 + 1 = h 156 10 + 2 by omega, show h 156 10 + 2 + 1 = h 156 10 + 3 by omega]
    rfl
def bs_put4 (x : Int → Int) (n v : Int) : Int → Int := bc_set (bc_set (bc_set (bc_set x n (bc_w8 (bc_w8 (bc_shr v 24)))) (n + 1) (bc_w8 (bc_w8 (bc_shr v 16)))) (n + 2) (bc_w8 (bc_w8 (bc_shr v 8)))) (n + 3) (bc_w8 (bc_w8 (bc_shr v 0)))
theorem bs_w8r (v : Int) : -128 ≤ bc_w8 v ∧ bc_w8 v ≤ 127 := by unfold bc_w8; omega
theorem bs_tp_put {n : Int} {x x' : Int → Int} {v : Int} (h : ∀ k, 0 ≤ k → k < n → x k = x' k ∧ -128 ≤ x k ∧ x k ≤ 127) : ∀ k, 0 ≤ k → k < n + 4 → bs_put4 x n v k = bs_put4 x' n v k ∧ -128 ≤ bs_put4 x n v k ∧ bs_put4 x n v k ≤ 127 := by
  intro k k0 k1
  unfold bs_put4 bc_set
  have a1 := bs_w8r (bc_w8 (bc_shr v 24))
  have a2 := bs_w8r (bc_w8 (bc_shr v 16))
  have a3 := bs_w8r (bc_w8 (bc_shr v 8))
  have a4 := bs_w8r (bc_w8 (bc_shr v 0))
  by_cases e3 : k = n + 3
  · rw [if_pos e3, if_pos e3]; exact ⟨rfl, a4⟩
  · rw [if_neg e3, if_neg e3]
    by_cases e2 : k = n + 2
    · rw [if_pos e2, if_pos e2]; exact ⟨rfl, a3⟩
    · rw [if_neg e2, if_neg e2]
      by_cases e1 : k = n + 1
      · rw [if_pos e1, if_pos e1]; exact ⟨rfl, a2⟩
      · rw [if_neg e1, if_neg e1]
        by_cases e0 : k = n
        · rw [if_pos e0, if_pos e0]; exact ⟨rfl, a1⟩
        · rw [if_neg e0, if_neg e0]; exact h k k0 (by omega)
theorem bs_o_feed {d : Nat} {a b e f g : Int} {S : Int → Int} {L c s p q : Int} {h : bc_H} (hR : bs_R S L c s p q h) {P : Int → Int → bc_H → Prop} {Q1 : Int → bc_H → Prop} (hQ : ∀ y h1, h1 (-2) = h (-2) → h1 (-3) = h (-3) → bf_M_feed (d + 2) a b e f g h1 (bc_I fun y2 h2 => P y y2 h2) → Q1 y h1) (hK : ∀ y h2, bs_R S L c s p q h2 → P y y h2) : bf_X_feed (d + 2) a b e f g h (bc_I Q1) := by
  obtain ⟨⟨hcs, hpq⟩, ⟨e12, e13, e14, e15⟩, hS, est, efr, htr, htp, hfa, hlv, hlo, hrs, hmk, ⟨hC, hW, hck, hN, hP⟩⟩ := id hR
  obtain ⟨⟨n4, n5, n6, n2, n0, n1, n3⟩, hw, hd, hg, hf, hm⟩ := id hC
  obtain ⟨⟨w0, w1, w2, w3, w4, w5, w7⟩, hww, hwy, hwv, hwf, hwg⟩ := id hW
  obtain ⟨p1, p2, p3⟩ := htp
  refine rv_X_feed (d := d + 1) ⟨fun z => ?_, fun z => ?_⟩
  · refine bc_c_append p2.1 (by omega) (fun h1 a1 a2 a3 => ?_)
    refine bc_c_append (by omega) (by omega) (fun h2 b1 b2 b3 => ?_)
    refine bc_c_append (by omega) (by omega) (fun h3 c1 c2 c3 => ?_)
    refine bc_c_append (by omega) (by omega) (fun h4 d1 d2 d3 => ?_)
    refine bc_c_append (by omega) (by omega) (fun h5 f1 f2 f3 => ?_)
    have fr : ∀ a b, a ≠ 7 → (a ≠ 6 ∨ b ≠ 0) → h5 a b = h a b := fun a b n1 n2 => by rw [f2 a b n1 n2, d2 a b n1 n2, c2 a b n1 n2, b2 a b n1 n2, a2 a b n1 n2]
    refine hQ _ _ (funext fun b => fr (-2) b (by decide) (Or.inl (by decide))) (funext fun b => fr (-3) b (by decide) (Or.inl (by decide))) ?_
    have e10 : h5 156 10 = h 156 10 := fr _ _ (by decide) (Or.inl (by decide))
    refine rv_M_feed (d := d + 1) ?_
    rw [e10, bc_wi (by omega) (by omega)]
    refine ⟨fun _ => ?_, fun q => absurd q (by omega)⟩
    refine bc_m_four (by omega) (by omega) (fun g1 a1' a2' a3' => ?_)
    refine bc_m_four (by omega) (by omega) (fun g2 b1' b2' b3' => ?_)
    refine bc_m_four (by omega) (by omega) (fun g3 c1' c2' c3' => ?_)
    refine bc_m_four (by omega) (by omega) (fun g4 d1' d2' d3' => ?_)
    refine bc_m_four (by omega) (by omega) (fun g5 f1' f2' f3' => ?_)
    have fr' : ∀ a b, a ≠ 162 → (a ≠ 156 ∨ b ≠ 10) → g5 a b = h5 a b := fun a b n1 n2 => by rw [f2' a b n1 n2, d2' a b n1 n2, c2' a b n1 n2, b2' a b n1 n2, a2' a b n1 n2]
    have e6 : g5 6 0 = h5 6 0 := fr' _ _ (by decide) (Or.inl (by decide))
    have e7 : g5 7 = h5 7 := funext fun b => fr' _ _ (by decide) (Or.inl (by decide))
    rw [show g5 156 10 = h5 6 0 by omega]
    have h162 : h5 162 = h 162 := funext fun b => fr _ _ (by decide) (Or.inl (by decide))
    refine hK _ _ (bs_R_T hR (fun x y k k1 k2 k3 => ?_) ?_ ?_ ⟨by omega, by omega, ?_⟩ ?_)
    · rw [fr' x y (by omega) k3, fr x y (by omega) (by omega)]
    · rw [fr' 0 0 (by decide) (Or.inl (by decide)), fr' 156 2 (by decide) (Or.inr (by decide)), fr 0 0 (by decide) (Or.inl (by decide)), fr 156 2 (by decide) (Or.inl (by decide))]; exact est
    · rw [show g5 3 = h 3 from funext fun b => by rw [fr' _ _ (by decide) (Or.inl (by decide)), fr _ _ (by decide) (Or.inl (by decide))],
        show g5 4 = h 4 from funext fun b => by rw [fr' _ _ (by decide) (Or.inl (by decide)), fr _ _ (by decide) (Or.inl (by decide))],
        show g5 5 = h 5 from funext fun b => by rw [fr' _ _ (by decide) (Or.inl (by decide)), fr _ _ (by decide) (Or.inl (by decide))],
        show g5 159 = h 159 from funext fun b => by rw [fr' _ _ (by decide) (Or.inl (by decide)), fr _ _ (by decide) (Or.inl (by decide))],
        show g5 160 = h 160 from funext fun b => by rw [fr' _ _ (by decide) (Or.inl (by decide)), fr _ _ (by decide) (Or.inl (by decide))],
        show g5 161 = h 161 from funext fun b => by rw [fr' _ _ (by decide) (Or.inl (by decide)), fr _ _ (by decide) (Or.inl (by decide))]]
      exact htr
    · rw [e6, show h5 6 0 = h 6 0 + 4 + 4 + 4 + 4 + 4 by omega, e7, f3, f3', d3, d3', c3, c3', b3, b3', a3, a3', h162, d1, c1, b1, a1, d1', c1', b1', a1', e10, ← p1]
      exact bs_tp_put (bs_tp_put (bs_tp_put (bs_tp_put (bs_tp_put p3))))
    · rw [fr' 6 1 (by decide) (Or.inl (by decide)), fr' 6 2 (by decide) (Or.inl (by decide)), fr' 156 16 (by decide) (Or.inr (by decide)), fr' 156 17 (by decide) (Or.inr (by decide)), fr 6 1 (by decide) (Or.inr (by decide)), fr 6 2 (by decide) (Or.inr (by decide)), fr 156 16 (by decide) (Or.inl (by decide)), fr 156 17 (by decide) (Or.inl (by decide))]
      exact hfa
  · refine hQ _ _ rfl rfl ?_
    refine rv_M_feed (d := d + 1) ?_
    rw [bc_wi (by omega) (by omega)]
    exact ⟨fun q => absurd q (by omega), fun _ => hK _ _ hR⟩
/-- a row of noughts -/
def bs_zer (x : Int → Int) (o n : Int) : Int → Int := fun k => if o ≤ k ∧ k < o + n then 0 else x k
theorem bs_zer_0 (x : Int → Int) (o : Int) : bs_zer x o 0 = x := by funext k; unfold bs_zer; rw [if_neg (by omega)]
theorem bs_zer_s {x : Int → Int} {o n : Int} (h : 0 ≤ n) : bc_set (bs_zer x o n) (o + n) 0 = bs_zer x o (n + 1) := by
  funext k; unfold bc_set bs_zer
  (repeat' split) <;> first | rfl | (exfalso; omega)
theorem bs_o_tray {d : Nat} {a b n : Int} {S : Int → Int} {L c s p q : Int} {h : bc_H} (hR : bs_R S L c s p q h) {P N1 N2 : bc_H → Prop} {Q1 Q0 : bc_H → Prop} (hQ : ∀ h1, h1 (-2) = h (-2) → h1 (-3) = h (-3) → bf_M_tray (d + 5) a b n h1 (bc_B P N1) → Q1 h1) (hQ0 : ∀ h1, h1 (-2) = h (-2) → h1 (-3) = h (-3) → bf_M_tray (d + 5) a b n h1 (bc_B N2 P) → Q0 h1) (hK : ∀ h2, bs_R S L c s p q h2 → P h2) : bf_X_tray (d + 5) a b n h (bc_B Q1 Q0) := by
  obtain ⟨⟨hcs, hpq⟩, ⟨e12, e13, e14, e15⟩, hS, est, efr, htr, htp, hfa, hlv, hlo, hrs, hmk, ⟨hC, hW, hck, hN, hP⟩⟩ := id hR
  obtain ⟨⟨n4, n5, n6, n2, n0, n1, n3⟩, hw, hd, hg, hf, hm⟩ := id hC
  obtain ⟨⟨w0, w1, w2, w3, w4, w5, w7⟩, hww, hwy, hwv, hwf, hwg⟩ := id hW
  have hq : ∀ v, P (bc_upd (bc_upd h 0 0 v) 156 2 v) := fun v => hK _ (bs_R_st hR v)
  have bad : ¬ ((0 ≤ a ∧ a ≤ 3) ∧ (0 ≤ b ∧ b ≤ 3) ∧ 0 ≤ n ∧ n ≤ 60) → Q0 (bc_upd h 0 0 1) := fun z => by
    refine hQ0 _ (bc_urow (by decide)) (bc_urow (by decide)) ?_
    refine rv_M_tray (d := d + 4) ?_
    (repeat' with_reducible (first | intro _ | apply And.intro))
    all_goals first
      | omega
      | exact hq _
      | (exfalso; omega)
  refine rv_X_tray (d := d + 3) ⟨fun za => ⟨fun zb => ⟨fun zn => ?_, fun zn => bad (by omega)⟩, fun zb => bad (by omega)⟩, fun za => bad (by omega)⟩
  refine rv_Trays_lay ⟨by omega, by omega, ?_⟩
  have key : bl_Trays_lay_12 (d + 4) a n 0 (bc_row (bc_upd (bc_upd h 3 a b) 4 a n) 5 (bs_zer (h 5) (a * 60) 0)) (bc_U fun h4 => Q1 (bc_upd h4 0 0 0)) := by
    refine bc_lup (P := fun i => bl_Trays_lay_12 (d + 4) a n i (bc_row (bc_upd (bc_upd h 3 a b) 4 a n) 5 (bs_zer (h 5) (a * 60) i)) (bc_U fun h4 => Q1 (bc_upd h4 0 0 0))) (n := n) ?_ (fun i i0 hi ih => ?_) (Int.le_refl 0) zn.1
    · refine rv_Trays_lay_12 ⟨fun _ => ?_, fun q => absurd q (by omega)⟩
      refine hQ _ (by rw [bc_urow (by decide), bc_rn (by decide), bc_urow (by decide), bc_urow (by decide)]) (by rw [bc_urow (by decide), bc_rn (by decide), bc_urow (by decide), bc_urow (by decide)]) ?_
      refine rv_M_tray (d := d + 4) ⟨fun _ => ⟨fun q => absurd q (by omega), fun _ => ⟨fun q => absurd q (by omega), fun _ => ⟨fun q => absurd q (by omega), fun _ => ⟨fun _ => ⟨by omega, by omega, ?_⟩, fun q => absurd q (by omega)⟩⟩⟩⟩, fun q => absurd (by omega) q⟩
      have key2 : ∀ m : bc_H, m = bc_upd (bc_upd (bc_upd (bc_row (bc_upd (bc_upd h 3 a b) 4 a n) 5 (bs_zer (h 5) (a * 60) n)) 0 0 0) 159 a b) 160 a n → bl_M_tray_29 (d + 5) a n 0 (bc_row m 161 (bs_zer (h 161) (60 * a) 0)) (bc_B P N1) := by
        intro m em
        refine bc_lup (P := fun i => bl_M_tray_29 (d + 5) a n i (bc_row m 161 (bs_zer (h 161) (60 * a) i)) (bc_B P N1)) (n := n) ?_ (fun i i0 hi ih => ?_) (Int.le_refl 0) zn.1
        · refine rv_M_tray_29 (d := d + 4) ⟨fun _ => ?_, fun q => absurd q (by omega)⟩
          have r3 : m 3 = bc_set (h 3) a b := by rw [em, bc_urow (by decide), bc_urow (by decide), bc_urow (by decide), bc_rn (by decide), bc_urow (by decide), bc_u_row, bs_rr]
          have r4 : m 4 = bc_set (h 4) a n := by rw [em, bc_urow (by decide), bc_urow (by decide), bc_urow (by decide), bc_rn (by decide), bc_u_row, bs_rr, bc_urow (by decide)]
          have r5 : m 5 = bs_zer (h 5) (a * 60) n := by rw [em, bc_urow (by decide), bc_urow (by decide), bc_urow (by decide), bs_rr]
          have r159 : m 159 = bc_set (h 159) a b := by rw [em, bc_urow (by decide), bc_u_row, bs_rr, bc_urow (by decide), bc_rn (by decide), bc_urow (by decide), bc_urow (by decide)]
          have r160 : m 160 = bc_set (h 160) a n := by rw [em, bc_u_row, bs_rr, bc_urow (by decide), bc_urow (by decide), bc_rn (by decide), bc_urow (by decide), bc_urow (by decide)]
          have ro : ∀ x y, x ≠ 3 → x ≠ 4 → x ≠ 5 → x ≠ 159 → x ≠ 160 → (x ≠ 0 ∨ y ≠ 0) → m x y = h x y := fun x y h1 h2 h3 h4 h5 h6 => by
            rw [em, bc_un2 (by omega), bc_un2 (by omega), bc_un2 (by omega), bc_rn h3, bc_un2 (by omega), bc_un2 (by omega)]
          have hrest : ∀ x y, x ≠ 3 → x ≠ 4 → x ≠ 5 → x ≠ 159 → x ≠ 160 → x ≠ 161 → (x ≠ 0 ∨ y ≠ 0) → (x ≠ 156 ∨ y ≠ 2) → bc_upd (bc_row m 161 (bs_zer (h 161) (60 * a) n)) 156 2 0 x y = h x y := fun x y h1 h2 h3 h4 h5 h6 h7 h8 => by
            rw [bc_un2 h8, bc_rn h6]; exact ro x y h1 h2 h3 h4 h5 h7
          refine hK _ (bs_R_T hR (fun x y k k1 k2 k3 => ?_) ?_ ?_ ?_ ?_)
          · have kf := bs_kf k
            exact hrest x y (by omega) (by omega) (by omega) (by omega) (by omega) (by omega) kf.1 kf.2
          · rw [bc_ur (by decide), bc_rn (by decide), bc_uu, em, bc_ur (by decide), bc_ur (by decide), bc_uu]
          · rw [bc_urow (a := 3) (by decide), bc_rn (a := 3) (by decide), bc_urow (a := 4) (by decide), bc_rn (a := 4) (by decide), bc_urow (a := 5) (by decide), bc_rn (a := 5) (by decide), bc_urow (a := 159) (by decide), bc_rn (a := 159) (by decide), bc_urow (a := 160) (by decide), bc_rn (a := 160) (by decide), bc_urow (a := 161) (by decide), bs_rr, r3, r4, r5, r159, r160]
            intro u u0 u4
            by_cases e : u = a
            · subst e
              rw [bc_setj, bc_setj, bc_setj, bc_setj]
              refine Or.inr ⟨rfl, zb, rfl, zn, fun k k0 k1 => ?_⟩
              unfold bs_zer
              rw [if_pos (by omega), if_pos (by omega)]
            · rw [bc_setn e, bc_setn e, bc_setn e, bc_setn e]
              rcases htr u u0 u4 with t | ⟨t1, t2, t3, t4, t5⟩
              · exact Or.inl t
              · refine Or.inr ⟨t1, t2, t3, t4, fun k k0 k1 => ?_⟩
                unfold bs_zer
                rw [if_neg (by omega), if_neg (by omega)]
                exact t5 k k0 k1
          · rw [hrest 6 0 (by decide) (by decide) (by decide) (by decide) (by decide) (by decide) (by decide) (by decide), hrest 156 10 (by decide) (by decide) (by decide) (by decide) (by decide) (by decide) (by decide) (by decide)]
            rw [show bc_upd (bc_row m 161 (bs_zer (h 161) (60 * a) n)) 156 2 0 7 = h 7 from funext fun y => hrest 7 y (by decide) (by decide) (by decide) (by decide) (by decide) (by decide) (Or.inl (by decide)) (Or.inl (by decide)), show bc_upd (bc_row m 161 (bs_zer (h 161) (60 * a) n)) 156 2 0 162 = h 162 from funext fun y => hrest 162 y (by decide) (by decide) (by decide) (by decide) (by decide) (by decide) (Or.inl (by decide)) (Or.inl (by decide))]
            exact htp
          · rw [hrest 6 1 (by decide) (by decide) (by decide) (by decide) (by decide) (by decide) (by decide) (by decide), hrest 6 2 (by decide) (by decide) (by decide) (by decide) (by decide) (by decide) (by decide) (by decide), hrest 156 16 (by decide) (by decide) (by decide) (by decide) (by decide) (by decide) (by decide) (by decide), hrest 156 17 (by decide) (by decide) (by decide) (by decide) (by decide) (by decide) (by decide) (by decide)]
            exact hfa
        · refine rv_M_tray_29 (d := d + 4) ⟨fun q => absurd q (by omega), fun _ => ?_⟩
          simp (disch := omega) only [bc_wi, Int.add_zero]
          rw [bc_ru, bs_zer_s i0]
          exact ⟨by omega, ih⟩
      have k2 := key2 _ rfl
      rw [bs_zer_0] at k2
      rw [show bc_row (bc_upd (bc_upd (bc_upd (bc_row (bc_upd (bc_upd h 3 a b) 4 a n) 5 (bs_zer (h 5) (a * 60) n)) 0 0 0) 159 a b) 160 a n) 161 (h 161) = bc_upd (bc_upd (bc_upd (bc_row (bc_upd (bc_upd h 3 a b) 4 a n) 5 (bs_zer (h 5) (a * 60) n)) 0 0 0) 159 a b) 160 a n by
        funext x y; unfold bc_row
        split
        · rename_i e; subst e; rw [bc_ur (by decide), bc_ur (by decide), bc_ur (by decide)]
          rw [if_neg (by decide), bc_ur (by decide), bc_ur (by decide)]
        · rfl] at k2
      exact k2
    · refine rv_Trays_lay_12 ⟨fun q => absurd q (by omega), fun _ => ?_⟩
      simp (disch := omega) only [bc_wi, Int.add_zero]
      rw [bc_ru, bs_zer_s i0]
      exact ⟨by omega, ih⟩
  rw [bs_zer_0] at key
  rw [show bc_row (bc_upd (bc_upd h 3 a b) 4 a n) 5 (h 5) = bc_upd (bc_upd h 3 a b) 4 a n by
    funext x y; unfold bc_row
    split
    · rename_i e; subst e; rw [bc_ur (by decide), bc_ur (by decide)]
    · rfl] at key
  exact key
