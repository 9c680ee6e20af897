/-- another cave: its own cells and its row alone have changed -/
theorem bs_R_mut {S : Int → Int} {L c s p q : Int} {h : bc_H} (hR : bs_R S L c s p q h) {h' : bc_H} (hF : ∀ a b, bs_keep s q a b → ¬ (c ≤ a ∧ a < c + 17 ∧ (a ≠ c ∨ b ≠ 11)) → ¬ (a = 157 ∧ 0 ≤ b ∧ b < 160 ∧ b ≠ 8) → h' a b = h a b) (hs : h' 0 0 = h' 156 2) (e0 : h' 157 0 = h 157 0) (e1 : h' 157 1 = h 157 1) (e2 : h' 157 2 = h 157 2) (e3 : h' 157 3 = h 157 3) (hC' : bs_C h' c (h' 157)) (hW' : bs_W (h' 157)) (hck' : 0 ≤ h' 157 6 ∧ h' 157 6 ≤ 9999) : bs_R S L c s p q h' := by
  obtain ⟨⟨hcs, hpq⟩, ⟨e12, e13, e14, e15⟩, hS, est, efr, htr, htp, hfa, hlv, hlo, hrs, hmk, ⟨hC, hW, hck, hN, hP⟩⟩ := id hR
  obtain ⟨⟨n4, n5, n6, n2, n0, n1, n3⟩, hw, hd, hg, hf, hm⟩ := id hC
  obtain ⟨⟨w0, w1, w2, w3, w4, w5, w7⟩, hww, hwy, hwv, hwf, hwg⟩ := id hW
  have fc : ∀ a b, 24 ≤ a → a ≤ 155 → ¬ (s ≤ a ∧ a < s + 20) → ¬ (q ≤ a ∧ a < q + 6) → ¬ (c ≤ a ∧ a < c + 17 ∧ (a ≠ c ∨ b ≠ 11)) → h' a b = h a b := fun a b h1 h2 h3 h4 h5 => hF a b (bs_kc h1 h2 h3 h4) h5 (by omega)
  refine bs_R_G hR (fun a b k n1 n2 n3 n4 => hF a b k (by omega) (by omega)) hs ⟨hC', hW', hck', ?_, ?_⟩
  · rw [fc c 11 (by omega) (by omega) (by omega) (by omega) (by omega), show h' (c + 17) = h (c + 17) from funext (fun b => fc _ b (by omega) (by omega) (by omega) (by omega) (by omega)), show h' (c + 18) = h (c + 18) from funext (fun b => fc _ b (by omega) (by omega) (by omega) (by omega) (by omega)), show h' (c + 19) = h (c + 19) from funext (fun b => fc _ b (by omega) (by omega) (by omega) (by omega) (by omega))]
    exact bs_Nm_A hW e0 e1 e2 e3 (fun k k0 k1 => hF 158 k (bs_k158 (by omega)) (by omega) (by omega)) hN
  · exact bs_Pl_A (fun a b a0 a1 => fc a b (by omega) (by omega) (by omega) (by omega) (by omega)) (by omega) (by omega) (fun k hk => hF 157 k (bs_k157 (by omega)) (by omega) (by omega)) hP
/-! numbers poured -/
def bs_mv (x : Int → Int) (so de n : Int) : Int → Int := fun j => if de ≤ j ∧ j < de + n then x (so + (j - de)) else x j
def bs_mw (x : Int → Int) (so de m n : Int) : Int → Int := fun j => if de + (m - n) ≤ j ∧ j < de + m then x (so + (j - de)) else x j
theorem bs_mv_0 (x : Int → Int) (so de : Int) : bs_mv x so de 0 = x := by funext k; unfold bs_mv; rw [if_neg (by omega)]
theorem bs_mw_0 (x : Int → Int) (so de m : Int) : bs_mw x so de m 0 = x := by funext k; unfold bs_mw; rw [if_neg (by omega)]
theorem bs_mw_m (x : Int → Int) (so de m : Int) : bs_mw x so de m m = bs_mv x so de m := by
  funext k; unfold bs_mw bs_mv; rw [show de + (m - m) = de by omega]
theorem bs_mv_s {x : Int → Int} {so de n : Int} (hn : 0 ≤ n) (hd : so + n < de ∨ de + n ≤ so + n) : bc_set (bs_mv x so de n) (de + n) (bs_mv x so de n (so + n)) = bs_mv x so de (n + 1) := by
  funext k
  have e : bs_mv x so de n (so + n) = x (so + n) := by unfold bs_mv; rw [if_neg (by omega)]
  rw [e]
  unfold bc_set bs_mv
  by_cases q : k = de + n
  · rw [if_pos q, if_pos (by omega), show so + (k - de) = so + n by omega]
  · rw [if_neg q]
    (repeat' split) <;> first | rfl | (exfalso; omega)
theorem bs_mw_s {x : Int → Int} {so de m n : Int} (hn : 0 ≤ n) (hm : n < m) (hd : so + (m - 1 - n) < de + (m - n) ∨ de + m ≤ so + (m - 1 - n)) : bc_set (bs_mw x so de m n) (de + (m - 1 - n)) (bs_mw x so de m n (so + (m - 1 - n))) = bs_mw x so de m (n + 1) := by
  funext k
  have e : bs_mw x so de m n (so + (m - 1 - n)) = x (so + (m - 1 - n)) := by unfold bs_mw; rw [if_neg (by omega)]
  rw [e]
  unfold bc_set bs_mw
  by_cases q : k = de + (m - 1 - n)
  · rw [if_pos q, if_pos (by omega), show so + (k - de) = so + (m - 1 - n) by omega]
  · rw [if_neg q]
    (repeat' split) <;> first | rfl | (exfalso; omega)
theorem bc_m_pourL {d : Nat} {f pl t at' n : Int} {h : bc_H} {P N : bc_H → Prop} (hf : 0 ≤ f ∧ f < 4) (ht : 0 ≤ t ∧ t < 4) (p0 : 0 ≤ pl) (p1 : pl + n ≤ 60) (a0 : 0 ≤ at') (a1 : at' + n ≤ 60) (n0 : 0 ≤ n) (hK : P (bc_upd (bc_row h 161 (bs_mv (h 161) (60 * f + pl) (60 * t + at') n)) 156 2 0)) : bl_M_pour_67 (d + 1) f pl t at' n 0 h (bc_B P N) := by
  by_cases hd : at' ≤ pl
  · have key : bl_M_pour_67 (d + 1) f pl t at' n 0 (bc_row h 161 (bs_mv (h 161) (60 * f + pl) (60 * t + at') 0)) (bc_B P N) := by
      refine bc_lup (P := fun i => bl_M_pour_67 (d + 1) f pl t at' n i (bc_row h 161 (bs_mv (h 161) (60 * f + pl) (60 * t + at') i)) (bc_B P N)) (n := n) ?_ (fun i i0 hi ih => ?_) (Int.le_refl 0) n0
      · exact rv_M_pour_67 ⟨fun _ => hK, fun q => absurd q (by omega)⟩
      · refine rv_M_pour_67 ⟨fun q => absurd q (by omega), fun _ => ⟨fun _ => ?_, fun q => absurd q (by omega)⟩⟩
        simp (disch := omega) only [bc_wi, Int.add_zero]
        rw [bs_rr, bc_ru, bs_mv_s i0 (by omega)]
        exact ⟨by omega, by omega, ih⟩
    rw [bs_mv_0, bc_rself] at key
    exact key
  · have key : bl_M_pour_67 (d + 1) f pl t at' n 0 (bc_row h 161 (bs_mw (h 161) (60 * f + pl) (60 * t + at') n 0)) (bc_B P N) := by
      refine bc_lup (P := fun i => bl_M_pour_67 (d + 1) f pl t at' n i (bc_row h 161 (bs_mw (h 161) (60 * f + pl) (60 * t + at') n i)) (bc_B P N)) (n := n) ?_ (fun i i0 hi ih => ?_) (Int.le_refl 0) n0
      · rw [bs_mw_m]
        exact rv_M_pour_67 ⟨fun _ => hK, fun q => absurd q (by omega)⟩
      · refine rv_M_pour_67 ⟨fun q => absurd q (by omega), fun _ => ⟨fun q => absurd q (by omega), fun _ => ?_⟩⟩
        simp (disch := omega) only [bc_wi, Int.add_zero]
        rw [bs_rr, bc_ru, bs_mw_s i0 hi (by omega)]
        exact ⟨by omega, by omega, ih⟩
    rw [bs_mw_0, bc_rself] at key
    exact key
theorem bs_o_pour {d : Nat} {f pl t at' n : Int} (ip : pl < 2147483648) (ia : at' < 2147483648) {S : Int → Int} {L c s p q : Int} {h : bc_H} (hR : bs_R S L c s p q h) {P N1 N2 : bc_H → Prop} {Q1 Q0 : bc_H → Prop} (hQ : ∀ h1, h1 (-2) = h (-2) → h1 (-3) = h (-3) → bf_M_pour (d + 4) f pl t at' n h1 (bc_B P N1) → Q1 h1) (hQ0 : ∀ h1, h1 (-2) = h (-2) → h1 (-3) = h (-3) → bf_M_pour (d + 4) f pl t at' n h1 (bc_B N2 P) → Q0 h1) (hK : ∀ h2, bs_R S L c s p q h2 → P h2) : bf_X_pour (d + 4) f pl t at' n h (bc_B Q1 Q0) := by
  obtain ⟨⟨hcs, hpq⟩, ⟨e12, e13, e14, e15⟩, hS, est, efr, htr, htp, hfa, hlv, hlo, hrs, hmk, ⟨hC, hW, hck, hN, hP⟩⟩ := id hR
  obtain ⟨⟨n4, n5, n6, n2, n0, n1, n3⟩, hw, hd, hg, hf, hm⟩ := id hC
  obtain ⟨⟨w0, w1, w2, w3, w4, w5, w7⟩, hww, hwy, hwv, hwf, hwg⟩ := id hW
  have hq : ∀ v, P (bc_upd (bc_upd h 0 0 v) 156 2 v) := fun v => hK _ (bs_R_st hR v)
  have e160 : ∀ v, bc_upd h 0 0 v 160 = h 160 := fun v => bc_urow (by decide)
  have e159 : ∀ v, bc_upd h 0 0 v 159 = h 159 := fun v => bc_urow (by decide)
  have bad1 : ¬ ((0 ≤ f ∧ f < 4) ∧ (0 ≤ t ∧ t < 4) ∧ 0 ≤ pl ∧ 0 ≤ at' ∧ 0 ≤ n) → Q0 (bc_upd h 0 0 1) := fun z => by
    refine hQ0 _ (bc_urow (by decide)) (bc_urow (by decide)) ?_
    refine rv_M_pour (d := d + 3) ?_
    by_cases zf : 0 ≤ f ∧ f < 4
    · by_cases zt : 0 ≤ t ∧ t < 4
      · refine ⟨fun _ => ⟨fun _ => ⟨fun _ => hq _, fun q1 => ⟨fun _ => hq _, fun q2 => ⟨fun q3 => absurd ⟨zf, zt, q1, q2, q3⟩ z, fun _ => hq _⟩⟩⟩, fun q => absurd zt q⟩, fun q => absurd zf q⟩
      · exact ⟨fun _ => ⟨fun q => absurd q zt, fun _ => hq _⟩, fun q => absurd zf q⟩
    · exact ⟨fun q => absurd q zf, fun _ => hq _⟩
  by_cases hg0 : (0 ≤ f ∧ f < 4) ∧ (0 ≤ t ∧ t < 4) ∧ 0 ≤ pl ∧ 0 ≤ at' ∧ 0 ≤ n
  · obtain ⟨gf, gt, gp, ga, gn⟩ := hg0
    have tf := htr f gf.1 gf.2
    have tt := htr t gt.1 gt.2
    -- what the reference does, by what the class has found
    have ref : ∀ (m : bc_H) (A B : bc_H → Prop), m 160 = h 160 → m 159 = h 159 → (h 160 f = -1 ∨ h 160 t = -1 → B (bc_upd m 156 2 2)) → (h 160 f ≠ -1 → h 160 t ≠ -1 → h 159 f ≠ h 159 t → B (bc_upd m 156 2 8)) → (h 160 f ≠ -1 → h 160 t ≠ -1 → h 159 f = h 159 t → ¬ (n ≤ h 160 f - pl ∧ n ≤ h 160 t - at') → B (bc_upd m 156 2 3)) → (h 160 f ≠ -1 → h 160 t ≠ -1 → h 159 f = h 159 t → n ≤ h 160 f - pl ∧ n ≤ h 160 t - at' → bl_M_pour_67 (d + 4) f pl t at' n 0 m (bc_B A B)) → bf_M_pour (d + 4) f pl t at' n m (bc_B A B) := by
      intro m A B m160 m159 k2 k8 k3 kg
      refine rv_M_pour (d := d + 3) ⟨fun _ => ⟨fun _ => ⟨fun q => absurd q (by omega), fun _ => ⟨fun q => absurd q (by omega), fun _ => ⟨fun _ => ?_, fun q => absurd q (by omega)⟩⟩⟩, fun q => absurd gt q⟩, fun q => absurd gf q⟩
      rw [m160, m159]
      refine ⟨gf, fun z => k2 (Or.inl z), fun z1 => ⟨gt, fun z2 => ?_, fun z => k2 (Or.inr z)⟩⟩
      have b1 : -1 ≤ h 160 f ∧ h 160 f ≤ 60 := by rcases tf with ⟨_, _, a⟩ | ⟨_, _, a, b, _⟩ <;> omega
      have b2 : -1 ≤ h 160 t ∧ h 160 t ≤ 60 := by rcases tt with ⟨_, _, a⟩ | ⟨_, _, a, b, _⟩ <;> omega
      rw [bc_wi (x := h 160 f - pl) (by omega) (by omega), bc_wi (x := h 160 t - at') (by omega) (by omega)]
      exact ⟨gf, gt, fun z3 => ⟨gf, fun z4 => k3 z1 z2 z3 (by omega), fun z4 => ⟨gt, fun z5 => kg z1 z2 z3 ⟨z4, z5⟩, fun z5 => k3 z1 z2 z3 (by omega)⟩⟩, fun z3 => k8 z1 z2 z3⟩
    have no2 : h 160 f = -1 ∨ h 160 t = -1 → Q0 (bc_upd h 0 0 2) := fun z => hQ0 _ (bc_urow (by decide)) (bc_urow (by decide)) (ref _ _ _ (e160 _) (e159 _) (fun _ => hq _) (fun a b => absurd z (by omega)) (fun a b => absurd z (by omega)) (fun a b => absurd z (by omega)))
    refine rv_X_pour (d := d + 2) ⟨fun _ => ⟨fun _ => ⟨fun q => absurd q (by omega), fun _ => ⟨fun q => absurd q (by omega), fun _ => ⟨fun _ => ⟨gf, fun y1 => ⟨gt, fun y2 => ⟨gf, gt, ?_, ?_⟩, fun y2 => ?_⟩, fun y1 => ?_⟩, fun q => absurd q (by omega)⟩⟩⟩, fun q => absurd (by omega) q⟩, fun q => absurd (by omega) q⟩
    · intro y3
      rcases tf with ⟨q, _, _⟩ | ⟨f1, f2, f3, f4, f5⟩
      · exact absurd q y1
      rcases tt with ⟨q, _, _⟩ | ⟨t1, t2, t3, t4, t5⟩
      · exact absurd q y2
      have no3 : ¬ (n ≤ h 160 f - pl ∧ n ≤ h 160 t - at') → Q0 (bc_upd h 0 0 3) := fun z => hQ0 _ (bc_urow (by decide)) (bc_urow (by decide)) (ref _ _ _ (e160 _) (e159 _) (fun z2 => absurd z2 (by omega)) (fun a b g => absurd g (by omega)) (fun _ _ _ _ => hq _) (fun a b g g2 => absurd g2 z))
      rw [bc_wi (x := h 4 f - pl) (by omega) (by omega), bc_wi (x := h 4 t - at') (by omega) (by omega)]
      refine ⟨gf, fun z => no3 (by omega), fun z => ⟨gf, fun z2 => no3 (by omega), fun z2 => ⟨gt, fun z3 => no3 (by omega), fun z3 => ⟨gt, fun z4 => no3 (by omega), fun z4 => ?_⟩⟩⟩⟩
      refine rv_Trays_move ?_
      simp (disch := omega) only [bc_wi, Int.add_zero]
      refine ⟨by omega, ?_⟩
      refine hQ _ (by rw [bc_urow (by decide), bc_br (by decide)]) (by rw [bc_urow (by decide), bc_br (by decide)]) ?_
      refine ref _ _ _ (by rw [bc_urow (by decide), bc_br (by decide)]) (by rw [bc_urow (by decide), bc_br (by decide)]) (fun z => absurd z (by omega)) (fun a b g => absurd g (by omega)) (fun a b g g2 => absurd g2 (by omega)) (fun _ _ _ _ => ?_)
      refine bc_m_pourL (d := d + 3) gf gt gp (by omega) ga (by omega) gn ?_
      have e161 : (bc_upd (bc_blk h 5 (f * 60 + pl) 5 (t * 60 + at') n) 0 0 0) 161 = h 161 := by rw [bc_urow (by decide), bc_br (by decide)]
      rw [e161]
      have hrest : ∀ x y, x ≠ 5 → x ≠ 161 → (x ≠ 0 ∨ y ≠ 0) → (x ≠ 156 ∨ y ≠ 2) → bc_upd (bc_row (bc_upd (bc_blk h 5 (f * 60 + pl) 5 (t * 60 + at') n) 0 0 0) 161 (bs_mv (h 161) (60 * f + pl) (60 * t + at') n)) 156 2 0 x y = h x y := fun x y h1 h2 h3 h4 => by
        rw [bc_un2 h4, bc_rn h2, bc_un2 h3, bc_br h1]
      have hrow : ∀ x, x ≠ 5 → x ≠ 161 → x ≠ 0 → x ≠ 156 → bc_upd (bc_row (bc_upd (bc_blk h 5 (f * 60 + pl) 5 (t * 60 + at') n) 0 0 0) 161 (bs_mv (h 161) (60 * f + pl) (60 * t + at') n)) 156 2 0 x = h x := fun x h1 h2 h3 h4 => funext fun y => hrest x y h1 h2 (Or.inl h3) (Or.inl h4)
      refine hK _ (bs_R_T hR (fun x y k k1 k2 k3 => ?_) ?_ ?_ ?_ ?_)
      · have kf := bs_kf k
        exact hrest x y (by omega) (by omega) kf.1 kf.2
      · rw [bc_ur (by decide), bc_rn (by decide), bc_uu, bc_uu]
      · rw [hrow 3 (by decide) (by decide) (by decide) (by decide), hrow 4 (by decide) (by decide) (by decide) (by decide), hrow 159 (by decide) (by decide) (by decide) (by decide), hrow 160 (by decide) (by decide) (by decide) (by decide)]
        rw [bc_urow (a := 5) (by decide), bc_rn (a := 5) (by decide), bc_urow (a := 5) (by decide), bc_urow (a := 161) (by decide), bs_rr]
        intro u u0 u4
        rcases htr u u0 u4 with g | ⟨g1, g2, g3, g4, g5⟩
        · exact Or.inl g
        · refine Or.inr ⟨g1, g2, g3, g4, fun k k0 k1 => ?_⟩
          unfold bs_mv
          by_cases e : t * 60 + at' ≤ u * 60 + k ∧ u * 60 + k < t * 60 + at' + n
          · rw [bc_bi e.1 e.2, if_pos (by omega)]
            have := f5 (pl + (u * 60 + k - (t * 60 + at'))) (by omega) (by omega)
            rw [show f * 60 + pl + (u * 60 + k - (t * 60 + at')) = f * 60 + (pl + (u * 60 + k - (t * 60 + at'))) by omega, this, show 60 * f + pl + (60 * u + k - (60 * t + at')) = 60 * f + (pl + (u * 60 + k - (t * 60 + at'))) by omega]
          · rw [bc_bo (by omega), if_neg (by omega)]
            exact g5 k k0 k1
      · rw [hrest 6 0 (by decide) (by decide) (by decide) (by decide), hrest 156 10 (by decide) (by decide) (by decide) (by decide), hrow 7 (by decide) (by decide) (by decide) (by decide), hrow 162 (by decide) (by decide) (by decide) (by decide)]
        exact htp
      · rw [hrest 6 1 (by decide) (by decide) (by decide) (by decide), hrest 6 2 (by decide) (by decide) (by decide) (by decide), hrest 156 16 (by decide) (by decide) (by decide) (by decide), hrest 156 17 (by decide) (by decide) (by decide) (by decide)]
        exact hfa
    · intro y3
      rcases tf with ⟨q, _, _⟩ | ⟨f1, f2, f3, f4, f5⟩
      · exact absurd q y1
      rcases tt with ⟨q, _, _⟩ | ⟨t1, t2, t3, t4, t5⟩
      · exact absurd q y2
      exact hQ0 _ (bc_urow (by decide)) (bc_urow (by decide)) (ref _ _ _ (e160 _) (e159 _) (fun z2 => absurd z2 (by omega)) (fun _ _ _ => hq _) (fun a b g => absurd g (by omega)) (fun a b g => absurd g (by omega)))
    · rcases tt with ⟨_, _, g⟩ | ⟨t1, t2, t3, t4, t5⟩
      · exact no2 (Or.inr g)
      · exact absurd y2 (by omega)
    · rcases tf with ⟨_, _, g⟩ | ⟨t1, t2, t3, t4, t5⟩
      · exact no2 (Or.inl g)
      · exact absurd y1 (by omega)
  · have b1 := bad1 hg0
    refine rv_X_pour (d := d + 2) ⟨fun zf => ⟨fun zt => ⟨fun _ => b1, fun q1 => ⟨fun _ => b1, fun q2 => ⟨fun q3 => absurd hg0 (by omega), fun _ => b1⟩⟩⟩, fun _ => b1⟩, fun _ => b1⟩
