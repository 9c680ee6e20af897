/-! ===== what is done: walls, lamp, visitors, minutes ===== -/
set_option maxRecDepth 20000 in
theorem bs_popF : ∀ s : Fin 256, (bc_and (bc_w32 ((bc_w32 ((bc_and (bc_w32 ((bc_w32 ((bc_and (bc_w32 (((s.val : Nat) : Int) - (bc_and (bc_ushr ((s.val : Nat) : Int) 1) 1431655765))) 858993459) + (bc_and (bc_ushr (bc_w32 (((s.val : Nat) : Int) - (bc_and (bc_ushr ((s.val : Nat) : Int) 1) 1431655765))) 2) 858993459))) + (bc_ushr (bc_w32 ((bc_and (bc_w32 (((s.val : Nat) : Int) - (bc_and (bc_ushr ((s.val : Nat) : Int) 1) 1431655765))) 858993459) + (bc_and (bc_ushr (bc_w32 (((s.val : Nat) : Int) - (bc_and (bc_ushr ((s.val : Nat) : Int) 1) 1431655765))) 2) 858993459))) 4))) 252645135) + (bc_ushr (bc_and (bc_w32 ((bc_w32 ((bc_and (bc_w32 (((s.val : Nat) : Int) - (bc_and (bc_ushr ((s.val : Nat) : Int) 1) 1431655765))) 858993459) + (bc_and (bc_ushr (bc_w32 (((s.val : Nat) : Int) - (bc_and (bc_ushr ((s.val : Nat) : Int) 1) 1431655765))) 2) 858993459))) + (bc_ushr (bc_w32 ((bc_and (bc_w32 (((s.val : Nat) : Int) - (bc_and (bc_ushr ((s.val : Nat) : Int) 1) 1431655765))) 858993459) + (bc_and (bc_ushr (bc_w32 (((s.val : Nat) : Int) - (bc_and (bc_ushr ((s.val : Nat) : Int) 1) 1431655765))) 2) 858993459))) 4))) 252645135) 8))) + (bc_ushr (bc_w32 ((bc_and (bc_w32 ((bc_w32 ((bc_and (bc_w32 (((s.val : Nat) : Int) - (bc_and (bc_ushr ((s.val : Nat) : Int) 1) 1431655765))) 858993459) + (bc_and (bc_ushr (bc_w32 (((s.val : Nat) : Int) - (bc_and (bc_ushr ((s.val : Nat) : Int) 1) 1431655765))) 2) 858993459))) + (bc_ushr (bc_w32 ((bc_and (bc_w32 (((s.val : Nat) : Int) - (bc_and (bc_ushr ((s.val : Nat) : Int) 1) 1431655765))) 858993459) + (bc_and (bc_ushr (bc_w32 (((s.val : Nat) : Int) - (bc_and (bc_ushr ((s.val : Nat) : Int) 1) 1431655765))) 2) 858993459))) 4))) 252645135) + (bc_ushr (bc_and (bc_w32 ((bc_w32 ((bc_and (bc_w32 (((s.val : Nat) : Int) - (bc_and (bc_ushr ((s.val : Nat) : Int) 1) 1431655765))) 858993459) + (bc_and (bc_ushr (bc_w32 (((s.val : Nat) : Int) - (bc_and (bc_ushr ((s.val : Nat) : Int) 1) 1431655765))) 2) 858993459))) + (bc_ushr (bc_w32 ((bc_and (bc_w32 (((s.val : Nat) : Int) - (bc_and (bc_ushr ((s.val : Nat) : Int) 1) 1431655765))) 858993459) + (bc_and (bc_ushr (bc_w32 (((s.val : Nat) : Int) - (bc_and (bc_ushr ((s.val : Nat) : Int) 1) 1431655765))) 2) 858993459))) 4))) 252645135) 8))) 16))) 63) = (bs_pcN s.val : Nat) := by decide +kernel
theorem bc_j_bitCount {d : Nat} {s : Int} {h : bc_H} {K : Int → bc_H → Prop} (h0 : 0 ≤ s) (h1 : s < 256) (hK : K (bs_pc s) h) : bf_JInteger_bitCount d s h (bc_I K) := by
  have t := bs_popF ⟨s.toNat, by omega⟩
  have e : ((s.toNat : Nat) : Int) = s := by omega
  dsimp only at t
  rw [e] at t
  refine rv_JInteger_bitCount ?_
  rw [t]
  exact hK

theorem bs_o_paint {d : Nat} {a b g : Int} {S : Int → Int} {L c s p q : Int} {h : bc_H} (hR : bs_R S L c s p q h) {P N1 N2 : bc_H → Prop} {Q1 Q0 : bc_H → Prop} (hQ : ∀ h1, h1 (-2) = h (-2) → h1 (-3) = h (-3) → bf_M_paint (d + 4) a b g h1 (bc_B P N1) → Q1 h1) (hQ0 : ∀ h1, h1 (-2) = h (-2) → h1 (-3) = h (-3) → bf_M_paint (d + 4) a b g h1 (bc_B N2 P) → Q0 h1) (hK : ∀ h2, bs_R S L c s p q h2 → P h2) : bf_X_paint (d + 4) a b g h (bc_B Q1 Q0) := by
  obtain ⟨⟨hcs, hpq⟩, ⟨e12, e13, e14, e15⟩, hS, est, efr, htr, htp, hfa, hlv, hlo, hrs, hmk, ⟨hC, hW, hck, hN, hP⟩⟩ := id hR
  obtain ⟨⟨n4, n5, n6, n2, n0, n1, n3⟩, hw, hd, hg, hf, hm⟩ := id hC
  obtain ⟨⟨w0, w1, w2, w3, w4, w5, w7⟩, hww, hwy, hwv, hwf, hwg⟩ := id hW
  have hq : ∀ v, P (bc_upd (bc_upd h 0 0 v) 156 2 v) := fun v => hK _ (bs_R_st hR v)
  have bad : ¬ ((0 ≤ a ∧ a < h 157 1) ∧ (0 ≤ b ∧ b < h 157 0) ∧ 1 ≤ g ∧ g ≤ 9) → Q0 (bc_upd h 0 0 1) := fun z => by
    refine hQ0 _ (bc_urow (by decide)) (bc_urow (by decide)) ?_
    refine rv_M_paint (d := d + 3) ?_
    simp (disch := omega) only [bc_ur, bc_uu, bc_uj, bc_wi, Int.add_zero]
    exact ⟨fun z1 => ⟨fun z2 => ⟨fun z3 => absurd ⟨z1, z2, z3⟩ z, fun _ => hq _⟩, fun _ => hq _⟩, fun _ => hq _⟩
  refine rv_X_paint (d := d + 2) ?_
  rw [e12, n1, n0]
  rw [bc_wi (x := h 157 1 - 1) (by omega) (by omega), bc_wi (x := h 157 0 - 1) (by omega) (by omega)]
  simp (disch := omega) only [bc_ur, bc_uu, bc_uj, bc_wi, Int.add_zero]
  rw [e12]
  refine ⟨by omega, fun za => ⟨by omega, fun zb => ⟨fun zg => ⟨by omega, by omega, by omega, by omega, ?_⟩, fun z => bad (by omega)⟩, fun z => bad (by omega)⟩, fun z => bad (by omega)⟩
  refine hQ _ (by rw [bc_urow (by omega), bc_urow (by omega), bc_urow (by omega)]) (by rw [bc_urow (by omega), bc_urow (by omega), bc_urow (by omega)]) ?_
  refine rv_M_paint (d := d + 3) ?_
  simp (disch := omega) only [bc_ur, bc_uu, bc_uj, bc_wi, Int.add_zero]
  refine ⟨fun _ => ⟨fun _ => ⟨fun _ => ⟨by omega, by omega, fun h2 eh => ?_⟩, fun q => absurd zg q⟩, fun q => absurd (by omega) q⟩, fun q => absurd (by omega) q⟩
  have e157 : h2 157 = bc_set (bc_set (h 157) (10 + 2 * a) b) (10 + 2 * a + 1) g := by
    rw [eh, bc_urow (by decide), bc_u_row _ 157, bs_rr, bc_u_row _ 157, bs_rr, bc_urow (by omega), bc_urow (by omega), bc_urow (by omega)]
  have er : ∀ x y, x ≠ 157 → x ≠ c + 3 + 1 → x ≠ c + 3 + 2 → (x ≠ 0 ∨ y ≠ 0) → (x ≠ 156 ∨ y ≠ 2) → h2 x y = h x y := fun x y k1 k2 k3 k4 k5 => by
    rw [eh, bc_un2 k5, bc_ur k1, bc_ur k1, bc_un2 k4, bc_ur k3, bc_ur k2]
  have rw0 : ∀ x, x ≠ 157 → x ≠ c + 3 + 1 → x ≠ c + 3 + 2 → x ≠ 0 → x ≠ 156 → h2 x = h x := fun x k1 k2 k3 k4 k5 => funext fun y => er x y k1 k2 k3 (Or.inl k4) (Or.inl k5)
  have es : ∀ k, k ≠ 10 + 2 * a → k ≠ 10 + 2 * a + 1 → h2 157 k = h 157 k := fun k k1 k2 => by rw [e157, bc_setn k2, bc_setn k1]
  refine hK _ (bs_R_mut hR (fun x y k k1 k2 => ?_) ?_ (es _ (by omega) (by omega)) (es _ (by omega) (by omega)) (es _ (by omega) (by omega)) (es _ (by omega) (by omega)) ?_ ?_ ?_)
  · have kf := bs_kf k
    by_cases e : x = 157
    · subst e; exact es y (by omega) (by omega)
    · exact er x y e (by omega) (by omega) kf.1 kf.2
  · rw [eh, bc_ur (by decide), bc_ur (by decide), bc_ur (by decide), bc_uu, bc_uu]
  · refine ⟨⟨?_, ?_, ?_, ?_, ?_, ?_, ?_⟩, fun w h0 h1 => ?_, ?_, ?_, ?_, ?_⟩
    · rw [er _ _ (by omega) (by omega) (by omega) (by omega) (by omega), es _ (by omega) (by omega)]; exact n4
    · rw [er _ _ (by omega) (by omega) (by omega) (by omega) (by omega), es _ (by omega) (by omega)]; exact n5
    · rw [er _ _ (by omega) (by omega) (by omega) (by omega) (by omega), es _ (by omega) (by omega)]; exact n6
    · rw [er _ _ (by omega) (by omega) (by omega) (by omega) (by omega), es _ (by omega) (by omega)]; exact n2
    · rw [er _ _ (by omega) (by omega) (by omega) (by omega) (by omega), es _ (by omega) (by omega)]; exact n0
    · rw [er _ _ (by omega) (by omega) (by omega) (by omega) (by omega), es _ (by omega) (by omega)]; exact n1
    · rw [er _ _ (by omega) (by omega) (by omega) (by omega) (by omega), es _ (by omega) (by omega)]; exact n3
    · rw [es 1 (by omega) (by omega)] at h1
      have e1 : h2 (c + 3 + 1) w = if w = a then b else h (c + 3 + 1) w := by
        rw [eh, bc_ur (by omega), bc_ur (by omega), bc_ur (by omega), bc_ur (by omega), bc_ur (by omega)]
        by_cases q : w = a
        · rw [if_pos q, q, bc_uu]
        · rw [if_neg q, bc_uj q]
      have e2 : h2 (c + 3 + 2) w = if w = a then g else h (c + 3 + 2) w := by
        rw [eh, bc_ur (by omega), bc_ur (by omega), bc_ur (by omega), bc_ur (by omega)]
        by_cases q : w = a
        · rw [if_pos q, q, bc_uu]
        · rw [if_neg q, bc_uj q, bc_ur (by omega)]
      by_cases q : w = a
      · rw [e1, e2, if_pos q, if_pos q, q, e157, bc_setn (by omega), bc_setj, bc_setj]
        exact ⟨rfl, fun _ => rfl⟩
      · rw [e1, e2, if_neg q, if_neg q, es _ (by omega) (by omega), es (10 + 2 * w + 1) (by omega) (by omega)]
        exact hw w h0 h1
    · exact bs_Cd_p w7 (rw0 _ (by omega) (by omega) (by omega) (by omega) (by omega)) (rw0 _ (by omega) (by omega) (by omega) (by omega) (by omega)) ⟨es _ (by omega) (by omega), es _ (by omega) (by omega), fun k _ _ => es k (by omega) (by omega)⟩ hd
    · exact bs_Cg_p w0.2 (rw0 _ (by omega) (by omega) (by omega) (by omega) (by omega)) (es _ (by omega) (by omega)) (fun k _ _ => es k (by omega) (by omega)) hg
    · exact bs_Cf_p w3.2 (rw0 _ (by omega) (by omega) (by omega) (by omega) (by omega)) (rw0 _ (by omega) (by omega) (by omega) (by omega) (by omega)) (rw0 _ (by omega) (by omega) (by omega) (by omega) (by omega)) (rw0 _ (by omega) (by omega) (by omega) (by omega) (by omega)) (es _ (by omega) (by omega)) (fun k _ _ => es k (by omega) (by omega)) hf
    · exact bs_Cm_p w2.2 (rw0 _ (by omega) (by omega) (by omega) (by omega) (by omega)) (rw0 _ (by omega) (by omega) (by omega) (by omega) (by omega)) (rw0 _ (by omega) (by omega) (by omega) (by omega) (by omega)) (rw0 _ (by omega) (by omega) (by omega) (by omega) (by omega)) (es _ (by omega) (by omega)) (fun k _ _ => es k (by omega) (by omega)) hm
  · refine ⟨?_, fun w h0 h1 => ?_, bs_WY_p w7.2 ⟨es _ (by omega) (by omega), es _ (by omega) (by omega), fun k _ _ => es k (by omega) (by omega)⟩ hwy, bs_WV_p w2.2 (es _ (by omega) (by omega)) (es _ (by omega) (by omega)) (es _ (by omega) (by omega)) (fun k _ _ => es k (by omega) (by omega)) hwv, bs_WF_p w3.2 (es _ (by omega) (by omega)) (es _ (by omega) (by omega)) (fun k _ _ => es k (by omega) (by omega)) hwf, bs_WG_p w0.2 (es _ (by omega) (by omega)) (fun k _ _ => es k (by omega) (by omega)) hwg⟩
    · rw [es 0 (by omega) (by omega), es 1 (by omega) (by omega), es 2 (by omega) (by omega), es 3 (by omega) (by omega), es 4 (by omega) (by omega), es 5 (by omega) (by omega), es 7 (by omega) (by omega)]
      exact ⟨w0, w1, w2, w3, w4, w5, w7⟩
    · rw [es 1 (by omega) (by omega)] at h1
      rw [es 0 (by omega) (by omega)]
      by_cases q : w = a
      · rw [q, e157, bc_setn (by omega), bc_setj, bc_setj]
        omega
      · rw [es _ (by omega) (by omega), es (10 + 2 * w + 1) (by omega) (by omega)]
        exact hww w h0 h1
  · rw [es _ (by omega) (by omega)]; exact hck
theorem bs_o_scrub {d : Nat} {a : Int} {S : Int → Int} {L c s p q : Int} {h : bc_H} (hR : bs_R S L c s p q h) {P : Int → Int → bc_H → Prop} {Q1 : Int → bc_H → Prop} (hQ : ∀ y h1, h1 (-2) = h (-2) → h1 (-3) = h (-3) → bf_M_scrub (d + 4) a h1 (bc_I fun y2 h2 => P y y2 h2) → Q1 y h1) (hK : ∀ y h2, bs_R S L c s p q h2 → P y y h2) : bf_X_scrub (d + 4) a h (bc_I Q1) := by
  obtain ⟨⟨hcs, hpq⟩, ⟨e12, e13, e14, e15⟩, hS, est, efr, htr, htp, hfa, hlv, hlo, hrs, hmk, ⟨hC, hW, hck, hN, hP⟩⟩ := id hR
  obtain ⟨⟨n4, n5, n6, n2, n0, n1, n3⟩, hw, hd, hg, hf, hm⟩ := id hC
  obtain ⟨⟨w0, w1, w2, w3, w4, w5, w7⟩, hww, hwy, hwv, hwf, hwg⟩ := id hW
  have hq : ∀ y v, P y y (bc_upd (bc_upd h 0 0 v) 156 2 v) := fun y v => hK _ _ (bs_R_st hR v)
  refine rv_X_scrub (d := d + 2) ?_
  rw [e12, n1, bc_wi (x := h 157 1 - 1) (by omega) (by omega)]
  simp (disch := omega) only [bc_ur, bc_uu, bc_uj, bc_wi, Int.add_zero]
  rw [e12]
  refine ⟨by omega, fun za => ⟨by omega, by omega, fun zb => ⟨by omega, by omega, by omega, by omega, ?_⟩, fun zb => ?_⟩, fun z => ?_⟩
  case refine_2 =>
    refine hQ _ _ (by first | rfl | exact bc_urow (by decide)) (by first | rfl | exact bc_urow (by decide)) ?_
    refine rv_M_scrub (d := d + 2) ?_
    simp (disch := omega) only [bc_ur, bc_uu, bc_uj, bc_wi, Int.add_zero]
    have e1 := (hw a za.1 (by omega)).1
    exact ⟨fun _ => ⟨by omega, fun q => absurd (by omega) q, fun _ => hq _ _⟩, fun q => absurd (by omega) q⟩
  case refine_3 =>
    refine hQ _ _ (by first | rfl | exact bc_urow (by decide)) (by first | rfl | exact bc_urow (by decide)) ?_
    refine rv_M_scrub (d := d + 2) ?_
    simp (disch := omega) only [bc_ur, bc_uu, bc_uj, bc_wi, Int.add_zero]
    exact ⟨fun q => absurd q (by omega), fun _ => hq _ _⟩
  refine hQ _ _ (by rw [bc_urow (by omega), bc_urow (by omega), bc_urow (by omega)]) (by rw [bc_urow (by omega), bc_urow (by omega), bc_urow (by omega)]) ?_
  refine rv_M_scrub (d := d + 2) ?_
  simp (disch := omega) only [bc_ur, bc_uu, bc_uj, bc_wi, Int.add_zero]
  have ew := (hw a za.1 (by omega)).1
  rw [ew] at zb ⊢
  refine ⟨fun _ => ⟨by omega, fun _ => ⟨by omega, ?_⟩, fun q => absurd q zb⟩, fun q => absurd (by omega) q⟩
  generalize eh : bc_upd (bc_upd (bc_upd (bc_upd (bc_upd h (c + 3 + 1) a (-1)) (c + 3 + 2) a 0) 0 0 0) 157 (10 + 2 * a) (-1)) 156 2 0 = h2
  have eh := eh.symm
  have e157 : h2 157 = bc_set (h 157) (10 + 2 * a) (-1) := by
    rw [eh, bc_urow (by decide), bc_u_row _ 157, bs_rr, bc_urow (by omega), bc_urow (by omega), bc_urow (by omega)]
  have er : ∀ x y, x ≠ 157 → x ≠ c + 3 + 1 → x ≠ c + 3 + 2 → (x ≠ 0 ∨ y ≠ 0) → (x ≠ 156 ∨ y ≠ 2) → h2 x y = h x y := fun x y k1 k2 k3 k4 k5 => by
    rw [eh, bc_un2 k5, bc_ur k1, bc_un2 k4, bc_ur k3, bc_ur k2]
  have rw0 : ∀ x, x ≠ 157 → x ≠ c + 3 + 1 → x ≠ c + 3 + 2 → x ≠ 0 → x ≠ 156 → h2 x = h x := fun x k1 k2 k3 k4 k5 => funext fun y => er x y k1 k2 k3 (Or.inl k4) (Or.inl k5)
  have es : ∀ k, k ≠ 10 + 2 * a → k ≠ 10 + 2 * a + 1 → h2 157 k = h 157 k := fun k k1 k2 => by rw [e157, bc_setn k1]
  refine hK _ _ (bs_R_mut hR (fun x y k k1 k2 => ?_) ?_ (es _ (by omega) (by omega)) (es _ (by omega) (by omega)) (es _ (by omega) (by omega)) (es _ (by omega) (by omega)) ?_ ?_ ?_)
  · have kf := bs_kf k
    by_cases e : x = 157
    · subst e; exact es y (by omega) (by omega)
    · exact er x y e (by omega) (by omega) kf.1 kf.2
  · rw [eh, bc_ur (by decide), bc_ur (by decide), bc_uu, bc_uu]
  · refine ⟨⟨?_, ?_, ?_, ?_, ?_, ?_, ?_⟩, fun w h0 h1 => ?_, ?_, ?_, ?_, ?_⟩
    · rw [er _ _ (by omega) (by omega) (by omega) (by omega) (by omega), es _ (by omega) (by omega)]; exact n4
    · rw [er _ _ (by omega) (by omega) (by omega) (by omega) (by omega), es _ (by omega) (by omega)]; exact n5
    · rw [er _ _ (by omega) (by omega) (by omega) (by omega) (by omega), es _ (by omega) (by omega)]; exact n6
    · rw [er _ _ (by omega) (by omega) (by omega) (by omega) (by omega), es _ (by omega) (by omega)]; exact n2
    · rw [er _ _ (by omega) (by omega) (by omega) (by omega) (by omega), es _ (by omega) (by omega)]; exact n0
    · rw [er _ _ (by omega) (by omega) (by omega) (by omega) (by omega), es _ (by omega) (by omega)]; exact n1
    · rw [er _ _ (by omega) (by omega) (by omega) (by omega) (by omega), es _ (by omega) (by omega)]; exact n3
    · rw [es 1 (by omega) (by omega)] at h1
      have e1 : h2 (c + 3 + 1) w = if w = a then (-1) else h (c + 3 + 1) w := by
        rw [eh, bc_ur (by omega), bc_ur (by omega), bc_ur (by omega), bc_ur (by omega)]
        by_cases q : w = a
        · rw [if_pos q, q, bc_uu]
        · rw [if_neg q, bc_uj q]
      have e2 : h2 (c + 3 + 2) w = if w = a then 0 else h (c + 3 + 2) w := by
        rw [eh, bc_ur (by omega), bc_ur (by omega), bc_ur (by omega)]
        by_cases q : w = a
        · rw [if_pos q, q, bc_uu]
        · rw [if_neg q, bc_uj q, bc_ur (by omega)]
      by_cases q : w = a
      · rw [e1, e2, if_pos q, if_pos q, q, e157, bc_setj]
        exact ⟨rfl, fun z => absurd rfl z⟩
      · rw [e1, e2, if_neg q, if_neg q, es _ (by omega) (by omega), es (10 + 2 * w + 1) (by omega) (by omega)]
        exact hw w h0 h1
    · exact bs_Cd_p w7 (rw0 _ (by omega) (by omega) (by omega) (by omega) (by omega)) (rw0 _ (by omega) (by omega) (by omega) (by omega) (by omega)) ⟨es _ (by omega) (by omega), es _ (by omega) (by omega), fun k _ _ => es k (by omega) (by omega)⟩ hd
    · exact bs_Cg_p w0.2 (rw0 _ (by omega) (by omega) (by omega) (by omega) (by omega)) (es _ (by omega) (by omega)) (fun k _ _ => es k (by omega) (by omega)) hg
    · exact bs_Cf_p w3.2 (rw0 _ (by omega) (by omega) (by omega) (by omega) (by omega)) (rw0 _ (by omega) (by omega) (by omega) (by omega) (by omega)) (rw0 _ (by omega) (by omega) (by omega) (by omega) (by omega)) (rw0 _ (by omega) (by omega) (by omega) (by omega) (by omega)) (es _ (by omega) (by omega)) (fun k _ _ => es k (by omega) (by omega)) hf
    · exact bs_Cm_p w2.2 (rw0 _ (by omega) (by omega) (by omega) (by omega) (by omega)) (rw0 _ (by omega) (by omega) (by omega) (by omega) (by omega)) (rw0 _ (by omega) (by omega) (by omega) (by omega) (by omega)) (rw0 _ (by omega) (by omega) (by omega) (by omega) (by omega)) (es _ (by omega) (by omega)) (fun k _ _ => es k (by omega) (by omega)) hm
  · refine ⟨?_, fun w h0 h1 => ?_, bs_WY_p w7.2 ⟨es _ (by omega) (by omega), es _ (by omega) (by omega), fun k _ _ => es k (by omega) (by omega)⟩ hwy, bs_WV_p w2.2 (es _ (by omega) (by omega)) (es _ (by omega) (by omega)) (es _ (by omega) (by omega)) (fun k _ _ => es k (by omega) (by omega)) hwv, bs_WF_p w3.2 (es _ (by omega) (by omega)) (es _ (by omega) (by omega)) (fun k _ _ => es k (by omega) (by omega)) hwf, bs_WG_p w0.2 (es _ (by omega) (by omega)) (fun k _ _ => es k (by omega) (by omega)) hwg⟩
    · rw [es 0 (by omega) (by omega), es 1 (by omega) (by omega), es 2 (by omega) (by omega), es 3 (by omega) (by omega), es 4 (by omega) (by omega), es 5 (by omega) (by omega), es 7 (by omega) (by omega)]
      exact ⟨w0, w1, w2, w3, w4, w5, w7⟩
    · rw [es 1 (by omega) (by omega)] at h1
      rw [es 0 (by omega) (by omega)]
      by_cases q : w = a
      · rw [q, e157, bc_setj, bc_setn (by omega)]
        have := (hww a za.1 (by omega)).2.2
        omega
      · rw [es _ (by omega) (by omega), es (10 + 2 * w + 1) (by omega) (by omega)]
        exact hww w h0 h1
  · rw [es _ (by omega) (by omega)]; exact hck
