/-! ===== trays and tape, the calls ===== -/
theorem bs_o_read {d : Nat} {a b : Int} {S : Int → Int} {L c s p q : Int} {h : bc_H} (hR : bs_R S L c s p q h) {P : Int → Int → bc_H → Prop} {Q1 : Int → bc_H → Prop} (hQ : ∀ y h1, h1 (-2) = h (-2) → h1 (-3) = h (-3) → bf_M_read (d + 5) a b h1 (bc_J fun y2 h2 => P y y2 h2) → Q1 y h1) (hK : ∀ y h2, bs_R S L c s p q h2 → P y y h2) : bf_X_read (d + 5) a b h (bc_J Q1) := by
  obtain ⟨⟨hcs, hpq⟩, ⟨e12, e13, e14, e15⟩, hS, est, efr, htr, htp, hfa, hlv, hlo, hrs, hmk, ⟨hC, hW, hck, hN, hP⟩⟩ := id hR
  obtain ⟨⟨n4, n5, n6, n2, n0, n1, n3⟩, hw, hd, hg, hf, hm⟩ := id hC
  obtain ⟨⟨w0, w1, w2, w3, w4, w5, w7⟩, hww, hwy, hwv, hwf, hwg⟩ := id hW
  have hq : ∀ y v, P y y (bc_upd (bc_upd h 0 0 v) 156 2 v) := fun y v => hK _ _ (bs_R_st hR v)
  have e160 : ∀ v, bs_wp (bc_upd h 0 0 v) a b = bs_wp h a b := fun v => by unfold bs_wp; rw [bc_urow (by decide)]
  refine rv_X_read (d := d + 4) ?_
  refine bc_c_sop (d := d) hR ?_
  refine ⟨fun z => ?_, fun z => ?_⟩
  · have zz := z
    unfold bs_wp at zz
    split at zz
    · rename_i ht
      split at zz
      · omega
      · split at zz
        · omega
        · rename_i n1 n2
          rcases htr a ht.1 ht.2 with t | ⟨t1, t2, t3, t4, t5⟩
          · omega
          · have e5 := t5 b (by omega) (by omega)
            simp (disch := omega) only [bc_wi, Int.add_zero]
            refine ⟨by omega, ?_⟩
            rw [e5]
            refine hQ _ _ (by first | rfl | exact bc_urow (by decide)) (by first | rfl | exact bc_urow (by decide)) ?_
            refine rv_M_read (d := d + 4) ?_
            refine bc_m_wrongPlace (d := d + 3) ?_
            rw [e160, z]
            simp (disch := omega) only [bc_ur, bc_uu, bc_uj, bc_wi, Int.add_zero]
            exact ⟨fun _ => ⟨by omega, hq _ _⟩, fun q => absurd q (by decide)⟩
    · omega
  · refine hQ _ _ (by first | rfl | exact bc_urow (by decide)) (by first | rfl | exact bc_urow (by decide)) ?_
    refine rv_M_read (d := d + 4) ?_
    refine bc_m_wrongPlace (d := d + 3) ?_
    rw [e160]
    have hw0 : 0 ≤ bs_wp h a b := by unfold bs_wp; split <;> (try split) <;> (try split) <;> omega
    exact ⟨fun q => absurd q (by omega), fun q => hq _ _⟩
theorem bs_Rtr_put {s z x s' z' x' : Int → Int} {t k v : Int} (ht : bs_Rtr s z x s' z' x') (h0 : 0 ≤ t) (h4 : t < 4) (k0 : 0 ≤ k) (k6 : k < 60) : bs_Rtr s z (bc_set x (t * 60 + k) v) s' z' (bc_set x' (60 * t + k) v) := by
  intro u u0 u4
  rcases ht u u0 u4 with q | ⟨q1, q2, q3, q4, q5⟩
  · exact Or.inl q
  · refine Or.inr ⟨q1, q2, q3, q4, fun j j0 j1 => ?_⟩
    by_cases e : u = t ∧ j = k
    · obtain ⟨rfl, rfl⟩ := e; rw [bc_setj, bc_setj]
    · rw [bc_setn (by omega), bc_setn (by omega)]; exact q5 j j0 j1
theorem bs_o_write {d : Nat} {a b v : Int} {S : Int → Int} {L c s p q : Int} {h : bc_H} (hR : bs_R S L c s p q h) {P N1 N2 : bc_H → Prop} {Q1 Q0 : bc_H → Prop} (hQ : ∀ h1, h1 (-2) = h (-2) → h1 (-3) = h (-3) → bf_M_write (d + 6) a b v h1 (bc_B P N1) → Q1 h1) (hQ0 : ∀ h1, h1 (-2) = h (-2) → h1 (-3) = h (-3) → bf_M_write (d + 6) a b v h1 (bc_B N2 P) → Q0 h1) (hK : ∀ h2, bs_R S L c s p q h2 → P h2) : bf_X_write (d + 6) a b v h (bc_B Q1 Q0) := by
  obtain ⟨⟨hcs, hpq⟩, ⟨e12, e13, e14, e15⟩, hS, est, efr, htr, htp, hfa, hlv, hlo, hrs, hmk, ⟨hC, hW, hck, hN, hP⟩⟩ := id hR
  obtain ⟨⟨n4, n5, n6, n2, n0, n1, n3⟩, hw, hd, hg, hf, hm⟩ := id hC
  obtain ⟨⟨w0, w1, w2, w3, w4, w5, w7⟩, hww, hwy, hwv, hwf, hwg⟩ := id hW
  have hq : ∀ v, P (bc_upd (bc_upd h 0 0 v) 156 2 v) := fun v => hK _ (bs_R_st hR v)
  refine rv_X_write (d := d + 4) ?_
  refine bc_c_sop (d := d + 1) hR ?_
  refine ⟨fun z => ?_, fun z => ?_⟩
  · have zz := z
    unfold bs_wp at zz
    split at zz
    · rename_i ht
      split at zz
      · omega
      · split at zz
        · omega
        · rename_i n1 n2
          rcases htr a ht.1 ht.2 with t | ⟨t1, t2, t3, t4, t5⟩
          · omega
          · refine ⟨ht, bc_c_cut ?_⟩
            simp (disch := omega) only [bc_wi, Int.add_zero]
            refine ⟨by omega, ?_⟩
            refine hQ _ (by rw [bc_urow (by decide), bc_urow (by decide)]) (by rw [bc_urow (by decide), bc_urow (by decide)]) ?_
            refine rv_M_write (d := d + 5) ?_
            refine bc_m_wrongPlace (d := d + 4) ?_
            have e160 : bs_wp (bc_upd (bc_upd h 5 (a * 60 + b) (bs_cut v (h 3 a))) 0 0 0) a b = bs_wp h a b := by
              unfold bs_wp; rw [bc_urow (by decide), bc_urow (by decide)]
            rw [e160, z]
            refine ⟨fun q => absurd rfl q, fun _ => ⟨ht, bc_m_cut ?_⟩⟩
            simp (disch := omega) only [bc_ur, bc_uu, bc_uj, bc_wi, Int.add_zero]
            refine ⟨by omega, fun q => absurd rfl q, fun _ => ?_⟩
            rw [← t1]
            refine hK _ (bs_R_T hR (fun x y k k1 k2 k3 => ?_) ?_ ?_ ?_ ?_)
            · have kf := bs_kf k
              rw [bc_un2 (by omega), bc_un2 (by omega), bc_un2 (by omega), bc_un2 (by omega)]
            · rw [bc_ur (by decide), bc_ur (by decide), bc_uu, bc_uu]
            · rw [bc_urow (a := 3) (by decide), bc_urow (a := 3) (by decide), bc_urow (a := 3) (by decide), bc_urow (a := 3) (by decide)]
              rw [bc_urow (a := 4) (by decide), bc_urow (a := 4) (by decide), bc_urow (a := 4) (by decide), bc_urow (a := 4) (by decide)]
              rw [bc_urow (a := 159) (by decide), bc_urow (a := 159) (by decide), bc_urow (a := 159) (by decide), bc_urow (a := 159) (by decide)]
              rw [bc_urow (a := 160) (by decide), bc_urow (a := 160) (by decide), bc_urow (a := 160) (by decide), bc_urow (a := 160) (by decide)]
              rw [bc_urow (a := 5) (by decide), bc_urow (a := 5) (by decide), bc_urow (a := 5) (by decide), bc_u_row h 5, bs_rr]
              rw [bc_urow (a := 161) (by decide), bc_u_row _ 161, bs_rr, bc_urow (a := 161) (by decide), bc_rn (by decide)]
              exact bs_Rtr_put htr ht.1 ht.2 (by omega) (by omega)
            · simp (disch := omega) only [bc_ur, bc_uu, bc_uj, bc_wi, Int.add_zero]; rw [bc_urow (a := 7) (by decide), bc_urow (a := 7) (by decide), bc_urow (a := 7) (by decide), bc_urow (a := 7) (by decide), bc_urow (a := 162) (by decide), bc_urow (a := 162) (by decide), bc_urow (a := 162) (by decide), bc_urow (a := 162) (by decide)]; exact htp
            · simp (disch := omega) only [bc_ur, bc_uu, bc_uj, bc_wi, Int.add_zero]; exact hfa
    · omega
  · refine hQ0 _ (bc_urow (by decide)) (bc_urow (by decide)) ?_
    refine rv_M_write (d := d + 5) ?_
    refine bc_m_wrongPlace (d := d + 4) ?_
    have e160 : ∀ v, bs_wp (bc_upd h 0 0 v) a b = bs_wp h a b := fun v => by unfold bs_wp; rw [bc_urow (by decide)]
    rw [e160]
    exact ⟨fun q => ⟨fun _ => hq _, fun q2 => absurd q2 z⟩, fun q => absurd q z⟩
/-! the tape -/
theorem bc_c_append {d : Nat} {v : Int} {h : bc_H} {K : bc_H → Prop} (h0 : 0 ≤ h 6 0) (h9 : h 6 0 ≤ 896) (hK : ∀ h', h' 6 0 = h 6 0 + 4 → (∀ a b, a ≠ 7 → (a ≠ 6 ∨ b ≠ 0) → h' a b = h a b) → h' 7 = bc_set (bc_set (bc_set (bc_set (h 7) (h 6 0) (bc_w8 (bc_w8 (bc_shr v 24)))) (h 6 0 + 1) (bc_w8 (bc_w8 (bc_shr v 16)))) (h 6 0 + 2) (bc_w8 (bc_w8 (bc_shr v 8)))) (h 6 0 + 3) (bc_w8 (bc_w8 (bc_shr v 0))) → K h') : bf_Text_append d v h (bc_U K) := by
  refine rv_Text_append ?_
  refine rv_Text_append_2 ⟨fun q => absurd q (by decide), fun _ => ⟨fun q => absurd q (by omega), fun _ => ⟨by omega, ?_⟩⟩⟩
  simp (disch := omega) only [bc_ur, bc_uu, bc_uj, bc_wi, Int.add_zero]
  refine rv_Text_append_2 ⟨fun q => absurd q (by decide), fun _ => ?_⟩
  simp (disch := omega) only [bc_ur, bc_uu, bc_uj, bc_wi, Int.add_zero]
  refine ⟨fun q => absurd q (by omega), fun _ => ⟨by omega, ?_⟩⟩
  refine rv_Text_append_2 ⟨fun q => absurd q (by decide), fun _ => ?_⟩
  simp (disch := omega) only [bc_ur, bc_uu, bc_uj, bc_wi, Int.add_zero]
  refine ⟨fun q => absurd q (by omega), fun _ => ⟨by omega, ?_⟩⟩
  refine rv_Text_append_2 ⟨fun q => absurd q (by decide), fun _ => ?_⟩
  simp (disch := omega) only [bc_ur, bc_uu, bc_uj, bc_wi, Int.add_zero]
  refine ⟨fun q => absurd q (by omega), fun _ => ⟨by omega, ?_⟩⟩
  refine rv_Text_append_2 ⟨fun _ => ?_, fun q => absurd q (by decide)⟩
  refine hK _ ?_ (fun a b n1 n2 => ?_) ?_
  · rw [bc_uu]; omega
  · rw [bc_un2 (by omega), bc_un2 (by omega), bc_un2 (by omega), bc_un2 (by omega), bc_un2 (by omega), bc_un2 (by omega), bc_un2 (by omega), bc_un2 (by omega)]
  · rw [bc_urow (by decide), bc_u_row _ 7, bs_rr, bc_urow (by decide), bc_u_row _ 7, bs_rr, bc_urow (by decide), bc_u_row _ 7, bs_rr, bc_urow (by decide), bc_u_row _ 7, bs_rr]
    rw [show h 6 0 + 1 + 1 = h 6 0 + 2 by omega, show h 6 0 + 2 + 1 = h 6 0 + 3 by omega]
    rfl
