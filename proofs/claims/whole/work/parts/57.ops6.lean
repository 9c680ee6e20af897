/-! ===== pieces of a cave that stay ===== -/
theorem bs_Cw_p {h h' : bc_H} {c : Int} {A B : Int → Int} (b7 : A 1 ≤ 7) (hr : h' (c + 3 + 1) = h (c + 3 + 1)) (hr2 : h' (c + 3 + 2) = h (c + 3 + 2)) (e1 : B 1 = A 1) (e : ∀ k, 10 ≤ k → k < 24 → B k = A k) (hC : bs_Cw h c A) : bs_Cw h' c B := fun w h0 h1 => by
  rw [e1] at h1
  rw [hr, hr2, e (10 + 2 * w) (by omega) (by omega), e (10 + 2 * w + 1) (by omega) (by omega)]; exact hC w h0 h1
theorem bs_Cd_p {h h' : bc_H} {c : Int} {A B : Int → Int} (b7 : 0 ≤ A 7 ∧ A 7 ≤ 10) (hr : h' (c + 3 + 3) = h (c + 3 + 3)) (hr2 : h' (c + 3 + 4) = h (c + 3 + 4)) (hw : bs_wag A B) (hC : bs_Cd h c A) : bs_Cd h' c B := fun a b a0 a1 b0 b1 => by
  rw [hw.1] at a1 b1
  rw [hr, hr2, bs_way_congr hw b7, bs_far_congr hw b7]; exact hC a b a0 a1 b0 b1
theorem bs_Cg_p {h h' : bc_H} {c : Int} {A B : Int → Int} (b5 : A 0 ≤ 5) (hr : h' (c + 1 + 1) = h (c + 1 + 1)) (e0 : B 0 = A 0) (e : ∀ k, 134 ≤ k → k < 160 → B k = A k) (hC : bs_Cg h c A) : bs_Cg h' c B := fun a b a0 a1 b0 b1 => by
  rw [e0] at a1 b1
  rw [hr, e _ (by omega) (by omega)]; exact hC a b a0 a1 b0 b1
theorem bs_Cf_p {h h' : bc_H} {c : Int} {A B : Int → Int} (b8 : A 3 ≤ 8) (r1 : h' (c + 8 + 1) = h (c + 8 + 1)) (r2 : h' (c + 8 + 2) = h (c + 8 + 2)) (r3 : h' (c + 8 + 3) = h (c + 8 + 3)) (r4 : h' (c + 8 + 4) = h (c + 8 + 4)) (e3 : B 3 = A 3) (e : ∀ k, 102 ≤ k → k < 134 → B k = A k) (hC : bs_Cf h c A) : bs_Cf h' c B := fun f h0 h1 => by
  rw [e3] at h1
  rw [r1, r2, r3, r4, e (102 + 4 * f) (by omega) (by omega), e (102 + 4 * f + 1) (by omega) (by omega), e (102 + 4 * f + 2) (by omega) (by omega), e (102 + 4 * f + 3) (by omega) (by omega)]; exact hC f h0 h1
theorem bs_Cm_p {h h' : bc_H} {c : Int} {A B : Int → Int} (b6 : A 2 ≤ 6) (r1 : h' (c + 13) = h (c + 13)) (r2 : h' (c + 14) = h (c + 14)) (r3 : h' (c + 15) = h (c + 15)) (r4 : h' (c + 16) = h (c + 16)) (e2 : B 2 = A 2) (e : ∀ k, 54 ≤ k → k < 102 → B k = A k) (hC : bs_Cm h c A) : bs_Cm h' c B := fun v h0 h1 => by
  rw [e2] at h1
  rw [r1, r2, r3, r4, e (54 + 8 * v) (by omega) (by omega), e (54 + 8 * v + 1) (by omega) (by omega), e (54 + 8 * v + 2) (by omega) (by omega)]
  refine ⟨(hC v h0 h1).1, (hC v h0 h1).2.1, (hC v h0 h1).2.2.1, fun b b0 b5 => ?_⟩
  rw [e _ (by omega) (by omega)]
  exact (hC v h0 h1).2.2.2 b b0 b5
theorem bs_WW_p {A B : Int → Int} (b7 : A 1 ≤ 7) (e0 : B 0 = A 0) (e1 : B 1 = A 1) (e : ∀ k, 10 ≤ k → k < 24 → B k = A k) (hC : bs_WW A) : bs_WW B := fun w h0 h1 => by
  rw [e1] at h1
  rw [e (10 + 2 * w) (by omega) (by omega), e (10 + 2 * w + 1) (by omega) (by omega), e0]; exact hC w h0 h1
theorem bs_WY_p {A B : Int → Int} (b7 : A 7 ≤ 10) (hw : bs_wag A B) (hC : bs_WY A) : bs_WY B := fun k h0 h1 => by
  rw [hw.2.1] at h1
  rw [hw.2.2 (24 + 3 * k) (by omega) (by omega), hw.2.2 (24 + 3 * k + 1) (by omega) (by omega), hw.2.2 (24 + 3 * k + 2) (by omega) (by omega), hw.1]; exact hC k h0 h1
theorem bs_WV_p {A B : Int → Int} (b6 : A 2 ≤ 6) (e0 : B 0 = A 0) (e1 : B 1 = A 1) (e2 : B 2 = A 2) (e : ∀ k, 54 ≤ k → k < 102 → B k = A k) (hC : bs_WV A) : bs_WV B := fun v h0 h1 => by
  rw [e2] at h1
  rw [e (54 + 8 * v) (by omega) (by omega), e (54 + 8 * v + 1) (by omega) (by omega), e (54 + 8 * v + 2) (by omega) (by omega), e1]
  refine ⟨(hC v h0 h1).1, (hC v h0 h1).2.1, (hC v h0 h1).2.2.1, fun b b0 b5 => ?_⟩
  rw [e _ (by omega) (by omega), e0]
  exact (hC v h0 h1).2.2.2 b b0 b5
theorem bs_WF_p {A B : Int → Int} (b8 : A 3 ≤ 8) (e0 : B 0 = A 0) (e3 : B 3 = A 3) (e : ∀ k, 102 ≤ k → k < 134 → B k = A k) (hC : bs_WF A) : bs_WF B := fun f h0 h1 => by
  rw [e3] at h1
  rw [e (102 + 4 * f) (by omega) (by omega), e (102 + 4 * f + 1) (by omega) (by omega), e (102 + 4 * f + 2) (by omega) (by omega), e (102 + 4 * f + 3) (by omega) (by omega), e0, e3]; exact hC f h0 h1
theorem bs_WG_p {A B : Int → Int} (b5 : A 0 ≤ 5) (e0 : B 0 = A 0) (e : ∀ k, 134 ≤ k → k < 160 → B k = A k) (hC : bs_WG A) : bs_WG B := fun a b a0 a1 b0 b1 => by
  rw [e0] at a1 b1
  rw [e _ (by omega) (by omega)]; exact hC a b a0 a1 b0 b1
/-! sets of walls and visitors told -/
theorem bc_c_bareOnes {d : Nat} {c : Int} {h : bc_H} {A : Int → Int} {K : Int → bc_H → Prop} (hw : bs_Cw h c A) (he : h (c + 3) 0 = A 1) (h7 : 0 ≤ A 1 ∧ A 1 ≤ 7) (hK : K (bs_bset (fun w => A (10 + 2 * w) = -1) (A 1)) h) : bf_Walls_bareOnes d (c + 3) h (bc_I K) := by
  refine rv_Walls_bareOnes ?_
  refine bc_lup (P := fun i => bl_Walls_bareOnes_4 d (c + 3) (bs_bset (fun w => A (10 + 2 * w) = -1) i) i h (bc_I K)) (n := A 1) ?_ (fun i h0 hi ih => ?_) (Int.le_refl 0) h7.1
  · exact rv_Walls_bareOnes_4 ⟨fun _ => hK, fun q => absurd q (by omega)⟩
  · refine rv_Walls_bareOnes_4 ⟨fun q => absurd q (by omega), fun _ => ?_⟩
    rw [bs_bset_s h0] at ih
    rw [(hw i h0 hi).1]
    simp (disch := omega) only [bc_wi, Int.add_zero]
    refine ⟨by omega, ?_⟩
    by_cases q : A (10 + 2 * i) = -1
    · rw [if_pos q] at ih ⊢; exact ih
    · rw [if_neg q] at ih ⊢; exact ih
theorem bc_m_bareOnes {d : Nat} {h : bc_H} {A : Int → Int} {K : Int → bc_H → Prop} (eA : h 157 = A) (h7 : 0 ≤ A 1 ∧ A 1 ≤ 7) (hK : K (bs_bset (fun w => A (10 + 2 * w) = -1) (A 1)) h) : bf_M_bareOnes (d + 2) h (bc_I K) := by
  refine rv_M_bareOnes ?_
  refine bc_lup (P := fun i => bl_M_bareOnes_4 (d + 2) (bs_bset (fun w => A (10 + 2 * w) = -1) i) i h (bc_I K)) (n := A 1) ?_ (fun i h0 hi ih => ?_) (Int.le_refl 0) h7.1
  · exact rv_M_bareOnes_4 ⟨fun _ => hK, fun q => absurd q (by rw [eA]; omega)⟩
  · refine rv_M_bareOnes_4 ⟨fun q => absurd q (by rw [eA]; omega), fun _ => ?_⟩
    rw [bs_bset_s h0] at ih
    rw [eA]
    simp (disch := omega) only [bc_wi, Int.add_zero]
    refine ⟨by omega, ?_⟩
    by_cases q : A (10 + 2 * i) = -1
    · rw [if_pos q] at ih ⊢; exact ih
    · rw [if_neg q] at ih ⊢; exact ih
theorem bs_o_told {d : Nat} {a : Int} {S : Int → Int} {L c s p q : Int} {h : bc_H} (hR : bs_R S L c s p q h) {P : Int → Int → bc_H → Prop} {Q1 : Int → bc_H → Prop} (hQ : ∀ y h1, h1 (-2) = h (-2) → h1 (-3) = h (-3) → bf_M_told (d + 9) a h1 (bc_I fun y2 h2 => P y y2 h2) → Q1 y h1) (hK : ∀ y h2, bs_R S L c s p q h2 → P y y h2) : bf_X_told (d + 9) a h (bc_I Q1) := by
  obtain ⟨⟨hcs, hpq⟩, ⟨e12, e13, e14, e15⟩, hS, est, efr, htr, htp, hfa, hlv, hlo, hrs, hmk, ⟨hC, hW, hck, hN, hP⟩⟩ := id hR
  obtain ⟨⟨n4, n5, n6, n2, n0, n1, n3⟩, hw, hd, hg, hf, hm⟩ := id hC
  obtain ⟨⟨w0, w1, w2, w3, w4, w5, w7⟩, hww, hwy, hwv, hwf, hwg⟩ := id hW
  have hq : ∀ y v, P y y (bc_upd (bc_upd h 0 0 v) 156 2 v) := fun y v => hK _ _ (bs_R_st hR v)
  have e157 : ∀ v, (bc_upd h 0 0 v) 157 = h 157 := fun v => bc_urow (by decide)
  have lo : 0 ≤ a → a < 7 → Q1 (h 157 a) (bc_upd h 0 0 0) := fun z1 z2 => by
    refine hQ _ _ (by first | rfl | exact bc_urow (by decide)) (by first | rfl | exact bc_urow (by decide)) ?_
    refine rv_M_told (d := d + 8) ⟨fun q => absurd q (by omega), fun _ => ⟨fun _ => ⟨fun q => absurd q (by omega), fun _ => ⟨by omega, ?_⟩⟩, fun q => absurd q (by omega)⟩⟩
    simp (disch := omega) only [bc_ur, bc_uu, bc_uj, bc_wi, Int.add_zero]
    exact hq _ _
  refine rv_X_told (d := d + 8) ?_
  rw [e12, n0, n1, n2, n3, n4, n5, n6]
  have lo2 : ∀ k, a = k → 0 ≤ k → k < 7 → Q1 (h 157 k) (bc_upd h 0 0 0) := fun k e => by subst e; exact lo
  have bad : ¬ (0 ≤ a ∧ a ≤ 9) → Q1 (-1) (bc_upd h 0 0 1) := fun z => by
    refine hQ _ _ (by first | rfl | exact bc_urow (by decide)) (by first | rfl | exact bc_urow (by decide)) ?_
    exact rv_M_told (d := d + 8) ⟨fun _ => hq _ _, fun q => ⟨fun q2 => absurd ⟨q, q2⟩ z, fun _ => hq _ _⟩⟩
  (repeat' with_reducible (first | intro _ | apply And.intro))
  all_goals first
    | omega
    | exact lo2 _ (by assumption) (by decide) (by decide)
    | exact bad (by omega)
    | skip
  · have z : a = 7 := by omega
    refine bc_c_bareOnes hw n1 w1 ?_
    refine hQ _ _ (by first | rfl | exact bc_urow (by decide)) (by first | rfl | exact bc_urow (by decide)) ?_
    refine rv_M_told (d := d + 8) ⟨fun q => absurd q (by omega), fun _ => ⟨fun _ => ⟨fun _ => ⟨fun q => absurd z q, fun _ => ?_⟩, fun q => absurd q (by omega)⟩, fun q => absurd q (by omega)⟩⟩
    refine bc_m_bareOnes (d := d + 6) (e157 _) w1 ?_
    exact hq _ _
  · have z : a = 8 := by omega
    refine bc_c_turnedOnes (d := d + 6) hm n2 w2.1 w2.2 ?_
    refine hQ _ _ (by first | rfl | exact bc_urow (by decide)) (by first | rfl | exact bc_urow (by decide)) ?_
    refine rv_M_told (d := d + 8) ⟨fun q => absurd q (by omega), fun _ => ⟨fun _ => ⟨fun _ => ⟨fun _ => ?_, fun q => absurd q (by omega)⟩, fun q => absurd q (by omega)⟩, fun q => absurd q (by omega)⟩⟩
    rw [z, show bc_w32 (8 - 8) = 0 by decide]
    refine bc_m_visitorsThat0 (d := d + 3) (e157 _) hW ?_
    exact hq _ _
  · have z : a = 9 := by omega
    refine bc_c_goingOnes hm n2 w2.1 w2.2 ?_
    refine hQ _ _ (by first | rfl | exact bc_urow (by decide)) (by first | rfl | exact bc_urow (by decide)) ?_
    refine rv_M_told (d := d + 8) ⟨fun q => absurd q (by omega), fun _ => ⟨fun _ => ⟨fun _ => ⟨fun _ => ?_, fun q => absurd q (by omega)⟩, fun q => absurd q (by omega)⟩, fun q => absurd q (by omega)⟩⟩
    rw [z, show bc_w32 (9 - 8) = 1 by decide]
    refine bc_m_visitorsThat1 (d := d + 6) (e157 _) w2 ?_
    exact hq _ _
