/-! ===== calls that only ask ===== -/
theorem bs_R_st {S : Int → Int} {L c s p q : Int} {h : bc_H} (hR : bs_R S L c s p q h) (v : Int) : bs_R S L c s p q (bc_upd (bc_upd h 0 0 v) 156 2 v) := by
  refine bs_R_F hR (bs_F_u (bs_F_u (bs_F_refl _ _ _) ?_) ?_) ?_
  · unfold bs_keep; omega
  · unfold bs_keep; omega
  · rw [bc_ur (by decide), bc_uu, bc_uu]
theorem bc_c_greatestI {d : Nat} {c v : Int} {h : bc_H} {A : Int → Int} {K : Int → bc_H → Prop} (hC : bs_Cm h c A) (h0 : 0 ≤ v) (hv : v < A 2) (h6 : A 2 ≤ 6) (hK : K (bs_most A v) h) : bf_Cave_greatest d 30 (c + 16) (bc_w32 (v * 5)) h (bc_I K) := by
  simp (disch := omega) only [bc_wi, Int.add_zero]
  refine bc_c_greatest (by omega) (by omega) (by omega) ?_
  rw [bs_most_h hC h0 hv]
  exact hK
theorem bs_fm_congr {f g : Int → Int} (h : ∀ b, 0 ≤ b → b < 5 → f b = g b) : bs_fm f = bs_fm g := by
  have key : ∀ m : Nat, (m : Int) ≤ 5 → bs_fmN f m = bs_fmN g m := by
    intro m
    induction m with
    | zero => intro _; rfl
    | succ m ih =>
      intro hm
      have e := ih (by omega)
      rw [show ((m + 1 : Nat) : Int) = (m : Int) + 1 by omega, bs_fmN_s f (by omega), bs_fmN_s g (by omega), e, h m (by omega) (by omega)]
      by_cases q : m = 0
      · subst q; show (if g 0 ≤ f 0 then (0 : Int) else 0) = (if g 0 ≤ g 0 then (0 : Int) else 0); split <;> split <;> rfl
      · have hp := (bs_fmN_p g (n := (m : Int)) (by omega)).1
        rw [h (bs_fmN g (m : Int)) hp.1 (by omega)]
  exact key 5 (by decide)
theorem bs_o_status {d : Nat} {S : Int → Int} {L c s p q : Int} {h : bc_H} (hR : bs_R S L c s p q h) {P : Int → Int → bc_H → Prop} {Q1 : Int → bc_H → Prop} (hQ : ∀ y h1, h1 (-2) = h (-2) → h1 (-3) = h (-3) → bf_M_status d h1 (bc_I fun y2 h2 => P y y2 h2) → Q1 y h1) (hK : ∀ y h2, bs_R S L c s p q h2 → P y y h2) : bf_X_status d h (bc_I Q1) := by
  refine rv_X_status ?_
  refine hQ _ _ (by first | rfl | exact bc_urow (by decide)) (by first | rfl | exact bc_urow (by decide)) ?_; refine rv_M_status ?_
  rw [hR.2.2.2.1]
  exact hK _ _ hR
theorem bs_o_top {d : Nat} {S : Int → Int} {L c s p q : Int} {h : bc_H} (hR : bs_R S L c s p q h) {P : Int → Int → bc_H → Prop} {Q1 : Int → bc_H → Prop} (hQ : ∀ y h1, h1 (-2) = h (-2) → h1 (-3) = h (-3) → bf_M_top d h1 (bc_J fun y2 h2 => P y y2 h2) → Q1 y h1) (hK : ∀ y h2, bs_R S L c s p q h2 → P y y h2) : bf_X_top d h (bc_J Q1) := by
  refine rv_X_top ?_
  refine hQ _ _ (by first | rfl | exact bc_urow (by decide)) (by first | rfl | exact bc_urow (by decide)) ?_; refine rv_M_top ?_
  rw [hR.2.2.2.2.1.1]
  exact hK _ _ hR
theorem bs_o_bottom {d : Nat} {S : Int → Int} {L c s p q : Int} {h : bc_H} (hR : bs_R S L c s p q h) {P : Int → Int → bc_H → Prop} {Q1 : Int → bc_H → Prop} (hQ : ∀ y h1, h1 (-2) = h (-2) → h1 (-3) = h (-3) → bf_M_bottom d h1 (bc_J fun y2 h2 => P y y2 h2) → Q1 y h1) (hK : ∀ y h2, bs_R S L c s p q h2 → P y y h2) : bf_X_bottom d h (bc_J Q1) := by
  refine rv_X_bottom ?_
  refine hQ _ _ (by first | rfl | exact bc_urow (by decide)) (by first | rfl | exact bc_urow (by decide)) ?_; refine rv_M_bottom ?_
  rw [hR.2.2.2.2.1.2]
  exact hK _ _ hR
theorem bs_o_fault {d : Nat} {a : Int} {S : Int → Int} {L c s p q : Int} {h : bc_H} (hR : bs_R S L c s p q h) {P : Int → Int → bc_H → Prop} {Q1 : Int → bc_H → Prop} (hQ : ∀ y h1, h1 (-2) = h (-2) → h1 (-3) = h (-3) → bf_M_fault d a h1 (bc_I fun y2 h2 => P y y2 h2) → Q1 y h1) (hK : ∀ y h2, bs_R S L c s p q h2 → P y y h2) : bf_X_fault d a h (bc_I Q1) := by
  obtain ⟨⟨hcs, hpq⟩, ⟨e12, e13, e14, e15⟩, hS, est, efr, htr, htp, hfa, hlv, hlo, hrs, hmk, ⟨hC, hW, hck, hN, hP⟩⟩ := id hR
  obtain ⟨⟨n4, n5, n6, n2, n0, n1, n3⟩, hw, hd, hg, hf, hm⟩ := id hC
  obtain ⟨⟨w0, w1, w2, w3, w4, w5, w7⟩, hww, hwy, hwv, hwf, hwg⟩ := id hW
  refine rv_X_fault ⟨fun z => hQ _ _ rfl rfl (rv_M_fault ?_), fun z => hQ _ _ rfl rfl (rv_M_fault ?_)⟩
  · rw [if_neg z, hfa.2]; exact hK _ _ hR
  · rw [if_pos z, hfa.1]; exact hK _ _ hR
theorem bs_o_lived {d : Nat} {a : Int} {S : Int → Int} {L c s p q : Int} {h : bc_H} (hR : bs_R S L c s p q h) {P : Int → Int → bc_H → Prop} {Q1 : Int → bc_H → Prop} (hQ : ∀ y h1, h1 (-2) = h (-2) → h1 (-3) = h (-3) → bf_M_lived (d + 5) a h1 (bc_I fun y2 h2 => P y y2 h2) → Q1 y h1) (hK : ∀ y h2, bs_R S L c s p q h2 → P y y h2) : bf_X_lived (d + 5) a h (bc_I Q1) := by
  obtain ⟨⟨hcs, hpq⟩, ⟨e12, e13, e14, e15⟩, hS, est, efr, htr, htp, hfa, hlv, hlo, hrs, hmk, ⟨hC, hW, hck, hN, hP⟩⟩ := id hR
  obtain ⟨⟨n4, n5, n6, n2, n0, n1, n3⟩, hw, hd, hg, hf, hm⟩ := id hC
  obtain ⟨⟨w0, w1, w2, w3, w4, w5, w7⟩, hww, hwy, hwv, hwf, hwg⟩ := id hW
  have hq : ∀ y v, P y y (bc_upd (bc_upd h 0 0 v) 156 2 v) := fun y v => hK _ _ (bs_R_st hR v)
  refine rv_X_lived (d := d + 4) ?_
  (repeat' with_reducible (first | intro _ | apply And.intro))
  all_goals first
    | omega
    | (refine hQ _ _ (by first | rfl | exact bc_urow (by decide)) (by first | rfl | exact bc_urow (by decide)) ?_; refine rv_M_lived (d := d + 4) ?_; simp (disch := omega) only [bc_ur, bc_uu, bc_uj, bc_wi, Int.add_zero]; (repeat' with_reducible (first | intro _ | apply And.intro)))
  all_goals first
    | omega
    | exact hq _ _
    | (exfalso; omega)
    | (rw [hlv.2.2 a (by omega) (by omega)]; exact hq _ _)
    | skip
theorem bs_o_wall {d : Nat} {a b : Int} {S : Int → Int} {L c s p q : Int} {h : bc_H} (hR : bs_R S L c s p q h) {P : Int → Int → bc_H → Prop} {Q1 : Int → bc_H → Prop} (hQ : ∀ y h1, h1 (-2) = h (-2) → h1 (-3) = h (-3) → bf_M_wall (d + 5) a b h1 (bc_I fun y2 h2 => P y y2 h2) → Q1 y h1) (hK : ∀ y h2, bs_R S L c s p q h2 → P y y h2) : bf_X_wall (d + 5) a b h (bc_I Q1) := by
  obtain ⟨⟨hcs, hpq⟩, ⟨e12, e13, e14, e15⟩, hS, est, efr, htr, htp, hfa, hlv, hlo, hrs, hmk, ⟨hC, hW, hck, hN, hP⟩⟩ := id hR
  obtain ⟨⟨n4, n5, n6, n2, n0, n1, n3⟩, hw, hd, hg, hf, hm⟩ := id hC
  obtain ⟨⟨w0, w1, w2, w3, w4, w5, w7⟩, hww, hwy, hwv, hwf, hwg⟩ := id hW
  have hq : ∀ y v, P y y (bc_upd (bc_upd h 0 0 v) 156 2 v) := fun y v => hK _ _ (bs_R_st hR v)
  refine rv_X_wall (d := d + 3) ?_
  rw [e12, n1, bc_wi (by omega) (by omega)]
  refine ⟨by omega, fun ha => ?_, fun ha => ?_⟩
  · have fw := hw a ha.1 (by omega)
    rw [fw.1]
    (repeat' with_reducible (first | intro _ | apply And.intro))
    all_goals first
      | omega
      | (refine hQ _ _ (by first | rfl | exact bc_urow (by decide)) (by first | rfl | exact bc_urow (by decide)) ?_; refine rv_M_wall (d := d + 3) ?_; simp (disch := omega) only [bc_ur, bc_uu, bc_uj, bc_wi, Int.add_zero]; (repeat' with_reducible (first | intro _ | apply And.intro)))
    all_goals first
      | omega
      | exact hq _ _
      | (exfalso; omega)
      | (rw [fw.2 (by omega), show b = 1 by omega]; exact hq _ _)
      | (rw [show b = 0 by omega, Int.add_zero]; exact hq _ _)
      | skip
  · refine hQ _ _ (by first | rfl | exact bc_urow (by decide)) (by first | rfl | exact bc_urow (by decide)) ?_; refine rv_M_wall (d := d + 3) ?_; simp (disch := omega) only [bc_ur, bc_uu, bc_uj, bc_wi, Int.add_zero]
    refine ⟨fun z => absurd z (by omega), fun _ => hq _ _⟩
theorem bs_o_visitor {d : Nat} {a b : Int} {S : Int → Int} {L c s p q : Int} {h : bc_H} (hR : bs_R S L c s p q h) {P : Int → Int → bc_H → Prop} {Q1 : Int → bc_H → Prop} (hQ : ∀ y h1, h1 (-2) = h (-2) → h1 (-3) = h (-3) → bf_M_visitor (d + 9) a b h1 (bc_I fun y2 h2 => P y y2 h2) → Q1 y h1) (hK : ∀ y h2, bs_R S L c s p q h2 → P y y h2) : bf_X_visitor (d + 9) a b h (bc_I Q1) := by
  obtain ⟨⟨hcs, hpq⟩, ⟨e12, e13, e14, e15⟩, hS, est, efr, htr, htp, hfa, hlv, hlo, hrs, hmk, ⟨hC, hW, hck, hN, hP⟩⟩ := id hR
  obtain ⟨⟨n4, n5, n6, n2, n0, n1, n3⟩, hw, hd, hg, hf, hm⟩ := id hC
  obtain ⟨⟨w0, w1, w2, w3, w4, w5, w7⟩, hww, hwy, hwv, hwf, hwg⟩ := id hW
  have hq : ∀ y v, P y y (bc_upd (bc_upd h 0 0 v) 156 2 v) := fun y v => hK _ _ (bs_R_st hR v)
  have e157 : ∀ v, (bc_upd h 0 0 v) 157 = h 157 := fun v => bc_urow (by decide)
  refine rv_X_visitor (d := d + 7) ?_
  rw [e12, n2, bc_wi (by omega) (by omega)]
  refine ⟨by omega, fun ha => ?_, fun ha => ?_⟩
  · have fm := hm a ha.1 (by omega)
    rw [fm.1, fm.2.1, fm.2.2.1]
    (repeat' with_reducible (first | intro _ | apply And.intro))
    all_goals first
      | omega
      | (refine hQ _ _ (by first | rfl | exact bc_urow (by decide)) (by first | rfl | exact bc_urow (by decide)) ?_; refine rv_M_visitor (d := d + 7) ?_; simp (disch := omega) only [bc_ur, bc_uu, bc_uj, bc_wi, Int.add_zero]; (repeat' with_reducible (first | intro _ | apply And.intro)))
      | skip
    all_goals first
      | omega
      | exact hq _ _
      | (exfalso; omega)
      | (rw [show b = 0 by omega, Int.add_zero]; exact hq _ _)
      | (rw [show b = 1 by omega]; exact hq _ _)
      | (rw [show b = 2 by omega]; exact hq _ _)
      | skip
    refine bc_c_greatestI (d := d + 7) hm ha.1 (by omega) (by omega) ?_
    refine hQ _ _ (by first | rfl | exact bc_urow (by decide)) (by first | rfl | exact bc_urow (by decide)) ?_; refine rv_M_visitor (d := d + 7) ?_
    simp (disch := omega) only [bc_ur, bc_uu, bc_uj, bc_wi, Int.add_zero]
    refine ⟨fun _ => ⟨fun z => absurd z (by omega), fun _ => ⟨fun _ => ⟨fun z => absurd z (by omega), fun _ => ?_⟩, fun z => absurd z (by omega)⟩⟩, fun z => absurd z (by omega)⟩
    refine bc_m_mostOf (d := d + 5) (e157 _) hW ha.1 (by omega) ?_
    exact hq _ _
  · refine hQ _ _ (by first | rfl | exact bc_urow (by decide)) (by first | rfl | exact bc_urow (by decide)) ?_; refine rv_M_visitor (d := d + 7) ?_; simp (disch := omega) only [bc_ur, bc_uu, bc_uj, bc_wi, Int.add_zero]
    refine ⟨fun z => absurd z (by omega), fun _ => hq _ _⟩
theorem bs_o_measure {d : Nat} {a b : Int} {S : Int → Int} {L c s p q : Int} {h : bc_H} (hR : bs_R S L c s p q h) {P : Int → Int → bc_H → Prop} {Q1 : Int → bc_H → Prop} (hQ : ∀ y h1, h1 (-2) = h (-2) → h1 (-3) = h (-3) → bf_M_measure (d + 5) a b h1 (bc_I fun y2 h2 => P y y2 h2) → Q1 y h1) (hK : ∀ y h2, bs_R S L c s p q h2 → P y y h2) : bf_X_measure (d + 5) a b h (bc_I Q1) := by
  obtain ⟨⟨hcs, hpq⟩, ⟨e12, e13, e14, e15⟩, hS, est, efr, htr, htp, hfa, hlv, hlo, hrs, hmk, ⟨hC, hW, hck, hN, hP⟩⟩ := id hR
  obtain ⟨⟨n4, n5, n6, n2, n0, n1, n3⟩, hw, hd, hg, hf, hm⟩ := id hC
  obtain ⟨⟨w0, w1, w2, w3, w4, w5, w7⟩, hww, hwy, hwv, hwf, hwg⟩ := id hW
  have hq : ∀ y v, P y y (bc_upd (bc_upd h 0 0 v) 156 2 v) := fun y v => hK _ _ (bs_R_st hR v)
  refine rv_X_measure (d := d + 3) ?_
  rw [e12, n2, n0, bc_wi (by omega) (by omega), bc_wi (x := h 157 0 - 1) (by omega) (by omega)]
  by_cases hab : (0 ≤ a ∧ a < h 157 2) ∧ 0 ≤ b ∧ b < h 157 0
  · have fm := (hm a hab.1.1 hab.1.2).2.2.2 b hab.2.1 (by omega)
    simp (disch := omega) only [bc_wi, Int.add_zero]
    rw [fm]
    (repeat' with_reducible (first | intro _ | apply And.intro))
    all_goals first
      | omega
      | (exfalso; omega)
      | (refine hQ _ _ (by first | rfl | exact bc_urow (by decide)) (by first | rfl | exact bc_urow (by decide)) ?_; refine rv_M_measure (d := d + 3) ?_; simp (disch := omega) only [bc_ur, bc_uu, bc_uj, bc_wi, Int.add_zero]; (repeat' with_reducible (first | intro _ | apply And.intro)))
    all_goals first
      | omega
      | exact hq _ _
      | (exfalso; omega)
  · refine ⟨by omega, fun ha => ⟨by omega, fun hb => absurd hab (by omega), fun hb => ?_⟩, fun ha => ?_⟩
    all_goals (refine hQ _ _ (by first | rfl | exact bc_urow (by decide)) (by first | rfl | exact bc_urow (by decide)) ?_; refine rv_M_measure (d := d + 3) ?_; simp (disch := omega) only [bc_ur, bc_uu, bc_uj, bc_wi, Int.add_zero]; (repeat' with_reducible (first | intro _ | apply And.intro)))
    all_goals first
      | omega
      | exact hq _ _
      | (exfalso; omega)
theorem bs_o_weight {d : Nat} {a b : Int} {S : Int → Int} {L c s p q : Int} {h : bc_H} (hR : bs_R S L c s p q h) {P : Int → Int → bc_H → Prop} {Q1 : Int → bc_H → Prop} (hQ : ∀ y h1, h1 (-2) = h (-2) → h1 (-3) = h (-3) → bf_M_weight (d + 5) a b h1 (bc_I fun y2 h2 => P y y2 h2) → Q1 y h1) (hK : ∀ y h2, bs_R S L c s p q h2 → P y y h2) : bf_X_weight (d + 5) a b h (bc_I Q1) := by
  obtain ⟨⟨hcs, hpq⟩, ⟨e12, e13, e14, e15⟩, hS, est, efr, htr, htp, hfa, hlv, hlo, hrs, hmk, ⟨hC, hW, hck, hN, hP⟩⟩ := id hR
  obtain ⟨⟨n4, n5, n6, n2, n0, n1, n3⟩, hw, hd, hg, hf, hm⟩ := id hC
  obtain ⟨⟨w0, w1, w2, w3, w4, w5, w7⟩, hww, hwy, hwv, hwf, hwg⟩ := id hW
  have hq : ∀ y v, P y y (bc_upd (bc_upd h 0 0 v) 156 2 v) := fun y v => hK _ _ (bs_R_st hR v)
  refine rv_X_weight (d := d + 3) ?_
  rw [e12, n0, bc_wi (by omega) (by omega)]
  by_cases hab : (0 ≤ a ∧ a < h 157 0) ∧ 0 ≤ b ∧ b < h 157 0
  · have fg := hg a b hab.1.1 hab.1.2 hab.2.1 hab.2.2
    simp (disch := omega) only [bc_wi, Int.add_zero]
    rw [fg]
    (repeat' with_reducible (first | intro _ | apply And.intro))
    all_goals first
      | omega
      | (exfalso; omega)
      | (refine hQ _ _ (by first | rfl | exact bc_urow (by decide)) (by first | rfl | exact bc_urow (by decide)) ?_; refine rv_M_weight (d := d + 4) ?_; simp (disch := omega) only [bc_ur, bc_uu, bc_uj, bc_wi, Int.add_zero]; (repeat' with_reducible (first | intro _ | apply And.intro)))
    all_goals first
      | omega
      | exact hq _ _
      | (exfalso; omega)
  · refine ⟨by omega, fun ha => ⟨by omega, fun hb => absurd hab (by omega), fun hb => ?_⟩, fun ha => ?_⟩
    all_goals (refine hQ _ _ (by first | rfl | exact bc_urow (by decide)) (by first | rfl | exact bc_urow (by decide)) ?_; refine rv_M_weight (d := d + 4) ?_; simp (disch := omega) only [bc_ur, bc_uu, bc_uj, bc_wi, Int.add_zero]; (repeat' with_reducible (first | intro _ | apply And.intro)))
    all_goals first
      | omega
      | exact hq _ _
      | (exfalso; omega)
theorem bs_o_figure {d : Nat} {a b : Int} {S : Int → Int} {L c s p q : Int} {h : bc_H} (hR : bs_R S L c s p q h) {P : Int → Int → bc_H → Prop} {Q1 : Int → bc_H → Prop} (hQ : ∀ y h1, h1 (-2) = h (-2) → h1 (-3) = h (-3) → bf_M_figure (d + 5) a b h1 (bc_I fun y2 h2 => P y y2 h2) → Q1 y h1) (hK : ∀ y h2, bs_R S L c s p q h2 → P y y h2) : bf_X_figure (d + 5) a b h (bc_I Q1) := by
  obtain ⟨⟨hcs, hpq⟩, ⟨e12, e13, e14, e15⟩, hS, est, efr, htr, htp, hfa, hlv, hlo, hrs, hmk, ⟨hC, hW, hck, hN, hP⟩⟩ := id hR
  obtain ⟨⟨n4, n5, n6, n2, n0, n1, n3⟩, hw, hd, hg, hf, hm⟩ := id hC
  obtain ⟨⟨w0, w1, w2, w3, w4, w5, w7⟩, hww, hwy, hwv, hwf, hwg⟩ := id hW
  have hq : ∀ y v, P y y (bc_upd (bc_upd h 0 0 v) 156 2 v) := fun y v => hK _ _ (bs_R_st hR v)
  refine rv_X_figure (d := d + 3) ?_
  rw [e12, n3, bc_wi (by omega) (by omega)]
  refine ⟨by omega, fun ha => ?_, fun ha => ?_⟩
  · have ff := hf a ha.1 (by omega)
    rw [ff.1, ff.2.1, ff.2.2.1, ff.2.2.2]
    (repeat' with_reducible (first | intro _ | apply And.intro))
    all_goals first
      | omega
      | (refine hQ _ _ (by first | rfl | exact bc_urow (by decide)) (by first | rfl | exact bc_urow (by decide)) ?_; refine rv_M_figure (d := d + 3) ?_; simp (disch := omega) only [bc_ur, bc_uu, bc_uj, bc_wi, Int.add_zero]; (repeat' with_reducible (first | intro _ | apply And.intro)))
    all_goals first
      | omega
      | exact hq _ _
      | (exfalso; omega)
      | (rw [show b = 0 by omega, Int.add_zero]; exact hq _ _)
      | (rw [show b = 1 by omega]; exact hq _ _)
      | (rw [show b = 2 by omega]; exact hq _ _)
      | (rw [show b = 3 by omega]; exact hq _ _)
  · refine hQ _ _ (by first | rfl | exact bc_urow (by decide)) (by first | rfl | exact bc_urow (by decide)) ?_; refine rv_M_figure (d := d + 3) ?_; simp (disch := omega) only [bc_ur, bc_uu, bc_uj, bc_wi, Int.add_zero]
    refine ⟨fun z => absurd z (by omega), fun _ => hq _ _⟩
theorem bs_o_who {d : Nat} {a : Int} {S : Int → Int} {L c s p q : Int} {h : bc_H} (hR : bs_R S L c s p q h) {P : Int → Int → bc_H → Prop} {Q1 : Int → bc_H → Prop} (hQ : ∀ y h1, h1 (-2) = h (-2) → h1 (-3) = h (-3) → bf_M_who (d + 9) a h1 (bc_I fun y2 h2 => P y y2 h2) → Q1 y h1) (hK : ∀ y h2, bs_R S L c s p q h2 → P y y h2) : bf_X_who (d + 9) a h (bc_I Q1) := by
  obtain ⟨⟨hcs, hpq⟩, ⟨e12, e13, e14, e15⟩, hS, est, efr, htr, htp, hfa, hlv, hlo, hrs, hmk, ⟨hC, hW, hck, hN, hP⟩⟩ := id hR
  obtain ⟨⟨n4, n5, n6, n2, n0, n1, n3⟩, hw, hd, hg, hf, hm⟩ := id hC
  obtain ⟨⟨w0, w1, w2, w3, w4, w5, w7⟩, hww, hwy, hwv, hwf, hwg⟩ := id hW
  have hq : ∀ y v, P y y (bc_upd (bc_upd h 0 0 v) 156 2 v) := fun y v => hK _ _ (bs_R_st hR v)
  have e157 : ∀ v, (bc_upd h 0 0 v) 157 = h 157 := fun v => bc_urow (by decide)
  refine rv_X_who (d := d + 7) ?_
  rw [e12, n2, bc_wi (by omega) (by omega)]
  refine ⟨by omega, fun ha => ⟨by omega, ?_⟩, fun ha => ?_⟩
  · have hV := hwv a ha.1 (by omega)
    refine bc_c_isTurned (d := d + 7) hm ha.1 (by omega) (by omega) (fun ht => ?_) (fun ht => ?_)
    · rw [e12]
      refine ⟨by omega, ?_⟩
      simp (disch := omega) only [bc_wi, Int.add_zero]
      refine bc_c_foremost (by omega) (by omega) (by omega) ?_
      have ef : bs_fm (fun b => h (c + 16) (a * 5 + b)) = bs_fm (fun b => h 157 (54 + 8 * a + (3 + b))) := bs_fm_congr (fun b b0 b5 => (hm a ha.1 (by omega)).2.2.2 b b0 b5)
      rw [ef]
      refine hQ _ _ (by first | rfl | exact bc_urow (by decide)) (by first | rfl | exact bc_urow (by decide)) ?_; refine rv_M_who (d := d + 7) ?_; simp (disch := omega) only [bc_ur, bc_uu, bc_uj, bc_wi, Int.add_zero]
      refine ⟨fun _ => ?_, fun z => absurd z (by omega)⟩
      refine bc_m_whoIs (d := d + 3) (e157 _) hW ha.1 (by omega) (fun _ => ?_) (fun z => absurd ht z)
      have hm0 : 0 < bs_gr (fun b => h 157 (54 + 8 * a + (3 + b))) := by
        have q : h 157 (54 + 8 * a) < bs_gr (fun b => h 157 (54 + 8 * a + (3 + b))) := ht
        have := hV.1
        omega
      have hx := (bs_ix_fm w0.1 w0.2 (fun b p0 p1 => (hV.2.2.2 b (by omega) p1).2 p0) hm0).2.1
      refine ⟨fun _ => hq _ _, fun z => absurd z (by omega)⟩
    · refine hQ _ _ (by first | rfl | exact bc_urow (by decide)) (by first | rfl | exact bc_urow (by decide)) ?_; refine rv_M_who (d := d + 7) ?_; simp (disch := omega) only [bc_ur, bc_uu, bc_uj, bc_wi, Int.add_zero]
      refine ⟨fun _ => ?_, fun z => absurd z (by omega)⟩
      refine bc_m_whoIs (d := d + 3) (e157 _) hW ha.1 (by omega) (fun z => absurd z ht) (fun _ => ?_)
      exact ⟨fun z => absurd rfl z, fun _ => hq _ _⟩
  · refine hQ _ _ (by first | rfl | exact bc_urow (by decide)) (by first | rfl | exact bc_urow (by decide)) ?_; refine rv_M_who (d := d + 7) ?_; simp (disch := omega) only [bc_ur, bc_uu, bc_uj, bc_wi, Int.add_zero]
    refine ⟨fun z => absurd z (by omega), fun _ => hq _ _⟩
