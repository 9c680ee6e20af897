/-! ===== leading ===== -/
def bs_can (A : Int → Int) (v w : Int) : Prop := ¬ bs_turned A v ∧ A (54 + 8 * v + 2) = 0 ∧ bs_way A (A (54 + 8 * v + 1)) w < 1000000
def bs_lead (A : Int → Int) (v w : Int) : Int → Int := bc_set (bc_set A (54 + 8 * v + 1) w) (54 + 8 * v + 2) (bs_way A (A (54 + 8 * v + 1)) w)
theorem bs_lead_n {A : Int → Int} {v w k : Int} (h1 : k ≠ 54 + 8 * v + 1) (h2 : k ≠ 54 + 8 * v + 2) : bs_lead A v w k = A k := by unfold bs_lead; rw [bc_setn h2, bc_setn h1]
theorem bs_lead_a {A : Int → Int} {v w : Int} : bs_lead A v w (54 + 8 * v + 1) = w := by unfold bs_lead; rw [bc_setn (by omega), bc_setj]
theorem bs_lead_g {A : Int → Int} {v w : Int} : bs_lead A v w (54 + 8 * v + 2) = bs_way A (A (54 + 8 * v + 1)) w := by unfold bs_lead; rw [bc_setj]
theorem bs_W_lead {A : Int → Int} {v w : Int} (hW : bs_W A) (v0 : 0 ≤ v) (v1 : v < A 2) (w0' : 0 ≤ w) (w1' : w < A 1) (hc : bs_can A v w) : bs_W (bs_lead A v w) := by
  obtain ⟨⟨w0, w1, w2, w3, w4, w5, w7⟩, hw, hy, hv, hf, hg⟩ := hW
  have es : ∀ k, k < 54 ∨ 102 ≤ k → bs_lead A v w k = A k := fun k hk => bs_lead_n (by omega) (by omega)
  refine ⟨?_, bs_WW_p w1.2 (es _ (by omega)) (es _ (by omega)) (fun k _ _ => es k (by omega)) hw, bs_WY_p w7.2 ⟨es _ (by omega), es _ (by omega), fun k _ _ => es k (by omega)⟩ hy, fun u u0 u1 => ?_, bs_WF_p w3.2 (es _ (by omega)) (es _ (by omega)) (fun k _ _ => es k (by omega)) hf, bs_WG_p w0.2 (es _ (by omega)) (fun k _ _ => es k (by omega)) hg⟩
  · rw [es 0 (by omega), es 1 (by omega), es 2 (by omega), es 3 (by omega), es 4 (by omega), es 5 (by omega), es 7 (by omega)]
    exact ⟨w0, w1, w2, w3, w4, w5, w7⟩
  · rw [es 2 (by omega)] at u1
    have q := hv u u0 u1
    rw [bs_lead_n (k := 54 + 8 * u) (by omega) (by omega), es 1 (by omega), es 0 (by omega)]
    refine ⟨q.1, ?_, ?_, fun b b0 b5 => ?_⟩
    · by_cases e : u = v
      · rw [e, bs_lead_a]; exact ⟨w0', w1'⟩
      · rw [bs_lead_n (by omega) (by omega)]; exact q.2.1
    · by_cases e : u = v
      · rw [e, bs_lead_g]
        have t := (bs_way_r hy w7.1 (A (54 + 8 * v + 1)) w).1
        have := hc.2.2
        omega
      · rw [bs_lead_n (by omega) (by omega)]; exact q.2.2.1
    · rw [bs_lead_n (by omega) (by omega)]; exact q.2.2.2 b b0 b5
theorem bc_c_goTo {d : Nat} {c v w : Int} {h : bc_H} {A : Int → Int} {P N : bc_H → Prop} (hC : bs_C h c A) (hW : bs_W A) (v0 : 0 ≤ v) (v1 : v < A 2) (w0' : 0 ≤ w) (w1' : w < A 1) (hP : bs_can A v w → ∀ h', bs_vf h h' c → bs_C h' c (bs_lead A v w) → P h') (hN : ¬ bs_can A v w → N h) : bf_Cave_goTo (d + 2) c v w h (bc_B P N) := by
  obtain ⟨⟨n4, n5, n6, n2, n0, n1, n3⟩, hw, hd, hg, hf, hm⟩ := id hC
  obtain ⟨⟨w0, w1, w2, w3, w4, w5, w7⟩, hww, hwy, hwv, hwf, hwg⟩ := id hW
  have fv := hm v v0 v1
  have qv := hwv v v0 v1
  have fd := (hd _ w qv.2.1.1 qv.2.1.2 w0' w1').1
  have wr := (bs_way_r hwy w7.1 (A (54 + 8 * v + 1)) w).1
  refine rv_Cave_goTo (d := d + 1) ?_
  rw [fv.2.1, fv.2.2.1]
  simp (disch := omega) only [bc_wi, Int.add_zero]
  rw [fd]
  refine ⟨by omega, by omega, fun z => ?_, fun z => ⟨by omega, fun z2 => ?_, fun z2 => ?_⟩⟩
  · refine hN (fun q => ?_)
    have := q.2.2
    rw [if_pos this] at z
    omega
  · exact hN (fun q => by have := q.2.1; omega)
  · have z3 : bs_way A (A (54 + 8 * v + 1)) w < 1000000 := by
      by_cases q : bs_way A (A (54 + 8 * v + 1)) w < 1000000
      · exact q
      · rw [if_neg q] at z; exact absurd rfl z
    rw [if_pos z3]
    refine bc_c_isTurned hm v0 v1 w2.2 (fun ht => hN (fun q => q.1 ht)) (fun ht => ⟨by omega, by omega, ?_⟩)
    have es : ∀ k, k < 54 ∨ 102 ≤ k → bs_lead A v w k = A k := fun k hk => bs_lead_n (by omega) (by omega)
    have er : ∀ x, x ≠ c + 14 → x ≠ c + 15 → bc_upd (bc_upd h (c + 14) v w) (c + 15) v (bs_way A (A (54 + 8 * v + 1)) w) x = h x := fun x x1 x2 => by rw [bc_urow x2, bc_urow x1]
    refine hP ⟨ht, by omega, z3⟩ _ ⟨fun a a1 a2 a3 a4 a5 => er a a3 a4, by rw [er _ (by omega) (by omega)]⟩ ⟨⟨?_, ?_, ?_, ?_, ?_, ?_, ?_⟩, ?_, ?_, ?_, ?_, fun u u0 u1 => ?_⟩
    · rw [er _ (by omega) (by omega), es _ (by omega)]; exact n4
    · rw [er _ (by omega) (by omega), es _ (by omega)]; exact n5
    · rw [er _ (by omega) (by omega), es _ (by omega)]; exact n6
    · rw [er _ (by omega) (by omega), es _ (by omega)]; exact n2
    · rw [er _ (by omega) (by omega), es _ (by omega)]; exact n0
    · rw [er _ (by omega) (by omega), es _ (by omega)]; exact n1
    · rw [er _ (by omega) (by omega), es _ (by omega)]; exact n3
    · exact bs_Cw_p w1.2 (er _ (by omega) (by omega)) (er _ (by omega) (by omega)) (es _ (by omega)) (fun k _ _ => es k (by omega)) hw
    · exact bs_Cd_p w7 (er _ (by omega) (by omega)) (er _ (by omega) (by omega)) ⟨es _ (by omega), es _ (by omega), fun k _ _ => es k (by omega)⟩ hd
    · exact bs_Cg_p w0.2 (er _ (by omega) (by omega)) (es _ (by omega)) (fun k _ _ => es k (by omega)) hg
    · exact bs_Cf_p w3.2 (er _ (by omega) (by omega)) (er _ (by omega) (by omega)) (er _ (by omega) (by omega)) (er _ (by omega) (by omega)) (es _ (by omega)) (fun k _ _ => es k (by omega)) hf
    · rw [es 2 (by omega)] at u1
      have g := hm u u0 u1
      rw [er (c + 13) (by omega) (by omega), er (c + 16) (by omega) (by omega), bs_lead_n (k := 54 + 8 * u) (by omega) (by omega)]
      refine ⟨g.1, ?_, ?_, fun b b0 b5 => ?_⟩
      · rw [bc_ur (by omega)]
        by_cases e : u = v
        · rw [e, bc_uu, bs_lead_a]
        · rw [bc_uj e, bs_lead_n (by omega) (by omega)]; exact g.2.1
      · by_cases e : u = v
        · rw [e, bc_uu, bs_lead_g]
        · rw [bc_uj e, bc_ur (by omega), bs_lead_n (by omega) (by omega)]; exact g.2.2.1
      · rw [bs_lead_n (by omega) (by omega)]; exact g.2.2.2 b b0 b5
theorem bc_m_leads {d : Nat} {v w : Int} {h : bc_H} {A : Int → Int} {P N : bc_H → Prop} (hW : bs_W A) (v0 : 0 ≤ v) (v1 : v < A 2) (hP : bs_can A v w → P (bc_row h 157 (bs_lead A v w))) (hN : ¬ bs_can A v w → N (bc_row h 157 A)) : bf_M_leads (d + 5) v w (bc_row h 157 A) (bc_B P N) := by
  obtain ⟨⟨w0, w1, w2, w3, w4, w5, w7⟩, hww, hwy, hwv, hwf, hwg⟩ := id hW
  have qv := hwv v v0 v1
  have wr := bs_way_r hwy w7.1 (A (54 + 8 * v + 1)) w
  refine rv_M_leads (d := d + 4) ?_
  simp (disch := omega) only [bc_wi, Int.add_zero]
  rw [bs_rr]
  refine ⟨by omega, ?_⟩
  refine bc_m_wayOf (bs_rr h 157 A) w7 ?_
  refine bc_m_isTurned (d := d) (bs_rr h 157 A) hW v0 v1 (fun ht => hN (fun q => q.1 ht)) (fun ht => ?_)
  rw [bs_rr]
  refine ⟨by omega, fun z => hN (fun q => by have := q.2.1; omega), fun z => ⟨by omega, fun z2 => hN (fun q => ?_), fun z2 => ⟨fun z3 => ⟨by omega, by omega, fun hh eh => ?_⟩, fun z3 => hN (fun q => by have := q.2.2; omega)⟩⟩⟩
  · have e := wr.2 z2
    have := q.2.2
    omega
  · rw [eh, bc_ru, bc_ru]
    exact hP ⟨ht, by omega, by omega⟩
theorem bs_o_lead {d : Nat} {a b : Int} {S : Int → Int} {L c s p q : Int} {h : bc_H} (hR : bs_R S L c s p q h) {P : Int → Int → bc_H → Prop} {Q1 : Int → bc_H → Prop} (hQ : ∀ y h1, h1 (-2) = h (-2) → h1 (-3) = h (-3) → bf_M_lead (d + 9) a b h1 (bc_I fun y2 h2 => P y y2 h2) → Q1 y h1) (hK : ∀ y h2, bs_R S L c s p q h2 → P y y h2) : bf_X_lead (d + 9) a b h (bc_I Q1) := by
  obtain ⟨⟨hcs, hpq⟩, ⟨e12, e13, e14, e15⟩, hS, est, efr, htr, htp, hfa, hlv, hlo, hrs, hmk, ⟨hC, hW, hck, hN, hP⟩⟩ := id hR
  obtain ⟨⟨n4, n5, n6, n2, n0, n1, n3⟩, hw, hd, hg, hf, hm⟩ := id hC
  obtain ⟨⟨w0, w1, w2, w3, w4, w5, w7⟩, hww, hwy, hwv, hwf, hwg⟩ := id hW
  have hq : ∀ y v, P y y (bc_upd (bc_upd h 0 0 v) 156 2 v) := fun y v => hK _ _ (bs_R_st hR v)
  have e157 : ∀ v, bc_upd h 0 0 v 157 = h 157 := fun v => bc_urow (by decide)
  have bad : ¬ ((0 ≤ a ∧ a < h 157 2) ∧ 0 ≤ b ∧ b < h 157 1) → Q1 (-1) (bc_upd h 0 0 1) := fun z => by
    refine hQ _ _ (by first | rfl | exact bc_urow (by decide)) (by first | rfl | exact bc_urow (by decide)) ?_
    refine rv_M_lead (d := d + 7) ?_
    rw [e157]
    exact ⟨fun z1 => ⟨fun z2 => absurd ⟨z1, z2⟩ z, fun _ => hq _ _⟩, fun _ => hq _ _⟩
  refine rv_X_lead (d := d + 7) ?_
  rw [e12, n2, n1, bc_wi (x := h 157 2 - 1) (by omega) (by omega), bc_wi (x := h 157 1 - 1) (by omega) (by omega)]
  refine ⟨by omega, fun za => ⟨by omega, fun zb => ⟨by omega, ?_⟩, fun z => bad (by omega)⟩, fun z => bad (by omega)⟩
  refine bc_c_goTo (d := d + 6) hC hW za.1 (by omega) zb.1 (by omega) (fun z h1 hv hC1 => ?_) (fun z => ?_)
  · have e0 : ∀ x y, (x < 24 ∨ 155 < x) → h1 x y = h x y := fun x y hx => by rw [hv.1 x (by omega) (by omega) (by omega) (by omega) (by omega)]
    have el2 : bs_lead (h 157) a b 2 = h 157 2 := bs_lead_n (by omega) (by omega)
    rw [e0 0 12 (by omega), e12, (hC1.2.2.2.2.2 a za.1 (by rw [el2]; omega)).2.2.1, bs_lead_g]
    refine ⟨by omega, by omega, ?_⟩
    refine hQ _ _ (by rw [bc_urow (by decide)]; exact funext fun y => e0 _ _ (by omega)) (by rw [bc_urow (by decide)]; exact funext fun y => e0 _ _ (by omega)) ?_
    have e1571 : bc_upd h1 0 0 0 157 = h 157 := by rw [bc_urow (by decide)]; exact funext fun y => e0 _ _ (by omega)
    refine rv_M_lead (d := d + 7) ?_
    rw [e1571]
    refine ⟨fun _ => ⟨fun _ => ?_, fun q => absurd (by omega) q⟩, fun q => absurd (by omega) q⟩
    rw [← bc_rself (bc_upd h1 0 0 0) 157, e1571]
    refine bc_m_leads (d := d + 3) hW za.1 (by omega) (fun _ => ?_) (fun q => absurd z q)
    simp (disch := omega) only [bc_wi, Int.add_zero]
    rw [bs_rr, bs_lead_g]
    have hk : ∀ k, k < 54 ∨ 102 ≤ k → bs_lead (h 157) a b k = h 157 k := fun k hk => bs_lead_n (by omega) (by omega)
    exact ⟨by omega, hK _ _ (bs_R_vf hR hv hC1 (bs_W_lead hW za.1 (by omega) zb.1 (by omega) z) (by rw [hk 6 (by omega)]; exact hck) (fun k q => hk k (by omega)) (hk _ (by omega)) (hk _ (by omega)) (hk _ (by omega)) (hk _ (by omega)))⟩
  · refine hQ _ _ (by first | rfl | exact bc_urow (by decide)) (by first | rfl | exact bc_urow (by decide)) ?_
    refine rv_M_lead (d := d + 7) ?_
    rw [e157]
    refine ⟨fun _ => ⟨fun _ => ?_, fun q => absurd (by omega) q⟩, fun q => absurd (by omega) q⟩
    rw [← bc_rself (bc_upd h 0 0 7) 157, e157]
    refine bc_m_leads (d := d + 3) hW za.1 (by omega) (fun q => absurd q z) (fun _ => ?_)
    rw [← e157 7, bc_rself]
    exact hq _ _
