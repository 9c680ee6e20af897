/-! ===== lamp, ways, waking ===== -/
theorem bs_R_vf {S : Int → Int} {L c s p q : Int} {h : bc_H} (hR : bs_R S L c s p q h) {h1 : bc_H} {A' : Int → Int} {v : Int} (hv : bs_vf h h1 c) (hC' : bs_C h1 c A') (hW' : bs_W A') (hck' : 0 ≤ A' 6 ∧ A' 6 ≤ 9999) (he : ∀ k, k < 0 ∨ k = 8 ∨ 160 ≤ k → A' k = h 157 k) (e0 : A' 0 = h 157 0) (e1 : A' 1 = h 157 1) (e2 : A' 2 = h 157 2) (e3 : A' 3 = h 157 3) : bs_R S L c s p q (bc_upd (bc_row (bc_upd h1 0 0 v) 157 A') 156 2 v) := by
  have hcs := hR.1.1
  have e157 : bc_upd (bc_row (bc_upd h1 0 0 v) 157 A') 156 2 v 157 = A' := by rw [bc_urow (by decide), bs_rr]
  refine bs_R_mut hR (fun x y k k1 k2 => ?_) ?_ (by rw [e157]; exact e0) (by rw [e157]; exact e1) (by rw [e157]; exact e2) (by rw [e157]; exact e3) ?_ (by rw [e157]; exact hW') (by rw [e157]; exact hck')
  · have kf := bs_kf k
    by_cases e : x = 157
    · subst e; rw [e157]; exact he y (by omega)
    · rw [bc_un2 kf.2, bc_rn e, bc_un2 kf.1]
      by_cases ec : x = c
      · have : y = 11 := by omega
        rw [ec, this]; exact hv.2
      · rw [hv.1 x ec (by omega) (by omega) (by omega) (by omega)]
  · rw [bc_ur (by decide), bc_rn (by decide), bc_uu, bc_uu]
  · rw [e157]
    exact bs_C_h (fun a b a0 a1 _ => by rw [bc_ur (by omega), bc_rn (by omega), bc_ur (by omega)]) hC'
theorem bs_vf_refl (h : bc_H) (c : Int) : bs_vf h h c := ⟨fun _ _ _ _ _ _ => rfl, rfl⟩
theorem bs_vf_tr {h h1 h2 : bc_H} {c : Int} (a : bs_vf h h1 c) (b : bs_vf h1 h2 c) : bs_vf h h2 c := ⟨fun x n1 n2 n3 n4 n5 => (b.1 x n1 n2 n3 n4 n5).trans (a.1 x n1 n2 n3 n4 n5), b.2.trans a.2⟩
def bs_fill (A : Int → Int) (n : Int) : Int → Int := bc_set A 4 (A 4 + n)
theorem bs_fill_n {A : Int → Int} {n k : Int} (h : k ≠ 4) : bs_fill A n k = A k := bc_setn h
theorem bs_W_fill {A : Int → Int} {n : Int} (hW : bs_W A) (h0 : 0 ≤ n) (h : A 4 + n ≤ 999) : bs_W (bs_fill A n) := by
  obtain ⟨⟨w0, w1, w2, w3, w4, w5, w7⟩, hw, hy, hv, hf, hg⟩ := hW
  refine ⟨?_, bs_WW_p w1.2 (bs_fill_n (by decide)) (bs_fill_n (by decide)) (fun k _ _ => bs_fill_n (by omega)) hw, bs_WY_p w7.2 ⟨bs_fill_n (by decide), bs_fill_n (by decide), fun k _ _ => bs_fill_n (by omega)⟩ hy, bs_WV_p w2.2 (bs_fill_n (by decide)) (bs_fill_n (by decide)) (bs_fill_n (by decide)) (fun k _ _ => bs_fill_n (by omega)) hv, bs_WF_p w3.2 (bs_fill_n (by decide)) (bs_fill_n (by decide)) (fun k _ _ => bs_fill_n (by omega)) hf, bs_WG_p w0.2 (bs_fill_n (by decide)) (fun k _ _ => bs_fill_n (by omega)) hg⟩
  rw [bs_fill_n (A := A) (k := 0) (by decide), bs_fill_n (A := A) (k := 1) (by decide), bs_fill_n (A := A) (k := 2) (by decide), bs_fill_n (A := A) (k := 3) (by decide), bs_fill_n (A := A) (k := 5) (by decide), bs_fill_n (A := A) (k := 7) (by decide)]
  unfold bs_fill
  rw [bc_setj]
  exact ⟨w0, w1, w2, w3, ⟨by omega, h⟩, w5, w7⟩
theorem bc_c_addOil {d : Nat} {c n : Int} {h : bc_H} {A : Int → Int} {P N : bc_H → Prop} (hC : bs_C h c A) (hW : bs_W A) (n0 : 0 ≤ n) (n9 : n ≤ 999) (hP : A 4 + n ≤ 999 → ∀ h', bs_vf h h' c → bs_C h' c (bs_fill A n) → P h') (hN : ¬ A 4 + n ≤ 999 → N h) : bf_Cave_addOil d c n h (bc_B P N) := by
  obtain ⟨⟨n4, n5, n6, n2, n0', n1, n3⟩, hw, hd, hg, hf, hm⟩ := hC
  obtain ⟨⟨w0, w1, w2, w3, w4, w5, w7⟩, _⟩ := hW
  refine rv_Cave_addOil ?_
  rw [n4]
  simp (disch := omega) only [bc_wi, Int.add_zero]
  refine ⟨fun z => ?_, fun z => hN (by omega)⟩
  refine hP (by omega) _ ⟨fun a a1 _ _ _ _ => bc_urow a1, bc_uj (by decide)⟩ ⟨⟨?_, ?_, ?_, ?_, ?_, ?_, ?_⟩, ?_, ?_, ?_, ?_, ?_⟩
  · rw [bc_uu]; unfold bs_fill; rw [bc_setj]
  · rw [bc_uj (by decide), bs_fill_n (by decide)]; exact n5
  · rw [bc_uj (by decide), bs_fill_n (by decide)]; exact n6
  · rw [bc_uj (by decide), bs_fill_n (by decide)]; exact n2
  · rw [bc_ur (by omega), bs_fill_n (by decide)]; exact n0'
  · rw [bc_ur (by omega), bs_fill_n (by decide)]; exact n1
  · rw [bc_ur (by omega), bs_fill_n (by decide)]; exact n3
  · exact bs_Cw_p w1.2 (bc_urow (by omega)) (bc_urow (by omega)) (bs_fill_n (by decide)) (fun k _ _ => bs_fill_n (by omega)) hw
  · exact bs_Cd_p w7 (bc_urow (by omega)) (bc_urow (by omega)) ⟨bs_fill_n (by decide), bs_fill_n (by decide), fun k _ _ => bs_fill_n (by omega)⟩ hd
  · exact bs_Cg_p w0.2 (bc_urow (by omega)) (bs_fill_n (by decide)) (fun k _ _ => bs_fill_n (by omega)) hg
  · exact bs_Cf_p w3.2 (bc_urow (by omega)) (bc_urow (by omega)) (bc_urow (by omega)) (bc_urow (by omega)) (bs_fill_n (by decide)) (fun k _ _ => bs_fill_n (by omega)) hf
  · exact bs_Cm_p w2.2 (bc_urow (by omega)) (bc_urow (by omega)) (bc_urow (by omega)) (bc_urow (by omega)) (bs_fill_n (by decide)) (fun k _ _ => bs_fill_n (by omega)) hm
theorem bc_m_fills {d : Nat} {n : Int} {h : bc_H} {A : Int → Int} {P N : bc_H → Prop} (hW : bs_W A) (n0 : 0 ≤ n) (n9 : n ≤ 999) (hP : A 4 + n ≤ 999 → P (bc_row h 157 (bs_fill A n))) (hN : ¬ A 4 + n ≤ 999 → N (bc_row h 157 A)) : bf_M_fills d n (bc_row h 157 A) (bc_B P N) := by
  have w4 := hW.1.2.2.2.2.1
  refine rv_M_fills ?_
  rw [bs_rr]
  simp (disch := omega) only [bc_wi, Int.add_zero]
  refine ⟨fun z => ?_, fun z => hN (by omega)⟩
  rw [bc_ru]
  exact hP z
theorem bs_o_fill {d : Nat} {n : Int} {S : Int → Int} {L c s p q : Int} {h : bc_H} (hR : bs_R S L c s p q h) {P : Int → Int → bc_H → Prop} {Q1 : Int → bc_H → Prop} (hQ : ∀ y h1, h1 (-2) = h (-2) → h1 (-3) = h (-3) → bf_M_fill (d + 4) n h1 (bc_I fun y2 h2 => P y y2 h2) → Q1 y h1) (hK : ∀ y h2, bs_R S L c s p q h2 → P y y h2) : bf_X_fill (d + 4) n h (bc_I Q1) := by
  obtain ⟨⟨hcs, hpq⟩, ⟨e12, e13, e14, e15⟩, hS, est, efr, htr, htp, hfa, hlv, hlo, hrs, hmk, ⟨hC, hW, hck, hN, hP⟩⟩ := id hR
  obtain ⟨⟨n4, n5, n6, n2, n0, n1, n3⟩, hw, hd, hg, hf, hm⟩ := id hC
  obtain ⟨⟨w0, w1, w2, w3, w4, w5, w7⟩, hww, hwy, hwv, hwf, hwg⟩ := id hW
  have hq : ∀ y v, P y y (bc_upd (bc_upd h 0 0 v) 156 2 v) := fun y v => hK _ _ (bs_R_st hR v)
  refine rv_X_fill (d := d + 3) ⟨fun zn => ?_, fun zn => ?_⟩
  · rw [e12]
    refine ⟨by omega, ?_⟩
    refine bc_c_addOil hC hW (by omega) (by omega) (fun z h1 hv hC1 => ?_) (fun z => ?_)
    · have e0 : ∀ x y, (x < 24 ∨ 155 < x) → h1 x y = h x y := fun x y hx => by rw [hv.1 x (by omega) (by omega) (by omega) (by omega) (by omega)]
      rw [e0 0 12 (by omega), e12]
      refine ⟨by omega, ?_⟩
      refine hQ _ _ (by rw [bc_urow (by decide)]; exact funext fun y => e0 _ _ (by omega)) (by rw [bc_urow (by decide)]; exact funext fun y => e0 _ _ (by omega)) ?_
      refine rv_M_fill (d := d + 3) ⟨fun _ => ?_, fun q => absurd zn q⟩
      rw [← bc_rself (bc_upd h1 0 0 0) 157, show bc_upd h1 0 0 0 157 = h 157 by rw [bc_urow (by decide)]; exact funext fun y => e0 _ _ (by omega)]
      refine bc_m_fills hW (by omega) (by omega) (fun _ => ?_) (fun q => absurd z q)
      rw [bs_rr, hC1.1.1]
      exact hK _ _ (bs_R_vf hR hv hC1 (bs_W_fill hW (by omega) z) (by rw [bs_fill_n (by decide)]; exact hck) (fun k hk => bs_fill_n (by omega)) (bs_fill_n (by decide)) (bs_fill_n (by decide)) (bs_fill_n (by decide)) (bs_fill_n (by decide)))
    · refine hQ _ _ (by first | rfl | exact bc_urow (by decide)) (by first | rfl | exact bc_urow (by decide)) ?_
      refine rv_M_fill (d := d + 3) ⟨fun _ => ?_, fun q => absurd zn q⟩
      rw [← bc_rself (bc_upd h 0 0 4) 157, show bc_upd h 0 0 4 157 = h 157 from bc_urow (by decide)]
      refine bc_m_fills hW (by omega) (by omega) (fun q => absurd q z) (fun _ => ?_)
      rw [← (bc_urow (by decide) : bc_upd h 0 0 4 157 = h 157), bc_rself]
      exact hq _ _
  · refine hQ _ _ (by first | rfl | exact bc_urow (by decide)) (by first | rfl | exact bc_urow (by decide)) ?_
    exact rv_M_fill (d := d + 3) ⟨fun q => absurd q zn, fun _ => hq _ _⟩
/-! ways -/
theorem bs_way_r {A : Int → Int} (hy : bs_WY A) (h7 : 0 ≤ A 7) (a b : Int) : (bs_way A a b = 1000000 ∨ (1 ≤ bs_way A a b ∧ bs_way A a b ≤ 9)) ∧ (a = b → bs_way A a b = 1000000) := by
  unfold bs_way
  have := bc_it_indB (f := bs_wayf A a b) (a := (1000000 : Int)) (fun i x => (x = 1000000 ∨ (1 ≤ x ∧ x ≤ 9)) ∧ (a = b → x = 1000000)) (n := A 7) ⟨Or.inl rfl, fun _ => rfl⟩ (fun i x i0 i1 ih => by
    have q := hy i i0 i1
    unfold bs_wayf
    split
    · rename_i z
      refine ⟨?_, fun e => absurd z (by omega)⟩
      split
      · exact Or.inr ⟨q.2.2.2.1, q.2.2.2.2⟩
      · exact ih.1
    · exact ih) h7
  exact this
theorem bc_m_wayOf {d : Nat} {a b : Int} {h : bc_H} {A : Int → Int} {K : Int → bc_H → Prop} (eA : h 157 = A) (h7 : 0 ≤ A 7 ∧ A 7 ≤ 10) (hK : K (bs_way A a b) h) : bf_M_wayOf d a b h (bc_I K) := by
  subst eA
  refine rv_M_wayOf ?_
  refine bc_lup (P := fun i => bl_M_wayOf_4 d a b (bc_it (bs_wayf (h 157) a b) 1000000 i) i h (bc_I K)) (n := h 157 7) ?_ (fun i h0 hi ih => ?_) (Int.le_refl 0) h7.1
  · exact rv_M_wayOf_4 ⟨fun _ => hK, fun q => absurd q (by omega)⟩
  · refine rv_M_wayOf_4 ⟨fun q => absurd q (by omega), fun _ => ?_⟩
    rw [bc_its _ _ h0] at ih
    unfold bs_wayf at ih
    simp (disch := omega) only [bc_wi, Int.add_zero]
    by_cases z : (h 157 (24 + 3 * i) = a ∧ h 157 (24 + 3 * i + 1) = b) ∨ (h 157 (24 + 3 * i) = b ∧ h 157 (24 + 3 * i + 1) = a)
    · rw [if_pos z] at ih
      (repeat' with_reducible (first | intro _ | apply And.intro))
      all_goals first
        | omega
        | exact ih
        | (exfalso; omega)
    · rw [if_neg z] at ih
      (repeat' with_reducible (first | intro _ | apply And.intro))
      all_goals first
        | omega
        | exact ih
        | (exfalso; omega)
