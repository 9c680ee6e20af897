/-! ===== days lived: a step of the class ===== -/
theorem bc_c_letPass {d : Nat} {h m : bc_H} {c p n : Int} {B A R g : Int → Int} {P N : bc_H → Prop} (hc : 24 ≤ c ∧ c ≤ 44) (hr : bs_lrel h m c p A R g) (hA : bs_lA B A) (hg : bs_lgs g) (n0 : 1 ≤ n) (n1 : n ≤ 60) (hP : A 6 + n ≤ 9999 → ∀ m', m' 13 = m 13 → bs_lrel h m' c p (bs_passN A n) R (bc_set (bc_set g 4 (g 4 + bs_newN A n)) 2 (g 2 + n)) → P m') (hN : ¬ A 6 + n ≤ 9999 → N m) : bf_Life_letPass (d + 3) n m (bc_B P N) := by
  have hr0 := hr
  obtain ⟨r1, r2, r3, r4, r5, r6⟩ := hr0
  have h6 := hA.2.1
  refine rv_Life_letPass (d := d + 2) ?_
  rw [r4.1, r3.1.2.2.1, bc_wi (x := 9999 - n) (by omega) (by omega)]
  refine ⟨by omega, fun z => ?_, fun z => hN (by omega)⟩
  refine bc_lup (P := fun i => ∀ m1, m1 13 = m 13 → bs_lrel h m1 c p (bs_passN A i) R (bc_set g 4 (g 4 + bs_newN A i)) → bl_Life_letPass_11 (d + 3) n i m1 (bc_B P N)) (n := n) (fun m1 e13 hr1 => ?_) (fun i i0 i1 ih m1 e13 hr1 => ?_) (Int.le_refl 0) (by omega) m rfl ?_
  · refine rv_Life_letPass_11 (d := d + 2) ⟨fun _ => ?_, fun q => absurd q (by omega)⟩
    have g2 := hr1.2.2.2.2.2.2.2.1
    rw [bc_setn (by decide)] at g2
    have gb := hg.2.2.1
    rw [g2, bc_wi (x := g 2 + n) (by omega) (by unfold bs_lgs at hg; omega)]
    exact hP (by omega) _ (by rw [bc_urow (by decide)]; exact e13) (bs_lrel_u hc.1 hr1 (by decide) (fun j hj => rfl))
  · refine rv_Life_letPass_11 (d := d + 2) ⟨fun q => absurd q (by omega), fun _ => ?_⟩
    have g4 := hr1.2.2.2.2.2.2.2.2.2.1
    rw [bc_setj] at g4
    have hp := bs_passN_p hA.1 i0
    have nn := bs_newN_le hA.1 i0
    have n1' := bs_new_le hp.1
    rw [hr1.2.2.2.1.1, g4, bc_wi (x := i + 1) (by omega) (by omega)]
    refine ⟨by omega, ?_⟩
    refine bc_c_passMinute (d := d) hr1.2.2.1 hp.1 (by rw [hp.2.1]; omega) (fun m2 hv hC2 => ?_)
    rw [bc_wi (x := g 4 + bs_newN A i + bs_new (bs_passN A i)) (by unfold bs_lgs at hg; omega) (by unfold bs_lgs at hg; omega)]
    rw [← bs_passN_s _ i0] at hC2
    refine ih _ (by rw [bc_urow (by decide), hv.1 13 (by omega) (by omega) (by omega) (by omega) (by omega)]; exact e13) (bs_lrel_u hc.1 (bs_lrel_vf hc.1 hr1 hv hC2) (by decide) (fun j hj => ?_))
    rw [bs_newN_s _ i0]
    by_cases e : j = 4
    · subst e; rw [bc_setj, bc_setj]; omega
    · rw [bc_setn e, bc_setn e, bc_setn e]
  · have t := bs_lrel_u (k := 4) (v := g 4 + 0) hc.1 hr (by decide) (g' := bc_set g 4 (g 4 + 0)) (fun j hj => rfl)
    have e : bc_set g 4 (g 4 + bs_newN A 0) = g := by
      funext j
      by_cases e : j = 4
      · subst e; rw [bc_setj]; show g 4 + 0 = g 4; omega
      · rw [bc_setn e]
    rw [e, bs_passN_0]
    exact hr
theorem bc_c_pick {d : Nat} {h m : bc_H} {c p n : Int} {A R g : Int → Int} {K : Int → bc_H → Prop} (hc : 24 ≤ c ∧ c ≤ 44) (hr : bs_lrel h m c p A R g) (n0 : 0 < n) (hK : ∀ m', m' 13 = m 13 → bs_lrel h m' c p A R (bc_set g 8 (bs_sd (g 8))) → K (bs_pk (g 8) n) m') : bf_Life_pick d n m (bc_I K) := by
  have g8 := hr.2.2.2.2.2.2.2.2.2.2.2
  refine rv_Life_pick ⟨fun q => absurd q (by omega), fun _ => ⟨by omega, ?_⟩⟩
  rw [g8]
  exact hK _ (bc_urow (by decide)) (bs_lrel_u hc.1 hr (by decide) (fun j hj => rfl))
theorem bc_c_goes {d : Nat} {h m : bc_H} {c p v w : Int} {B A R g : Int → Int} {P N : bc_H → Prop} (hc : 24 ≤ c ∧ c ≤ 44) (hr : bs_lrel h m c p A R g) (hA : bs_lA B A) (hg : bs_lgs g) (v0 : 0 ≤ v) (v1 : v < A 2) (w0 : 0 ≤ w) (w1 : w < A 1) (hP : bs_can A v w → ∀ m', m' 13 = m 13 → bs_lrel h m' c p (bs_lead A v w) R (bc_set g 3 (g 3 + 1)) → P m') (hN : ¬ bs_can A v w → N m) : bf_Cave_goTo (d + 2) c v w m (bc_B (fun h4 => P (bc_upd h4 12 3 (bc_w32 ((h4 12 3) + 1)))) (fun h4 => N h4)) := by
  refine bc_c_goTo hr.2.2.1 hA.1 v0 v1 w0 w1 (fun q m' hv hC => ?_) hN
  have hr' := bs_lrel_vf hc.1 hr hv hC
  have g3 := hr'.2.2.2.2.2.2.2.2.1
  rw [g3, bc_wi (x := g 3 + 1) (by unfold bs_lgs at hg; omega) (by unfold bs_lgs at hg; omega)]
  exact hP q _ (by rw [bc_urow (by decide)]; exact hv.1 13 (by omega) (by omega) (by omega) (by omega) (by omega)) (bs_lrel_u hc.1 hr' (by decide) (fun j hj => rfl))
theorem bs_lrel_p {h m : bc_H} {c p : Int} {A R g : Int → Int} (hc : 24 ≤ c ∧ c ≤ 44) (hp : p = 64 ∨ p = 70) (hr : bs_lrel h m c p A R g) : m p = h p ∧ m (p + 1) = h (p + 1) ∧ m (p + 2) = h (p + 2) ∧ m (p + 3) = h (p + 3) ∧ m (p + 4) = h (p + 4) ∧ m (p + 5) = h (p + 5) := by
  have er : ∀ a : Int, 64 ≤ a → m a = h a := fun a ha => hr.1 a (by omega) (by omega) (by omega) (by omega) (by omega) (by omega) (by omega)
  exact ⟨er _ (by omega), er _ (by omega), er _ (by omega), er _ (by omega), er _ (by omega), er _ (by omega)⟩
theorem bc_c_leadOne {d : Nat} {h m : bc_H} {c p x : Int} {B A R g : Int → Int} {P N : bc_H → Prop} (hc : 24 ≤ c ∧ c ≤ 44) (hp : p = 64 ∨ p = 70) (b8 : B 8 ≤ 60) (hr : bs_lrel h m c p A R g) (hA : bs_lA B A) (hg : bs_lgs g) (x0 : 0 ≤ x) (x1 : x < B 8) (k : h (p + 1) x ≠ 20) (v0 : 0 ≤ h (p + 3) x) (v1 : h (p + 3) x < A 2) (w0 : 0 ≤ h (p + 4) x) (w1 : h (p + 4) x < A 1) (hP : bs_can A (h (p + 3) x) (h (p + 4) x) → ∀ m', m' 13 = m 13 → bs_lrel h m' c p (bs_lead A (h (p + 3) x) (h (p + 4) x)) R (bc_set g 3 (g 3 + 1)) → P m') (hN : ¬ bs_can A (h (p + 3) x) (h (p + 4) x) → N m) : bf_Life_leadOne (d + 3) x m (bc_B P N) := by
  obtain ⟨ep, ep1, ep2, ep3, ep4, ep5⟩ := bs_lrel_p hc hp hr
  obtain ⟨⟨n4, n5, n6, n2, n0, n1, n3⟩, _⟩ := hr.2.2.1
  have w := hA.1.1
  refine rv_Life_leadOne (d := d + 1) ?_
  rw [hr.2.2.2.1.2, hr.2.2.2.1.1, ep1, ep3, ep4, n2, n1, bc_wi (x := A 2 - 1) (by omega) (by omega), bc_wi (x := A 1 - 1) (by omega) (by omega)]
  refine ⟨by omega, by omega, by omega, by omega, by omega, by omega, fun _ => ⟨by omega, fun _ => ⟨by omega, fun _ => ⟨by omega, ?_⟩, fun q => absurd q (by omega)⟩, fun q => absurd q (by omega)⟩, fun q => absurd q k⟩
  exact bc_c_goes (d := d) hc hr hA hg v0 v1 w0 w1 hP hN
theorem bc_c_leadAny {d : Nat} {h m : bc_H} {c p x : Int} {B A R g : Int → Int} {P N : bc_H → Prop} (hc : 24 ≤ c ∧ c ≤ 44) (hp : p = 64 ∨ p = 70) (b8 : B 8 ≤ 60) (hr : bs_lrel h m c p A R g) (hA : bs_lA B A) (hg : bs_lgs g) (x0 : 0 ≤ x) (x1 : x < B 8) (k : h (p + 1) x = 20) (hN0 : A 2 = 0 → N m) (hP : A 2 ≠ 0 → bs_can A (bs_pk (g 8) (A 2)) (bs_pk (bs_sd (g 8)) (A 1)) → ∀ m', m' 13 = m 13 → bs_lrel h m' c p (bs_lead A (bs_pk (g 8) (A 2)) (bs_pk (bs_sd (g 8)) (A 1))) R (bc_set (bc_set g 8 (bs_sd (bs_sd (g 8)))) 3 (bc_set g 8 (bs_sd (bs_sd (g 8))) 3 + 1)) → P m') (hN : A 2 ≠ 0 → ¬ bs_can A (bs_pk (g 8) (A 2)) (bs_pk (bs_sd (g 8)) (A 1)) → ∀ m', m' 13 = m 13 → bs_lrel h m' c p A R (bc_set g 8 (bs_sd (bs_sd (g 8)))) → N m') : bf_Life_leadOne (d + 3) x m (bc_B P N) := by
  obtain ⟨ep, ep1, ep2, ep3, ep4, ep5⟩ := bs_lrel_p hc hp hr
  obtain ⟨⟨n4, n5, n6, n2, n0, n1, n3⟩, _⟩ := hr.2.2.1
  have w := hA.1.1
  refine rv_Life_leadOne (d := d + 1) ?_
  rw [hr.2.2.2.1.2, hr.2.2.2.1.1, ep1, n2]
  refine ⟨by omega, by omega, by omega, by omega, by omega, by omega, fun q => absurd k q, fun _ => ⟨by omega, fun z => ⟨by omega, ?_⟩, hN0⟩⟩
  have pos := bs_w21 hA.1 z
  have g8 := hg.2.2.2.2.2
  have s1 := bs_sd_r g8.1 g8.2
  have s2 := bs_sd_r s1.1 s1.2
  have p1 := bs_pk_r g8.1 g8.2 pos.1
  have p2 := bs_pk_r s1.1 s1.2 pos.2
  refine bc_c_pick hc hr pos.1 (fun m1 e1 hr1 => ?_)
  rw [hr1.2.2.2.1.1, hr1.2.2.1.1.2.2.2.2.2.1]
  refine ⟨by omega, ?_⟩
  refine bc_c_pick hc hr1 pos.2 (fun m2 e2 hr2 => ?_)
  rw [bc_setj] at hr2 ⊢
  have es : bc_set (bc_set g 8 (bs_sd (g 8))) 8 (bs_sd (bs_sd (g 8))) = bc_set g 8 (bs_sd (bs_sd (g 8))) := by
    funext j
    by_cases e : j = 8
    · subst e; rw [bc_setj, bc_setj]
    · rw [bc_setn e, bc_setn e, bc_setn e]
  rw [es] at hr2
  rw [hr2.2.2.2.1.1, hr2.2.2.1.1.2.2.2.1, hr2.2.2.1.1.2.2.2.2.2.1, bc_wi (x := A 2 - 1) (by omega) (by omega), bc_wi (x := A 1 - 1) (by omega) (by omega)]
  refine ⟨by omega, fun _ => ⟨by omega, fun _ => ⟨by omega, ?_⟩, fun q => absurd q (by omega)⟩, fun q => absurd q (by omega)⟩
  refine bc_c_goes (d := d) hc hr2 hA ?_ p1.1 p1.2 p2.1 p2.2 (fun q m3 e3 hr3 => hP z q m3 (by rw [e3, e2, e1]) hr3) (fun q => hN z q m2 (by rw [e2, e1]) hr2)
  unfold bs_lgs at hg ⊢
  rw [bc_setj, bc_setn (by decide), bc_setn (by decide), bc_setn (by decide), bc_setn (by decide), bc_setn (by decide)]
  omega
theorem bc_c_holds {d : Nat} {h m : bc_H} {c p x : Int} {B A R g : Int → Int} {P N : bc_H → Prop} (hc : 24 ≤ c ∧ c ≤ 44) (hp : p = 64 ∨ p = 70) (b8 : B 8 ≤ 60) (hl : bs_lns B (h (p + 1)) (h (p + 2)) (h (p + 3)) (h (p + 4)) (h (p + 5))) (hr : bs_lrel h m c p A R g) (hA : bs_lA B A) (x0 : 0 ≤ x) (x1 : x < B 8) (k : h (p + 1) x = 21) (hP : bs_nxt B A x = x + 1 → P m) (hN : bs_nxt B A x = h (p + 5) x + 1 → N m) : bf_Life_holds (d + 2) x m (bc_B P N) := by
  obtain ⟨ep, ep1, ep2, ep3, ep4, ep5⟩ := bs_lrel_p hc hp hr
  obtain ⟨⟨n4, n5, n6, n2, n0, n1, n3⟩, hw, hd, hg', hf, hm⟩ := hr.2.2.1
  have w := hA.1.1
  have e1 := hA.2.2.2.2.1
  have e2 := hA.2.2.2.2.2.1
  have ln := hl x x0 x1
  have cs : B (160 + 6 * x + 4) = h (p + 5) x ∧ ((h (p + 2) x = 22 ∧ B (160 + 6 * x) = 2125 ∧ B (160 + 6 * x + 1) = h (p + 3) x ∧ 0 ≤ h (p + 3) x ∧ h (p + 3) x < B 2) ∨ (h (p + 2) x = 10 ∧ B (160 + 6 * x) = 2113 ∧ B (160 + 6 * x + 1) = h (p + 3) x ∧ B (160 + 6 * x + 2) = h (p + 4) x ∧ 0 ≤ h (p + 3) x ∧ h (p + 3) x < B 2) ∨ (h (p + 2) x = 23 ∧ B (160 + 6 * x) = 2126) ∨ ((h (p + 2) x = 60 ∨ h (p + 2) x = 61 ∨ h (p + 2) x = 62) ∧ B (160 + 6 * x) = 2112 ∧ B (160 + 6 * x + 1) = h (p + 3) x ∧ B (160 + 6 * x + 2) = h (p + 4) x ∧ B (160 + 6 * x + 5) = h (p + 2) x ∧ 0 ≤ h (p + 3) x ∧ h (p + 3) x < B 2)) := by
    rcases ln with q | q | q | q | q | q | q | q | q
    · exact absurd (q.1.symm.trans k) (by decide)
    · exact absurd (q.1.symm.trans k) (by decide)
    · exact absurd (q.1.symm.trans k) (by decide)
    · exact absurd (q.1.symm.trans k) (by decide)
    · exact absurd (q.1.symm.trans k) (by decide)
    · obtain ⟨_, c4, cs⟩ := q
      refine ⟨c4, ?_⟩
      rcases cs with q | q | q | q
      · exact Or.inl q
      · exact Or.inr (Or.inl ⟨q.1, q.2.1, q.2.2.1, q.2.2.2.1, q.2.2.2.2.1.1, q.2.2.2.2.1.2⟩)
      · exact Or.inr (Or.inr (Or.inl q))
      · exact Or.inr (Or.inr (Or.inr ⟨q.1, q.2.1, q.2.2.1, q.2.2.2.1, q.2.2.2.2.1, q.2.2.2.2.2.1.1, q.2.2.2.2.2.1.2⟩))
    · exact absurd (q.1.symm.trans k) (by decide)
    · exact absurd (q.1.symm.trans k) (by decide)
    · exact absurd (q.1.symm.trans k) (by decide)
  clear ln
  obtain ⟨c4, cs⟩ := cs
  unfold bs_nxt at hP hN
  rw [c4] at hP hN
  refine rv_Life_holds (d := d) ?_
  rw [hr.2.2.2.1.2, hr.2.2.2.1.1, ep2, ep3, ep4, n2, n4, bc_wi (x := A 2 - 1) (by omega) (by omega)]
  have pn : h (p + 5) x + 1 = h (p + 5) x + 1 := rfl
  rcases cs with ⟨t, b0, b1, v0, v1⟩ | ⟨t, b0, b1, b2, v0, v1⟩ | ⟨t, b0⟩ | ⟨t, b0, b1, b2, b5, v0, v1⟩
  · rw [if_pos b0, b1] at hP hN
    refine ⟨by omega, by omega, by omega, by omega, fun _ => ⟨by omega, fun _ => ⟨by omega, by omega, fun q => absurd q (by omega), fun _ => ⟨fun _ => ⟨by omega, ?_⟩, fun q => absurd t q⟩⟩, fun q => absurd q (by omega)⟩, fun q => absurd q (by omega)⟩
    exact bc_c_isTurned (d := d) hm v0 (by omega) (by omega) (fun q => hP (if_pos q)) (fun q => hN (if_neg q))
  · rw [if_neg (by omega), if_pos b0, b1, b2] at hP hN
    refine ⟨by omega, by omega, by omega, by omega, fun _ => ⟨by omega, fun _ => ⟨by omega, by omega, fun _ => ⟨by omega, by omega, by omega, by omega, ?_⟩, fun q => absurd t q⟩, fun q => absurd q (by omega)⟩, fun q => absurd q (by omega)⟩
    rw [(hm _ v0 (by omega)).2.1]
    exact ⟨fun q => hP (if_pos q), fun q => hN (if_neg q)⟩
  · rw [if_neg (by omega), if_neg (by omega), if_pos b0] at hP hN
    refine ⟨by omega, by omega, by omega, by omega, fun q => absurd t q, fun _ => ⟨by omega, fun q => hP (if_pos q), fun q => hN (if_neg q)⟩⟩
  · rw [if_neg (by omega), if_neg (by omega), if_neg (by omega), if_pos b0, b1, b2, b5] at hP hN
    have gr : ∀ {K : Int → bc_H → Prop}, K (bs_most A (h (p + 3) x)) m → bf_Cave_greatest d 30 (c + 16) (bc_w32 (h (p + 3) x * 5)) m (bc_I K) := fun kk => by
      rw [bc_wi (by omega) (by omega)]
      refine bc_c_greatest (by omega) (by omega) (by omega) ?_
      have e : bs_gr (fun b => m (c + 16) (h (p + 3) x * 5 + b)) = bs_most A (h (p + 3) x) := bs_gr_congr (fun b b0 b5 => (hm _ v0 (by omega)).2.2.2 b b0 b5)
      rw [e]; exact kk
    refine ⟨by omega, by omega, by omega, by omega, fun _ => ⟨by omega, fun _ => ⟨by omega, by omega, fun q => absurd q (by omega), fun _ => ⟨fun q => absurd q (by omega), fun _ => ⟨fun t60 => ⟨by omega, gr ?_⟩, fun t60 => ⟨fun t62 => ⟨by omega, gr ?_⟩, fun t62 => ⟨by omega, gr ?_⟩⟩⟩⟩⟩, fun q => absurd q (by omega)⟩, fun q => absurd q (by omega)⟩
    all_goals rw [hr.2.2.2.1.2, ep4]
    · rw [if_pos t60] at hP hN
      exact ⟨by omega, by omega, fun q => hP (if_pos q), fun q => hN (if_neg q)⟩
    · rw [if_neg t60, if_pos t62] at hP hN
      exact ⟨by omega, by omega, fun q => hP (if_pos q), fun q => hN (if_neg q)⟩
    · rw [if_neg t60, if_neg t62] at hP hN
      exact ⟨by omega, by omega, fun q => hP (if_pos q), fun q => hN (if_neg q)⟩
