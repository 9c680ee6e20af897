/-! ===== days lived: the class ===== -/
def bs_lns (B ki t v n pa : Int → Int) : Prop := ∀ k, 0 ≤ k → k < B 8 → bs_ln (ki k) (t k) (v k) (n k) (pa k) (B (160 + 6 * k)) (B (160 + 6 * k + 1)) (B (160 + 6 * k + 2)) (B (160 + 6 * k + 4)) (B (160 + 6 * k + 5)) (B 1) (B 2)
theorem bs_ln_E {k t v n pr a0 a1 a2 a4 a5 m1 m2 : Int} (h : bs_ln k t v n pr a0 a1 a2 a4 a5 m1 m2) : (a0 = 23 ↔ k = 25) ∧ (a0 = 22 ↔ k = 24) ∧ (k = 25 → a4 = pr) := by unfold bs_ln at h; omega
theorem bs_mu_r {B R : Int → Int} {x : Int} (hR : bs_E B x → 0 ≤ R (B (160 + 6 * x + 4)) ∧ R (B (160 + 6 * x + 4)) ≤ 98) : 0 ≤ bs_mu B R x ∧ bs_mu B R x ≤ 398 ∧ (bs_E B x → 100 ≤ bs_mu B R x) ∧ bs_mu B R x ≤ 100 * bs_ec B x + 98 ∧ (¬ bs_E B x → bs_mu B R x = 0) := by
  unfold bs_mu bs_ec
  by_cases z : bs_E B x
  · have := hR z
    rw [if_pos z, if_pos z]
    refine ⟨?_, ?_, fun _ => ?_, ?_, fun q => absurd z q⟩ <;> (repeat' split) <;> omega
  · rw [if_neg z, if_neg z]
    exact ⟨by omega, by omega, fun q => absurd q z, by omega, fun _ => by omega⟩
theorem bs_ec_s {B ki t v n pa : Int → Int} (hl : bs_lns B ki t v n pa) (hn : bs_nest ki pa (B 8)) {x : Int} (x0 : 0 ≤ x) (z : bs_E B x) : bs_ec B x = bs_ec B (x + 1) + 1 := by
  have no4 : ¬ (bs_E B x ∧ bs_E B (x + 1) ∧ bs_E B (x + 2) ∧ bs_E B (x + 3)) := fun q => by
    refine hn.2.2.2 x x0 q.2.2.2.1 ⟨?_, ?_, ?_, ?_⟩
    · exact (bs_ln_E (hl x x0 q.1.1)).1.1 q.1.2
    · exact (bs_ln_E (hl (x + 1) (by omega) q.2.1.1)).1.1 q.2.1.2
    · exact (bs_ln_E (hl (x + 2) (by omega) q.2.2.1.1)).1.1 q.2.2.1.2
    · exact (bs_ln_E (hl (x + 3) (by omega) q.2.2.2.1)).1.1 q.2.2.2.2
  unfold bs_ec
  rw [if_pos z, show x + 1 + 1 = x + 2 by omega, show x + 1 + 2 = x + 3 by omega]
  by_cases z1 : bs_E B (x + 1)
  · rw [if_pos z1, if_pos z1]
    by_cases z2 : bs_E B (x + 2)
    · rw [if_pos z2, if_pos z2]
      rw [if_neg (fun q => no4 ⟨z, z1, z2, q⟩)]; decide
    · rw [if_neg z2, if_neg z2]; decide
  · rw [if_neg z1, if_neg z1]; decide
theorem bs_e1_mu {B R ki t v n pa : Int → Int} (hl : bs_lns B ki t v n pa) (hn : bs_nest ki pa (B 8)) (b8 : B 8 ≤ 60) {x : Int} (x0 : 0 ≤ x) (z : bs_E B x) (hR : ∀ k, 0 ≤ k → k < 60 → 0 ≤ R k ∧ R k ≤ 98) : (0 ≤ (bs_e1 B R x).2 ∧ (bs_e1 B R x).2 ≤ B 8) ∧ bs_mu B (bs_e1 B R x).1 (bs_e1 B R x).2 < bs_mu B R x := by
  have lx := bs_ln_E (hl x x0 z.1)
  have kx := lx.1.1 z.2
  have px := lx.2.2 kx
  have nx := hn.2.1 x x0 z.1 kx
  have z1 := z.1
  have mx := bs_mu_r (B := B) (R := R) (x := x) (fun _ => by rw [px]; exact hR _ nx.1 (by omega))
  have ex : bs_mu B R x = 100 * bs_ec B x + R (pa x) := by unfold bs_mu; rw [if_pos z, px]
  unfold bs_e1
  rw [px]
  by_cases c : B (160 + 6 * pa x) = 22 ∧ 0 < R (pa x)
  · rw [if_pos c]
    refine ⟨⟨by show 0 ≤ pa x + 1; omega, by show pa x + 1 ≤ B 8; omega⟩, ?_⟩
    show bs_mu B (bc_set R (pa x) (R (pa x) - 1)) (pa x + 1) < bs_mu B R x
    by_cases e : bs_E B (pa x + 1)
    · have ly := bs_ln_E (hl (pa x + 1) (by omega) e.1)
      have ky := ly.1.1 e.2
      have ny := hn.2.1 (pa x + 1) (by omega) e.1 ky
      have same : pa x + 1 = x := by
        refine Classical.byContradiction (fun ne => ?_)
        by_cases q : pa (pa x + 1) = pa x
        · have := ny.2.2.2
          rw [q] at this; omega
        · have := hn.2.2.1 (pa (pa x + 1)) (pa x) ny.1 (by omega) (by omega) (by omega) ny.2.2.1 nx.2.2.1
          omega
      rw [ex]
      unfold bs_mu
      rw [if_pos e, same, px, bc_setj]
      omega
    · have := (bs_mu_r (B := B) (R := bc_set R (pa x) (R (pa x) - 1)) (x := pa x + 1) (fun q => absurd q e)).2.2.2.2 e
      have := mx.2.2.1 z
      omega
  · rw [if_neg c]
    refine ⟨⟨by show 0 ≤ x + 1; omega, by show x + 1 ≤ B 8; omega⟩, ?_⟩
    show bs_mu B R (x + 1) < bs_mu B R x
    have ec := bs_ec_s hl hn x0 z
    have my := bs_mu_r (B := B) (R := R) (x := x + 1) (fun q => by
      have ly := bs_ln_E (hl (x + 1) (by omega) q.1)
      have ky := ly.1.1 q.2
      rw [ly.2.2 ky]
      have ny := hn.2.1 (x + 1) (by omega) q.1 ky
      have q1 := q.1
      exact hR _ ny.1 (by omega))
    have r0 := hR (pa x) nx.1 (by omega)
    omega
/-- what the class's memory is in the course -/
def bs_lrel (h m : bc_H) (c p : Int) (A R g : Int → Int) : Prop := (∀ a, a ≠ 12 → a ≠ 13 → a ≠ c → a ≠ c + 13 → a ≠ c + 14 → a ≠ c + 15 → a ≠ c + 16 → m a = h a) ∧ m c 11 = h c 11 ∧ bs_C m c A ∧ (m 12 6 = c ∧ m 12 7 = p) ∧ bs_Rlo (m 13) R ∧ (m 12 0 = g 0 ∧ m 12 1 = g 1 ∧ m 12 2 = g 2 ∧ m 12 3 = g 3 ∧ m 12 4 = g 4 ∧ m 12 5 = g 5 ∧ m 12 8 = g 8)
theorem bs_lrel_vf {h m m' : bc_H} {c p : Int} {A A' R g : Int → Int} (hc : 24 ≤ c) (hr : bs_lrel h m c p A R g) (hv : bs_vf m m' c) (hC : bs_C m' c A') : bs_lrel h m' c p A' R g := by
  obtain ⟨r1, r2, r3, r4, r5, r6⟩ := hr
  have e12 : m' 12 = m 12 := hv.1 12 (by omega) (by omega) (by omega) (by omega) (by omega)
  have e13 : m' 13 = m 13 := hv.1 13 (by omega) (by omega) (by omega) (by omega) (by omega)
  exact ⟨fun a a1 a2 a3 a4 a5 a6 a7 => by rw [hv.1 a a3 a4 a5 a6 a7]; exact r1 a a1 a2 a3 a4 a5 a6 a7, by rw [hv.2]; exact r2, hC, by rw [e12]; exact r4, by rw [e13]; exact r5, by rw [e12]; exact r6⟩
theorem bs_lrel_u {h m : bc_H} {c p : Int} {A R g g' : Int → Int} {k v : Int} (hc : 24 ≤ c) (hr : bs_lrel h m c p A R g) (hk : k ≠ 6 ∧ k ≠ 7) (e : ∀ j, (j = 0 ∨ j = 1 ∨ j = 2 ∨ j = 3 ∨ j = 4 ∨ j = 5 ∨ j = 8) → g' j = bc_set g k v j) : bs_lrel h (bc_upd m 12 k v) c p A R g' := by
  obtain ⟨r1, r2, r3, r4, r5, ⟨g0, g1, g2, g3, g4, g5, g8⟩⟩ := hr
  have ee : ∀ j, (j = 0 ∨ j = 1 ∨ j = 2 ∨ j = 3 ∨ j = 4 ∨ j = 5 ∨ j = 8) → m 12 j = g j → bc_upd m 12 k v 12 j = g' j := fun j hj q => by
    rw [e j hj]
    by_cases z : j = k
    · subst z; rw [bc_uu, bc_setj]
    · rw [bc_uj z, bc_setn z]; exact q
  exact ⟨fun a a1 a2 a3 a4 a5 a6 a7 => by rw [bc_urow a1]; exact r1 a a1 a2 a3 a4 a5 a6 a7, by rw [bc_ur (by omega)]; exact r2, bs_C_h (fun a b a0 a1 _ => bc_ur (by omega)) r3, by rw [bc_uj (by omega), bc_uj (by omega)]; exact r4, by rw [bc_urow (by decide)]; exact r5, ⟨ee 0 (by omega) g0, ee 1 (by omega) g1, ee 2 (by omega) g2, ee 3 (by omega) g3, ee 4 (by omega) g4, ee 5 (by omega) g5, ee 8 (by omega) g8⟩⟩
theorem bs_lrel_13 {h m : bc_H} {c p : Int} {A R R' g : Int → Int} {k v : Int} (hc : 24 ≤ c) (hr : bs_lrel h m c p A R g) (hq : bs_Rlo (bc_set (m 13) k v) R') : bs_lrel h (bc_upd m 13 k v) c p A R' g := by
  obtain ⟨r1, r2, r3, r4, r5, r6⟩ := hr
  have e13 : bc_upd m 13 k v 13 = bc_set (m 13) k v := by
    funext j
    by_cases z : j = k
    · subst z; rw [bc_uu, bc_setj]
    · rw [bc_uj z, bc_setn z]
  exact ⟨fun a a1 a2 a3 a4 a5 a6 a7 => by rw [bc_urow a2]; exact r1 a a1 a2 a3 a4 a5 a6 a7, by rw [bc_ur (by omega)]; exact r2, bs_C_h (fun a b a0 a1 _ => bc_ur (by omega)) r3, by rw [bc_urow (by decide)]; exact r4, by rw [e13]; exact hq, by rw [bc_urow (by decide)]; exact r6⟩
theorem bc_c_behindEnd {d : Nat} {h m : bc_H} {c p x : Int} {B A R g : Int → Int} {K : Int → bc_H → Prop} (hc : 24 ≤ c ∧ c ≤ 44) (hp : p = 64 ∨ p = 70) (b8 : B 8 ≤ 60) (hl : bs_lns B (h (p + 1)) (h (p + 2)) (h (p + 3)) (h (p + 4)) (h (p + 5))) (hn : bs_nest (h (p + 1)) (h (p + 5)) (B 8)) (hr : bs_lrel h m c p A R g) (hi : bs_lin (h (p + 1)) (h (p + 5)) (B 8) (m 13) R x) (x0 : 0 ≤ x) (z : bs_E B x) (hK : ∀ m', bs_lrel h m' c p A (bs_e1 B R x).1 g → bs_lin (h (p + 1)) (h (p + 5)) (B 8) (m' 13) (bs_e1 B R x).1 (bs_e1 B R x).2 → K (bs_e1 B R x).2 m') : bf_Life_behindEnd d x m (bc_I K) := by
  have r4 := hr.2.2.2.1
  have r5 := hr.2.2.2.2.1
  have e1 : m (p + 1) = h (p + 1) := hr.1 _ (by omega) (by omega) (by omega) (by omega) (by omega) (by omega) (by omega)
  have e5 : m (p + 5) = h (p + 5) := hr.1 _ (by omega) (by omega) (by omega) (by omega) (by omega) (by omega) (by omega)
  have z1 := z.1
  have lx := bs_ln_E (hl x x0 z.1)
  have kx := lx.1.1 z.2
  have px := lx.2.2 kx
  have nx := hn.2.1 x x0 z.1 kx
  have lb := bs_ln_E (hl (h (p + 5) x) nx.1 (by omega))
  have rb := r5 (h (p + 5) x) nx.1 (by omega)
  unfold bs_e1 at hK
  rw [px] at hK
  refine rv_Life_behindEnd ?_
  rw [r4.2, e1, e5, bc_wi (x := x + 1) (by omega) (by omega)]
  refine ⟨by omega, by omega, fun q => absurd q (by omega), fun _ => ⟨by omega, by omega, fun q => ?_, fun q => ⟨by omega, by omega, by omega, ?_⟩⟩⟩
  · rw [if_neg (fun w => q (lb.2.1.1 w.1))] at hK
    dsimp only at hK
    exact hK m hr (bs_lin_s (by omega) hi)
  · have rr := hi (h (p + 5) x) nx.1 (by omega) q nx.2.1 (by rw [nx.2.2.2]; omega)
    rw [bc_uu, bc_wi (x := m 13 (h (p + 5) x) - 1) (by omega) (by omega), bc_wi (x := h (p + 5) x + 1) (by omega) (by omega)]
    refine ⟨fun w => ?_, fun w => ?_⟩
    · rw [if_neg (fun u => by omega)] at hK
      dsimp only at hK
      refine hK _ (bs_lrel_13 hc.1 hr (fun k k0 k1 => ?_)) (fun o o0 o1 k lt le => ?_)
      · have := r5 k k0 k1
        by_cases e : k = h (p + 5) x
        · subst e; rw [bc_setj]; omega
        · rw [bc_setn e]; exact this
      · have ne : o ≠ h (p + 5) x := fun e => by subst e; rw [nx.2.2.2] at le; omega
        rw [bc_uj ne]
        by_cases e : o = x
        · subst e; omega
        · exact hi o o0 o1 k (by omega) (by omega)
    · rw [if_pos ⟨lb.2.1.2 q, by omega⟩] at hK
      dsimp only at hK
      refine hK _ (bs_lrel_13 hc.1 hr (fun k k0 k1 => ?_)) (fun o o0 o1 k lt le => ?_)
      · have := r5 k k0 k1
        by_cases e : k = h (p + 5) x
        · subst e; rw [bc_setj, bc_setj]; omega
        · rw [bc_setn e, bc_setn e]; exact this
      · by_cases e : o = h (p + 5) x
        · subst e; rw [bc_uu, bc_setj]; omega
        · rw [bc_uj e, bc_setn e]
          have nb := hn.1 (h (p + 5) x) nx.1 (by omega) (Or.inr q)
          have no := hn.1 o o0 o1 (Or.inr k)
          by_cases e2 : h (p + 5) x + 1 = h (p + 5) o
          · have : h (p + 5) (h (p + 5) o) = o := no.2.2.2
            have k25 := no.2.2.1
            have := hn.2.2.1 o (h (p + 5) x) o0 (by omega) (by omega) (by omega) (Or.inr k) (Or.inr q)
            omega
          · have := hn.2.2.1 o (h (p + 5) x) o0 (by omega) (by omega) (by omega) (Or.inr k) (Or.inr q)
            exact hi o o0 o1 k (by omega) (by omega)
theorem bc_c_ends {d : Nat} {h : bc_H} {c p : Int} {B A g : Int → Int} {K : bc_H → Prop} (hc : 24 ≤ c ∧ c ≤ 44) (hp : p = 64 ∨ p = 70) (b8 : B 8 ≤ 60) (e2 : h p 2 = B 8) (hl : bs_lns B (h (p + 1)) (h (p + 2)) (h (p + 3)) (h (p + 4)) (h (p + 5))) (hn : bs_nest (h (p + 1)) (h (p + 5)) (B 8)) : ∀ (k : Nat) (R : Int → Int) (x i : Int) (m : bc_H), bs_lrel h m c p A R g → bs_lin (h (p + 1)) (h (p + 5)) (B 8) (m 13) R x → (0 ≤ x ∧ x ≤ B 8) → bs_mu B R x ≤ k → (0 ≤ i ∧ i + k < 1000000) → (∀ m' i', bs_lrel h m' c p A (bs_en B k (R, x)).1 g → bs_lin (h (p + 1)) (h (p + 5)) (B 8) (m' 13) (bs_en B k (R, x)).1 (bs_en B k (R, x)).2 → (0 ≤ (bs_en B k (R, x)).2 ∧ (bs_en B k (R, x)).2 ≤ B 8) → ¬ bs_E B (bs_en B k (R, x)).2 → (0 ≤ i' ∧ i' ≤ i + k) → bl_Life_run_31 (d + 5) (bs_en B k (R, x)).2 i' m' (bc_U K)) → bl_Life_run_31 (d + 5) x i m (bc_U K) := by
  intro k
  induction k with
  | zero =>
    intro R x i m hr hi hx hm hi2 hK
    have rg : bs_E B x → 0 ≤ R (B (160 + 6 * x + 4)) ∧ R (B (160 + 6 * x + 4)) ≤ 98 := fun z => by
      have z1 := z.1
      have lx := bs_ln_E (hl x hx.1 z.1)
      have kx := lx.1.1 z.2
      rw [lx.2.2 kx]
      have nx := hn.2.1 x hx.1 z.1 kx
      exact (hr.2.2.2.2.1 _ nx.1 (by omega)).1
    have ne : ¬ bs_E B x := fun z => by
      have := (bs_mu_r rg).2.2.1 z
      omega
    exact hK m i hr hi hx ne (by omega)
  | succ k ih =>
    intro R x i m hr hi hx hm hi2 hK
    have ee : bs_en B (k + 1) (R, x) = if x < B 8 ∧ B (160 + 6 * x) = 23 then bs_en B k (bs_e1 B R x) else (R, x) := rfl
    rw [ee] at hK
    by_cases z : bs_E B x
    · rw [if_pos z] at hK
      have z1 := z.1
      have mu := bs_e1_mu hl hn b8 hx.1 z (fun k k0 k1 => (hr.2.2.2.2.1 k k0 k1).1)
      have er : ∀ a, (a = p ∨ a = p + 1) → m a = h a := fun a ha => hr.1 _ (by omega) (by omega) (by omega) (by omega) (by omega) (by omega) (by omega)
      have kx := (bs_ln_E (hl x hx.1 z.1)).1.1 z.2
      refine rv_Life_run_31 (d := d + 4) ⟨fun q => absurd q (by omega), fun _ => ⟨fun q => absurd q (by omega), fun _ => ?_⟩⟩
      rw [hr.2.2.2.1.2, er p (by omega), er (p + 1) (by omega), e2]
      refine ⟨by omega, fun q => absurd q (by omega), fun _ => ⟨by omega, by omega, fun q => absurd kx q, fun _ => ?_⟩⟩
      refine bc_c_behindEnd hc hp b8 hl hn hr hi hx.1 z (fun m' hr' hi' => ?_)
      rw [bc_wi (x := i + 1) (by omega) (by omega)]
      refine ih _ _ _ m' hr' hi' mu.1 (by omega) (by omega) (fun m2 i2 a1 a2 a3 a4 a5 => hK m2 i2 a1 a2 a3 a4 (by omega))
    · rw [if_neg z] at hK
      exact hK m i hr hi hx z (by omega)
