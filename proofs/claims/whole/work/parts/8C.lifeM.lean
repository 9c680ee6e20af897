/-! ===== days lived: the class's whole run; the reference ===== -/
def bs_g0 (n : Int) : Int → Int := fun k => if k = 8 then n else 0
theorem bs_g0_g {n : Int} (n0 : 0 ≤ n) (n1 : n < 65536) : bs_lg (bs_g0 n) := by
  have e : ∀ k, k ≠ 8 → bs_g0 n k = 0 := fun k hk => if_neg hk
  have e8 : bs_g0 n 8 = n := if_pos rfl
  unfold bs_lg
  rw [e 0 (by decide), e 1 (by decide), e 2 (by decide), e 3 (by decide), e 4 (by decide), e8]
  omega
theorem bc_c_run {d : Nat} {h : bc_H} {c p n : Int} {B A R : Int → Int} {K : bc_H → Prop} (hc : 24 ≤ c ∧ c ≤ 44) (hp : p = 64 ∨ p = 70) (b80 : 0 ≤ B 8) (b8 : B 8 ≤ 60) (e2 : h p 2 = B 8) (hl : bs_lns B (h (p + 1)) (h (p + 2)) (h (p + 3)) (h (p + 4)) (h (p + 5))) (hn : bs_nest (h (p + 1)) (h (p + 5)) (B 8)) (hC : bs_C h c A) (hA : bs_lA B A) (hR : bs_Rlo (h 13) R) (n0 : 0 ≤ n) (n1 : n < 65536) (hK : ∀ m', bs_lrel h m' c p (bs_lf B 301 A R (bs_g0 n) 0).1 (bs_lf B 301 A R (bs_g0 n) 0).2.1 (bs_lf B 301 A R (bs_g0 n) 0).2.2 → bs_lA B (bs_lf B 301 A R (bs_g0 n) 0).1 → K m') : bf_Life_run (d + 5) c p n h (bc_U K) := by
  refine rv_Life_run (d := d + 4) (fun h1 e1 => ?_)
  have x12 : ∀ a, a ≠ 12 → bc_upd h1 12 5 0 a = h a := fun a ha => by
    rw [bc_urow ha, e1, bc_urow ha, bc_urow ha, bc_urow ha, bc_urow ha, bc_urow ha, bc_urow ha, bc_urow ha, bc_urow ha]
  refine bc_c_run31 (d := d) (B := B) hc hp b80 b8 e2 hl hn 301 A R (bs_g0 n) 0 0 _ ⟨fun a a1 _ _ _ _ _ _ => x12 a a1, by rw [x12 c (by omega)], bs_C_h (fun a b a0 a1 _ => by rw [x12 a (by omega)]) hC, ⟨?_, ?_⟩, by rw [x12 13 (by decide)]; exact hR, ⟨?_, ?_, ?_, ?_, ?_, ?_, ?_⟩⟩ (fun o o0 o1 _ lt _ => absurd lt (by omega)) (by omega) (fun z => ?_) hA (bs_g0_g n0 n1) (by rw [show bs_g0 n 0 = 0 from if_neg (by decide)]; rfl) (by rw [show bs_g0 n 0 = 0 from if_neg (by decide)]; decide) hK
  · rw [e1]; simp (disch := omega) only [bc_uj, bc_uu]
  · rw [e1]; simp (disch := omega) only [bc_uj, bc_uu]
  · rw [e1]; simp (disch := omega) only [bc_uj, bc_uu]; rfl
  · rw [e1]; simp (disch := omega) only [bc_uj, bc_uu]; rfl
  · rw [e1]; simp (disch := omega) only [bc_uj, bc_uu]; rfl
  · rw [e1]; simp (disch := omega) only [bc_uj, bc_uu]; rfl
  · rw [e1]; simp (disch := omega) only [bc_uj, bc_uu]; rfl
  · rw [bc_uu]; rfl
  · rw [e1]; simp (disch := omega) only [bc_uj, bc_uu]; exact (if_pos rfl).symm
  · have kx := (bs_ln_E (hl 0 (by omega) z.1)).1.1 z.2
    have nx := hn.2.1 0 (by omega) z.1 kx
    omega
/-- what the reference's memory is in the course -/
def bs_mrel (h m : bc_H) (A R g : Int → Int) : Prop := (∀ a, a ≠ 156 → a ≠ 157 → a ≠ 182 → a ≠ 183 → m a = h a) ∧ (∀ b, b ≠ 43 → b ≠ 44 → m 156 b = h 156 b) ∧ m 157 = A ∧ m 182 = R ∧ (m 183 0 = g 1 ∧ m 183 1 = g 2 ∧ m 183 2 = g 3 ∧ m 183 3 = g 4 ∧ m 183 4 = g 5) ∧ (m 156 43 = g 8 ∧ m 156 44 = g 0)
theorem bs_mrel_A {h m : bc_H} {A A' R g : Int → Int} (hr : bs_mrel h m A R g) : bs_mrel h (bc_row m 157 A') A' R g := by
  obtain ⟨r1, r2, r3, r4, r5, r6⟩ := hr
  exact ⟨fun a a1 a2 a3 a4 => by rw [bc_rn a2]; exact r1 a a1 a2 a3 a4, by rw [bc_rn (by decide)]; exact r2, bs_rr _ _ _, by rw [bc_rn (by decide)]; exact r4, by rw [bc_rn (by decide)]; exact r5, by rw [bc_rn (by decide)]; exact r6⟩
theorem bs_mrel_u {h m : bc_H} {A R g g' : Int → Int} {k v : Int} (k0 : 0 ≤ k) (k1 : k < 5) (hr : bs_mrel h m A R g) (e : ∀ j, (j = 0 ∨ j = 1 ∨ j = 2 ∨ j = 3 ∨ j = 4 ∨ j = 5 ∨ j = 8) → g' j = bc_set g (k + 1) v j) : bs_mrel h (bc_upd m 183 k v) A R g' := by
  obtain ⟨r1, r2, r3, r4, ⟨g1, g2, g3, g4, g5⟩, ⟨g8, g0⟩⟩ := hr
  have ee : ∀ j, (j = 1 ∨ j = 2 ∨ j = 3 ∨ j = 4 ∨ j = 5) → m 183 (j - 1) = g j → bc_upd m 183 k v 183 (j - 1) = g' j := fun j hj q => by
    rw [e j (by omega)]
    by_cases z : j = k + 1
    · rw [show j - 1 = k by omega, bc_uu, z, bc_setj]
    · rw [bc_uj (by omega), bc_setn z]; exact q
  exact ⟨fun a a1 a2 a3 a4 => by rw [bc_urow a4]; exact r1 a a1 a2 a3 a4, by rw [bc_urow (by decide)]; exact r2, by rw [bc_urow (by decide)]; exact r3, by rw [bc_urow (by decide)]; exact r4, ⟨ee 1 (by omega) g1, ee 2 (by omega) g2, ee 3 (by omega) g3, ee 4 (by omega) g4, ee 5 (by omega) g5⟩, by rw [bc_urow (by decide), e 8 (by omega), e 0 (by omega), bc_setn (by omega), bc_setn (by omega)]; exact ⟨g8, g0⟩⟩
theorem bs_mrel_s {h m : bc_H} {A R g g' : Int → Int} {v : Int} (hr : bs_mrel h m A R g) (e : ∀ j, (j = 0 ∨ j = 1 ∨ j = 2 ∨ j = 3 ∨ j = 4 ∨ j = 5 ∨ j = 8) → g' j = bc_set g 8 v j) : bs_mrel h (bc_upd m 156 43 v) A R g' := by
  obtain ⟨r1, r2, r3, r4, ⟨g1, g2, g3, g4, g5⟩, ⟨g8, g0⟩⟩ := hr
  have e5 : g' 1 = g 1 ∧ g' 2 = g 2 ∧ g' 3 = g 3 ∧ g' 4 = g 4 ∧ g' 5 = g 5 ∧ g' 0 = g 0 ∧ g' 8 = v := ⟨by rw [e 1 (by omega), bc_setn (by decide)], by rw [e 2 (by omega), bc_setn (by decide)], by rw [e 3 (by omega), bc_setn (by decide)], by rw [e 4 (by omega), bc_setn (by decide)], by rw [e 5 (by omega), bc_setn (by decide)], by rw [e 0 (by omega), bc_setn (by decide)], by rw [e 8 (by omega), bc_setj]⟩
  exact ⟨fun a a1 a2 a3 a4 => by rw [bc_urow a1]; exact r1 a a1 a2 a3 a4, fun b b1 b2 => by rw [bc_uj b1]; exact r2 b b1 b2, by rw [bc_urow (by decide)]; exact r3, by rw [bc_urow (by decide)]; exact r4, by rw [bc_urow (by decide), e5.1, e5.2.1, e5.2.2.1, e5.2.2.2.1, e5.2.2.2.2.1]; exact ⟨g1, g2, g3, g4, g5⟩, by rw [bc_uu, bc_uj (by decide), e5.2.2.2.2.2.1, e5.2.2.2.2.2.2]; exact ⟨rfl, g0⟩⟩
theorem bs_mrel_c {h m : bc_H} {A R g g' : Int → Int} {v : Int} (hr : bs_mrel h m A R g) (e : ∀ j, (j = 0 ∨ j = 1 ∨ j = 2 ∨ j = 3 ∨ j = 4 ∨ j = 5 ∨ j = 8) → g' j = bc_set g 0 v j) : bs_mrel h (bc_upd m 156 44 v) A R g' := by
  obtain ⟨r1, r2, r3, r4, ⟨g1, g2, g3, g4, g5⟩, ⟨g8, g0⟩⟩ := hr
  have e5 : g' 1 = g 1 ∧ g' 2 = g 2 ∧ g' 3 = g 3 ∧ g' 4 = g 4 ∧ g' 5 = g 5 ∧ g' 0 = v ∧ g' 8 = g 8 := ⟨by rw [e 1 (by omega), bc_setn (by decide)], by rw [e 2 (by omega), bc_setn (by decide)], by rw [e 3 (by omega), bc_setn (by decide)], by rw [e 4 (by omega), bc_setn (by decide)], by rw [e 5 (by omega), bc_setn (by decide)], by rw [e 0 (by omega), bc_setj], by rw [e 8 (by omega), bc_setn (by decide)]⟩
  exact ⟨fun a a1 a2 a3 a4 => by rw [bc_urow a1]; exact r1 a a1 a2 a3 a4, fun b b1 b2 => by rw [bc_uj b2]; exact r2 b b1 b2, by rw [bc_urow (by decide)]; exact r3, by rw [bc_urow (by decide)]; exact r4, by rw [bc_urow (by decide), e5.1, e5.2.1, e5.2.2.1, e5.2.2.2.1, e5.2.2.2.2.1]; exact ⟨g1, g2, g3, g4, g5⟩, by rw [bc_uj (by decide), bc_uu, e5.2.2.2.2.2.1, e5.2.2.2.2.2.2]; exact ⟨g8, rfl⟩⟩
theorem bs_mrel_R {h m : bc_H} {A R g : Int → Int} {k v : Int} (hr : bs_mrel h m A R g) : bs_mrel h (bc_upd m 182 k v) A (bc_set R k v) g := by
  obtain ⟨r1, r2, r3, r4, r5, r6⟩ := hr
  have e : bc_upd m 182 k v 182 = bc_set R k v := by
    funext j
    by_cases z : j = k
    · subst z; rw [bc_uu, bc_setj]
    · rw [bc_uj z, bc_setn z, r4]
  exact ⟨fun a a1 a2 a3 a4 => by rw [bc_urow a3]; exact r1 a a1 a2 a3 a4, by rw [bc_urow (by decide)]; exact r2, by rw [bc_urow (by decide)]; exact r3, e, by rw [bc_urow (by decide)]; exact r5, by rw [bc_urow (by decide)]; exact r6⟩
theorem bc_m_minutesGoX {d : Nat} {n : Int} {m : bc_H} {A : Int → Int} {K : Int → bc_H → Prop} (eA : m 157 = A) (hW : bs_W A) (h6 : 0 ≤ A 6 ∧ A 6 ≤ 100000) (hn : 0 ≤ n) (hn2 : n ≤ 1000) (hK : K (bs_newN A n) (bc_row m 157 (bs_passN A n))) : bf_M_minutesGo (d + 7) n m (bc_I K) := by
  have t := bc_m_minutesGo (d := d) (h := m) hW h6 hn hn2 hK
  rw [← eA, bc_rself] at t; exact t
theorem bc_m_leadsX {d : Nat} {v w : Int} {m : bc_H} {A : Int → Int} {P N : bc_H → Prop} (eA : m 157 = A) (hW : bs_W A) (v0 : 0 ≤ v) (v1 : v < A 2) (hP : bs_can A v w → P (bc_row m 157 (bs_lead A v w))) (hN : ¬ bs_can A v w → N (bc_row m 157 A)) : bf_M_leads (d + 5) v w m (bc_B P N) := by
  have t := bc_m_leads (d := d) (h := m) hW v0 v1 hP hN
  rw [← eA, bc_rself] at t; exact t
theorem bc_m_wakesX {d : Nat} {v : Int} {m : bc_H} {A : Int → Int} {P N : bc_H → Prop} (eA : m 157 = A) (hW : bs_W A) (v0 : 0 ≤ v) (v1 : v < A 2) (hP : bs_most A v ≠ 0 → P (bc_row m 157 (bs_wake A v))) (hN : ¬ bs_most A v ≠ 0 → N (bc_row m 157 A)) : bf_M_wakes (d + 4) v m (bc_B P N) := by
  have t := bc_m_wakes (d := d) (h := m) hW v0 v1 hP hN
  rw [← eA, bc_rself] at t; exact t
theorem bc_m_fillsX {d : Nat} {n : Int} {m : bc_H} {A : Int → Int} {P N : bc_H → Prop} (eA : m 157 = A) (hW : bs_W A) (n0 : 0 ≤ n) (n9 : n ≤ 999) (hP : A 4 + n ≤ 999 → P (bc_row m 157 (bs_fill A n))) (hN : ¬ A 4 + n ≤ 999 → N (bc_row m 157 A)) : bf_M_fills d n m (bc_B P N) := by
  have t := bc_m_fills (d := d) (h := m) hW n0 n9 hP hN
  rw [← eA, bc_rself] at t; exact t
theorem bc_m_leadsBy {d : Nat} {v w : Int} {h m : bc_H} {B A R g : Int → Int} {P N : bc_H → Prop} (hr : bs_mrel h m A R g) (hA : bs_lA B A) (hg : bs_lgs g) (v0 : 0 ≤ v) (v1 : v < A 2) (hP : bs_can A v w → ∀ m', bs_mrel h m' (bs_lead A v w) R (bc_set g 3 (g 3 + 1)) → P m') (hN : ¬ bs_can A v w → ∀ m', bs_mrel h m' A R g → N m') : bf_M_leadsBy (d + 6) v w m (bc_B P N) := by
  refine rv_M_leadsBy (d := d + 5) (bc_m_leadsX (d := d) hr.2.2.1 hA.1 v0 v1 (fun c => ?_) (fun c => hN c _ (bs_mrel_A hr)))
  have g3 := hr.2.2.2.2.1.2.2.1
  rw [bc_rn (by decide), g3, bc_wi (x := g 3 + 1) (by unfold bs_lgs at hg; omega) (by unfold bs_lgs at hg; omega)]
  exact hP c _ (bs_mrel_u (by decide) (by decide) (bs_mrel_A hr) (fun j hj => rfl))
theorem bc_m_drawing {d : Nat} {n s : Int} {m : bc_H} {K : Int → bc_H → Prop} (e : m 156 43 = s) (n0 : n ≠ 0) (hK : K (bs_pk s n) (bc_upd m 156 43 (bs_sd s))) : bf_M_drawing d n m (bc_I K) := by
  subst e
  exact rv_M_drawing ⟨n0, hK⟩
theorem bc_m_does {d : Nat} {x : Int} {h m : bc_H} {B A R g ki t v n pa : Int → Int} {P N : bc_H → Prop} (b8 : B 8 ≤ 60) (hl : bs_lns B ki t v n pa) (hr : bs_mrel h m A R g) (hA : bs_lA B A) (hg : bs_lgs g) (x0 : 0 ≤ x) (x1 : x < B 8) (hP : ∀ m', bs_mrel h m' (bs_deed B A g x).1 R (bs_deed B A g x).2 → (bs_deed B A g x).2 1 = g 1 → P m') (hN : ∀ m' g', bs_mrel h m' (bs_deed B A g x).1 R g' → g' 1 = g 1 → (bs_deed B A g x).2 = bc_set g' 1 (g 1 + 1) → N m') : bf_M_does (d + 9) (160 + 6 * x) m (bc_B P N) := by
  have w := hA.1.1
  have h6 := hA.2.1
  have e1 := hA.2.2.2.2.1
  have e2 := hA.2.2.2.2.2.1
  have e3 := hr.2.2.1
  have eB : ∀ k, 160 ≤ k → A k = B k := fun k hk => hA.2.2.1 k (by omega)
  have ln := hl x x0 x1
  have rest : ∀ a : Int, (B (160 + 6 * x) = 16 → 1 ≤ B (160 + 6 * x + 1) ∧ B (160 + 6 * x + 1) ≤ 60) ∧ (B (160 + 6 * x) = 17 → (0 ≤ B (160 + 6 * x + 1) ∧ B (160 + 6 * x + 1) < B 2)) ∧ (B (160 + 6 * x) = 18 → (0 ≤ B (160 + 6 * x + 1) ∧ B (160 + 6 * x + 1) < B 2)) ∧ (B (160 + 6 * x) = 19 → 1 ≤ B (160 + 6 * x + 1) ∧ B (160 + 6 * x + 1) ≤ 99) := fun _ => by
    refine ⟨fun z => ?_, fun z => ?_, fun z => ?_, fun z => ?_⟩ <;> (rcases ln with q | q | q | q | q | q | q | q | q <;> omega)
  obtain ⟨l16, l17, l18, l19⟩ := rest 0
  clear ln rest
  unfold bs_deed at hP hN
  refine rv_M_does (d := d + 8) ?_
  rw [e3, bc_wi (x := 160 + 6 * x + 1) (by omega) (by omega), bc_wi (x := 160 + 6 * x + 2) (by omega) (by omega), eB _ (by omega), eB _ (by omega), eB _ (by omega)]
  refine ⟨by omega, by omega, fun z => ?_, fun z16 => ⟨fun z => ⟨by omega, ?_⟩, fun z17 => ⟨fun z => ?_, fun z18 => ⟨fun z => ?_, fun z19 => ⟨fun z => ?_, fun z20 => ?_⟩⟩⟩⟩⟩
  · rw [if_pos z] at hP hN
    have q := l16 z
    refine rv_M_minutesBy (d := d + 7) ?_
    rw [e3, bc_wi (x := A 6 + B (160 + 6 * x + 1)) (by omega) (by omega)]
    refine ⟨fun c => ?_, fun c => ?_⟩
    · rw [if_pos c] at hP
      try dsimp only at hP
      have nn := bs_newN_le hA.1 (n := B (160 + 6 * x + 1)) (by omega)
      have g4 := hr.2.2.2.2.1.2.2.2.1
      have g2 := hr.2.2.2.2.1.2.1
      refine bc_m_minutesGoX (d := d) e3 hA.1 (by omega) (by omega) (by omega) ?_
      rw [g4, bc_rn (by decide), g2, bc_wi (x := g 4 + bs_newN A (B (160 + 6 * x + 1))) (by unfold bs_lgs at hg; omega) (by unfold bs_lgs at hg; omega), bc_wi (x := g 2 + B (160 + 6 * x + 1)) (by unfold bs_lgs at hg; omega) (by unfold bs_lgs at hg; omega)]
      exact hP _ (bs_mrel_u (k := 1) (by decide) (by decide) (bs_mrel_u (k := 3) (g' := bc_set g 4 (g 4 + bs_newN A (B (160 + 6 * x + 1)))) (by decide) (by decide) (bs_mrel_A hr) (fun j hj => rfl)) (fun j hj => rfl)) (by rw [bc_setn (by decide), bc_setn (by decide)])
    · rw [if_neg (by omega)] at hN
      exact hN m g hr rfl rfl
  · rw [if_neg z16, if_pos z] at hP hN
    have q := l17 z
    refine bc_m_leadsBy (d := d + 2) hr hA hg q.1 (by omega) (fun c m' hr' => ?_) (fun c m' hr' => ?_)
    · rw [show bs_dl A g (B (160 + 6 * x + 1)) (B (160 + 6 * x + 2)) = _ from if_pos c] at hP
      dsimp only at hP
      exact hP m' hr' (by rw [bc_setn (by decide)])
    · rw [show bs_dl A g (B (160 + 6 * x + 1)) (B (160 + 6 * x + 2)) = _ from if_neg c] at hN
      exact hN m' g hr' rfl rfl
  · rw [if_neg z16, if_neg z17, if_pos z] at hP hN
    have q := l18 z
    refine bc_m_wakesX (d := d + 4) e3 hA.1 q.1 (by omega) (fun c => ?_) (fun c => ?_)
    · rw [if_pos c] at hP
      exact hP _ (bs_mrel_A hr) rfl
    · rw [if_neg c] at hN
      exact hN _ g (bs_mrel_A hr) rfl rfl
  · rw [if_neg z16, if_neg z17, if_neg z18, if_pos z] at hP hN
    have q := l19 z
    refine bc_m_fillsX e3 hA.1 (by omega) (by omega) (fun c => ?_) (fun c => ?_)
    · rw [if_pos c] at hP
      exact hP _ (bs_mrel_A hr) rfl
    · rw [if_neg c] at hN
      exact hN _ g (bs_mrel_A hr) rfl rfl
  · rw [if_neg z16, if_neg z17, if_neg z18, if_neg z19, if_pos z] at hP hN
    refine rv_M_leadsAny (d := d + 7) ?_
    rw [e3]
    refine ⟨fun c => ?_, fun c => ?_⟩
    · rw [if_neg c] at hP hN
      have pos := bs_w21 hA.1 c
      have g8 := hg.2.2.2.2.2
      have s1 := bs_sd_r g8.1 g8.2
      have s2 := bs_sd_r s1.1 s1.2
      have p1 := bs_pk_r g8.1 g8.2 pos.1
      have p2 := bs_pk_r s1.1 s1.2 pos.2
      have m8 := hr.2.2.2.2.2.1
      refine bc_m_drawing m8 c ?_
      have hr1 := bs_mrel_s (v := bs_sd (g 8)) (g' := bc_set g 8 (bs_sd (g 8))) hr (fun j hj => rfl)
      have m81 := hr1.2.2.2.2.2.1
      rw [bc_setj] at m81
      rw [show bc_upd m 156 43 (bs_sd (g 8)) 157 = A from hr1.2.2.1]
      refine bc_m_drawing m81 (by omega) ?_
      have hr2 := bs_mrel_s (v := bs_sd (bs_sd (g 8))) (g' := bc_set g 8 (bs_sd (bs_sd (g 8)))) hr1 (fun j hj => by
        by_cases e : j = 8
        · subst e; rw [bc_setj, bc_setj]
        · rw [bc_setn e, bc_setn e, bc_setn e])
      have hgs : bs_lgs (bc_set g 8 (bs_sd (bs_sd (g 8)))) := by
        unfold bs_lgs at hg ⊢
        rw [bc_setj, bc_setn (by decide), bc_setn (by decide), bc_setn (by decide), bc_setn (by decide), bc_setn (by decide)]
        omega
      refine bc_m_leadsBy (d := d + 1) hr2 hA hgs p1.1 p1.2 (fun c m' hr' => ?_) (fun c m' hr' => ?_)
      · rw [show bs_dl A (bc_set g 8 (bs_sd (bs_sd (g 8)))) (bs_pk (g 8) (A 2)) (bs_pk (bs_sd (g 8)) (A 1)) = _ from if_pos c] at hP
        dsimp only at hP
        exact hP m' hr' (by rw [bc_setn (by decide), bc_setn (by decide)])
      · rw [show bs_dl A (bc_set g 8 (bs_sd (bs_sd (g 8)))) (bs_pk (g 8) (A 2)) (bs_pk (bs_sd (g 8)) (A 1)) = _ from if_neg c] at hN
        have e : bc_set g 8 (bs_sd (bs_sd (g 8))) 1 = g 1 := bc_setn (by decide)
        dsimp only at hN
        exact hN m' _ hr' e (by rw [e])
    · rw [if_pos c] at hN
      exact hN m g hr rfl rfl
  · rw [if_neg z16, if_neg z17, if_neg z18, if_neg z19, if_neg z20] at hP
    exact hP m hr rfl
