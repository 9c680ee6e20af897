/-! ===== days ===== -/
theorem bs_lnX_ln {k t v n pr a0 a1 a2 a4 a5 m1 m2 : Int} (h : bs_lnX k t v n pr a0 a1 a2 a4 a5 m1 m2) (hp : (k = 21 ∨ k = 24 ∨ k = 25) → pr ≠ -1) : bs_ln k t v n pr a0 a1 a2 a4 a5 m1 m2 := by
  unfold bs_lnX at h
  by_cases e : pr = -1
  · have nk : ¬ (k = 21 ∨ k = 24 ∨ k = 25) := fun u => hp u e
    unfold bs_ln at *
    rcases h with h | h | h | h | h | h | h | h | h
    · exact Or.inl h
    · exact Or.inr (Or.inl h)
    · exact Or.inr (Or.inr (Or.inl h))
    · exact Or.inr (Or.inr (Or.inr (Or.inl h)))
    · exact Or.inr (Or.inr (Or.inr (Or.inr (Or.inl h))))
    · exact absurd (Or.inl h.1) nk
    · exact absurd (Or.inr (Or.inl h.1)) nk
    · exact absurd (Or.inr (Or.inr h.1)) nk
    · exact Or.inr (Or.inr (Or.inr (Or.inr (Or.inr (Or.inr (Or.inr (Or.inr h)))))))
  · rw [if_neg e] at h; exact h
theorem bs_o_days {d : Nat} {a : Int} {S : Int → Int} {L c s p q : Int} {h : bc_H} (hR : bs_R S L c s p q h) {P : Int → Int → bc_H → Prop} {Q1 : Int → bc_H → Prop} (hQ : ∀ y h1, h1 (-2) = h (-2) → h1 (-3) = h (-3) → bf_M_days (d + 8) a h1 (bc_I fun y2 h2 => P y y2 h2) → Q1 y h1) (hK : ∀ y p' q' h2, bs_R S L c s p' q' h2 → P y y h2) : bf_X_days (d + 8) a h (bc_I Q1) := by
  obtain ⟨⟨hcs, hpq⟩, ⟨e12, e13, e14, e15⟩, hS, est, efr, htr, htp, hfa, hlv, hlo, hrs, hmk, ⟨hC, hW, hck, hN, hP⟩⟩ := id hR
  obtain ⟨⟨n4, n5, n6, n2, n0, n1, n3⟩, hw, hd, hg, hf, hm⟩ := id hC
  obtain ⟨⟨w0, w1, w2, w3, w4, w5, w7⟩, hww, hwy, hwv, hwf, hwg⟩ := id hW
  have hq : ∀ y v, P y y (bc_upd (bc_upd h 0 0 v) 156 2 v) := fun y v => hK _ p q _ (bs_R_st hR v)
  have e156 : ∀ v, bc_upd h 0 0 v 156 = h 156 := fun v => bc_urow (by decide)
  have bad : ¬ (0 ≤ a ∧ a ≤ (if 300 < h 6 0 then 300 else h 6 0)) → Q1 (-1) (bc_upd h 0 0 1) := fun z => by
    refine hQ _ _ (by first | rfl | exact bc_urow (by decide)) (by first | rfl | exact bc_urow (by decide)) ?_
    refine rv_M_days (d := d + 7) (rv_M_begins (d := d + 6) ?_)
    rw [e156, ← htp.1]
    refine ⟨fun _ => hq _ _, fun z0 => ⟨fun _ => hq _ _, fun z1 => ⟨fun z2 => absurd ⟨z0, ?_⟩ z, fun _ => hq _ _⟩⟩⟩
    split <;> omega
  refine rv_X_days (d := d + 7) ⟨fun za => ?_, fun z => bad z⟩
  have z300 : a ≤ 300 ∧ a ≤ h 6 0 := by
    have := za.2
    split at this <;> omega
  have hq64 : 64 ≤ q := by omega
  have hc24 : 24 ≤ c ∧ c ≤ 44 := by omega
  have n0 : 0 ≤ a ∧ a ≤ 900 := ⟨za.1, by omega⟩
  have hb : bs_tb8 (h 7) a := fun k k0 k1 => (htp.2.2 k k0 (by omega)).2
  rw [e12, e15]
  refine ⟨by omega, by omega, rv_Reader_takeDays (d := d + 6) ⟨by omega, ?_⟩⟩
  refine bc_c_beginD (d := d + 4) (T := h 7) hc24 hq64 n0 z300.2 (fun _ _ _ => rfl) hrs (fun m ds tt z => ?_)
  have tf : 0 ≤ m 6 11 := tt.1.1
  have mc := bs_DS_nm hc24 hq64 ds
  refine bs_daysL (d := d + 2) (D := d) (h := h) (T := h 7) (w1 := h 157 1) (w2 := h 157 2) hc24 hq64 n0 hb ⟨w1, w2⟩ hN ⟨rfl, rfl⟩ ⟨hN.1.1, by have := hN.1.2; omega⟩ ((a - m 6 11).toNat + 1) m 0 (by omega) (Int.le_refl 0) tf ds (fun m1 ds1 d0 ce => ?_) (fun m1 pf ce => ?_)
  · obtain ⟨pt, ⟨z0, z1, z2⟩, ⟨s91, s92⟩, fr, ⟨k0, k2, k1, k30, kd⟩, ns⟩ := ds1
    rw [s92]
    have dz : m1 9 6 = 0 := by have := ns.1.1; omega
    have rF : ∀ r, r ≠ q → bc_upd m1 q 0 1 r = m1 r := fun r hr => bc_urow hr
    have rF0 : bc_upd m1 q 0 1 q 0 = 1 := bc_uu _ _ _ _
    have rFy : ∀ y, y ≠ 0 → bc_upd m1 q 0 1 q y = m1 q y := fun y hy => bc_uj hy
    generalize bc_upd m1 q 0 1 = mF at rF rF0 rFy ⊢
    have m0 : mF 0 = h 0 := by rw [rF 0 (by omega)]; exact fr 0 (by decide) (by decide) (by decide) (by decide) (by omega)
    rw [m0, e14, e15]
    refine ⟨by omega, by omega, by omega, by omega, ?_⟩
    have wq : bc_upd (bc_upd mF 0 14 q) 0 15 p q 1 = m1 q 1 := by rw [bc_ur (by omega), bc_ur (by omega)]; exact rFy 1 (by decide)
    rw [wq]
    have g14 : bc_upd (bc_upd (bc_upd mF 0 14 q) 0 15 p) 0 0 0 0 14 = q := by rw [bc_uj (by decide), bc_uj (by decide), bc_uu]
    have g15 : bc_upd (bc_upd (bc_upd mF 0 14 q) 0 15 p) 0 0 0 0 15 = p := by rw [bc_uj (by decide), bc_uu]
    have g00 : bc_upd (bc_upd (bc_upd mF 0 14 q) 0 15 p) 0 0 0 0 0 = 0 := bc_uu _ _ _ _
    have g0y : ∀ y, y ≠ 0 → y ≠ 14 → y ≠ 15 → bc_upd (bc_upd (bc_upd mF 0 14 q) 0 15 p) 0 0 0 0 y = h 0 y := fun y y0 y1 y2 => by rw [bc_uj y0, bc_uj y2, bc_uj y1, m0]
    have gx : ∀ r, r ≠ 0 → bc_upd (bc_upd (bc_upd mF 0 14 q) 0 15 p) 0 0 0 r = mF r := fun r r0 => by rw [bc_urow r0, bc_urow r0, bc_urow r0]
    generalize bc_upd (bc_upd (bc_upd mF 0 14 q) 0 15 p) 0 0 0 = h1 at g14 g15 g00 g0y gx ⊢
    have gh : ∀ r, r ≠ 0 → r ≠ 6 → r ≠ 9 → r ≠ 10 → r ≠ 11 → ¬ (q ≤ r ∧ r < q + 6) → h1 r = h r := fun r r0 r6 r9 r10 r11 rs => by
      rw [gx r r0, rF r (by omega)]; exact fr r r6 r9 r10 r11 rs
    have gq : ∀ r, q < r → r < q + 6 → h1 r = m1 r := fun r r0 r1 => by rw [gx r (by omega), rF r (by omega)]
    have gq0 : h1 q 0 = 1 := by rw [gx q (by omega)]; exact rF0
    have gq2 : h1 q 2 = m1 q 2 := by rw [gx q (by omega)]; exact rFy 2 (by decide)
    have g6 : h1 6 = m1 6 := by rw [gx 6 (by omega), rF 6 (by omega)]
    clear gx rF rF0 rFy m0 wq
    refine hQ _ h1 (gh _ (by omega) (by omega) (by omega) (by omega) (by omega) (by omega)) (gh _ (by omega) (by omega) (by omega) (by omega) (by omega) (by omega)) ?_
    have e156 : h1 156 = h 156 := gh _ (by omega) (by omega) (by omega) (by omega) (by omega) (by omega)
    have e157 : h1 157 = h 157 := gh _ (by omega) (by omega) (by omega) (by omega) (by omega) (by omega)
    have e158 : h1 158 = h 158 := gh _ (by omega) (by omega) (by omega) (by omega) (by omega) (by omega)
    have e162 : h1 162 = h 162 := gh _ (by omega) (by omega) (by omega) (by omega) (by omega) (by omega)
    refine bc_m_daysS (c := c) (q := q) (w1 := h 157 1) (w2 := h 157 2) ⟨za.1, z300.1⟩ hb (by rw [e156, ← htp.1]; exact z300.2) (fun k k0 k1 => by have u := htp.2.2 k k0 (by omega); rw [e162, ← u.1]; exact bs_w8_i u.2) tt z ⟨by rw [e157]; exact hW, by rw [mc c (by omega) (by omega), mc (c + 17) (by omega) (by omega), mc (c + 18) (by omega) (by omega), mc (c + 19) (by omega) (by omega), e157, e158]; exact hN, by rw [e157], by rw [e157]⟩ (fun g dm => ce h1 g _ dm (fun g' dm' => bc_m_daysE (fun g1 a1 a2 a3 => rv_M_taken (d := d + 6) ⟨fun _ => ?_, fun u => ?_⟩)))
    · obtain ⟨s1, s2, ⟨s3, s4, s5⟩, s6, s7, ⟨b1, b2, b3⟩, s8, s9, s10⟩ := dm'
      have v : ∀ x, x ≠ 157 → g1 x = g' x := fun x hx => by rw [a1 x hx, bc_urow hx]
      have yy : g1 156 23 = m1 q 1 := by rw [v 156 (by decide)]; exact b3
      rw [yy]
      have G1 : ∀ r, r ≠ 156 → r ≠ 157 → r ≠ 163 → r ≠ 164 → bc_upd (bc_upd g1 156 16 (g1 156 18)) 156 2 0 r = h1 r := fun r x1 x2 x3 x4 => by rw [bc_urow x1, bc_urow x1, v r x2, s1 r x1 x2 x3 x4]
      have G2 : ∀ y, y ≠ 16 → y ≠ 2 → bc_upd (bc_upd g1 156 16 (g1 156 18)) 156 2 0 156 y = g' 156 y := fun y y1 y2 => by rw [bc_uj y2, bc_uj y1, v 156 (by decide)]
      have G3 : bc_upd (bc_upd g1 156 16 (g1 156 18)) 156 2 0 156 2 = 0 := bc_uu _ _ _ _
      have G4 : bc_upd (bc_upd g1 156 16 (g1 156 18)) 156 2 0 156 16 = 0 := by rw [bc_uj (by decide), bc_uu, v 156 (by decide)]; exact s5
      have G5 : bc_upd (bc_upd g1 156 16 (g1 156 18)) 156 2 0 157 = g1 157 := by rw [bc_urow (by decide), bc_urow (by decide)]
      generalize bc_upd (bc_upd g1 156 16 (g1 156 18)) 156 2 0 = gF at G1 G2 G3 G4 G5 ⊢
      have B1 : ∀ k, k < 160 → k ≠ 8 → gF 157 k = h 157 k := fun k k0 k8 => by rw [G5, a2 k (by omega), bc_uj k8, s7 k (by omega), e157]
      have B8 : gF 157 8 = m1 q 2 := by rw [G5, a2 8 (by omega), bc_uu, b1]
      have B2 : ∀ k, 160 ≤ k → k < 520 → gF 157 k = g' 157 (2112 + k) := fun k k0 k1 => by rw [G5, a3 k k0 k1, bc_uj (by omega)]
      have rc : ∀ r, c ≤ r → r < c + 20 → gF r = h r := fun r r0 r1 => by rw [G1 r (by omega) (by omega) (by omega) (by omega), gh r (by omega) (by omega) (by omega) (by omega) (by omega) (by omega)]
      have rq : ∀ r, q < r → r < q + 6 → gF r = m1 r := fun r r0 r1 => by rw [G1 r (by omega) (by omega) (by omega) (by omega), gq r r0 r1]
      have rq0 : gF q = h1 q := G1 q (by omega) (by omega) (by omega) (by omega)
      have r0 : gF 0 = h1 0 := G1 0 (by decide) (by decide) (by decide) (by decide)
      have r6 : gF 6 = m1 6 := by rw [G1 6 (by decide) (by decide) (by decide) (by decide), g6]
      have r158 : gF 158 = h 158 := by rw [G1 158 (by decide) (by decide) (by decide) (by decide), e158]
      refine hK _ q p gF (bs_R_N hR ⟨hcs, by omega⟩ (fun a b hab => ?_) ⟨by rw [r0, g0y 12 (by decide) (by decide) (by decide)]; exact e12, by rw [r0, g0y 13 (by decide) (by decide) (by decide)]; exact e13, by rw [r0]; exact g14, by rw [r0]; exact g15⟩ (by rw [G3, r0]; exact g00) ⟨by rw [r6]; exact z0, by rw [G2 10 (by decide) (by decide)]; exact s3⟩ ⟨by rw [G4, r6]; exact z1, by rw [G2 17 (by decide) (by decide), s4, r6]; exact z2⟩ ?_)
      · unfold bs_keepN at hab
        by_cases q0 : a = 156
        · subst q0; rw [G2 b (by omega) (by omega), s2 b (by omega), e156]
        · by_cases q1 : a = 157
          · subst q1; rw [G5, a2 b (by omega), bc_uj (by omega), s7 b (by omega), e157]
          · rw [G1 a q0 q1 (by omega) (by omega)]
            by_cases q3 : a = 0
            · subst q3; exact g0y b (by omega) (by omega) (by omega)
            · rw [gh a q3 (by omega) (by omega) (by omega) (by omega) (by omega)]
      · have cnt : 0 ≤ m1 q 2 ∧ m1 q 2 ≤ 60 := by omega
        rw [dz] at ns
        have nest := bs_nst_nest ns
        refine ⟨bs_C_A hW (fun k k0 k1 k8 => B1 k k1 k8) (bs_C_h (fun x y x0 x1 _ => by rw [rc x x0 (by omega)]) hC), bs_W_A hW (fun k k0 k1 k6 k8 => B1 k k1 k8), by rw [B1 6 (by decide) (by decide)]; exact hck, ?_, ⟨by rw [rq0, gq2]; exact cnt, Or.inr ⟨by rw [rq0]; exact gq0, by rw [rq0, gq2, B8], by rw [B8]; exact cnt, ?_, ?_⟩⟩⟩
        · rw [rc c (by omega) (by omega), rc (c + 17) (by omega) (by omega), rc (c + 18) (by omega) (by omega), rc (c + 19) (by omega) (by omega)]
          exact bs_Nm_A hW (B1 0 (by decide) (by decide)) (B1 1 (by decide) (by decide)) (B1 2 (by decide) (by decide)) (B1 3 (by decide) (by decide)) (fun k _ _ => by rw [r158]) hN
        · intro k kk0 kk1
          rw [B8] at kk1
          rw [rq (q + 1) (by omega) (by omega), rq (q + 2) (by omega) (by omega), rq (q + 3) (by omega) (by omega), rq (q + 4) (by omega) (by omega), rq (q + 5) (by omega) (by omega), B2 (160 + 6 * k) (by omega) (by omega), B2 (160 + 6 * k + 1) (by omega) (by omega), B2 (160 + 6 * k + 2) (by omega) (by omega), B2 (160 + 6 * k + 4) (by omega) (by omega), B2 (160 + 6 * k + 5) (by omega) (by omega), B1 1 (by decide) (by decide), B1 2 (by decide) (by decide)]
          have l := s9 k kk0 kk1
          unfold bs_DL at l
          rw [show 2112 + (160 + 6 * k) = 2272 + 6 * k by omega, show 2112 + (160 + 6 * k + 1) = 2272 + 6 * k + 1 by omega, show 2112 + (160 + 6 * k + 2) = 2272 + 6 * k + 2 by omega, show 2112 + (160 + 6 * k + 4) = 2272 + 6 * k + 4 by omega, show 2112 + (160 + 6 * k + 5) = 2272 + 6 * k + 5 by omega]
          refine bs_lnX_ln l (fun u => ?_)
          rcases u with u | u | u
          · have := nest.1 k kk0 kk1 (Or.inl u); omega
          · have := nest.1 k kk0 kk1 (Or.inr u); omega
          · have := nest.2.1 k kk0 kk1 u; omega
        · rw [rq (q + 1) (by omega) (by omega), rq (q + 5) (by omega) (by omega), B8]
          exact nest
    · have t := dm'.2.2.1.2.2
      rw [a1 156 (by decide), bc_urow (by decide)] at u
      omega
  · obtain ⟨⟨z0, z1⟩, fr⟩ := pf
    have gh : ∀ r, r ≠ 0 → r ≠ 6 → r ≠ 9 → r ≠ 10 → r ≠ 11 → ¬ (q ≤ r ∧ r < q + 6) → bc_upd m1 0 0 9 r = h r := fun r r0 r6 r9 r10 r11 rs => by rw [bc_urow r0]; exact fr r r6 r9 r10 r11 rs
    have g00 : bc_upd m1 0 0 9 0 0 = 9 := bc_uu _ _ _ _
    have g0y : ∀ y, y ≠ 0 → bc_upd m1 0 0 9 0 y = h 0 y := fun y y0 => by rw [bc_uj y0]; exact congrFun (fr 0 (by decide) (by decide) (by decide) (by decide) (by omega)) y
    have g6 : bc_upd m1 0 0 9 6 = m1 6 := bc_urow (by decide)
    generalize bc_upd m1 0 0 9 = h1 at gh g00 g0y g6 ⊢
    refine hQ _ h1 (gh _ (by omega) (by omega) (by omega) (by omega) (by omega) (by omega)) (gh _ (by omega) (by omega) (by omega) (by omega) (by omega) (by omega)) ?_
    have e156 : h1 156 = h 156 := gh _ (by omega) (by omega) (by omega) (by omega) (by omega) (by omega)
    have e157 : h1 157 = h 157 := gh _ (by omega) (by omega) (by omega) (by omega) (by omega) (by omega)
    have e158 : h1 158 = h 158 := gh _ (by omega) (by omega) (by omega) (by omega) (by omega) (by omega)
    have e162 : h1 162 = h 162 := gh _ (by omega) (by omega) (by omega) (by omega) (by omega) (by omega)
    refine bc_m_daysS (c := c) (q := q) (w1 := h 157 1) (w2 := h 157 2) ⟨za.1, z300.1⟩ hb (by rw [e156, ← htp.1]; exact z300.2) (fun k k0 k1 => by have u := htp.2.2 k k0 (by omega); rw [e162, ← u.1]; exact bs_w8_i u.2) tt z ⟨by rw [e157]; exact hW, by rw [mc c (by omega) (by omega), mc (c + 17) (by omega) (by omega), mc (c + 18) (by omega) (by omega), mc (c + 19) (by omega) (by omega), e157, e158]; exact hN, by rw [e157], by rw [e157]⟩ (fun g dm => ce h1 g _ dm (fun g' sq => ?_))
    obtain ⟨s1, s2, s3, ⟨s4, s5⟩, s7, s8⟩ := sq
    refine rv_M_taken (d := d + 6) ⟨fun q => by exfalso; omega, fun _ => ?_⟩
    have G1 : ∀ r, r ≠ 156 → bc_upd (bc_upd g' 156 16 (g' 156 18)) 156 2 9 r = g' r := fun r x1 => by rw [bc_urow x1, bc_urow x1]
    have G2 : ∀ y, y ≠ 16 → y ≠ 2 → bc_upd (bc_upd g' 156 16 (g' 156 18)) 156 2 9 156 y = g' 156 y := fun y y1 y2 => by rw [bc_uj y2, bc_uj y1]
    have G3 : bc_upd (bc_upd g' 156 16 (g' 156 18)) 156 2 9 156 2 = 9 := bc_uu _ _ _ _
    have G4 : bc_upd (bc_upd g' 156 16 (g' 156 18)) 156 2 9 156 16 = m1 6 1 := by rw [bc_uj (by decide), bc_uu]; exact s4
    generalize bc_upd (bc_upd g' 156 16 (g' 156 18)) 156 2 9 = gF at G1 G2 G3 G4 ⊢
    have H0 : gF 0 = h1 0 := by rw [G1 0 (by decide)]; exact s1 0 (by decide) (by decide) (by decide) (by decide) (by decide)
    have H6 : gF 6 = m1 6 := by rw [G1 6 (by decide), s1 6 (by decide) (by decide) (by decide) (by decide) (by decide), g6]
    refine hK _ p q gF (bs_R_N hR ⟨hcs, hpq⟩ (fun a b hab => ?_) ⟨by rw [H0, g0y 12 (by decide)]; exact e12, by rw [H0, g0y 13 (by decide)]; exact e13, by rw [H0, g0y 14 (by decide)]; exact e14, by rw [H0, g0y 15 (by decide)]; exact e15⟩ (by rw [G3, H0]; exact g00) ⟨by rw [H6]; exact z0, by rw [G2 10 (by decide) (by decide)]; exact s3⟩ ⟨by rw [G4, H6], by rw [G2 17 (by decide) (by decide), s5, H6]⟩ ?_)
    · unfold bs_keepN at hab
      by_cases q0 : a = 156
      · subst q0; rw [G2 b (by omega) (by omega), s2 b (by omega), e156]
      · rw [G1 a q0]
        by_cases q1 : a = 157
        · subst q1; rw [s7 b (by omega), e157]
        · by_cases q2 : a = 158
          · subst q2; rw [s8 b (by omega), e158]
          · rw [s1 a q0 q1 q2 (by omega) (by omega)]
            by_cases q3 : a = 0
            · subst q3; exact g0y b (by omega)
            · rw [gh a q3 (by omega) (by omega) (by omega) (by omega) (by omega)]
    · refine bs_Cave_h (fun a b hab => ?_) (fun k k0 k1 => by rw [G1 157 (by decide), s7 k (by omega), e157]) (fun k k0 k1 => by rw [G1 158 (by decide), s8 k (by omega), e158]) hR.2.2.2.2.2.2.2.2.2.2.2.2
      rw [G1 a (by omega), s1 a (by omega) (by omega) (by omega) (by omega) (by omega), gh a (by omega) (by omega) (by omega) (by omega) (by omega) (by omega)]
