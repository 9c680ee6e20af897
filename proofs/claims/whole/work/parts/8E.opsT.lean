/-! ===== live, mean ===== -/
theorem bs_R_Z {S : Int → Int} {L c s p q : Int} {h : bc_H} (hR : bs_R S L c s p q h) {h' : bc_H} (hF : ∀ a b, bs_keep s q a b → ¬ (c ≤ a ∧ a < c + 17 ∧ (a ≠ c ∨ b ≠ 11)) → ¬ (a = 157 ∧ 0 ≤ b ∧ b < 160 ∧ b ≠ 8) → (a ≠ 0 ∨ (b ≠ 1 ∧ b ≠ 2 ∧ b ≠ 3)) → (a ≠ 156 ∨ (b ≠ 3 ∧ b ≠ 4 ∧ b ≠ 48)) → a ≠ 1 → a ≠ 184 → a ≠ 13 → a ≠ 182 → h' a b = h a b) (hs : h' 0 0 = h' 156 2) (hfr : h' 0 1 = h' 156 3 ∧ h' 0 2 = h' 156 4) (hlv' : h' 0 3 = h' 156 48 ∧ (h' 0 3 = 0 ∨ h' 0 3 = 1) ∧ ∀ i, 0 ≤ i → i < 5 → h' 1 i = h' 184 i) (hlo' : bs_Rlo (h' 13) (h' 182)) (e0 : h' 157 0 = h 157 0) (e1 : h' 157 1 = h 157 1) (e2 : h' 157 2 = h 157 2) (e3 : h' 157 3 = h 157 3) (hC' : bs_C h' c (h' 157)) (hW' : bs_W (h' 157)) (hck' : 0 ≤ h' 157 6 ∧ h' 157 6 ≤ 9999) : bs_R S L c s p q h' := by
  obtain ⟨r1, r2, r3, r4, r5, r6, r7, r8, r9, r10, r11, ⟨m1, m2, m3, m4⟩, ⟨hC, hW, hck, hN, hP⟩⟩ := id hR
  have fc : ∀ a b, 24 ≤ a → a ≤ 155 → ¬ (s ≤ a ∧ a < s + 20) → ¬ (q ≤ a ∧ a < q + 6) → ¬ (c ≤ a ∧ a < c + 17 ∧ (a ≠ c ∨ b ≠ 11)) → h' a b = h a b := fun a b h1 h2 h3 h4 h5 => hF a b (bs_kc h1 h2 h3 h4) h5 (by omega) (by omega) (by omega) (by omega) (by omega) (by omega) (by omega)
  have row : ∀ a, (a = -2 ∨ a = 3 ∨ a = 4 ∨ a = 5 ∨ a = 7 ∨ a = 8 ∨ a = 159 ∨ a = 160 ∨ a = 161 ∨ a = 162 ∨ a = 76 ∨ a = 77) → h' a = h a := fun a ha => funext (fun b => hF a b (by unfold bs_keep; omega) (by omega) (by omega) (by omega) (by omega) (by omega) (by omega) (by omega) (by omega))
  have f0 : ∀ b, b ≠ 0 → b ≠ 1 → b ≠ 2 → b ≠ 3 → h' 0 b = h 0 b := fun b b0 b1 b2 b3 => hF 0 b (bs_k2 b0) (by omega) (by omega) (by omega) (by omega) (by omega) (by omega) (by omega) (by omega)
  have f6 : ∀ b, b ≤ 2 → h' 6 b = h 6 b := fun b hb => hF 6 b (bs_k6 hb) (by omega) (by omega) (by omega) (by omega) (by omega) (by omega) (by omega) (by omega)
  have fm : ∀ b, (b = 10 ∨ b = 16 ∨ b = 17 ∨ b = 49) → h' 156 b = h 156 b := fun b hb => hF 156 b (bs_k156 (by omega)) (by omega) (by omega) (by omega) (by omega) (by omega) (by omega) (by omega) (by omega)
  refine ⟨r1, ?_, ?_, hs, hfr, ?_, ?_, ?_, hlv', hlo', ?_, ⟨?_, ?_, ?_, ?_⟩, ⟨hC', hW', hck', ?_, ?_⟩⟩
  · rw [f0 12 (by omega) (by omega) (by omega) (by omega), f0 13 (by omega) (by omega) (by omega) (by omega), f0 14 (by omega) (by omega) (by omega) (by omega), f0 15 (by omega) (by omega) (by omega) (by omega)]; exact r2
  · rw [row (-2) (by omega), hF (-3) 0 (bs_k1 (by omega)) (by omega) (by omega) (by omega) (by omega) (by omega) (by omega) (by omega) (by omega)]; exact r3
  · rw [row 3 (by omega), row 4 (by omega), row 5 (by omega), row 159 (by omega), row 160 (by omega), row 161 (by omega)]; exact r6
  · rw [f6 0 (by omega), fm 10 (by omega), row 7 (by omega), row 162 (by omega)]; exact r7
  · rw [f6 1 (by omega), f6 2 (by omega), fm 16 (by omega), fm 17 (by omega)]; exact r8
  · rw [row 8 (by omega)]; exact r11
  · rw [f0 16 (by omega) (by omega) (by omega) (by omega), fm 49 (by omega)]; exact m1
  · rw [f0 16 (by omega) (by omega) (by omega) (by omega)]; exact m2
  · rw [row 76 (by omega), row 77 (by omega)]; exact m3
  · intro i i0 i1
    rw [f0 16 (by omega) (by omega) (by omega) (by omega)] at i1
    refine bs_Cave_h (fun a b hab => fc a b (by omega) (by omega) (by omega) (by omega) (by omega)) (fun k k0 k1 => hF 157 _ (bs_k157 (by omega)) (by omega) (by omega) (by omega) (by omega) (by omega) (by omega) (by omega) (by omega)) (fun k k0 k1 => hF 158 _ (bs_k158 (by omega)) (by omega) (by omega) (by omega) (by omega) (by omega) (by omega) (by omega) (by omega)) (m4 i i0 i1)
  · rw [fc c 11 (by omega) (by omega) (by omega) (by omega) (by omega), show h' (c + 17) = h (c + 17) from funext (fun b => fc _ b (by omega) (by omega) (by omega) (by omega) (by omega)), show h' (c + 18) = h (c + 18) from funext (fun b => fc _ b (by omega) (by omega) (by omega) (by omega) (by omega)), show h' (c + 19) = h (c + 19) from funext (fun b => fc _ b (by omega) (by omega) (by omega) (by omega) (by omega))]
    exact bs_Nm_A hW e0 e1 e2 e3 (fun k k0 k1 => hF 158 k (bs_k158 (by omega)) (by omega) (by omega) (by omega) (by omega) (by omega) (by omega) (by omega) (by omega)) hN
  · exact bs_Pl_A (fun a b a0 a1 => fc a b (by omega) (by omega) (by omega) (by omega) (by omega)) (by omega) (by omega) (fun k hk => hF 157 k (bs_k157 (by omega)) (by omega) (by omega) (by omega) (by omega) (by omega) (by omega) (by omega) (by omega)) hP
theorem bs_Rlo_hR {r R : Int → Int} (h : bs_Rlo r R) : bs_hR R := fun k k0 k1 => (h k k0 k1).1
theorem bs_o_live {d : Nat} {n : Int} {S : Int → Int} {L c s p q : Int} {h : bc_H} (hR : bs_R S L c s p q h) {P : Int → Int → bc_H → Prop} {Q1 : Int → bc_H → Prop} (hQ : ∀ y h1, h1 (-2) = h (-2) → h1 (-3) = h (-3) → bf_M_live (d + 12) n h1 (bc_I fun y2 h2 => P y y2 h2) → Q1 y h1) (hK : ∀ y h2, bs_R S L c s p q h2 → P y y h2) : bf_X_live (d + 12) n h (bc_I Q1) := by
  obtain ⟨⟨hcs, hpq⟩, ⟨e12, e13, e14, e15⟩, hS, est, efr, htr, htp, hfa, hlv, hlo, hrs, hmk, ⟨hC, hW, hck, hN, hP⟩⟩ := id hR
  obtain ⟨⟨n4, n5, n6, n2, n0, n1, n3⟩, hw, hd, hg, hf, hm⟩ := id hC
  obtain ⟨⟨w0, w1, w2, w3, w4, w5, w7⟩, hww, hwy, hwv, hwf, hwg⟩ := id hW
  have hq : ∀ y v, P y y (bc_upd (bc_upd h 0 0 v) 156 2 v) := fun y v => hK _ _ (bs_R_st hR v)
  have e157 : ∀ v, bc_upd h 0 0 v 157 = h 157 := fun v => bc_urow (by decide)
  refine rv_X_live (d := d + 11) ⟨fun zn => ?_, fun zn => ?_⟩
  · rw [e14, e12]
    refine ⟨by omega, fun z => ⟨by omega, by omega, ?_⟩, fun z => ?_⟩
    · have hP' : h p 2 = h 157 8 ∧ (0 ≤ h 157 8 ∧ h 157 8 ≤ 60) ∧ bs_Pr h p (h 157) := by
        rcases hP.2 with q | q
        · exact absurd q.1 z
        · exact q.2
      obtain ⟨p2, p8, pl, pn⟩ := hP'
      have hA0 : bs_lA (h 157) (h 157) := ⟨hW, hck, fun _ _ => rfl, rfl, rfl, rfl, rfl⟩
      refine bc_c_run (d := d + 6) (B := h 157) (A := h 157) (R := h 182) (by omega) (hpq.imp And.left And.left) p8.1 p8.2 p2 pl pn hC hA0 hlo (by omega) (by omega) (fun m hr hA => ?_)
      intro h5 e5
      obtain ⟨l1, l2, l3, l4, l5, l6⟩ := hr
      have s5 : ∀ a, a ≠ 0 → a ≠ 1 → h5 a = m a := fun a a0 a1 => by rw [e5, bc_urow a1, bc_urow a1, bc_urow a1, bc_urow a1, bc_urow a1, bc_urow a0]
      have sm : ∀ a, a ≠ 0 → a ≠ 1 → a ≠ 12 → a ≠ 13 → a ≠ c → a ≠ c + 13 → a ≠ c + 14 → a ≠ c + 15 → a ≠ c + 16 → bc_upd h5 0 0 0 a = h a := fun a a0 a1 a2 a3 a4 a5 a6 a7 a8 => by rw [bc_urow a0, s5 a a0 a1]; exact l1 a a2 a3 a4 a5 a6 a7 a8
      have y0 : h5 12 0 = (bs_lf (h 157) 301 (h 157) (h 182) (bs_g0 n) 0).2.2 0 := by rw [s5 12 (by decide) (by decide)]; exact l6.1
      refine hQ _ _ (sm _ (by decide) (by decide) (by decide) (by decide) (by omega) (by omega) (by omega) (by omega) (by omega)) (sm _ (by decide) (by decide) (by decide) (by decide) (by omega) (by omega) (by omega) (by omega) (by omega)) ?_
      have s157 := sm 157 (by decide) (by decide) (by decide) (by decide) (by omega) (by omega) (by omega) (by omega) (by omega)
      have s182 := sm 182 (by decide) (by decide) (by decide) (by decide) (by omega) (by omega) (by omega) (by omega) (by omega)
      have s156 := sm 156 (by decide) (by decide) (by decide) (by decide) (by omega) (by omega) (by omega) (by omega) (by omega)
      refine rv_M_live (d := d + 11) ?_
      rw [s157]
      refine ⟨fun _ => ⟨fun _ => ?_, fun q => absurd q (by omega)⟩, fun q => absurd zn q⟩
      refine bc_m_lives (d := d) p8.1 p8.2 pl pn s157 s182 hA0 (bs_Rlo_hR hlo) (by omega) (by omega) (fun m2 hr2 hR2 hA2 => ?_)
      obtain ⟨t1, t2, t3, t4, t5, t6⟩ := hr2
      refine bc_lup (P := fun i => ∀ g : bc_H, (∀ a, a ≠ 184 → g a = m2 a) → (∀ k, 0 ≤ k → k < i → g 184 k = m2 183 k) → bl_M_live_25 (d + 12) i g (bc_I fun y2 h2 => P (h5 12 0) y2 h2)) (n := 5) (fun g g1 g2 => ?_) (fun i i0 i1 ih g g1 g2 => ?_) (Int.le_refl 0) (by omega) m2 (fun _ _ => rfl) (fun k k0 k1 => absurd k1 (by omega))
      · refine rv_M_live_25 (d := d + 11) ⟨fun _ => ?_, fun q => absurd q (by decide)⟩
        have ey : g 156 44 = h5 12 0 := by rw [g1 156 (by decide), y0]; exact t6.2
        rw [ey]
        have gf : ∀ a, a ≠ 156 → bc_upd (bc_upd g 156 48 1) 156 2 0 a = g a := fun a ha => by rw [bc_urow ha, bc_urow ha]
        have big : ∀ a, a ≠ 0 → a ≠ 1 → a ≠ 12 → a ≠ 13 → a ≠ c → a ≠ c + 13 → a ≠ c + 14 → a ≠ c + 15 → a ≠ c + 16 → a ≠ 156 → a ≠ 157 → a ≠ 182 → a ≠ 183 → a ≠ 184 → bc_upd (bc_upd g 156 48 1) 156 2 0 a = h a := fun a a0 a1 a2 a3 a4 a5 a6 a7 a8 b1 b2 b3 b4 b5 => by rw [gf a b1, g1 a b5, t1 a b1 b2 b3 b4]; exact sm a a0 a1 a2 a3 a4 a5 a6 a7 a8
        have f157 : bc_upd (bc_upd g 156 48 1) 156 2 0 157 = (bs_lf (h 157) 301 (h 157) (h 182) (bs_g0 n) 0).1 := by rw [gf 157 (by decide), g1 157 (by decide)]; exact t3
        have m0 : ∀ b, m 0 b = h 0 b := fun b => by rw [l1 0 (by decide) (by decide) (by omega) (by omega) (by omega) (by omega) (by omega)]
        have z0 : ∀ b, b ≠ 0 → b ≠ 3 → bc_upd (bc_upd g 156 48 1) 156 2 0 0 b = h 0 b := fun b b0 b3 => by
          rw [gf 0 (by decide), g1 0 (by decide), t1 0 (by decide) (by decide) (by decide) (by decide), bc_uj b0, e5, bc_ur (by decide), bc_ur (by decide), bc_ur (by decide), bc_ur (by decide), bc_ur (by decide), bc_uj b3]
          exact m0 b
        have z56 : ∀ b, b ≠ 2 → b ≠ 43 → b ≠ 44 → b ≠ 48 → bc_upd (bc_upd g 156 48 1) 156 2 0 156 b = h 156 b := fun b b0 b1 b2 b3 => by
          rw [bc_uj b0, bc_uj b3, g1 156 (by decide), t2 b b1 b2, s156]
        have z1 : ∀ i, 0 ≤ i → i < 5 → bc_upd (bc_upd g 156 48 1) 156 2 0 1 i = bc_upd (bc_upd g 156 48 1) 156 2 0 184 i := fun i i0 i1 => by
          rw [gf 1 (by decide), gf 184 (by decide), g2 i i0 i1, g1 1 (by decide), t1 1 (by decide) (by decide) (by decide) (by decide), bc_urow (by decide), e5]
          have ci : i = 0 ∨ i = 1 ∨ i = 2 ∨ i = 3 ∨ i = 4 := by omega
          rcases ci with e | e | e | e | e
          · subst e; simp (disch := decide) only [bc_uj, bc_uu]; rw [t5.1]; exact l6.2.1
          · subst e; simp (disch := decide) only [bc_uj, bc_uu]; rw [t5.2.1]; exact l6.2.2.1
          · subst e; simp (disch := decide) only [bc_uj, bc_uu]; rw [t5.2.2.1]; exact l6.2.2.2.1
          · subst e; simp (disch := decide) only [bc_uj, bc_uu]; rw [t5.2.2.2.1]; exact l6.2.2.2.2.1
          · subst e; simp (disch := decide) only [bc_uj, bc_uu]; rw [t5.2.2.2.2]; exact l6.2.2.2.2.2.1
        have z00 : bc_upd (bc_upd g 156 48 1) 156 2 0 0 0 = 0 := by rw [gf 0 (by decide), g1 0 (by decide), t1 0 (by decide) (by decide) (by decide) (by decide), bc_uu]
        have z03 : bc_upd (bc_upd g 156 48 1) 156 2 0 0 3 = 1 := by rw [gf 0 (by decide), g1 0 (by decide), t1 0 (by decide) (by decide) (by decide) (by decide), bc_uj (by decide), e5, bc_ur (by decide), bc_ur (by decide), bc_ur (by decide), bc_ur (by decide), bc_ur (by decide), bc_uu]
        refine hK _ _ (bs_R_Z hR (fun a b k k1 k2 k3 k4 k5 k6 k7 k8 => ?_) ?_ ?_ ⟨?_, Or.inr z03, z1⟩ ?_ ?_ ?_ ?_ ?_ ?_ ?_ ?_)
        · have kf := bs_kf k
          by_cases e0 : a = 0
          · subst e0; exact z0 b (kf.1.resolve_left (fun w => w rfl)) (k3.resolve_left (fun w => w rfl)).2.2
          · by_cases e6 : a = 156
            · subst e6
              have kk : ∀ x, (x = 43 ∨ x = 44) → b ≠ x := fun x hx e => by
                subst e; clear k1 k2 k3 k4 kf; unfold bs_keep at k; omega
              exact z56 b (kf.2.resolve_left (fun w => w rfl)) (kk 43 (Or.inl rfl)) (kk 44 (Or.inr rfl)) (k4.resolve_left (fun w => w rfl)).2.2
            · by_cases e7 : a = 157
              · subst e7
                rw [f157]
                refine hA2.2.2.1 b ?_
                refine Classical.byContradiction (fun w => k2 ⟨rfl, ?_, ?_, ?_⟩)
                · clear k1 k2 k3 k4; omega
                · clear k1 k2 k3 k4; omega
                · clear k1 k2 k3 k4; omega
              · have n12 : a ≠ 12 := fun e => by subst e; exact bs_nk (by omega) k
                have n183 : a ≠ 183 := fun e => by subst e; exact bs_nk (by omega) k
                by_cases ec : a = c
                · have eb : b = 11 := Classical.byContradiction (fun w => k1 ⟨by rw [ec]; exact Int.le_refl c, by rw [ec]; omega, Or.inr w⟩)
                  subst ec; subst eb
                  rw [gf a e6, g1 a k6, t1 a e6 e7 k8 n183, bc_urow e0, s5 a e0 k5]
                  exact l2
                · have nc : ¬ (c ≤ a ∧ a < c + 17) := fun w => k1 ⟨w.1, w.2, Or.inl ec⟩
                  rw [big a e0 k5 n12 k7 ec (fun e => nc (by rw [e]; exact ⟨by omega, by omega⟩)) (fun e => nc (by rw [e]; exact ⟨by omega, by omega⟩)) (fun e => nc (by rw [e]; exact ⟨by omega, by omega⟩)) (fun e => nc (by rw [e]; exact ⟨by omega, by omega⟩)) e6 e7 k8 n183 k6]
        · rw [z00, bc_uu]
        · rw [z0 1 (by decide) (by decide), z0 2 (by decide) (by decide), z56 3 (by decide) (by decide) (by decide) (by decide), z56 4 (by decide) (by decide) (by decide) (by decide)]; exact efr
        · rw [z03, bc_uj (by decide), bc_uu]
        · rw [gf 13 (by decide), gf 182 (by decide), g1 13 (by decide), g1 182 (by decide), t1 13 (by decide) (by decide) (by decide) (by decide), t4, bc_urow (by decide), s5 13 (by decide) (by decide)]; exact l5
        · rw [f157]; exact hA2.2.2.2.1
        · rw [f157]; exact hA2.2.2.2.2.1
        · rw [f157]; exact hA2.2.2.2.2.2.1
        · rw [f157]; exact hA2.2.2.2.2.2.2
        · rw [f157]
          refine bs_C_h (fun a b a0 a1 _ => ?_) l3
          rw [gf a (by omega), g1 a (by omega), t1 a (by omega) (by omega) (by omega) (by omega), bc_urow (by omega), s5 a (by omega) (by omega)]
        · rw [f157]; exact hA2.1
        · rw [f157]; exact hA2.2.1
      · refine rv_M_live_25 (d := d + 11) ⟨fun q => absurd q (by omega), fun _ => ⟨by omega, by omega, ?_⟩⟩
        rw [bc_wi (x := i + 1) (by omega) (by omega)]
        refine ih _ (fun a ha => by rw [bc_urow ha]; exact g1 a ha) (fun k k0 k1 => ?_)
        by_cases e : k = i
        · subst e; rw [bc_uu, g1 183 (by decide)]
        · rw [bc_uj e]; exact g2 k k0 (by omega)
    · have hP' : h 157 8 = -1 := by
        rcases hP.2 with q | q
        · exact q.2
        · omega
      refine hQ _ _ (by first | rfl | exact bc_urow (by decide)) (by first | rfl | exact bc_urow (by decide)) ?_
      refine rv_M_live (d := d + 11) ?_
      rw [e157]
      exact ⟨fun _ => ⟨fun q => absurd hP' q, fun _ => hq _ _⟩, fun q => absurd zn q⟩
  · refine hQ _ _ (by first | rfl | exact bc_urow (by decide)) (by first | rfl | exact bc_urow (by decide)) ?_
    exact rv_M_live (d := d + 11) ⟨fun q => absurd q zn, fun _ => hq _ _⟩
