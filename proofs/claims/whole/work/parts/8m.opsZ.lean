/-! ===== cave ===== -/
def bs_keepN (a b : Int) : Prop := a < 0 ∨ (a = 0 ∧ ((1 ≤ b ∧ b ≤ 3) ∨ b = 16)) ∨ (1 ≤ a ∧ a ≤ 5) ∨ a = 8 ∨ a = 13 ∨ (76 ≤ a ∧ a ≤ 155) ∨ (a = 156 ∧ (b = 3 ∨ b = 4 ∨ b = 48 ∨ b = 49)) ∨ (a = 157 ∧ 528 ≤ b ∧ b < 2112) ∨ (a = 158 ∧ 26 ≤ b ∧ b < 104) ∨ (159 ≤ a ∧ a ≤ 161) ∨ a = 182 ∨ a = 184
theorem bs_R_N {S : Int → Int} {L c s p q c' s' p' q' : Int} {h h' : bc_H} (hR : bs_R S L c s p q h) (r1 : ((c' = 24 ∧ s' = 44) ∨ (c' = 44 ∧ s' = 24)) ∧ ((p' = 64 ∧ q' = 70) ∨ (p' = 70 ∧ q' = 64))) (hF : ∀ a b, bs_keepN a b → h' a b = h a b) (r2 : h' 0 12 = c' ∧ h' 0 13 = s' ∧ h' 0 14 = p' ∧ h' 0 15 = q') (hs : h' 0 0 = h' 156 2) (t0 : h' 6 0 = 0 ∧ h' 156 10 = 0) (ft : h' 6 1 = h' 156 16 ∧ h' 6 2 = h' 156 17) (hC : bs_Cave h' c' p' (h' 157) (h' 158)) : bs_R S L c' s' p' q' h' := by
  obtain ⟨_, _, r3, r4, r5, r6, r7, r8, r9, r10, r11, ⟨m1, m2, m3, m4⟩, r13⟩ := hR
  have row : ∀ a, (a = -2 ∨ a = 1 ∨ a = 3 ∨ a = 4 ∨ a = 5 ∨ a = 8 ∨ a = 13 ∨ a = 159 ∨ a = 160 ∨ a = 161 ∨ a = 182 ∨ a = 184 ∨ a = 76 ∨ a = 77) → h' a = h a := fun a ha => funext (fun b => hF a b (by unfold bs_keepN; omega))
  have f0 : ∀ b, (b = 1 ∨ b = 2 ∨ b = 3 ∨ b = 16) → h' 0 b = h 0 b := fun b hb => hF 0 b (by unfold bs_keepN; omega)
  have fm : ∀ b, (b = 3 ∨ b = 4 ∨ b = 48 ∨ b = 49) → h' 156 b = h 156 b := fun b hb => hF 156 b (by unfold bs_keepN; omega)
  refine ⟨r1, r2, ?_, hs, ?_, ?_, ?_, ft, ?_, ?_, ?_, ⟨?_, ?_, ?_, ?_⟩, hC⟩
  · rw [row (-2) (by omega), hF (-3) 0 (by unfold bs_keepN; omega)]; exact r3
  · rw [f0 1 (by omega), f0 2 (by omega), fm 3 (by omega), fm 4 (by omega)]; exact r5
  · rw [row 3 (by omega), row 4 (by omega), row 5 (by omega), row 159 (by omega), row 160 (by omega), row 161 (by omega)]; exact r6
  · exact ⟨by rw [t0.1, t0.2], by omega, fun k k0 k1 => absurd k1 (by omega)⟩
  · rw [f0 3 (by omega), fm 48 (by omega), row 1 (by omega), row 184 (by omega)]; exact r9
  · rw [row 13 (by omega), row 182 (by omega)]; exact r10
  · rw [row 8 (by omega)]; exact r11
  · rw [f0 16 (by omega), fm 49 (by omega)]; exact m1
  · rw [f0 16 (by omega)]; exact m2
  · rw [row 76 (by omega), row 77 (by omega)]; exact m3
  · intro i i0 i1
    rw [f0 16 (by omega)] at i1
    refine bs_Cave_h (fun a b hab => hF a b (by unfold bs_keepN; omega)) (fun k k0 k1 => hF 157 _ (by unfold bs_keepN; omega)) (fun k k0 k1 => hF 158 _ (by unfold bs_keepN; omega)) (m4 i i0 i1)
theorem bs_Nw_h' {m m' : bc_H} {c : Int} {B NM : Int → Int} (e : ∀ x, c ≤ x → x < c + 20 → x ≠ c + 3 + 4 → m' x = m x) (h : bs_Nw m c B NM) : bs_Nw m' c B NM := by
  unfold bs_Nw bs_NwC bs_NwG bs_NwD bs_Cw bs_Cf bs_Cm at *
  rw [e c (by omega) (by omega) (by omega), e (c + 1) (by omega) (by omega) (by omega), e (c + 3) (by omega) (by omega) (by omega), e (c + 8) (by omega) (by omega) (by omega), e (c + 3 + 1) (by omega) (by omega) (by omega), e (c + 3 + 2) (by omega) (by omega) (by omega), e (c + 8 + 1) (by omega) (by omega) (by omega), e (c + 8 + 2) (by omega) (by omega) (by omega), e (c + 8 + 3) (by omega) (by omega) (by omega), e (c + 8 + 4) (by omega) (by omega) (by omega), e (c + 13) (by omega) (by omega) (by omega), e (c + 14) (by omega) (by omega) (by omega), e (c + 15) (by omega) (by omega) (by omega), e (c + 16) (by omega) (by omega) (by omega), e (c + 1 + 1) (by omega) (by omega) (by omega), e (c + 3 + 3) (by omega) (by omega) (by omega), e (c + 17) (by omega) (by omega) (by omega), e (c + 18) (by omega) (by omega) (by omega), e (c + 19) (by omega) (by omega) (by omega)]
  exact h
/-- a cave that was told, with its distances -/
theorem bs_Nw_C {m : bc_H} {c p : Int} {B NM : Int → Int} (nw : bs_Nw m c B NM) (hd : bs_cg (B 1) (m (c + 3 + 4)) (bs_farR B)) (hp : m p 0 = 0 ∧ m p 2 = 0) : bs_Cave m c p B NM := by
  obtain ⟨⟨k0, k1, k2, k3, k4, k5, k6, k7⟩, ⟨z6, z8⟩, hw, hf, hm, hg, hdd, hz, hW, hN⟩ := nw
  have b0 := hW.1.1
  have b1 := hW.1.2.1
  exact ⟨⟨⟨k0, k1, k2, k3, k4, k5, k7⟩, hw, fun a b a0 a1 b0 b1 => ⟨hdd a b a0 (by omega) b0 (by omega), hd a b a0 a1 b0 b1⟩, fun a b a0 a1 b0 b1 => (hg a b a0 (by omega) b0 (by omega)).1, hf, hm⟩, hW, by omega, hN, ⟨by omega, Or.inl ⟨hp.1, z8⟩⟩⟩
theorem bc_m_caveS {D : Nat} {T : Int → Int} {n c : Int} {g0 m : bc_H} {K : Int → bc_H → Prop} (n0 : 0 ≤ n ∧ n ≤ 900) (hb : bs_tb8 T n) (g10 : n ≤ g0 156 10) (hT : ∀ k, 0 ≤ k → k < n → bc_w8 (g0 162 k) = T k) (t : bs_To T n 0 m) (cl : bs_clr m c) (f3 : m 9 3 = 0) (f4 : m 9 4 = 0) (hK : ∀ g, bs_SM T n c g0 m g → bl_M_cave_17 (D + 7) 1 g (bc_I K)) : bf_M_cave (D + 7) n g0 (bc_I K) := by
  refine rv_M_cave (d := D + 6) (bc_m_begins (D := D + 4) n0 n0.2 hb g10 hT t (fun g1 a1 b1 z1 tk => bc_m_plain (fun g2 a2 b2 c2 => hK _ ?_)))
  have u : ∀ x, x ≠ 156 → bc_upd g2 156 20 0 x = g2 x := fun x hx => bc_urow hx
  have v : ∀ y, y ≠ 20 → bc_upd g2 156 20 0 156 y = g1 156 y := fun y hy => by rw [bc_uj hy, a2 156 (by decide)]
  have w : bc_upd g2 156 20 0 156 20 = 0 := bc_uu _ _ _ _
  refine ⟨fun x x1 x2 x3 x4 => by rw [u x x1, a2 x x2]; exact a1 x x1 x4, fun y hy => by rw [v y (by omega)]; exact b1 y (by omega), ⟨by rw [v 10 (by decide)]; exact z1.1, by rw [v 17 (by decide)]; exact z1.2.1, by rw [v 18 (by decide)]; exact z1.2.2⟩, bs_Tk_h tk (fun _ _ => rfl) (fun y hy => v y (by omega)) (by rw [u 163 (by decide), a2 163 (by decide)]), fun k hk => by rw [u 157 (by decide), b2 k hk, a1 157 (by decide) (by decide)], fun k hk => by rw [u 158 (by decide), a2 158 (by decide), a1 158 (by decide) (by decide)], bs_Nw_0 cl (fun k k0 k1 => by rw [u 157 (by decide)]; exact c2 k k0 (by omega)), ?_⟩
  rw [w, f3, f4]
  decide
theorem bc_m_caveE {D : Nat} {g : bc_H} {K : Int → bc_H → Prop} (hK : ∀ g1, (∀ x, x ≠ 157 → x ≠ 158 → g1 x = g x) → (∀ k, (k < 0 ∨ 528 ≤ k) → g1 157 k = g 157 k) → (∀ k, 0 ≤ k → k < 528 → g1 157 k = g 157 (2112 + k)) → (∀ k, (k < 0 ∨ 26 ≤ k) → g1 158 k = g 158 k) → (∀ k, 0 ≤ k → k < 26 → g1 158 k = g 158 (104 + k)) → bf_M_taken (D + 6) (g1 157 2) g1 (bc_I K)) : bl_M_cave_31 (D + 7) 0 g (bc_I K) := by
  have k2 : ∀ g1 : bc_H, (∀ x, x ≠ 157 → x ≠ 158 → g1 x = g x) → (∀ k, (k < 0 ∨ 528 ≤ k) → g1 157 k = g 157 k) → (∀ k, 0 ≤ k → k < 528 → g1 157 k = g 157 (2112 + k)) → (∀ k, (k < 0 ∨ (0 : Int) ≤ k) → g1 158 k = g 158 k) → (∀ k, 0 ≤ k → k < (0 : Int) → g1 158 k = g 158 (104 + k)) → bl_M_cave_48 (D + 7) 0 g1 (bc_I K) := by
    refine bc_lup (P := fun i => ∀ g1 : bc_H, (∀ x, x ≠ 157 → x ≠ 158 → g1 x = g x) → (∀ k, (k < 0 ∨ 528 ≤ k) → g1 157 k = g 157 k) → (∀ k, 0 ≤ k → k < 528 → g1 157 k = g 157 (2112 + k)) → (∀ k, (k < 0 ∨ i ≤ k) → g1 158 k = g 158 k) → (∀ k, 0 ≤ k → k < i → g1 158 k = g 158 (104 + k)) → bl_M_cave_48 (D + 7) i g1 (bc_I K)) (n := 26) ?_ (fun i i0 i1 ih => ?_) (Int.le_refl 0) (by decide)
    · intro g1 e1 e2 e3 e4 e5
      exact rv_M_cave_48 (d := D + 6) ⟨fun _ => hK g1 e1 e2 e3 e4 e5, fun q => absurd q (by omega)⟩
    · intro g1 e1 e2 e3 e4 e5
      refine rv_M_cave_48 (d := D + 6) ⟨fun q => absurd q (by omega), fun _ => ?_⟩
      rw [bc_wi (x := 104 + i) (by omega) (by omega), bc_wi (x := i + 1) (by omega) (by omega)]
      refine ⟨by omega, by omega, ih _ (fun x x1 x2 => by rw [bc_urow x2]; exact e1 x x1 x2) (fun k hk => by rw [bc_urow (by decide)]; exact e2 k hk) (fun k k0 k1 => by rw [bc_urow (by decide)]; exact e3 k k0 k1) (fun k hk => by rw [bc_uj (by omega)]; exact e4 k (by omega)) (fun k k0 k1 => ?_)⟩
      by_cases e : k = i
      · subst e; rw [bc_uu]; exact e4 _ (by omega)
      · rw [bc_uj e]; exact e5 k k0 (by omega)
  have k1 : ∀ g1 : bc_H, (∀ x, x ≠ 157 → g1 x = g x) → (∀ k, (k < 0 ∨ (0 : Int) ≤ k) → g1 157 k = g 157 k) → (∀ k, 0 ≤ k → k < (0 : Int) → g1 157 k = g 157 (2112 + k)) → bl_M_cave_31 (D + 7) 0 g1 (bc_I K) := by
    refine bc_lup (P := fun i => ∀ g1 : bc_H, (∀ x, x ≠ 157 → g1 x = g x) → (∀ k, (k < 0 ∨ i ≤ k) → g1 157 k = g 157 k) → (∀ k, 0 ≤ k → k < i → g1 157 k = g 157 (2112 + k)) → bl_M_cave_31 (D + 7) i g1 (bc_I K)) (n := 528) ?_ (fun i i0 i1 ih => ?_) (Int.le_refl 0) (by decide)
    · intro g1 e1 e2 e3
      exact rv_M_cave_31 (d := D + 6) ⟨fun _ => k2 g1 (fun x x1 _ => e1 x x1) e2 e3 (fun k _ => by rw [e1 158 (by decide)]) (fun k k0 k1 => absurd k1 (by omega)), fun q => absurd q (by omega)⟩
    · intro g1 e1 e2 e3
      refine rv_M_cave_31 (d := D + 6) ⟨fun q => absurd q (by omega), fun _ => ?_⟩
      rw [bc_wi (x := 2112 + i) (by omega) (by omega), bc_wi (x := i + 1) (by omega) (by omega)]
      refine ⟨by omega, by omega, ih _ (fun x x1 => by rw [bc_urow x1]; exact e1 x x1) (fun k hk => by rw [bc_uj (by omega)]; exact e2 k (by omega)) (fun k k0 k1 => ?_)⟩
      by_cases e : k = i
      · subst e; rw [bc_uu]; exact e2 _ (by omega)
      · rw [bc_uj e]; exact e3 k k0 (by omega)
  exact k1 g (fun _ _ => rfl) (fun _ _ => rfl) (fun k k0 k1 => absurd k1 (by omega))
theorem bs_farS_ag {n c a b : Int} {T T' : Int → Int} (hc : 0 ≤ c ∧ c < n) (ha : 0 ≤ a ∧ a < n) (hb : 0 ≤ b ∧ b < n) (h : bs_ag n T T') : bs_ag n (bs_farS c a b T) (bs_farS c a b T') := fun u v u0 u1 v0 v1 => by
  unfold bs_farS
  rw [h a c ha.1 ha.2 hc.1 hc.2, h c b hc.1 hc.2 hb.1 hb.2, h a b ha.1 ha.2 hb.1 hb.2]
  by_cases e : 7 * u + v = 7 * a + b
  · rw [e, bc_setj, bc_setj]
  · rw [bc_setn e, bc_setn e]; exact h u v u0 u1 v0 v1
theorem bs_fb_ag {n c a m : Int} {T T' : Int → Int} (hc : 0 ≤ c ∧ c < n) (ha : 0 ≤ a ∧ a < n) (h : bs_ag n T T') (m0 : 0 ≤ m) (m1 : m ≤ n) : bs_ag n (bs_fb n c a T m) (bs_fb n c a T' m) :=
  bc_it_indB (fun m X => bs_ag n X (bs_fb n c a T' m)) h (fun i X i0 i1 ih => by
    rw [show bs_fb n c a T' (i + 1) = bs_farS c a i (bs_fb n c a T' i) from bc_its _ _ i0]
    exact bs_farS_ag hc ha ⟨i0, by omega⟩ ih) m0
theorem bs_fa_ag {n c m : Int} {T T' : Int → Int} (hc : 0 ≤ c ∧ c < n) (h : bs_ag n T T') (m0 : 0 ≤ m) (m1 : m ≤ n) : bs_ag n (bs_fa n c T m) (bs_fa n c T' m) :=
  bc_it_indB (fun m X => bs_ag n X (bs_fa n c T' m)) h (fun i X i0 i1 ih => by
    rw [show bs_fa n c T' (i + 1) = bs_fb n c i (bs_fa n c T' i) n from bc_its _ _ i0]
    exact bs_fb_ag hc ⟨i0, by omega⟩ ih (by omega) (Int.le_refl n)) m0
theorem bs_fc_ag {n m : Int} {T T' : Int → Int} (h : bs_ag n T T') (m0 : 0 ≤ m) (m1 : m ≤ n) : bs_ag n (bs_fc n T m) (bs_fc n T' m) :=
  bc_it_indB (fun m X => bs_ag n X (bs_fc n T' m)) h (fun i X i0 i1 ih => by
    rw [show bs_fc n T' (i + 1) = bs_fa n i (bs_fc n T' i) n from bc_its _ _ i0]
    exact bs_fa_ag ⟨i0, by omega⟩ ih (by omega) (Int.le_refl n)) m0
theorem bs_cg_B {m : bc_H} {c : Int} {B NM B' NM' x : Int → Int} (nw : bs_Nw m c B NM) (nw' : bs_Nw m c B' NM') (h : bs_cg (B 1) x (bs_farR B)) : bs_cg (B' 1) x (bs_farR B') := by
  have n1 := (bs_Nw_n nw).1.2.1
  have n1' := (bs_Nw_n nw').1.2.1
  have q := (bs_Nw_n nw).2.2.1
  have e1 : B' 1 = B 1 := by omega
  have d1 := nw.2.2.2.2.2.2.1
  have d2 := nw'.2.2.2.2.2.2.1
  have W1 := nw.2.2.2.2.2.2.2.2.1
  have W2 := nw'.2.2.2.2.2.2.2.2.1
  have ag : bs_ag (B 1) (bs_farR B) (bs_farR B') := by
    rw [bs_farR_fc, bs_farR_fc, e1]
    refine bs_fc_ag (fun a b a0 a1 b0 b1 => ?_) q.1 (Int.le_refl _)
    rw [bs_far0_v b0 (by omega), bs_far0_v b0 (by omega)]
    have u := d1 a b a0 (by omega) b0 (by omega)
    have v := d2 a b a0 (by omega) b0 (by omega)
    rw [u] at v
    have r1 := bs_way_9 W1.2.2.1 (W1.1.2.2.2.2.2.2).1 a b
    have r2 := bs_way_9 W2.2.2.1 (W2.1.2.2.2.2.2.2).1 a b
    have t1 := (bs_way_r W1.2.2.1 (W1.1.2.2.2.2.2.2).1 a b).1
    have t2 := (bs_way_r W2.2.2.1 (W2.1.2.2.2.2.2.2).1 a b).1
    split
    · rfl
    · generalize bs_way B a b = z1 at *
      generalize bs_way B' a b = z2 at *
      split at v <;> split at v <;> omega
  rw [e1]
  intro a b a0 a1 b0 b1
  rw [← ag a b a0 a1 b0 b1]
  exact h a b a0 a1 b0 b1
theorem bs_w8_i {x : Int} (h : -128 ≤ x ∧ x ≤ 127) : bc_w8 x = x := by unfold bc_w8; omega
theorem bs_o_cave {d : Nat} {a : Int} {S : Int → Int} {L c s p q : Int} {h : bc_H} (hR : bs_R S L c s p q h) {P : Int → Int → bc_H → Prop} {Q1 : Int → bc_H → Prop} (hQ : ∀ y h1, h1 (-2) = h (-2) → h1 (-3) = h (-3) → bf_M_cave (d + 7) a h1 (bc_I fun y2 h2 => P y y2 h2) → Q1 y h1) (hK : ∀ y c' s' h2, bs_R S L c' s' p q h2 → P y y h2) : bf_X_cave (d + 7) a h (bc_I Q1) := by
  obtain ⟨⟨hcs, hpq⟩, ⟨e12, e13, e14, e15⟩, hS, est, efr, htr, htp, hfa, hlv, hlo, hrs, hmk, ⟨hC, hW, hck, hN, hP⟩⟩ := id hR
  obtain ⟨⟨n4, n5, n6, n2, n0, n1, n3⟩, hw, hd, hg, hf, hm⟩ := id hC
  obtain ⟨⟨w0, w1, w2, w3, w4, w5, w7⟩, hww, hwy, hwv, hwf, hwg⟩ := id hW
  have hq : ∀ y v, P y y (bc_upd (bc_upd h 0 0 v) 156 2 v) := fun y v => hK _ c s _ (bs_R_st hR v)
  have e156 : ∀ v, bc_upd h 0 0 v 156 = h 156 := fun v => bc_urow (by decide)
  have bad : ¬ (0 ≤ a ∧ a ≤ h 6 0) → Q1 (-1) (bc_upd h 0 0 1) := fun z => by
    refine hQ _ _ (by first | rfl | exact bc_urow (by decide)) (by first | rfl | exact bc_urow (by decide)) ?_
    refine rv_M_cave (d := d + 6) (rv_M_begins (d := d + 5) ?_)
    rw [e156, ← htp.1]
    exact ⟨fun _ => hq _ _, fun z0 => ⟨fun _ => hq _ _, fun z1 => absurd ⟨z0, z1⟩ z⟩⟩
  refine rv_X_cave (d := d + 6) ⟨fun za => ?_, fun z => bad z⟩
  have hs : 24 ≤ s ∧ s ≤ 44 := by omega
  have n0 : 0 ≤ a ∧ a ≤ 900 := ⟨za.1, Int.le_trans za.2 htp.2.1.2⟩
  have hb : bs_tb8 (h 7) a := fun k k0 k1 => (htp.2.2 k k0 (by omega)).2
  rw [e13]
  refine ⟨by omega, rv_Reader_takeCave (d := d + 5) ⟨by omega, ?_⟩⟩
  refine bc_c_begin (d := d + 1) (T := h 7) hs n0 za.2 (fun _ _ _ => rfl) hrs (fun m ps tt cl f3 f4 => ?_)
  have tf : 0 ≤ m 6 11 := tt.1.1
  refine bs_caveL (d := d + 1) (D := d) (h := h) (T := h 7) hs n0 hb ((a - m 6 11).toNat + 1) m 0 (by omega) (Int.le_refl 0) tf ps (fun m1 ps1 ce => ?_) (fun m1 pf ce => ?_)
  · obtain ⟨pt, ⟨z0, z1, z2⟩, z9, fr, B0, NM0, nw⟩ := ps1
    rw [z9]
    refine ⟨by omega, ?_⟩
    have hwd := nw.2.2.2.2.2.2.1
    refine bc_c_measure (d := d + 4) (A := B0) nw.1.2.2.2.2.2.1 nw.2.2.2.2.2.2.2.2.1 (fun x y x0 x1 y0 y1 => hwd x y x0 (by have := nw.2.2.2.2.2.2.2.2.1.1.2.1; omega) y0 (by have := nw.2.2.2.2.2.2.2.2.1.1.2.1; omega)) (fun x hx => ?_)
    have rF : ∀ r, r ≠ s + 3 + 4 → bc_row m1 (s + 3 + 4) x r = m1 r := fun r hr => bc_rn hr
    have rFx : bc_row m1 (s + 3 + 4) x (s + 3 + 4) = x := bs_rr _ _ _
    generalize bc_row m1 (s + 3 + 4) x = mF at rF rFx ⊢
    have m0 : mF 0 = h 0 := by rw [rF 0 (by omega)]; exact fr 0 (by decide) (by decide) (by decide) (by omega)
    rw [m0, e12, e13, e14]
    refine ⟨by omega, by omega, by omega, rv_Days_clear ?_⟩
    have w12 : bc_upd (bc_upd (bc_upd (bc_upd (bc_upd mF 0 12 s) 0 13 c) p 0 0) p 1 0) p 2 0 0 12 = s := by
      rw [bc_ur (by omega), bc_ur (by omega), bc_ur (by omega), bc_uj (by decide), bc_uu]
    have ws : bc_upd (bc_upd (bc_upd (bc_upd (bc_upd mF 0 12 s) 0 13 c) p 0 0) p 1 0) p 2 0 s 3 = m1 s 3 := by
      rw [bc_ur (by omega), bc_ur (by omega), bc_ur (by omega), bc_ur (by omega), bc_ur (by omega), rF s (by omega)]
    rw [w12, ws]
    refine ⟨by omega, ?_⟩
    have g12 : bc_upd (bc_upd (bc_upd (bc_upd (bc_upd (bc_upd mF 0 12 s) 0 13 c) p 0 0) p 1 0) p 2 0) 0 0 0 0 12 = s := by
      rw [bc_uj (by decide)]; exact w12
    have g13 : bc_upd (bc_upd (bc_upd (bc_upd (bc_upd (bc_upd mF 0 12 s) 0 13 c) p 0 0) p 1 0) p 2 0) 0 0 0 0 13 = c := by
      rw [bc_uj (by decide), bc_ur (by omega), bc_ur (by omega), bc_ur (by omega), bc_uu]
    have g00 : bc_upd (bc_upd (bc_upd (bc_upd (bc_upd (bc_upd mF 0 12 s) 0 13 c) p 0 0) p 1 0) p 2 0) 0 0 0 0 0 = 0 := bc_uu _ _ _ _
    have g0y : ∀ y, y ≠ 0 → y ≠ 12 → y ≠ 13 → bc_upd (bc_upd (bc_upd (bc_upd (bc_upd (bc_upd mF 0 12 s) 0 13 c) p 0 0) p 1 0) p 2 0) 0 0 0 0 y = h 0 y := fun y y0 y1 y2 => by
      rw [bc_uj y0, bc_ur (by omega), bc_ur (by omega), bc_ur (by omega), bc_uj y2, bc_uj y1, m0]
    have gx : ∀ r, r ≠ 0 → r ≠ p → bc_upd (bc_upd (bc_upd (bc_upd (bc_upd (bc_upd mF 0 12 s) 0 13 c) p 0 0) p 1 0) p 2 0) 0 0 0 r = mF r := fun r r0 r1 => by
      rw [bc_urow r0, bc_urow r1, bc_urow r1, bc_urow r1, bc_urow r0, bc_urow r0]
    have gp0 : bc_upd (bc_upd (bc_upd (bc_upd (bc_upd (bc_upd mF 0 12 s) 0 13 c) p 0 0) p 1 0) p 2 0) 0 0 0 p 0 = 0 := by
      rw [bc_ur (by omega), bc_uj (by decide), bc_uj (by decide), bc_uu]
    have gp2 : bc_upd (bc_upd (bc_upd (bc_upd (bc_upd (bc_upd mF 0 12 s) 0 13 c) p 0 0) p 1 0) p 2 0) 0 0 0 p 2 = 0 := by
      rw [bc_ur (by omega), bc_uu]
    generalize bc_upd (bc_upd (bc_upd (bc_upd (bc_upd (bc_upd mF 0 12 s) 0 13 c) p 0 0) p 1 0) p 2 0) 0 0 0 = h1 at g12 g13 g00 g0y gx gp0 gp2 ⊢
    have gh : ∀ r, r ≠ 0 → r ≠ p → r ≠ 6 → r ≠ 9 → r ≠ 10 → ¬ (s ≤ r ∧ r < s + 20) → h1 r = h r := fun r r0 rp r6 r9 r10 rs => by
      rw [gx r r0 rp, rF r (by omega)]; exact fr r r6 r9 r10 rs
    have gs : ∀ r, s ≤ r → r < s + 20 → r ≠ s + 3 + 4 → h1 r = m1 r := fun r r0 r1 r2 => by rw [gx r (by omega) (by omega), rF r r2]
    have gsx : h1 (s + 3 + 4) = x := by rw [gx _ (by omega) (by omega), rFx]
    have g6 : h1 6 = m1 6 := by rw [gx 6 (by omega) (by omega), rF 6 (by omega)]
    clear gx rF rFx m0 w12 ws
    refine hQ _ h1 (gh _ (by omega) (by omega) (by omega) (by omega) (by omega) (by omega)) (gh _ (by omega) (by omega) (by omega) (by omega) (by omega) (by omega)) ?_
    have e156 : h1 156 = h 156 := gh _ (by omega) (by omega) (by omega) (by omega) (by omega) (by omega)
    have e162 : h1 162 = h 162 := gh _ (by omega) (by omega) (by omega) (by omega) (by omega) (by omega)
    refine bc_m_caveS (c := s) n0 hb (by rw [e156, ← htp.1]; exact za.2) (fun k k0 k1 => by have u := htp.2.2 k k0 (by omega); rw [e162, ← u.1]; exact bs_w8_i u.2) tt cl f3 f4 (fun g sm => ce h1 g _ sm (fun g' sm' => bc_m_caveE (fun g1 a1 a2 a3 a4 a5 => rv_M_taken (d := d + 5) ⟨fun _ => ?_, fun q => ?_⟩)))
    · obtain ⟨s1, s2, ⟨s3, s4, s5⟩, s6, s7, s8, nw', s10⟩ := sm'
      have yy : g1 157 2 = m1 s 3 := by rw [a3 2 (by decide) (by decide)]; exact (bs_Nw_n nw').1.2.2.1
      rw [yy]
      have G1 : ∀ r, r ≠ 156 → r ≠ 157 → r ≠ 158 → r ≠ 163 → bc_upd (bc_upd g1 156 16 (g1 156 18)) 156 2 0 r = h1 r := fun r x1 x2 x3 x4 => by rw [bc_urow x1, bc_urow x1, a1 r x2 x3, s1 r x1 x2 x3 x4]
      have G2 : ∀ y, y ≠ 16 → y ≠ 2 → bc_upd (bc_upd g1 156 16 (g1 156 18)) 156 2 0 156 y = g' 156 y := fun y y1 y2 => by rw [bc_uj y2, bc_uj y1, a1 156 (by decide) (by decide)]
      have G3 : bc_upd (bc_upd g1 156 16 (g1 156 18)) 156 2 0 156 2 = 0 := bc_uu _ _ _ _
      have G4 : bc_upd (bc_upd g1 156 16 (g1 156 18)) 156 2 0 156 16 = 0 := by rw [bc_uj (by decide), bc_uu, a1 156 (by decide) (by decide)]; exact s5
      have G5 : bc_upd (bc_upd g1 156 16 (g1 156 18)) 156 2 0 157 = g1 157 := by rw [bc_urow (by decide), bc_urow (by decide)]
      have G6 : bc_upd (bc_upd g1 156 16 (g1 156 18)) 156 2 0 158 = g1 158 := by rw [bc_urow (by decide), bc_urow (by decide)]
      generalize bc_upd (bc_upd g1 156 16 (g1 156 18)) 156 2 0 = gF at G1 G2 G3 G4 G5 G6 ⊢
      refine hK _ s c gF (bs_R_N hR ⟨by omega, hpq⟩ (fun a b hab => ?_) ⟨by rw [G1 0 (by decide) (by decide) (by decide) (by decide)]; exact g12, by rw [G1 0 (by decide) (by decide) (by decide) (by decide)]; exact g13, by rw [G1 0 (by decide) (by decide) (by decide) (by decide), g0y 14 (by decide) (by decide) (by decide)]; exact e14, by rw [G1 0 (by decide) (by decide) (by decide) (by decide), g0y 15 (by decide) (by decide) (by decide)]; exact e15⟩ (by rw [G3, G1 0 (by decide) (by decide) (by decide) (by decide)]; exact g00) ⟨by rw [G1 6 (by decide) (by decide) (by decide) (by decide), g6]; exact z0, by rw [G2 10 (by decide) (by decide)]; exact s3⟩ ⟨by rw [G4, G1 6 (by decide) (by decide) (by decide) (by decide), g6]; exact z1, by rw [G2 17 (by decide) (by decide), s4, G1 6 (by decide) (by decide) (by decide) (by decide), g6]; exact z2⟩ ?_)
      · unfold bs_keepN at hab
        by_cases q0 : a = 156
        · subst q0; rw [G2 b (by omega) (by omega), s2 b (by omega), e156]
        · by_cases q1 : a = 157
          · subst q1
            have e157 : h1 157 = h 157 := gh _ (by omega) (by omega) (by omega) (by omega) (by omega) (by omega)
            rw [G5, a2 b (by omega), s7 b (by omega), e157]
          · by_cases q2 : a = 158
            · subst q2
              have e158 : h1 158 = h 158 := gh _ (by omega) (by omega) (by omega) (by omega) (by omega) (by omega)
              rw [G6, a4 b (by omega), s8 b (by omega), e158]
            · rw [G1 a q0 q1 q2 (by omega)]
              by_cases q3 : a = 0
              · subst q3; exact g0y b (by omega) (by omega) (by omega)
              · rw [gh a q3 (by omega) (by omega) (by omega) (by omega) (by omega)]
      · have cv : bs_Cave h1 s p (fun k => g' 157 (2112 + k)) (fun k => g' 158 (104 + k)) := bs_Nw_C (bs_Nw_h' gs nw') (by rw [gsx]; exact bs_cg_B nw nw' hx) ⟨gp0, gp2⟩
        refine bs_Cave_h (fun a b hab => by rw [G1 a (by omega) (by omega) (by omega) (by omega)]) (fun k k0 k1 => by rw [G5]; exact a3 k k0 k1) (fun k k0 k1 => by rw [G6]; exact a5 k k0 k1) cv
    · have := sm'.2.2.1.2.2
      rw [a1 156 (by decide) (by decide)] at q
      omega
  · obtain ⟨⟨z0, z1⟩, fr⟩ := pf
    have gh : ∀ r, r ≠ 0 → r ≠ 6 → r ≠ 9 → r ≠ 10 → ¬ (s ≤ r ∧ r < s + 20) → bc_upd m1 0 0 9 r = h r := fun r r0 r6 r9 r10 rs => by rw [bc_urow r0]; exact fr r r6 r9 r10 rs
    have g00 : bc_upd m1 0 0 9 0 0 = 9 := bc_uu _ _ _ _
    have g0y : ∀ y, y ≠ 0 → bc_upd m1 0 0 9 0 y = h 0 y := fun y y0 => by rw [bc_uj y0]; exact congrFun (fr 0 (by decide) (by decide) (by decide) (by omega)) y
    have g6 : bc_upd m1 0 0 9 6 = m1 6 := bc_urow (by decide)
    generalize bc_upd m1 0 0 9 = h1 at gh g00 g0y g6 ⊢
    refine hQ _ h1 (gh _ (by omega) (by omega) (by omega) (by omega) (by omega)) (gh _ (by omega) (by omega) (by omega) (by omega) (by omega)) ?_
    have e156 : h1 156 = h 156 := gh _ (by omega) (by omega) (by omega) (by omega) (by omega)
    have e162 : h1 162 = h 162 := gh _ (by omega) (by omega) (by omega) (by omega) (by omega)
    refine bc_m_caveS (c := s) n0 hb (by rw [e156, ← htp.1]; exact za.2) (fun k k0 k1 => by have u := htp.2.2 k k0 (by omega); rw [e162, ← u.1]; exact bs_w8_i u.2) tt cl f3 f4 (fun g sm => ce h1 g _ sm (fun g' sq => ?_))
    obtain ⟨s1, s2, s3, ⟨s4, s5⟩, s7, s8⟩ := sq
    refine rv_M_taken (d := d + 5) ⟨fun q => absurd q (by omega), fun _ => ?_⟩
    have G1 : ∀ r, r ≠ 156 → bc_upd (bc_upd g' 156 16 (g' 156 18)) 156 2 9 r = g' r := fun r x1 => by rw [bc_urow x1, bc_urow x1]
    have G2 : ∀ y, y ≠ 16 → y ≠ 2 → bc_upd (bc_upd g' 156 16 (g' 156 18)) 156 2 9 156 y = g' 156 y := fun y y1 y2 => by rw [bc_uj y2, bc_uj y1]
    have G3 : bc_upd (bc_upd g' 156 16 (g' 156 18)) 156 2 9 156 2 = 9 := bc_uu _ _ _ _
    have G4 : bc_upd (bc_upd g' 156 16 (g' 156 18)) 156 2 9 156 16 = m1 6 1 := by rw [bc_uj (by decide), bc_uu]; exact s4
    generalize bc_upd (bc_upd g' 156 16 (g' 156 18)) 156 2 9 = gF at G1 G2 G3 G4 ⊢
    have e157 : h1 157 = h 157 := gh _ (by omega) (by omega) (by omega) (by omega) (by omega)
    have e158 : h1 158 = h 158 := gh _ (by omega) (by omega) (by omega) (by omega) (by omega)
    have H0 : gF 0 = h1 0 := by rw [G1 0 (by decide)]; exact s1 0 (by decide) (by decide) (by decide) (by decide)
    have H6 : gF 6 = m1 6 := by rw [G1 6 (by decide), s1 6 (by decide) (by decide) (by decide) (by decide), g6]
    refine hK _ c s gF (bs_R_N hR ⟨hcs, hpq⟩ (fun a b hab => ?_) ⟨by rw [H0, g0y 12 (by decide)]; exact e12, by rw [H0, g0y 13 (by decide)]; exact e13, by rw [H0, g0y 14 (by decide)]; exact e14, by rw [H0, g0y 15 (by decide)]; exact e15⟩ (by rw [G3, H0]; exact g00) ⟨by rw [H6]; exact z0, by rw [G2 10 (by decide) (by decide)]; exact s3⟩ ⟨by rw [G4, H6], by rw [G2 17 (by decide) (by decide), s5, H6]⟩ ?_)
    · unfold bs_keepN at hab
      by_cases q0 : a = 156
      · subst q0; rw [G2 b (by omega) (by omega), s2 b (by omega), e156]
      · rw [G1 a q0]
        by_cases q1 : a = 157
        · subst q1; rw [s7 b (by omega), e157]
        · by_cases q2 : a = 158
          · subst q2; rw [s8 b (by omega), e158]
          · rw [s1 a q0 q1 q2 (by omega)]
            by_cases q3 : a = 0
            · subst q3; exact g0y b (by omega)
            · rw [gh a q3 (by omega) (by omega) (by omega) (by omega)]
    · refine bs_Cave_h (fun a b hab => ?_) (fun k k0 k1 => by rw [G1 157 (by decide), s7 k (by omega), e157]) (fun k k0 k1 => by rw [G1 158 (by decide), s8 k (by omega), e158]) hR.2.2.2.2.2.2.2.2.2.2.2.2
      rw [G1 a (by omega), s1 a (by omega) (by omega) (by omega) (by omega), gh a (by omega) (by omega) (by omega) (by omega) (by omega)]
