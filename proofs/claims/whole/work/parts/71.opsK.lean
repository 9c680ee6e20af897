/-! ===== marks ===== -/
def bs_dcp (h h' : bc_H) (c c0 : Int) : Prop := (∀ x y, ¬ (c ≤ x ∧ x < c + 6) → h' x y = h x y) ∧ (∀ y, 0 ≤ y → y < 3 → h' c y = h c0 y) ∧ ∀ y, 0 ≤ y → y < h c0 2 → h' (c + 1) y = h (c0 + 1) y ∧ h' (c + 2) y = h (c0 + 2) y ∧ h' (c + 3) y = h (c0 + 3) y ∧ h' (c + 4) y = h (c0 + 4) y ∧ h' (c + 5) y = h (c0 + 5) y
theorem bc_c_daysCopy {d : Nat} {c c0 : Int} {h : bc_H} {K : bc_H → Prop} (hd : c + 6 ≤ c0 ∨ c0 + 6 ≤ c) (h2 : 0 ≤ h c0 2 ∧ h c0 2 ≤ 60) (h0 : h c0 0 = 0 ∨ h c0 0 = 1) (hK : ∀ h', bs_dcp h h' c c0 → K h') : bf_Days_copyOf d c c0 h (bc_U K) := by
  refine rv_Days_copyOf ?_
  simp (disch := omega) only [bc_ur, bc_uj, bc_uu, bc_brp]
  refine ⟨h0, ⟨by omega, by omega, by omega⟩, ⟨by omega, by omega, by omega⟩, ⟨by omega, by omega, by omega⟩, ⟨by omega, by omega, by omega⟩, ⟨by omega, by omega, by omega⟩, ?_⟩
  refine hK _ ⟨fun x y q => ?_, fun y y0 y1 => ?_, fun y y0 y1 => ⟨?_, ?_, ?_, ?_, ?_⟩⟩
  · simp (disch := omega) only [bc_ur, bc_brp]
  · have hy : y = 0 ∨ y = 1 ∨ y = 2 := by omega
    rcases hy with rfl | rfl | rfl <;> simp (disch := omega) only [bc_ur, bc_uj, bc_uu, bc_brp]
  all_goals simp (disch := omega) only [bc_ur, bc_uj, bc_uu, bc_brp, bc_bi, Int.sub_zero, Int.zero_add]
theorem bs_nest_congr {k k' p p' : Int → Int} {n : Int} (hk : ∀ i, 0 ≤ i → i < n → k' i = k i) (hp : ∀ i, 0 ≤ i → i < n → p' i = p i) (h : bs_nest k p n) : bs_nest k' p' n := by
  obtain ⟨n1, n2, n3, n4⟩ := h
  refine ⟨fun o o0 o1 q => ?_, fun e e0 e1 q => ?_, fun o i o0 oi ip pn qo qi => ?_, fun i i0 i1 q => ?_⟩
  · rw [hk o o0 o1] at q
    have t := n1 o o0 o1 q
    rw [hp o o0 o1, hk _ (by omega) t.2.1, hp _ (by omega) t.2.1]
    exact t
  · rw [hk e e0 e1] at q
    have t := n2 e e0 e1 q
    rw [hp e e0 e1, hk _ t.1 (by omega), hp _ t.1 (by omega)]
    exact t
  · by_cases on : o < n
    · rw [hp o o0 on] at ip pn ⊢
      rw [hk o o0 on] at qo
      rw [hk i (by omega) (by omega)] at qi
      rw [hp i (by omega) (by omega)]
      exact n3 o i o0 oi ip pn qo qi
    · exfalso; omega
  · rw [hk i i0 (by omega), hk (i + 1) (by omega) (by omega), hk (i + 2) (by omega) (by omega), hk (i + 3) (by omega) (by omega)] at q
    exact n4 i i0 i1 q
theorem bs_Pl_dcp {h h' : bc_H} {c c0 : Int} {A : Int → Int} (hp : bs_dcp h h' c c0) (hP : bs_Pl h c0 A) : bs_Pl h' c A := by
  obtain ⟨p0, p1, p2⟩ := hp
  obtain ⟨hl, hP⟩ := hP
  refine ⟨by rw [p1 2 (by omega) (by omega)]; exact hl, ?_⟩
  rw [p1 0 (by omega) (by omega), p1 2 (by omega) (by omega)]
  rcases hP with hP | ⟨q0, q2, q8, hr, hn⟩
  · exact Or.inl hP
  · refine Or.inr ⟨q0, q2, q8, fun k k0 k1 => ?_, bs_nest_congr (fun i i0 i1 => (p2 i i0 (by omega)).1) (fun i i0 i1 => (p2 i i0 (by omega)).2.2.2.2) hn⟩
    have t := p2 k k0 (by omega)
    rw [t.1, t.2.1, t.2.2.1, t.2.2.2.1, t.2.2.2.2]
    exact hr k k0 k1
theorem bs_fst_lt {p : Int → Prop} [DecidablePred p] {n : Int} (h : 0 ≤ n) : -1 ≤ bs_fst p n ∧ bs_fst p n < n ∨ bs_fst p n = -1 := by
  refine bc_it_ind (fun n x => -1 ≤ x ∧ x < n ∨ x = -1) (Or.inr rfl) (fun i x i0 ih => ?_) h
  (repeat' split) <;> omega
/-- names, by the places that count -/
theorem bs_Nm_c {n n' : Int} {co ki nu co' ki' nu' A NM : Int → Int} (e : n' = n) (hb : n ≤ 26) (h : ∀ i, 0 ≤ i → i < 26 → co' i = co i ∧ ki' i = ki i ∧ nu' i = nu i) (hN : bs_Nm n co ki nu A NM) : bs_Nm n' co' ki' nu' A NM := by
  subst e
  have hn := hN.1.1
  have ec : ∀ K x, bs_cn n' co' ki' nu' K x = bs_cn n' co ki nu K x := fun K x => by
    unfold bs_cn
    rw [bs_fst_congr (p := fun i => co' i = x ∧ ki' i = K) (q := fun i => co i = x ∧ ki i = K) (fun i i0 i1 => by rw [(h i i0 (by omega)).1, (h i i0 (by omega)).2.1])]
    split
    · rfl
    · rename_i q
      have t := bs_fst_lt (p := fun i => co i = x ∧ ki i = K) hn
      rw [(h _ (by omega) (by omega)).2.2]
  refine ⟨hN.1, fun l hl => ?_⟩
  have t := hN.2 l hl
  rw [ec, ec, ec, ec, bs_fst_congr (p := fun i => co' i = bs_c32 l) (q := fun i => co i = bs_c32 l) (fun i i0 i1 => by rw [(h i i0 (by omega)).1])]
  exact t
theorem bs_Cave_cpy {h h1 h2 : bc_H} {c c0 p p0 : Int} {A NM : Int → Int} (hC : bs_Cave h c0 p0 A NM) (k1 : bs_cpy h h1 c c0) (k2 : bs_dcp h1 h2 p p0) (hp : c + 20 ≤ p0 ∨ p0 + 6 ≤ c) (hp2 : c + 20 ≤ p ∨ p + 6 ≤ c) : bs_Cave h2 c p A NM := by
  obtain ⟨g1, g2, g3, g4, g5⟩ := hC
  have w := g2.1
  refine ⟨bs_C_h (fun a b a0 a1 _ => k2.1 a b (by omega)) (bs_C_cpy g2 k1 g1), g2, g3, ?_, bs_Pl_dcp k2 (bs_Pl_A (fun a b a0 a1 => k1.1 a b (by omega)) (Int.le_refl _) (Int.le_refl _) (fun _ _ => rfl) g5)⟩
  have t := k1.2.2.2.2.2.2.2.2.2
  refine bs_Nm_c ?_ (by have := g4.1; omega) (fun i i0 i1 => ⟨?_, ?_, ?_⟩) g4
  · rw [k2.1 c 11 (by omega)]; exact k1.2.1 11 (by omega)
  · rw [k2.1 (c + 17) i (by omega)]; exact (t i i0 i1).1
  · rw [k2.1 (c + 18) i (by omega)]; exact (t i i0 i1).2.1
  · rw [k2.1 (c + 19) i (by omega)]; exact (t i i0 i1).2.2
theorem bc_m_copies {d : Nat} {f t : Int} {h : bc_H} {A NM : Int → Int} {K : bc_H → Prop} (hf : 0 ≤ f ∧ f ≤ 3) (ht : 0 ≤ t ∧ t ≤ 3) (hne : f ≠ t) (e157 : h 157 = A) (e158 : h 158 = NM) (hK : K (bc_row (bc_row h 157 (bs_mv A (528 * f) (528 * t) 528)) 158 (bs_mv NM (26 * f) (26 * t) 26))) : bf_M_copies d f t h (bc_U K) := by
  refine rv_M_copies ?_
  have key : bl_M_copies_2 d f t 0 (bc_row h 157 (bs_mv A (528 * f) (528 * t) 0)) (bc_U K) := by
    refine bc_lup (P := fun i => bl_M_copies_2 d f t i (bc_row h 157 (bs_mv A (528 * f) (528 * t) i)) (bc_U K)) (n := 528) ?_ (fun i i0 hi ih => ?_) (Int.le_refl 0) (by decide)
    · refine rv_M_copies_2 ⟨fun _ => ?_, fun q => absurd q (by decide)⟩
      have key2 : bl_M_copies_25 d f t 0 (bc_row (bc_row h 157 (bs_mv A (528 * f) (528 * t) 528)) 158 (bs_mv NM (26 * f) (26 * t) 0)) (bc_U K) := by
        refine bc_lup (P := fun i => bl_M_copies_25 d f t i (bc_row (bc_row h 157 (bs_mv A (528 * f) (528 * t) 528)) 158 (bs_mv NM (26 * f) (26 * t) i)) (bc_U K)) (n := 26) ?_ (fun i i0 hi ih => ?_) (Int.le_refl 0) (by decide)
        · exact rv_M_copies_25 ⟨fun _ => hK, fun q => absurd q (by decide)⟩
        · refine rv_M_copies_25 ⟨fun q => absurd q (by omega), fun _ => ?_⟩
          simp (disch := omega) only [bc_wi, Int.add_zero]
          rw [bs_rr, bc_ru, bs_mv_s i0 (by omega)]
          exact ⟨by omega, by omega, ih⟩
      rw [bs_mv_0, ← e158, show h 158 = bc_row h 157 (bs_mv A (528 * f) (528 * t) 528) 158 from (bc_rn (by decide)).symm, bc_rself] at key2
      exact key2
    · refine rv_M_copies_2 ⟨fun q => absurd q (by omega), fun _ => ?_⟩
      simp (disch := omega) only [bc_wi, Int.add_zero]
      rw [bs_rr, bc_ru, bs_mv_s i0 (by omega)]
      exact ⟨by omega, by omega, ih⟩
  rw [bs_mv_0, ← e157, bc_rself] at key
  exact key
theorem bs_R_K {S : Int → Int} {L c s p q : Int} {h : bc_H} (hR : bs_R S L c s p q h) {h' : bc_H} (hF : ∀ a b, bs_keep s q a b → ¬ (78 ≤ a ∧ a ≤ 155) → (a ≠ 0 ∨ b ≠ 16) → (a ≠ 156 ∨ b ≠ 49) → a ≠ 157 → a ≠ 158 → ¬ (c ≤ a ∧ a < c + 20) → ¬ (p ≤ a ∧ a < p + 6) → h' a b = h a b) (hs : h' 0 0 = h' 156 2) (hm : h' 0 16 = h' 156 49 ∧ (0 ≤ h' 0 16 ∧ h' 0 16 ≤ 3) ∧ ∀ i, 0 ≤ i → i < h' 0 16 → bs_Cave h' (78 + 26 * i) (98 + 26 * i) (fun k => h' 157 (528 * (i + 1) + k)) (fun k => h' 158 (26 * (i + 1) + k))) (hC : bs_Cave h' c p (h' 157) (h' 158)) : bs_R S L c s p q h' := by
  obtain ⟨r1, r2, r3, r4, r5, r6, r7, r8, r9, r10, r11, ⟨m1, m2, m3, m4⟩, r13⟩ := hR
  have row : ∀ a, a ≠ 0 → a ≠ 156 → a ≠ 157 → a ≠ 158 → ¬ (78 ≤ a ∧ a ≤ 155) → ¬ (c ≤ a ∧ a < c + 20) → ¬ (p ≤ a ∧ a < p + 6) → (∀ b, bs_keep s q a b) → h' a = h a := fun a h0 h1 h2 h3 h4 h5 h6 hk => funext (fun b => hF a b (hk b) h4 (Or.inl h0) (Or.inl h1) h2 h3 h5 h6)
  have f0 : ∀ b, b ≠ 0 → b ≠ 16 → h' 0 b = h 0 b := fun b hb hb2 => hF 0 b (bs_k2 hb) (by omega) (by omega) (by omega) (by omega) (by omega) (by omega) (by omega)
  have f6 : ∀ b, b ≤ 2 → h' 6 b = h 6 b := fun b hb => hF 6 b (bs_k6 hb) (by omega) (by omega) (by omega) (by omega) (by omega) (by omega) (by omega)
  have fm : ∀ b, (b = 3 ∨ b = 4 ∨ b = 10 ∨ b = 16 ∨ b = 17 ∨ b = 48) → h' 156 b = h 156 b := fun b hb => hF 156 b (bs_k156 (by omega)) (by omega) (by omega) (by omega) (by omega) (by omega) (by omega) (by omega)
  refine ⟨r1, ?_, ?_, hs, ?_, ?_, ?_, ?_, ?_, ?_, ?_, ⟨hm.1, hm.2.1, ?_, hm.2.2⟩, hC⟩
  · rw [f0 12 (by omega) (by omega), f0 13 (by omega) (by omega), f0 14 (by omega) (by omega), f0 15 (by omega) (by omega)]; exact r2
  · rw [row (-2) (by omega) (by omega) (by omega) (by omega) (by omega) (by omega) (by omega) (fun b => bs_k1 (by omega)), row (-3) (by omega) (by omega) (by omega) (by omega) (by omega) (by omega) (by omega) (fun b => bs_k1 (by omega))]; exact r3
  · rw [f0 1 (by omega) (by omega), f0 2 (by omega) (by omega), fm 3 (by omega), fm 4 (by omega)]; exact r5
  · rw [row 3 (by omega) (by omega) (by omega) (by omega) (by omega) (by omega) (by omega) (fun b => bs_k3 (by omega)), row 4 (by omega) (by omega) (by omega) (by omega) (by omega) (by omega) (by omega) (fun b => bs_k3 (by omega)), row 5 (by omega) (by omega) (by omega) (by omega) (by omega) (by omega) (by omega) (fun b => bs_k3 (by omega)), row 159 (by omega) (by omega) (by omega) (by omega) (by omega) (by omega) (by omega) (fun b => bs_k159 (by omega)), row 160 (by omega) (by omega) (by omega) (by omega) (by omega) (by omega) (by omega) (fun b => bs_k159 (by omega)), row 161 (by omega) (by omega) (by omega) (by omega) (by omega) (by omega) (by omega) (fun b => bs_k159 (by omega))]; exact r6
  · rw [f6 0 (by omega), fm 10 (by omega), row 7 (by omega) (by omega) (by omega) (by omega) (by omega) (by omega) (by omega) (fun b => bs_k7), row 162 (by omega) (by omega) (by omega) (by omega) (by omega) (by omega) (by omega) (fun b => bs_k159 (by omega))]; exact r7
  · rw [f6 1 (by omega), f6 2 (by omega), fm 16 (by omega), fm 17 (by omega)]; exact r8
  · rw [f0 3 (by omega) (by omega), fm 48 (by omega), row 1 (by omega) (by omega) (by omega) (by omega) (by omega) (by omega) (by omega) (fun b => bs_k3 (by omega)), row 184 (by omega) (by omega) (by omega) (by omega) (by omega) (by omega) (by omega) (fun b => bs_k184)]; exact r9
  · rw [row 13 (by omega) (by omega) (by omega) (by omega) (by omega) (by omega) (by omega) (fun b => bs_k13), row 182 (by omega) (by omega) (by omega) (by omega) (by omega) (by omega) (by omega) (fun b => bs_k182)]; exact r10
  · rw [row 8 (by omega) (by omega) (by omega) (by omega) (by omega) (by omega) (by omega) (fun b => bs_k8)]; exact r11
  · rw [row 76 (by omega) (by omega) (by omega) (by omega) (by omega) (by omega) (by omega) (fun b => bs_kc (by omega) (by omega) (by omega) (by omega)), row 77 (by omega) (by omega) (by omega) (by omega) (by omega) (by omega) (by omega) (fun b => bs_kc (by omega) (by omega) (by omega) (by omega))]; exact m3
theorem bs_o_mark {d : Nat} {S : Int → Int} {L c s p q : Int} {h : bc_H} (hR : bs_R S L c s p q h) {P : Int → Int → bc_H → Prop} {Q1 : Int → bc_H → Prop} (hQ : ∀ y h1, h1 (-2) = h (-2) → h1 (-3) = h (-3) → bf_M_mark (d + 4) h1 (bc_I fun y2 h2 => P y y2 h2) → Q1 y h1) (hK : ∀ y h2, bs_R S L c s p q h2 → P y y h2) : bf_X_mark (d + 4) h (bc_I Q1) := by
  obtain ⟨⟨hcs, hpq⟩, ⟨e12, e13, e14, e15⟩, hS, est, efr, htr, htp, hfa, hlv, hlo, hrs, hmk, ⟨hC, hW, hck, hN, hP⟩⟩ := id hR
  obtain ⟨⟨n4, n5, n6, n2, n0, n1, n3⟩, hw, hd, hg, hf, hm⟩ := id hC
  obtain ⟨⟨w0, w1, w2, w3, w4, w5, w7⟩, hww, hwy, hwv, hwf, hwg⟩ := id hW
  have hq : ∀ y v, P y y (bc_upd (bc_upd h 0 0 v) 156 2 v) := fun y v => hK _ _ (bs_R_st hR v)
  obtain ⟨m1, m2, m3, m4⟩ := hmk
  refine rv_X_mark (d := d + 3) ⟨fun z => ?_, fun z => ?_⟩
  · rw [(m3 _ m2.1 z).1, e12]
    refine ⟨⟨by omega, by omega⟩, by omega, ?_⟩
    refine bc_c_copyOf (d := d + 2) (by omega) (fun h1 k1 => ?_)
    have g0 : ∀ x y, (x < 78 ∨ 155 < x) → h1 x y = h x y := fun x y hx => k1.1 x y (by omega)
    rw [g0 0 16 (by omega), g0 77 _ (by omega), (m3 _ m2.1 z).2, g0 0 14 (by omega), e14]
    refine ⟨⟨by omega, by omega⟩, by omega, ?_⟩
    have hP2 := hP.1
    have hP0 : h p 0 = 0 ∨ h p 0 = 1 := by rcases hP.2 with t | t; exact Or.inl t.1; exact Or.inr t.1
    refine bc_c_daysCopy (by omega) (by rw [g0 p 2 (by omega)]; exact hP2) (by rw [g0 p 0 (by omega)]; exact hP0) (fun h2 k2 => ?_)
    have g2 : ∀ x y, (x < 78 ∨ 155 < x) → h2 x y = h x y := fun x y hx => by rw [k2.1 x y (by omega)]; exact g0 x y hx
    have g3 : ∀ x y, ¬ (78 + 26 * h 0 16 ≤ x ∧ x < 98 + 26 * h 0 16 + 6) → h2 x y = h x y := fun x y hx => by rw [k2.1 x y (by omega)]; exact k1.1 x y (by omega)
    rw [g2 0 16 (by omega), bc_wi (by omega) (by omega)]
    refine hQ _ _ (by rw [bc_urow (by decide), bc_urow (by decide)]; exact funext fun y => g2 _ _ (by omega)) (by rw [bc_urow (by decide), bc_urow (by decide)]; exact funext fun y => g2 _ _ (by omega)) ?_
    have hCm := bs_Cave_cpy (c := 78 + 26 * h 0 16) (p := 98 + 26 * h 0 16) ⟨hC, hW, hck, hN, hP⟩ k1 k2 (by omega) (by omega)
    generalize em : bc_upd (bc_upd h2 0 16 (h 0 16 + 1)) 0 0 0 = m
    have mo : ∀ x y, (x ≠ 0 ∨ (y ≠ 16 ∧ y ≠ 0)) → m x y = h2 x y := fun x y hx => by rw [← em, bc_un2 (by omega), bc_un2 (by omega)]
    have m49 : m 156 49 = h 0 16 := by rw [mo _ _ (by omega), g2 _ _ (by omega)]; exact m1.symm
    refine rv_M_mark (d := d + 3) ?_
    rw [m49, bc_wi (by omega) (by omega)]
    refine ⟨fun _ => ?_, fun q => absurd q (by omega)⟩
    refine bc_m_copies (A := h 157) (NM := h 158) (by omega) (by omega) (by omega) (by rw [bc_urow (by decide)]; exact funext fun y => by rw [mo _ _ (by omega), g2 _ _ (by omega)]) (by rw [bc_urow (by decide)]; exact funext fun y => by rw [mo _ _ (by omega), g2 _ _ (by omega)]) ?_
    rw [bc_rn (by decide), bc_rn (by decide), bc_uu]
    generalize eg : bc_upd (bc_row (bc_row (bc_upd m 156 49 (h 0 16 + 1)) 157 (bs_mv (h 157) (528 * 0) (528 * (h 0 16 + 1)) 528)) 158 (bs_mv (h 158) (26 * 0) (26 * (h 0 16 + 1)) 26)) 156 2 0 = g
    have go : ∀ x y, x ≠ 157 → x ≠ 158 → (x ≠ 156 ∨ (y ≠ 49 ∧ y ≠ 2)) → (x ≠ 0 ∨ (y ≠ 16 ∧ y ≠ 0)) → g x y = h2 x y := fun x y k7 k8 k6 k0 => by
      rw [← eg, bc_un2 (by omega), bc_rn k8, bc_rn k7, bc_un2 (by omega)]; exact mo x y k0
    have g157 : g 157 = bs_mv (h 157) (528 * 0) (528 * (h 0 16 + 1)) 528 := by rw [← eg, bc_urow (by decide), bc_rn (by decide), bs_rr]
    have g158 : g 158 = bs_mv (h 158) (26 * 0) (26 * (h 0 16 + 1)) 26 := by rw [← eg, bc_urow (by decide), bs_rr]
    have g016 : g 0 16 = h 0 16 + 1 := by rw [← eg, bc_ur (by decide), bc_rn (by decide), bc_rn (by decide), bc_ur (by decide), ← em, bc_uj (by decide), bc_uu]
    have g49 : g 156 49 = h 0 16 + 1 := by rw [← eg, bc_uj (by decide), bc_rn (by decide), bc_rn (by decide), bc_uu]
    have mvn : ∀ k, k < 528 * (h 0 16 + 1) ∨ 528 * (h 0 16 + 1) + 528 ≤ k → bs_mv (h 157) (528 * 0) (528 * (h 0 16 + 1)) 528 k = h 157 k := fun k hk => if_neg (by omega)
    have mvm : ∀ k, k < 26 * (h 0 16 + 1) ∨ 26 * (h 0 16 + 1) + 26 ≤ k → bs_mv (h 158) (26 * 0) (26 * (h 0 16 + 1)) 26 k = h 158 k := fun k hk => if_neg (by omega)
    refine hK _ _ (bs_R_K hR (fun x y k k1 k2 k3 k4 k5 k6 k7 => ?_) ?_ ⟨by rw [g016, g49], by rw [g016]; omega, fun i i0 i1 => ?_⟩ ?_)
    · have kf := bs_kf k
      rw [go x y k4 k5 (by omega) (by omega)]; exact g2 x y (by omega)
    · rw [← eg, bc_uu, bc_ur (by decide), bc_rn (by decide), bc_rn (by decide), bc_ur (by decide), ← em, bc_uu]
    · rw [g016] at i1
      by_cases e : i = h 0 16
      · rw [e]
        refine bs_Cave_h (fun x y hx => go x y (by omega) (by omega) (by omega) (by omega)) (fun k k0 k1 => ?_) (fun k k0 k1 => ?_) hCm
        · rw [g157]; unfold bs_mv; rw [if_pos (by omega)]; congr 1; omega
        · rw [g158]; unfold bs_mv; rw [if_pos (by omega)]; congr 1; omega
      · refine bs_Cave_h (fun x y hx => ?_) (fun k k0 k1 => ?_) (fun k k0 k1 => ?_) (m4 i i0 (by omega))
        · rw [go x y (by omega) (by omega) (by omega) (by omega)]; exact g3 x y (by omega)
        · rw [g157, mvn _ (by omega)]
        · rw [g158, mvm _ (by omega)]
    · refine bs_Cave_h (fun x y hx => ?_) (fun k k0 k1 => by rw [g157, mvn _ (by omega)]) (fun k k0 k1 => by rw [g158, mvm _ (by omega)]) ⟨hC, hW, hck, hN, hP⟩
      rw [go x y (by omega) (by omega) (by omega) (by omega)]; exact g3 x y (by omega)
  · refine hQ _ _ (by first | rfl | exact bc_urow (by decide)) (by first | rfl | exact bc_urow (by decide)) ?_
    refine rv_M_mark (d := d + 3) ?_
    rw [bc_ur (by decide)]
    exact ⟨fun q => absurd (by omega) q, fun _ => hq _ _⟩
theorem bs_o_undo {d : Nat} {S : Int → Int} {L c s p q : Int} {h : bc_H} (hR : bs_R S L c s p q h) {P : Int → Int → bc_H → Prop} {Q1 : Int → bc_H → Prop} (hQ : ∀ y h1, h1 (-2) = h (-2) → h1 (-3) = h (-3) → bf_M_undo (d + 4) h1 (bc_I fun y2 h2 => P y y2 h2) → Q1 y h1) (hK : ∀ y h2, bs_R S L c s p q h2 → P y y h2) : bf_X_undo (d + 4) h (bc_I Q1) := by
  obtain ⟨⟨hcs, hpq⟩, ⟨e12, e13, e14, e15⟩, hS, est, efr, htr, htp, hfa, hlv, hlo, hrs, hmk, ⟨hC, hW, hck, hN, hP⟩⟩ := id hR
  obtain ⟨⟨n4, n5, n6, n2, n0, n1, n3⟩, hw, hd, hg, hf, hm⟩ := id hC
  obtain ⟨⟨w0, w1, w2, w3, w4, w5, w7⟩, hww, hwy, hwv, hwf, hwg⟩ := id hW
  have hq : ∀ y v, P y y (bc_upd (bc_upd h 0 0 v) 156 2 v) := fun y v => hK _ _ (bs_R_st hR v)
  obtain ⟨m1, m2, m3, m4⟩ := hmk
  refine rv_X_undo (d := d + 3) ⟨fun z => ?_, fun z => ?_⟩
  · rw [bc_wi (by omega) (by omega), (m3 (h 0 16 - 1) (by omega) (by omega)).1, e12]
    refine ⟨by omega, ⟨by omega, by omega⟩, ?_⟩
    have hM := m4 (h 0 16 - 1) (by omega) (by omega)
    have hM1 : bs_Cave (bc_upd h 0 16 (h 0 16 - 1)) (78 + 26 * (h 0 16 - 1)) (98 + 26 * (h 0 16 - 1)) (fun k => h 157 (528 * (h 0 16 - 1 + 1) + k)) (fun k => h 158 (26 * (h 0 16 - 1 + 1) + k)) := bs_Cave_h (fun x y hx => bc_ur (by omega)) (fun _ _ _ => rfl) (fun _ _ _ => rfl) hM
    refine bc_c_copyOf (d := d + 2) (by omega) (fun h1 k1 => ?_)
    have g0 : ∀ x y, ¬ (c ≤ x ∧ x < c + 20) → (x ≠ 0 ∨ y ≠ 16) → h1 x y = h x y := fun x y hx hy => by rw [k1.1 x y hx, bc_un2 (by omega)]
    have g016 : h1 0 16 = h 0 16 - 1 := by rw [k1.1 0 16 (by omega), bc_uu]
    rw [g016, g0 0 14 (by omega) (by omega), e14, g0 77 _ (by omega) (by omega), (m3 (h 0 16 - 1) (by omega) (by omega)).2]
    refine ⟨by omega, ⟨by omega, by omega⟩, ?_⟩
    have hP2 := hM.2.2.2.2.1
    have hP0 : h (98 + 26 * (h 0 16 - 1)) 0 = 0 ∨ h (98 + 26 * (h 0 16 - 1)) 0 = 1 := by rcases hM.2.2.2.2.2 with t | t; exact Or.inl t.1; exact Or.inr t.1
    refine bc_c_daysCopy (by omega) (by rw [g0 _ 2 (by omega) (by omega)]; exact hP2) (by rw [g0 _ 0 (by omega) (by omega)]; exact hP0) (fun h2 k2 => ?_)
    have g2 : ∀ x y, ¬ (c ≤ x ∧ x < c + 20) → ¬ (p ≤ x ∧ x < p + 6) → (x ≠ 0 ∨ y ≠ 16) → h2 x y = h x y := fun x y hx hx2 hy => by rw [k2.1 x y hx2]; exact g0 x y hx hy
    have g216 : h2 0 16 = h 0 16 - 1 := by rw [k2.1 0 16 (by omega)]; exact g016
    have hCm := bs_Cave_cpy (c := c) (p := p) hM1 k1 k2 (by omega) (by omega)
    rw [g216]
    refine hQ _ _ (by rw [bc_urow (by decide)]; exact funext fun y => g2 _ _ (by omega) (by omega) (by omega)) (by rw [bc_urow (by decide)]; exact funext fun y => g2 _ _ (by omega) (by omega) (by omega)) ?_
    generalize em : bc_upd h2 0 0 0 = m
    have mo : ∀ x y, (x ≠ 0 ∨ y ≠ 0) → m x y = h2 x y := fun x y hx => by rw [← em, bc_un2 hx]
    have m49 : m 156 49 = h 0 16 := by rw [mo _ _ (by omega), g2 _ _ (by omega) (by omega) (by omega)]; exact m1.symm
    refine rv_M_undo (d := d + 3) ?_
    rw [m49]
    refine ⟨fun _ => ?_, fun q => absurd q (by omega)⟩
    refine bc_m_copies (A := h 157) (NM := h 158) (by omega) (by omega) (by omega) (funext fun y => by rw [mo _ _ (by omega), g2 _ _ (by omega) (by omega) (by omega)]) (funext fun y => by rw [mo _ _ (by omega), g2 _ _ (by omega) (by omega) (by omega)]) ?_
    rw [bc_rn (by decide), bc_rn (by decide), m49, bc_wi (by omega) (by omega)]
    generalize eg : bc_upd (bc_upd (bc_row (bc_row m 157 (bs_mv (h 157) (528 * h 0 16) (528 * 0) 528)) 158 (bs_mv (h 158) (26 * h 0 16) (26 * 0) 26)) 156 49 (h 0 16 - 1)) 156 2 0 = g
    have go : ∀ x y, x ≠ 157 → x ≠ 158 → (x ≠ 156 ∨ (y ≠ 49 ∧ y ≠ 2)) → (x ≠ 0 ∨ y ≠ 0) → g x y = h2 x y := fun x y k7 k8 k6 k0 => by
      rw [← eg, bc_un2 (by omega), bc_un2 (by omega), bc_rn k8, bc_rn k7]; exact mo x y k0
    have g157 : g 157 = bs_mv (h 157) (528 * h 0 16) (528 * 0) 528 := by rw [← eg, bc_urow (by decide), bc_urow (by decide), bc_rn (by decide), bs_rr]
    have g158 : g 158 = bs_mv (h 158) (26 * h 0 16) (26 * 0) 26 := by rw [← eg, bc_urow (by decide), bc_urow (by decide), bs_rr]
    have gg16 : g 0 16 = h 0 16 - 1 := by rw [go 0 16 (by omega) (by omega) (by omega) (by omega)]; exact g216
    have g49 : g 156 49 = h 0 16 - 1 := by rw [← eg, bc_uj (by decide), bc_uu]
    refine hK _ _ (bs_R_K hR (fun x y k k1 k2 k3 k4 k5 k6 k7 => ?_) ?_ ⟨by rw [gg16, g49], by rw [gg16]; omega, fun i i0 i1 => ?_⟩ ?_)
    · have kf := bs_kf k
      rw [go x y k4 k5 (by omega) (by omega)]; exact g2 x y k6 k7 k2
    · rw [← eg, bc_uu, bc_ur (by decide), bc_ur (by decide), bc_rn (by decide), bc_rn (by decide), ← em, bc_uu]
    · rw [gg16] at i1
      refine bs_Cave_h (fun x y hx => ?_) (fun k k0 k1 => ?_) (fun k k0 k1 => ?_) (m4 i i0 (by omega))
      · rw [go x y (by omega) (by omega) (by omega) (by omega)]; exact g2 x y (by omega) (by omega) (by omega)
      · rw [g157]; exact if_neg (by omega)
      · rw [g158]; exact if_neg (by omega)
    · refine bs_Cave_h (fun x y hx => go x y (by omega) (by omega) (by omega) (by omega)) (fun k k0 k1 => ?_) (fun k k0 k1 => ?_) hCm
      · rw [g157]; unfold bs_mv; rw [if_pos (by omega)]; congr 1; omega
      · rw [g158]; unfold bs_mv; rw [if_pos (by omega)]; congr 1; omega
  · refine hQ _ _ (by first | rfl | exact bc_urow (by decide)) (by first | rfl | exact bc_urow (by decide)) ?_
    refine rv_M_undo (d := d + 3) ?_
    rw [bc_ur (by decide)]
    exact ⟨fun q => absurd (by omega) q, fun _ => hq _ _⟩
