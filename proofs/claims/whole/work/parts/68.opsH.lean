/-! ===== a cave copied ===== -/
theorem bc_brp {h : bc_H} {r1 s1 r2 d2 n a b : Int} (ne : a ≠ r2) : bc_blk h r1 s1 r2 d2 n a b = h a b := congrFun (bc_br ne) b
def bs_cpy (h h' : bc_H) (c c0 : Int) : Prop :=
  (∀ x y, ¬ (c ≤ x ∧ x < c + 20) → h' x y = h x y) ∧
  (∀ y, (y = 0 ∨ y = 1 ∨ y = 2 ∨ y = 3 ∨ y = 11) → h' c y = h c0 y) ∧
  (h' (c + 1) 0 = h (c0 + 1) 0 ∧ h' (c + 3) 0 = h (c0 + 3) 0 ∧ h' (c + 8) 0 = h (c0 + 8) 0) ∧
  (∀ y, 0 ≤ y → y < 25 → h' (c + 1 + 1) y = h (c0 + 1 + 1) y) ∧
  (∀ y, 0 ≤ y → y < 7 → h' (c + 3 + 1) y = h (c0 + 3 + 1) y ∧ h' (c + 3 + 2) y = h (c0 + 3 + 2) y) ∧
  (∀ y, 0 ≤ y → y < 49 → h' (c + 3 + 3) y = h (c0 + 3 + 3) y ∧ h' (c + 3 + 4) y = h (c0 + 3 + 4) y) ∧
  (∀ y, 0 ≤ y → y < 8 → h' (c + 8 + 1) y = h (c0 + 8 + 1) y ∧ h' (c + 8 + 2) y = h (c0 + 8 + 2) y ∧ h' (c + 8 + 3) y = h (c0 + 8 + 3) y ∧ h' (c + 8 + 4) y = h (c0 + 8 + 4) y) ∧
  (∀ y, 0 ≤ y → y < 6 → h' (c + 13) y = h (c0 + 13) y ∧ h' (c + 14) y = h (c0 + 14) y ∧ h' (c + 15) y = h (c0 + 15) y) ∧
  (∀ y, 0 ≤ y → y < 30 → h' (c + 16) y = h (c0 + 16) y) ∧
  (∀ y, 0 ≤ y → y < 26 → h' (c + 17) y = h (c0 + 17) y ∧ h' (c + 18) y = h (c0 + 18) y ∧ h' (c + 19) y = h (c0 + 19) y)
theorem bc_c_copyOf {d : Nat} {c c0 : Int} {h : bc_H} {K : bc_H → Prop} (hd : c + 20 ≤ c0 ∨ c0 + 20 ≤ c) (hK : ∀ h', bs_cpy h h' c c0 → K h') : bf_Cave_copyOf (d + 1) c c0 h (bc_U K) := by
  refine rv_Cave_copyOf (fun h1 e1 => ?_)
  refine rv_Beasts_copyOf ?_
  refine rv_Walls_copyOf (fun h3 e3 => ?_)
  refine rv_Figures_copyOf (fun h5 e5 => ?_)
  intro h7 e7 h9 e9
  simp (disch := omega) only [bc_ur, bc_uj, bc_uu, bc_brp] at e1 e3 e5 e7 e9
  refine hK _ ⟨fun x y q => ?_, fun y q => ?_, ⟨?_, ?_, ?_⟩, fun y y0 y1 => ?_, fun y y0 y1 => ⟨?_, ?_⟩, fun y y0 y1 => ⟨?_, ?_⟩, fun y y0 y1 => ⟨?_, ?_, ?_, ?_⟩, fun y y0 y1 => ⟨?_, ?_, ?_⟩, fun y y0 y1 => ?_, fun y y0 y1 => ⟨?_, ?_, ?_⟩⟩
  · rw [e9, e7, e5, e3, e1]
    simp (disch := omega) only [bc_ur, bc_brp]
  · rw [e9, e7, e5, e3, e1]
    rcases q with rfl | rfl | rfl | rfl | rfl <;> simp (disch := omega) only [bc_ur, bc_uj, bc_uu, bc_brp]
  all_goals (rw [e9, e7, e5, e3, e1]; simp (disch := omega) only [bc_ur, bc_uj, bc_uu, bc_brp, bc_bi, Int.sub_zero, Int.zero_add])
theorem bs_C_cpy {h h' : bc_H} {c c0 : Int} {A : Int → Int} (hW : bs_W A) (hp : bs_cpy h h' c c0) (hC : bs_C h c0 A) : bs_C h' c A := by
  obtain ⟨p0, p1, ⟨p2, p3, p4⟩, p5, p6, p7, p8, p9, p10, p11⟩ := hp
  obtain ⟨⟨n4, n5, n6, n2, n0, n1, n3⟩, hw, hd, hg, hf, hm⟩ := id hC
  obtain ⟨⟨w0, w1, w2, w3, w4, w5, w7⟩, hww, hwy, hwv, hwf, hwg⟩ := id hW
  refine ⟨⟨by rw [p1 0 (by omega)]; exact n4, by rw [p1 1 (by omega)]; exact n5, by rw [p1 2 (by omega)]; exact n6, by rw [p1 3 (by omega)]; exact n2, by rw [p2]; exact n0, by rw [p3]; exact n1, by rw [p4]; exact n3⟩, fun w u0 u1 => ?_, fun a b a0 a1 b0 b1 => ?_, fun a b a0 a1 b0 b1 => ?_, fun f u0 u1 => ?_, fun v u0 u1 => ?_⟩
  · rw [(p6 w u0 (by omega)).1, (p6 w u0 (by omega)).2]; exact hw w u0 u1
  · rw [(p7 _ (by omega) (by omega)).1, (p7 _ (by omega) (by omega)).2]; exact hd a b a0 a1 b0 b1
  · rw [p5 _ (by omega) (by omega)]; exact hg a b a0 a1 b0 b1
  · rw [(p8 f u0 (by omega)).1, (p8 f u0 (by omega)).2.1, (p8 f u0 (by omega)).2.2.1, (p8 f u0 (by omega)).2.2.2]; exact hf f u0 u1
  · rw [(p9 v u0 (by omega)).1, (p9 v u0 (by omega)).2.1, (p9 v u0 (by omega)).2.2]
    have g := hm v u0 u1
    exact ⟨g.1, g.2.1, g.2.2.1, fun b b0 b5 => by rw [p10 _ (by omega) (by omega)]; exact g.2.2.2 b b0 b5⟩
/-- the spare cave alone has changed -/
theorem bs_F_spare {s q : Int} {h h' : bc_H} (hF : ∀ x y, ¬ (s ≤ x ∧ x < s + 20) → h' x y = h x y) (hs : 24 ≤ s ∧ s ≤ 44) : bs_F s q h h' := fun a b k => by
  refine hF a b ?_
  intro z
  unfold bs_keep at k
  omega
theorem bs_o_freeIn {d : Nat} {S : Int → Int} {L c s p q : Int} {h : bc_H} (hR : bs_R S L c s p q h) {P : Int → Int → bc_H → Prop} {Q1 : Int → bc_H → Prop} (hQ : ∀ y h1, h1 (-2) = h (-2) → h1 (-3) = h (-3) → bf_M_freeIn (d + 11) h1 (bc_I fun y2 h2 => P y y2 h2) → Q1 y h1) (hK : ∀ y h2, bs_R S L c s p q h2 → P y y h2) : bf_X_freeIn (d + 11) h (bc_I Q1) := by
  obtain ⟨⟨hcs, hpq⟩, ⟨e12, e13, e14, e15⟩, hS, est, efr, htr, htp, hfa, hlv, hlo, hrs, hmk, ⟨hC, hW, hck, hN, hP⟩⟩ := id hR
  obtain ⟨⟨n4, n5, n6, n2, n0, n1, n3⟩, hw, hd, hg, hf, hm⟩ := id hC
  obtain ⟨⟨w0, w1, w2, w3, w4, w5, w7⟩, hww, hwy, hwv, hwf, hwg⟩ := id hW
  have hWB := bs_W_B hW
  have eB2 : bs_B (h 157) 2 = h 157 2 := bs_B_n (by omega)
  refine rv_X_freeIn (d := d + 10) ?_
  rw [e12, e13]
  refine ⟨by omega, by omega, ?_⟩
  refine bc_c_copyOf (d := d + 9) (by omega) (fun h1 hp => ?_)
  have hC1 := bs_C_cpy hWB hp (bs_C_B hW hC)
  have p2 : ∀ t, 0 ≤ t → bs_passN (bs_B (h 157)) t 2 = h 157 2 := fun t t0 => by rw [(bs_passN_p hWB t0).2.2.1 2 (by decide) (by decide) (by decide), eB2]
  have ref : ∀ v y t0 (m : bc_H), (∀ x y, ¬ (s ≤ x ∧ x < s + 20) → m x y = h x y) → 0 ≤ t0 → t0 ≤ 200 → (∀ u, 0 ≤ u → u < t0 → ¬ bs_bset (bs_turned (bs_passN (bs_B (h 157)) u)) (h 157 2) = 0) → (bs_bset (bs_turned (bs_passN (bs_B (h 157)) t0)) (h 157 2) = 0 → v = 0 ∧ y = t0) → (¬ bs_bset (bs_turned (bs_passN (bs_B (h 157)) t0)) (h 157 2) = 0 → t0 = 200 ∧ v = 6 ∧ y = -1) → bf_M_freeIn (d + 11) (bc_upd m 0 0 v) (bc_I fun y2 h2 => P y y2 h2) := by
    intro v y t0 m hm' u0 u1 u2 g1 g2
    have e1571 : bc_upd m 0 0 v 157 = h 157 := by rw [bc_urow (by decide)]; exact funext fun y => hm' _ _ (by omega)
    have fin : ∀ w t, 0 ≤ t → bs_R S L c s p q (bc_upd (bc_row (bc_upd m 0 0 w) 157 (bs_rs (bs_passN (bs_B (h 157)) t) 2640 160)) 156 2 w) := fun w t tt => bs_R_row hR (fun x y k => by
      have kf := bs_kf k
      rw [bc_un2 kf.1]
      exact bs_F_spare hm' (by omega) x y k) (bc_uu _ _ _ _) (bs_passB hW tt)
    refine rv_M_freeIn (d := d + 10) ?_
    rw [← bc_rself (bc_upd m 0 0 v) 157, e1571]
    refine bc_m_keepsB ?_
    refine bc_lup (P := fun i => bl_M_freeIn_5 (d + 11) i (bc_row (bc_upd m 0 0 v) 157 (bs_passN (bs_B (h 157)) i)) (bc_I fun y2 h2 => P y y2 h2)) (n := t0) ?_ (fun i i0 hi ih => ?_) (Int.le_refl 0) u0
    · have hpp := bs_passN_p hWB u0
      have trn : ∀ (KK : Int → bc_H → Prop), KK (bs_bset (bs_turned (bs_passN (bs_B (h 157)) t0)) (h 157 2)) (bc_row (bc_upd m 0 0 v) 157 (bs_passN (bs_B (h 157)) t0)) → bf_M_visitorsThat (d + 10) 0 (bc_row (bc_upd m 0 0 v) 157 (bs_passN (bs_B (h 157)) t0)) (bc_I KK) := fun KK kk => by
        refine bc_m_visitorsThat0 (d := d + 5) (bs_rr _ _ _) hpp.1 ?_
        rw [p2 t0 u0]; exact kk
      refine rv_M_freeIn_5 (d := d + 10) ⟨fun z => ?_, fun z => ?_⟩
      · refine trn _ ⟨fun q => ?_, fun q => ?_⟩
        · obtain ⟨rfl, rfl⟩ := g1 q
          exact bc_m_restores (by decide) (by decide) (hK _ _ (fin _ _ u0))
        · obtain ⟨_, rfl, rfl⟩ := g2 q
          exact bc_m_restores (by decide) (by decide) (hK _ _ (fin _ _ u0))
      · refine trn _ ⟨fun q => ?_, fun q => absurd (g2 q).1 (by omega)⟩
        refine trn _ ⟨fun q => ?_, fun q' => absurd q q'⟩
        obtain ⟨rfl, rfl⟩ := g1 q
        exact bc_m_restores (by decide) (by decide) (hK _ _ (fin _ _ u0))
    · have hpp := bs_passN_p hWB i0
      refine rv_M_freeIn_5 (d := d + 10) ⟨fun q => absurd q (by omega), fun _ => ?_⟩
      refine bc_m_visitorsThat0 (d := d + 5) (bs_rr _ _ _) hpp.1 ?_
      rw [p2 i i0]
      refine ⟨fun q => absurd q (u2 i i0 hi), fun _ => ?_⟩
      refine bc_m_minuteGoes (d := d + 4) hpp.1 (by rw [hpp.2.1, bs_B_n (by omega)]; omega) ?_
      rw [bc_wi (by omega) (by omega), ← bs_passN_s _ i0]
      exact ih
  refine (bc_lup (P := fun t => ∀ m, (∀ x y, ¬ (s ≤ x ∧ x < s + 20) → m x y = h x y) → bs_C m s (bs_passN (bs_B (h 157)) t) → (∀ u, 0 ≤ u → u < t → ¬ bs_bset (bs_turned (bs_passN (bs_B (h 157)) u)) (h 157 2) = 0) → bl_X_freeIn_7 (d + 11) t m (bc_I Q1)) (n := 201) (fun m hm' hCm hn => ?_) (fun t t0 t1 ih m hm' hCm hn => ?_) (Int.le_refl 0) (by decide)) h1 hp.1 hC1 (fun u u0 u1 => absurd u1 (by omega))
  · refine rv_X_freeIn_7 (d := d + 10) ⟨fun _ => ?_, fun q => absurd q (by decide)⟩
    refine hQ _ _ (by rw [bc_urow (by decide)]; exact funext fun y => hm' _ _ (by omega)) (by rw [bc_urow (by decide)]; exact funext fun y => hm' _ _ (by omega)) ?_
    exact ref _ _ 200 m hm' (by decide) (by decide) (fun u u0 u1 => hn u u0 (by omega)) (fun q => absurd q (hn 200 (by decide) (by decide))) (fun _ => ⟨rfl, rfl, rfl⟩)
  · have hpp := bs_passN_p hWB t0
    refine rv_X_freeIn_7 (d := d + 10) ⟨fun q => absurd q (by omega), fun _ => ?_⟩
    rw [hm' 0 13 (by omega), e13]
    refine ⟨by omega, ?_⟩
    refine bc_c_turnedOnes (d := d + 8) hCm.2.2.2.2.2 hCm.1.2.2.2.1 (by rw [p2 t t0]; omega) (by rw [p2 t t0]; omega) ?_
    rw [p2 t t0]
    refine ⟨fun z => ?_, fun z => ?_⟩
    · rw [hm' 0 13 (by omega), e13]
      refine ⟨by omega, ?_⟩
      refine bc_c_passMinute (d := d + 8) hCm hpp.1 (by rw [hpp.2.1, bs_B_n (by omega)]; omega) (fun m2 hv hC2 => ?_)
      rw [bc_wi (by omega) (by omega)]
      rw [← bs_passN_s _ t0] at hC2
      refine ih m2 (fun x y q => ?_) hC2 (fun u u0 u1 => ?_)
      · rw [hv.1 x (by omega) (by omega) (by omega) (by omega) (by omega)]; exact hm' x y q
      · by_cases e : u = t
        · rw [e]; exact z
        · exact hn u u0 (by omega)
    · refine hQ _ _ (by rw [bc_urow (by decide)]; exact funext fun y => hm' _ _ (by omega)) (by rw [bc_urow (by decide)]; exact funext fun y => hm' _ _ (by omega)) ?_
      exact ref _ _ t m hm' t0 (by omega) hn (fun _ => ⟨rfl, rfl⟩) (fun q => absurd z q)
