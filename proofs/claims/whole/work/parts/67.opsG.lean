theorem bc_m_keepsB {d : Nat} {h : bc_H} {A : Int → Int} {K : bc_H → Prop} (hK : K (bc_row h 157 (bs_B A))) : bf_M_keeps d 2640 (bc_row h 157 A) (bc_U K) := bc_m_keeps (by decide) (by decide) hK
theorem bs_passB {A : Int → Int} (hW : bs_W A) {n : Int} (hn : 0 ≤ n) : ∀ k, k < 2112 → bs_rs (bs_passN (bs_B A) n) 2640 160 k = A k := by
  have hp := bs_passN_p (bs_W_B hW) hn
  have w2 := hW.1.2.2.1
  have e2 : bs_B A 2 = A 2 := bs_B_n (by omega)
  exact bs_back (fun k hk => hp.2.2.2 k (by rw [e2]; omega)) (fun k hk => by rw [hp.2.2.1 k (by omega) (by omega) (by omega)]; exact bs_B_n (by omega))
theorem bs_nk0 {s q a b : Int} {h h1 : bc_H} {v : Int} (f1 : ∀ x, x ≠ 15 → x ≠ 16 → x ≠ 17 → h1 x = h x) (k : bs_keep s q a b) : bc_upd h1 0 0 v a b = h a b := by
  have kf := bs_kf k
  have n15 : a ≠ 15 ∧ a ≠ 16 ∧ a ≠ 17 := by
    refine ⟨?_, ?_, ?_⟩ <;> (intro e; subst e; exact absurd k (bs_nk (by omega)))
  rw [bc_un2 kf.1, f1 a n15.1 n15.2.1 n15.2.2]
theorem bs_o_measureIn {d : Nat} {a b n : Int} {S : Int → Int} {L c s p q : Int} {h : bc_H} (hR : bs_R S L c s p q h) {P : Int → Int → bc_H → Prop} {Q1 : Int → bc_H → Prop} (hQ : ∀ y h1, h1 (-2) = h (-2) → h1 (-3) = h (-3) → bf_M_measureIn (d + 11) a b n h1 (bc_I fun y2 h2 => P y y2 h2) → Q1 y h1) (hK : ∀ y h2, bs_R S L c s p q h2 → P y y h2) : bf_X_measureIn (d + 11) a b n h (bc_I Q1) := by
  obtain ⟨⟨hcs, hpq⟩, ⟨e12, e13, e14, e15⟩, hS, est, efr, htr, htp, hfa, hlv, hlo, hrs, hmk, ⟨hC, hW, hck, hN, hP⟩⟩ := id hR
  obtain ⟨⟨n4, n5, n6, n2, n0, n1, n3⟩, hw, hd, hg, hf, hm⟩ := id hC
  obtain ⟨⟨w0, w1, w2, w3, w4, w5, w7⟩, hww, hwy, hwv, hwf, hwg⟩ := id hW
  have hq : ∀ y v, P y y (bc_upd (bc_upd h 0 0 v) 156 2 v) := fun y v => hK _ _ (bs_R_st hR v)
  have e157 : ∀ v, bc_upd h 0 0 v 157 = h 157 := fun v => bc_urow (by decide)
  have bad : ¬ ((0 ≤ a ∧ a < h 157 2) ∧ (0 ≤ b ∧ b < h 157 0) ∧ 0 ≤ n ∧ n ≤ 200) → Q1 (-1) (bc_upd h 0 0 1) := fun z => by
    refine hQ _ _ (by first | rfl | exact bc_urow (by decide)) (by first | rfl | exact bc_urow (by decide)) ?_
    refine rv_M_measureIn (d := d + 9) ?_
    rw [e157]
    exact ⟨fun z1 => ⟨fun z2 => ⟨fun z3 => absurd ⟨z1, z2, z3⟩ z, fun _ => hq _ _⟩, fun _ => hq _ _⟩, fun _ => hq _ _⟩
  refine rv_X_measureIn (d := d + 9) ?_
  rw [e12, n0, n2, bc_wi (x := h 157 2 - 1) (by omega) (by omega), bc_wi (x := h 157 0 - 1) (by omega) (by omega)]
  refine ⟨by omega, fun za => ⟨by omega, fun zb => ⟨fun zn => ⟨by omega, ?_⟩, fun z => bad (by omega)⟩, fun z => bad (by omega)⟩, fun z => bad (by omega)⟩
  have eB2 : bs_B (h 157) 2 = h 157 2 := bs_B_n (by omega)
  refine bc_c_watch (d := d + 9) (by omega) (bs_C_B hW hC) (bs_W_B hW) za.1 (by rw [eB2]; omega) zn.1 zn.2 (fun h1 f1 f2 f3 => ⟨by omega, ?_⟩)
  rw [f2 b zb.1 (by omega)]
  refine hQ _ _ (by rw [bc_urow (by decide), f1 _ (by decide) (by decide) (by decide)]) (by rw [bc_urow (by decide), f1 _ (by decide) (by decide) (by decide)]) ?_
  have e1571 : bc_upd h1 0 0 0 157 = h 157 := by rw [bc_urow (by decide), f1 _ (by decide) (by decide) (by decide)]
  refine rv_M_measureIn (d := d + 9) ?_
  rw [e1571]
  refine ⟨fun _ => ⟨fun _ => ⟨fun _ => ?_, fun q => absurd zn q⟩, fun q => absurd (by omega) q⟩, fun q => absurd (by omega) q⟩
  rw [← bc_rself (bc_upd h1 0 0 0) 157, e1571]
  refine bc_m_keepsB ?_
  refine bc_m_minutesGo (d := d + 3) (bs_W_B hW) (by rw [bs_B_n (by omega)]; omega) zn.1 (by omega) ?_
  simp (disch := omega) only [bc_wi, Int.add_zero]
  rw [bs_rr]
  refine ⟨by omega, bc_m_restores (by decide) (by decide) ?_⟩
  exact hK _ _ (bs_R_row hR (fun x y k => bs_nk0 f1 k) (bc_uu _ _ _ _) (bs_passB hW zn.1))
theorem bs_o_whoIn {d : Nat} {a n : Int} {S : Int → Int} {L c s p q : Int} {h : bc_H} (hR : bs_R S L c s p q h) {P : Int → Int → bc_H → Prop} {Q1 : Int → bc_H → Prop} (hQ : ∀ y h1, h1 (-2) = h (-2) → h1 (-3) = h (-3) → bf_M_whoIn (d + 11) a n h1 (bc_I fun y2 h2 => P y y2 h2) → Q1 y h1) (hK : ∀ y h2, bs_R S L c s p q h2 → P y y h2) : bf_X_whoIn (d + 11) a n h (bc_I Q1) := by
  obtain ⟨⟨hcs, hpq⟩, ⟨e12, e13, e14, e15⟩, hS, est, efr, htr, htp, hfa, hlv, hlo, hrs, hmk, ⟨hC, hW, hck, hN, hP⟩⟩ := id hR
  obtain ⟨⟨n4, n5, n6, n2, n0, n1, n3⟩, hw, hd, hg, hf, hm⟩ := id hC
  obtain ⟨⟨w0, w1, w2, w3, w4, w5, w7⟩, hww, hwy, hwv, hwf, hwg⟩ := id hW
  have hq : ∀ y v, P y y (bc_upd (bc_upd h 0 0 v) 156 2 v) := fun y v => hK _ _ (bs_R_st hR v)
  have e157 : ∀ v, bc_upd h 0 0 v 157 = h 157 := fun v => bc_urow (by decide)
  have bad : ¬ ((0 ≤ a ∧ a < h 157 2) ∧ 0 ≤ n ∧ n ≤ 200) → Q1 (-1) (bc_upd h 0 0 1) := fun z => by
    refine hQ _ _ (by first | rfl | exact bc_urow (by decide)) (by first | rfl | exact bc_urow (by decide)) ?_
    refine rv_M_whoIn (d := d + 9) ?_
    rw [e157]
    exact ⟨fun z1 => ⟨fun z2 => absurd ⟨z1, z2⟩ z, fun _ => hq _ _⟩, fun _ => hq _ _⟩
  refine rv_X_whoIn (d := d + 9) ?_
  rw [e12, n2, bc_wi (x := h 157 2 - 1) (by omega) (by omega)]
  refine ⟨by omega, fun za => ⟨fun zn => ⟨by omega, ?_⟩, fun z => bad (by omega)⟩, fun z => bad (by omega)⟩
  have eB2 : bs_B (h 157) 2 = h 157 2 := bs_B_n (by omega)
  have hWB := bs_W_B hW
  refine bc_c_watch (d := d + 9) (by omega) (bs_C_B hW hC) hWB za.1 (by rw [eB2]; omega) zn.1 zn.2 (fun h1 f1 f2 f3 => ?_)
  have pv := bs_passN_v hWB za.1 (by rw [eB2]; omega) zn.1
  have hp := bs_passN_p hWB zn.1
  have hp2 := hp.2.2.1 2 (by decide) (by decide) (by decide)
  rw [f1 0 (by decide) (by decide) (by decide), e12, f1 (c + 13) (by omega) (by omega) (by omega), (hm a za.1 (by omega)).1, (f3 n zn.1 (Int.le_refl _)).1, (f3 n zn.1 (Int.le_refl _)).2]
  have es : bs_B (h 157) (54 + 8 * a) = h 157 (54 + 8 * a) := bs_B_n (by omega)
  have ref : ∀ v y, (bs_turned (bs_passN (bs_B (h 157)) n) a → v = 0 ∧ y = bs_fm (bs_mf (bs_B (h 157)) a n)) → (¬ bs_turned (bs_passN (bs_B (h 157)) n) a → v = 6 ∧ y = -1) → bf_M_whoIn (d + 11) a n (bc_upd h1 0 0 v) (bc_I fun y2 h2 => P y y2 h2) := fun v y g1 g2 => by
    have e1571 : bc_upd h1 0 0 v 157 = h 157 := by rw [bc_urow (by decide), f1 _ (by decide) (by decide) (by decide)]
    refine rv_M_whoIn (d := d + 9) ?_
    rw [e1571]
    refine ⟨fun _ => ⟨fun _ => ?_, fun q => absurd zn q⟩, fun q => absurd (by omega) q⟩
    rw [← bc_rself (bc_upd h1 0 0 v) 157, e1571]
    refine bc_m_keepsB ?_
    refine bc_m_minutesGo (d := d + 3) hWB (by rw [bs_B_n (by omega)]; omega) zn.1 (by omega) ?_
    have fin : ∀ w, bs_R S L c s p q (bc_upd (bc_row (bc_upd h1 0 0 w) 157 (bs_rs (bs_passN (bs_B (h 157)) n) 2640 160)) 156 2 w) := fun w => bs_R_row hR (fun x y k => bs_nk0 f1 k) (bc_uu _ _ _ _) (bs_passB hW zn.1)
    refine bc_m_whoIs (d := d + 5) (bs_rr _ _ _) hp.1 za.1 (by rw [hp2, eB2]; omega) (fun ht => ?_) (fun ht => ?_)
    · obtain ⟨rfl, rfl⟩ := g1 ht
      refine bc_m_restores (by decide) (by decide) ⟨fun _ => hK _ _ (fin _), fun z => ?_⟩
      have := (bs_fmN_p (bs_mf (bs_B (h 157)) a n) (n := 5) (by omega)).1
      have z : bs_fmN (bs_mf (bs_B (h 157)) a n) 5 = -1 := z
      omega
    · obtain ⟨rfl, rfl⟩ := g2 ht
      exact bc_m_restores (by decide) (by decide) ⟨fun z => absurd rfl z, fun _ => hK _ _ (fin _)⟩
  have f2' : ∀ v, bc_upd h1 0 0 v (-2) = h (-2) ∧ bc_upd h1 0 0 v (-3) = h (-3) := fun v => ⟨by rw [bc_urow (by decide), f1 _ (by decide) (by decide) (by decide)], by rw [bc_urow (by decide), f1 _ (by decide) (by decide) (by decide)]⟩
  refine ⟨by omega, by omega, by omega, fun z => ⟨by omega, ?_⟩, fun z => ?_⟩
  · have ht : bs_turned (bs_passN (bs_B (h 157)) n) a := by unfold bs_turned; rw [pv.1, es]; exact z
    exact hQ _ _ (f2' 0).1 (f2' 0).2 (ref _ _ (fun _ => ⟨rfl, rfl⟩) (fun q => absurd ht q))
  · have ht : ¬ bs_turned (bs_passN (bs_B (h 157)) n) a := by unfold bs_turned; rw [pv.1, es]; omega
    exact hQ _ _ (f2' 6).1 (f2' 6).2 (ref _ _ (fun q => absurd q ht) (fun _ => ⟨rfl, rfl⟩))
theorem bs_o_turnIn {d : Nat} {a : Int} {S : Int → Int} {L c s p q : Int} {h : bc_H} (hR : bs_R S L c s p q h) {P : Int → Int → bc_H → Prop} {Q1 : Int → bc_H → Prop} (hQ : ∀ y h1, h1 (-2) = h (-2) → h1 (-3) = h (-3) → bf_M_turnIn (d + 11) a h1 (bc_I fun y2 h2 => P y y2 h2) → Q1 y h1) (hK : ∀ y h2, bs_R S L c s p q h2 → P y y h2) : bf_X_turnIn (d + 11) a h (bc_I Q1) := by
  obtain ⟨⟨hcs, hpq⟩, ⟨e12, e13, e14, e15⟩, hS, est, efr, htr, htp, hfa, hlv, hlo, hrs, hmk, ⟨hC, hW, hck, hN, hP⟩⟩ := id hR
  obtain ⟨⟨n4, n5, n6, n2, n0, n1, n3⟩, hw, hd, hg, hf, hm⟩ := id hC
  obtain ⟨⟨w0, w1, w2, w3, w4, w5, w7⟩, hww, hwy, hwv, hwf, hwg⟩ := id hW
  have hq : ∀ y v, P y y (bc_upd (bc_upd h 0 0 v) 156 2 v) := fun y v => hK _ _ (bs_R_st hR v)
  have e157 : ∀ v, bc_upd h 0 0 v 157 = h 157 := fun v => bc_urow (by decide)
  refine rv_X_turnIn (d := d + 9) ?_
  rw [e12, n2, bc_wi (x := h 157 2 - 1) (by omega) (by omega)]
  refine ⟨by omega, fun za => ⟨by omega, ?_⟩, fun za => ?_⟩
  · have eB2 : bs_B (h 157) 2 = h 157 2 := bs_B_n (by omega)
    have hWB := bs_W_B hW
    refine bc_c_watch (d := d + 9) (by omega) (bs_C_B hW hC) hWB za.1 (by rw [eB2]; omega) (by decide) (by decide) (fun h1 f1 f2 f3 => ?_)
    have es : bs_B (h 157) (54 + 8 * a) = h 157 (54 + 8 * a) := bs_B_n (by omega)
    have ht : ∀ t, 0 ≤ t → (bs_turned (bs_passN (bs_B (h 157)) t) a ↔ h 157 (54 + 8 * a) < bs_most (bs_passN (bs_B (h 157)) t) a) := fun t t0 => by
      unfold bs_turned
      rw [(bs_passN_v hWB za.1 (by rw [eB2]; omega) t0).1, es]
    have f2' : ∀ v, bc_upd h1 0 0 v (-2) = h (-2) ∧ bc_upd h1 0 0 v (-3) = h (-3) := fun v => ⟨by rw [bc_urow (by decide), f1 _ (by decide) (by decide) (by decide)], by rw [bc_urow (by decide), f1 _ (by decide) (by decide) (by decide)]⟩
    -- the reference, when the first is known
    have ref : ∀ v y t0, 0 ≤ t0 → t0 ≤ 200 → (∀ u, 0 ≤ u → u < t0 → ¬ bs_turned (bs_passN (bs_B (h 157)) u) a) → (bs_turned (bs_passN (bs_B (h 157)) t0) a → v = 0 ∧ y = t0) → (¬ bs_turned (bs_passN (bs_B (h 157)) t0) a → t0 = 200 ∧ v = 6 ∧ y = -1) → bf_M_turnIn (d + 11) a (bc_upd h1 0 0 v) (bc_I fun y2 h2 => P y y2 h2) := by
      intro v y t0 p0 p1 p2 g1 g2
      have e1571 : bc_upd h1 0 0 v 157 = h 157 := by rw [bc_urow (by decide), f1 _ (by decide) (by decide) (by decide)]
      have fin : ∀ w t, 0 ≤ t → bs_R S L c s p q (bc_upd (bc_row (bc_upd h1 0 0 w) 157 (bs_rs (bs_passN (bs_B (h 157)) t) 2640 160)) 156 2 w) := fun w t tt => bs_R_row hR (fun x y k => bs_nk0 f1 k) (bc_uu _ _ _ _) (bs_passB hW tt)
      refine rv_M_turnIn (d := d + 10) ?_
      rw [e1571]
      refine ⟨fun _ => ?_, fun q => absurd (by omega) q⟩
      rw [← bc_rself (bc_upd h1 0 0 v) 157, e1571]
      refine bc_m_keepsB ?_
      refine bc_lup (P := fun i => bl_M_turnIn_13 (d + 11) a i (bc_row (bc_upd h1 0 0 v) 157 (bs_passN (bs_B (h 157)) i)) (bc_I fun y2 h2 => P y y2 h2)) (n := t0) ?_ (fun i i0 hi ih => ?_) (Int.le_refl 0) p0
      · have hp := bs_passN_p hWB p0
        have hp2 := hp.2.2.1 2 (by decide) (by decide) (by decide)
        have trn : ∀ (PP NN : bc_H → Prop), (bs_turned (bs_passN (bs_B (h 157)) t0) a → PP (bc_row (bc_upd h1 0 0 v) 157 (bs_passN (bs_B (h 157)) t0))) → (¬ bs_turned (bs_passN (bs_B (h 157)) t0) a → NN (bc_row (bc_upd h1 0 0 v) 157 (bs_passN (bs_B (h 157)) t0))) → bf_M_isTurned (d + 10) a (bc_row (bc_upd h1 0 0 v) 157 (bs_passN (bs_B (h 157)) t0)) (bc_B PP NN) := fun PP NN k1 k2 => bc_m_isTurned (d := d + 6) (bs_rr _ _ _) hp.1 za.1 (by rw [hp2, eB2]; omega) k1 k2
        refine rv_M_turnIn_13 (d := d + 10) ⟨fun z => ?_, fun z => ?_⟩
        · refine trn _ _ (fun q => ?_) (fun q => ?_)
          · obtain ⟨rfl, rfl⟩ := g1 q
            exact bc_m_restores (by decide) (by decide) (hK _ _ (fin _ _ p0))
          · obtain ⟨_, rfl, rfl⟩ := g2 q
            exact bc_m_restores (by decide) (by decide) (hK _ _ (fin _ _ p0))
        · refine trn _ _ (fun q => ?_) (fun q => absurd (g2 q).1 (by omega))
          refine trn _ _ (fun q => ?_) (fun q' => absurd q q')
          obtain ⟨rfl, rfl⟩ := g1 q
          exact bc_m_restores (by decide) (by decide) (hK _ _ (fin _ _ p0))
      · have hp := bs_passN_p hWB i0
        have hp2 := hp.2.2.1 2 (by decide) (by decide) (by decide)
        refine rv_M_turnIn_13 (d := d + 10) ⟨fun q => absurd q (by omega), fun _ => ?_⟩
        refine bc_m_isTurned (d := d + 6) (bs_rr _ _ _) hp.1 za.1 (by rw [hp2, eB2]; omega) (fun q => absurd q (p2 i i0 hi)) (fun _ => ?_)
        refine bc_m_minuteGoes (d := d + 4) hp.1 (by rw [hp.2.1, bs_B_n (by omega)]; omega) ?_
        rw [bc_wi (by omega) (by omega), ← bs_passN_s _ i0]
        exact ih
    refine (bc_lup (P := fun t => (∀ u, 0 ≤ u → u < t → ¬ bs_turned (bs_passN (bs_B (h 157)) u) a) → bl_X_turnIn_17 (d + 11) a t h1 (bc_I Q1)) (n := 201) (fun hn => ?_) (fun t t0 t1 ih hn => ?_) (Int.le_refl 0) (by decide)) (fun u u0 u1 => absurd u1 (by omega))
    · refine rv_X_turnIn_17 (d := d + 9) ⟨fun _ => ?_, fun q => absurd q (by decide)⟩
      exact hQ _ _ (f2' 6).1 (f2' 6).2 (ref _ _ 200 (by decide) (by decide) (fun u u0 u1 => hn u u0 (by omega)) (fun q => absurd q (hn 200 (by decide) (by decide))) (fun _ => ⟨rfl, rfl, rfl⟩))
    · refine rv_X_turnIn_17 (d := d + 9) ⟨fun q => absurd q (by omega), fun _ => ?_⟩
      rw [f1 0 (by decide) (by decide) (by decide), e12, f1 (c + 13) (by omega) (by omega) (by omega), (hm a za.1 (by omega)).1, (f3 t t0 (by omega)).1]
      refine ⟨by omega, by omega, by omega, fun z => ?_, fun z => ?_⟩
      · rw [bc_wi (by omega) (by omega)]
        refine ih (fun u u0 u1 => ?_)
        by_cases e : u = t
        · rw [e, ht t t0]; omega
        · exact hn u u0 (by omega)
      · exact hQ _ _ (f2' 0).1 (f2' 0).2 (ref _ _ t t0 (by omega) hn (fun _ => ⟨rfl, rfl⟩) (fun q => absurd ((ht t t0).mpr z) q))
  · refine hQ _ _ (by first | rfl | exact bc_urow (by decide)) (by first | rfl | exact bc_urow (by decide)) ?_
    refine rv_M_turnIn (d := d + 10) ?_
    rw [e157]
    exact ⟨fun q => absurd q (by omega), fun _ => hq _ _⟩
