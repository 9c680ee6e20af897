/-! ===== how long it is safe to look ===== -/
def bs_sq (A : Int → Int) (v w : Int) : Int := (A (54 + 8 * v) - A (54 + 8 * v + (3 + A (10 + 2 * w)))) / A (10 + 2 * w + 1)
theorem bs_most_ge {A : Int → Int} {v b : Int} (b0 : 0 ≤ b) (b5 : b < 5) : A (54 + 8 * v + (3 + b)) ≤ bs_most A v := (bs_gr_p (fun b => A (54 + 8 * v + (3 + b)))).2.1 b b0 b5
theorem bs_gr_le {f : Int → Int} {m : Int} (h0 : 0 ≤ m) (h : ∀ b, 0 ≤ b → b < 5 → f b ≤ m) : bs_gr f ≤ m := by
  rcases (bs_gr_p f).2.2 with e | ⟨b, hb, e⟩
  · omega
  · have := h b hb.1 hb.2; omega
theorem bc_c_longestLook {d : Nat} {c v w : Int} {h : bc_H} {A : Int → Int} {K : Int → bc_H → Prop} (hc : 24 ≤ c ∧ c ≤ 130) (hC : bs_C h c A) (hW : bs_W A) (v0 : 0 ≤ v) (v1 : v < A 2) (u0 : 0 ≤ w) (u1 : w < A 1) (hne : A (10 + 2 * w) ≠ -1) (hK : ∀ h', (∀ x, x ≠ 15 → h' x = h x) → K (if bs_turned A v then 0 else bs_sq A v w) h') : bf_Ahead_longestLook (d + 3) c v w h (bc_I K) := by
  obtain ⟨⟨n4, n5, n6, n2, n0, n1, n3⟩, hw, hd, hg, hf, hm⟩ := id hC
  obtain ⟨⟨w0, w1, w2, w3, w4, w5, w7⟩, hww, hwy, hwv, hwf, hwg⟩ := id hW
  have fv := hm v v0 v1
  have qv := hwv v v0 v1
  have fw := hw w u0 u1
  have pw := hww w u0 u1
  have fw2 := fw.2 hne
  refine rv_Ahead_longestLook (d := d + 2) ?_
  refine bc_c_isTurned (d := d + 1) hm v0 v1 w2.2 (fun ht => ?_) (fun ht => ?_)
  · have := hK h (fun _ _ => rfl)
    rw [if_pos ht] at this
    exact this
  rw [if_neg ht] at hK
  have hb0 : 0 ≤ A (10 + 2 * w) ∧ A (10 + 2 * w) < 5 := by omega
  have hp1 : 1 ≤ A (10 + 2 * w + 1) := pw.2.1 hne
  have hm0 := (qv.2.2.2 _ hb0.1 hb0.2).1
  have hle : ∀ b, 0 ≤ b → b < 5 → A (54 + 8 * v + (3 + b)) ≤ A (54 + 8 * v) := fun b b0 b5 => by
    have t1 := bs_most_ge (A := A) (v := v) b0 b5
    have t2 : ¬ A (54 + 8 * v) < bs_most A v := ht
    omega
  have hd0 := hle _ hb0.1 hb0.2
  have hq1 : bs_sq A v w * A (10 + 2 * w + 1) ≤ A (54 + 8 * v) - A (54 + 8 * v + (3 + A (10 + 2 * w))) := Int.ediv_mul_le _ (by omega)
  have hq2 : A (54 + 8 * v) - A (54 + 8 * v + (3 + A (10 + 2 * w))) < (bs_sq A v w + 1) * A (10 + 2 * w + 1) := Int.lt_ediv_add_one_mul_self _ (by omega)
  have hq0 : 0 ≤ bs_sq A v w := Int.ediv_nonneg (by omega) (by omega)
  have hq6 : bs_sq A v w ≤ 60 := by
    have : bs_sq A v w ≤ A (54 + 8 * v) - A (54 + 8 * v + (3 + A (10 + 2 * w))) := Int.ediv_le_self _ (by omega)
    omega
  rw [Int.add_mul, Int.one_mul] at hq2
  have hqn : 0 ≤ bs_sq A v w * A (10 + 2 * w + 1) := Int.mul_nonneg hq0 (by omega)
  simp (disch := omega) only [bc_wi, Int.add_zero]
  refine bs_copyRow (n := 30) (m := 5) (by omega) (by omega) (by omega) (by omega) (fun h1 a1 a2 => ?_)
  refine (bc_lup (P := fun t => ∀ g, (∀ x, x ≠ 15 → g x = h x) → (∀ b, 0 ≤ b → b < 5 → b ≠ A (10 + 2 * w) → 0 ≤ g 15 b ∧ g 15 b ≤ A (54 + 8 * v)) → g 15 (A (10 + 2 * w)) = A (54 + 8 * v + (3 + A (10 + 2 * w))) + t * A (10 + 2 * w + 1) → bl_Ahead_longestLook_17 (d + 3) c v w t g (bc_I K)) (n := bs_sq A v w) (fun g b1 b2 b3 => ?_) (fun t t0 t1 ih g b1 b2 b3 => ?_) (Int.le_refl 0) hq0) h1 (fun x x1 => funext fun y => a1 x y (Or.inl x1)) (fun b b0 b5 _ => ?_) ?_
  · have hr : ∀ b, 0 ≤ b → b < 5 → 0 ≤ g 15 (0 + b) ∧ g 15 (0 + b) ≤ 99 := fun b b0 b5 => by
      rw [Int.zero_add]
      by_cases e : b = A (10 + 2 * w)
      · rw [e, b3]; omega
      · have := b2 b b0 b5 e; omega
    refine rv_Ahead_longestLook_17 (d := d + 2) ⟨fun q => absurd q (by omega), fun _ => ?_⟩
    rw [b1 _ (by omega), b1 _ (by omega), fw.1, fw2]
    refine ⟨by omega, by omega, ?_⟩
    refine bc_c_change (by omega) (by omega) (by omega) hr (Or.inl ⟨by omega, by omega⟩) ?_
    refine bc_c_greatest (by omega) (by omega) (by omega) ?_
    rw [bs_chr_n (by omega), b1 _ (by omega), fv.1]
    have t1 := (bs_gr_p (fun b => bs_chr g 15 0 (A (10 + 2 * w)) (A (10 + 2 * w + 1)) 5 15 (0 + b))).2.1 (A (10 + 2 * w)) hb0.1 hb0.2
    rw [bs_chr_y hb0.1 hb0.2, Int.zero_add, b3] at t1
    unfold bs_chg bs_up at t1
    rw [if_pos rfl] at t1
    refine ⟨by omega, fun q => ?_, fun _ => hK _ (fun x x1 => by rw [← b1 x x1]; exact funext fun y => bs_chr_n (by omega))⟩
    exfalso
    split at t1 <;> omega
  · have hr : ∀ b, 0 ≤ b → b < 5 → 0 ≤ g 15 (0 + b) ∧ g 15 (0 + b) ≤ 99 := fun b b0 b5 => by
      rw [Int.zero_add]
      by_cases e : b = A (10 + 2 * w)
      · have l1 : t * A (10 + 2 * w + 1) ≤ bs_sq A v w * A (10 + 2 * w + 1) := Int.mul_le_mul_of_nonneg_right (by omega) (by omega)
        have l2 : 0 ≤ t * A (10 + 2 * w + 1) := Int.mul_nonneg t0 (by omega)
        rw [e, b3]; omega
      · have := b2 b b0 b5 e; omega
    have l1 : (t + 1) * A (10 + 2 * w + 1) ≤ bs_sq A v w * A (10 + 2 * w + 1) := Int.mul_le_mul_of_nonneg_right (by omega) (by omega)
    have l2 : 0 ≤ t * A (10 + 2 * w + 1) := Int.mul_nonneg t0 (by omega)
    rw [Int.add_mul, Int.one_mul] at l1
    refine rv_Ahead_longestLook_17 (d := d + 2) ⟨fun q => absurd q (by omega), fun _ => ?_⟩
    rw [b1 _ (by omega), b1 _ (by omega), fw.1, fw2]
    refine ⟨by omega, by omega, ?_⟩
    refine bc_c_change (by omega) (by omega) (by omega) hr (Or.inl ⟨by omega, by omega⟩) ?_
    refine bc_c_greatest (by omega) (by omega) (by omega) ?_
    rw [bs_chr_n (by omega), b1 _ (by omega), fv.1]
    have vb : ∀ b, 0 ≤ b → b < 5 → b ≠ A (10 + 2 * w) → 0 ≤ bs_chr g 15 0 (A (10 + 2 * w)) (A (10 + 2 * w + 1)) 5 15 (0 + b) ∧ bs_chr g 15 0 (A (10 + 2 * w)) (A (10 + 2 * w + 1)) 5 15 (0 + b) ≤ A (54 + 8 * v) := fun b b0 b5 e => by
      rw [bs_chr_y b0 b5, Int.zero_add]
      have := b2 b b0 b5 e
      unfold bs_chg bs_dn
      rw [if_neg e]
      split <;> omega
    have ve : bs_chr g 15 0 (A (10 + 2 * w)) (A (10 + 2 * w + 1)) 5 15 (0 + A (10 + 2 * w)) = A (54 + 8 * v + (3 + A (10 + 2 * w))) + (t + 1) * A (10 + 2 * w + 1) := by
      rw [bs_chr_y hb0.1 hb0.2, Int.zero_add, b3, Int.add_mul, Int.one_mul]
      unfold bs_chg bs_up
      rw [if_pos rfl]
      split <;> omega
    have gl : bs_gr (fun b => bs_chr g 15 0 (A (10 + 2 * w)) (A (10 + 2 * w + 1)) 5 15 (0 + b)) ≤ A (54 + 8 * v) := bs_gr_le (by omega) (fun b b0 b5 => by
      by_cases e : b = A (10 + 2 * w)
      · rw [e, ve, Int.add_mul, Int.one_mul]; omega
      · exact (vb b b0 b5 e).2)
    refine ⟨by omega, fun q => ?_, fun q => absurd q (by omega)⟩
    rw [bc_wi (by omega) (by omega)]
    refine ih _ (fun x x1 => by rw [← b1 x x1]; exact funext fun y => bs_chr_n (by omega)) (fun b b0 b5 e => ?_) ?_
    · have := vb b b0 b5 e
      rw [Int.zero_add] at this
      exact this
    · rw [← ve, Int.zero_add]
  · have t1 := a2 b b0 b5
    rw [Int.zero_add] at t1
    rw [t1, fv.2.2.2 b b0 b5]
    exact ⟨(qv.2.2.2 b b0 b5).1.1, hle b b0 b5⟩
  · have t1 := a2 _ hb0.1 hb0.2
    rw [Int.zero_add] at t1
    rw [t1, fv.2.2.2 _ hb0.1 hb0.2, Int.zero_mul, Int.add_zero]
theorem bs_o_safe {d : Nat} {a b : Int} {S : Int → Int} {L c s p q : Int} {h : bc_H} (hR : bs_R S L c s p q h) {P : Int → Int → bc_H → Prop} {Q1 : Int → bc_H → Prop} (hQ : ∀ y h1, h1 (-2) = h (-2) → h1 (-3) = h (-3) → bf_M_safe (d + 9) a b h1 (bc_I fun y2 h2 => P y y2 h2) → Q1 y h1) (hK : ∀ y h2, bs_R S L c s p q h2 → P y y h2) : bf_X_safe (d + 9) a b h (bc_I Q1) := by
  obtain ⟨⟨hcs, hpq⟩, ⟨e12, e13, e14, e15⟩, hS, est, efr, htr, htp, hfa, hlv, hlo, hrs, hmk, ⟨hC, hW, hck, hN, hP⟩⟩ := id hR
  obtain ⟨⟨n4, n5, n6, n2, n0, n1, n3⟩, hw, hd, hg, hf, hm⟩ := id hC
  obtain ⟨⟨w0, w1, w2, w3, w4, w5, w7⟩, hww, hwy, hwv, hwf, hwg⟩ := id hW
  have hq : ∀ y v, P y y (bc_upd (bc_upd h 0 0 v) 156 2 v) := fun y v => hK _ _ (bs_R_st hR v)
  have e157 : ∀ v, bc_upd h 0 0 v 157 = h 157 := fun v => bc_urow (by decide)
  have bad : ¬ ((0 ≤ a ∧ a < h 157 2) ∧ 0 ≤ b ∧ b < h 157 1) → Q1 (-1) (bc_upd h 0 0 1) := fun z => by
    refine hQ _ _ (by first | rfl | exact bc_urow (by decide)) (by first | rfl | exact bc_urow (by decide)) ?_
    refine rv_M_safe (d := d + 7) ?_
    rw [e157]
    exact ⟨fun z1 => ⟨fun z2 => absurd ⟨z1, z2⟩ z, fun _ => hq _ _⟩, fun _ => hq _ _⟩
  refine rv_X_safe (d := d + 7) ?_
  rw [e12, n2, n1, bc_wi (x := h 157 2 - 1) (by omega) (by omega), bc_wi (x := h 157 1 - 1) (by omega) (by omega)]
  refine ⟨by omega, fun za => ⟨by omega, fun zb => ?_, fun z => bad (by omega)⟩, fun z => bad (by omega)⟩
  have fw := hw b zb.1 (by omega)
  have pw := hww b zb.1 (by omega)
  have qv := hwv a za.1 (by omega)
  rw [fw.1]
  refine ⟨by omega, by omega, fun z => ⟨by omega, ?_⟩, fun z => ?_⟩
  · refine bc_c_longestLook (d := d + 5) (by omega) hC hW za.1 (by omega) zb.1 (by omega) z (fun h1 f1 => ?_)
    have hm0 := (qv.2.2.2 (h 157 (10 + 2 * b)) (by omega) (by omega)).1
    have e1571 : bc_upd h1 0 0 0 157 = h 157 := by rw [bc_urow (by decide), f1 _ (by decide)]
    have fin : bs_R S L c s p q (bc_upd (bc_upd h1 0 0 0) 156 2 0) := by
      refine bs_R_F hR (fun x y k => ?_) (by rw [bc_uu, bc_ur (by decide), bc_uu])
      have kf := bs_kf k
      rw [bc_un2 kf.2, bc_un2 kf.1, f1 x (fun e => by subst e; exact bs_nk (by omega) k)]
    refine hQ _ _ (by rw [bc_urow (by decide), f1 _ (by decide)]) (by rw [bc_urow (by decide), f1 _ (by decide)]) ?_
    refine rv_M_safe (d := d + 7) ?_
    rw [e1571]
    simp (disch := omega) only [bc_wi, Int.add_zero]
    refine ⟨fun _ => ⟨fun _ => ⟨by omega, fun _ => ?_, fun q => absurd q z⟩, fun q => absurd (by omega) q⟩, fun q => absurd (by omega) q⟩
    refine bc_m_isTurned (d := d + 4) e1571 hW za.1 (by omega) (fun ht => ?_) (fun ht => ?_)
    · rw [if_pos ht]; exact hK _ _ fin
    · rw [if_neg ht, e1571]
      have hle : h 157 (54 + 8 * a + (3 + h 157 (10 + 2 * b))) ≤ h 157 (54 + 8 * a) := by
        have t1 := bs_most_ge (A := h 157) (v := a) (b := h 157 (10 + 2 * b)) (by omega) (by omega)
        have t2 : ¬ h 157 (54 + 8 * a) < bs_most (h 157) a := ht
        omega
      have hp1 := pw.2.1 z
      simp (disch := omega) only [bc_wi, Int.add_zero]
      rw [Int.tdiv_eq_ediv_of_nonneg (by omega : 0 ≤ h 157 (54 + 8 * a) - h 157 (54 + 8 * a + (3 + h 157 (10 + 2 * b))))]
      have hq0 : 0 ≤ bs_sq (h 157) a b := Int.ediv_nonneg (by omega) (by omega)
      have hq6 : bs_sq (h 157) a b ≤ h 157 (54 + 8 * a) - h 157 (54 + 8 * a + (3 + h 157 (10 + 2 * b))) := Int.ediv_le_self _ (by omega)
      rw [show (h 157 (54 + 8 * a) - h 157 (54 + 8 * a + (3 + h 157 (10 + 2 * b)))) / h 157 (10 + 2 * b + 1) = bs_sq (h 157) a b from rfl, bc_wi (x := bs_sq (h 157) a b) (by omega) (by omega)]
      exact ⟨by omega, by omega, by omega, by omega, by omega, hK _ _ fin⟩
  · refine hQ _ _ (by first | rfl | exact bc_urow (by decide)) (by first | rfl | exact bc_urow (by decide)) ?_
    refine rv_M_safe (d := d + 7) ?_
    rw [e157]
    simp (disch := omega) only [bc_wi, Int.add_zero]
    exact ⟨fun _ => ⟨fun _ => ⟨by omega, fun q => absurd z q, fun _ => hq _ _⟩, fun q => absurd (by omega) q⟩, fun q => absurd (by omega) q⟩
/-! ===== the greatest measures into a tray ===== -/
def bs_cm (A x : Int → Int) (o t n : Int) : Int → Int := fun k => if o ≤ k ∧ k < o + n then bs_cut (bs_most A (k - o)) t else x k
theorem bs_cm_0 (A x : Int → Int) (o t : Int) : bs_cm A x o t 0 = x := by funext k; exact if_neg (by omega)
theorem bs_cm_s {A x : Int → Int} {o t n : Int} (h : 0 ≤ n) : bc_set (bs_cm A x o t n) (o + n) (bs_cut (bs_most A n) t) = bs_cm A x o t (n + 1) := by
  funext k; unfold bc_set bs_cm
  by_cases e : k = o + n
  · rw [if_pos e, if_pos (by omega), e, show o + n - o = n by omega]
  · rw [if_neg e]
    (repeat' split) <;> first | rfl | (exfalso; omega)
theorem bs_o_copyMost {d : Nat} {a : Int} {S : Int → Int} {L c s p q : Int} {h : bc_H} (hR : bs_R S L c s p q h) {P : Int → Int → bc_H → Prop} {Q1 : Int → bc_H → Prop} (hQ : ∀ y h1, h1 (-2) = h (-2) → h1 (-3) = h (-3) → bf_M_copyMost (d + 9) a h1 (bc_I fun y2 h2 => P y y2 h2) → Q1 y h1) (hK : ∀ y h2, bs_R S L c s p q h2 → P y y h2) : bf_X_copyMost (d + 9) a h (bc_I Q1) := by
  obtain ⟨⟨hcs, hpq⟩, ⟨e12, e13, e14, e15⟩, hS, est, efr, htr, htp, hfa, hlv, hlo, hrs, hmk, ⟨hC, hW, hck, hN, hP⟩⟩ := id hR
  obtain ⟨⟨n4, n5, n6, n2, n0, n1, n3⟩, hw, hd, hg, hf, hm⟩ := id hC
  obtain ⟨⟨w0, w1, w2, w3, w4, w5, w7⟩, hww, hwy, hwv, hwf, hwg⟩ := id hW
  have hq : ∀ y v, P y y (bc_upd (bc_upd h 0 0 v) 156 2 v) := fun y v => hK _ _ (bs_R_st hR v)
  have e160 : ∀ v, bc_upd h 0 0 v 160 = h 160 := fun v => bc_urow (by decide)
  have e157 : ∀ v, bc_upd h 0 0 v 157 = h 157 := fun v => bc_urow (by decide)
  refine rv_X_copyMost (d := d + 7) ⟨fun za => ?_, fun za => ?_⟩
  · rcases htr a za.1 (by omega) with ⟨t1, t2, t3⟩ | ⟨t1, t2, t3, t4, t5⟩
    · refine ⟨by omega, fun q => absurd t1 q, fun _ => ?_⟩
      refine hQ _ _ (by first | rfl | exact bc_urow (by decide)) (by first | rfl | exact bc_urow (by decide)) ?_
      refine rv_M_copyMost (d := d + 8) ?_
      rw [e160]
      exact ⟨fun _ => ⟨by omega, fun q => absurd t3 q, fun _ => hq _ _⟩, fun q => absurd (by omega) q⟩
    · rw [e12, n2, bc_wi (x := h 4 a - 0) (by omega) (by omega)]
      refine ⟨by omega, fun _ => ⟨by omega, by omega, fun q => absurd q (by omega), fun _ => ⟨by omega, fun z => ?_, fun z => ?_⟩⟩, fun q => absurd q (by omega)⟩
      · refine hQ _ _ (by first | rfl | exact bc_urow (by decide)) (by first | rfl | exact bc_urow (by decide)) ?_
        refine rv_M_copyMost (d := d + 8) ?_
        rw [e160, e157]
        exact ⟨fun _ => ⟨by omega, fun _ => ⟨by omega, fun q => absurd q (by omega), fun _ => hq _ _⟩, fun q => absurd q (by omega)⟩, fun q => absurd (by omega) q⟩
      · have key : bl_X_copyMost_31 (d + 9) a 0 (bc_row h 5 (bs_cm (h 157) (h 5) (a * 60) (h 3 a) 0)) (bc_I Q1) := by
          refine bc_lup (P := fun i => bl_X_copyMost_31 (d + 9) a i (bc_row h 5 (bs_cm (h 157) (h 5) (a * 60) (h 3 a) i)) (bc_I Q1)) (n := h 157 2) ?_ (fun i i0 hi ih => ?_) (Int.le_refl 0) w2.1
          · refine rv_X_copyMost_31 (d := d + 7) ?_
            rw [bc_rn (by decide), e12, bc_rn (by omega), n2]
            refine ⟨by omega, fun _ => ⟨by omega, ?_⟩, fun q => absurd q (by omega)⟩
            refine hQ _ _ (by rw [bc_urow (by decide), bc_rn (by decide)]) (by rw [bc_urow (by decide), bc_rn (by decide)]) ?_
            have m157 : bc_upd (bc_row h 5 (bs_cm (h 157) (h 5) (a * 60) (h 3 a) (h 157 2))) 0 0 0 157 = h 157 := by rw [bc_urow (by decide), bc_rn (by decide)]
            have m160 : bc_upd (bc_row h 5 (bs_cm (h 157) (h 5) (a * 60) (h 3 a) (h 157 2))) 0 0 0 160 = h 160 := by rw [bc_urow (by decide), bc_rn (by decide)]
            have m161 : bc_upd (bc_row h 5 (bs_cm (h 157) (h 5) (a * 60) (h 3 a) (h 157 2))) 0 0 0 161 = h 161 := by rw [bc_urow (by decide), bc_rn (by decide)]
            have m159 : bc_upd (bc_row h 5 (bs_cm (h 157) (h 5) (a * 60) (h 3 a) (h 157 2))) 0 0 0 159 = h 159 := by rw [bc_urow (by decide), bc_rn (by decide)]
            generalize em : bc_upd (bc_row h 5 (bs_cm (h 157) (h 5) (a * 60) (h 3 a) (h 157 2))) 0 0 0 = m at m157 m160 m161 m159
            refine rv_M_copyMost (d := d + 8) ?_
            rw [m160, m157]
            refine ⟨fun _ => ⟨by omega, fun _ => ⟨by omega, fun _ => ?_, fun q => absurd q (by omega)⟩, fun q => absurd q (by omega)⟩, fun q => absurd (by omega) q⟩
            have key2 : bl_M_copyMost_32 (d + 9) a 0 (bc_row m 161 (bs_cm (h 157) (h 161) (60 * a) (h 159 a) 0)) (bc_I fun y2 h2 => P (h 157 2) y2 h2) := by
              refine bc_lup (P := fun i => bl_M_copyMost_32 (d + 9) a i (bc_row m 161 (bs_cm (h 157) (h 161) (60 * a) (h 159 a) i)) (bc_I fun y2 h2 => P (h 157 2) y2 h2)) (n := h 157 2) ?_ (fun i i0 hi ih => ?_) (Int.le_refl 0) w2.1
              · refine rv_M_copyMost_32 (d := d + 8) ?_
                rw [bc_rn (by decide), m157]
                refine ⟨fun _ => ?_, fun q => absurd q (by omega)⟩
                have go : ∀ x y, x ≠ 5 → x ≠ 161 → (x ≠ 0 ∨ y ≠ 0) → (x ≠ 156 ∨ y ≠ 2) → bc_upd (bc_row m 161 (bs_cm (h 157) (h 161) (60 * a) (h 159 a) (h 157 2))) 156 2 0 x y = h x y := fun x y k1 k2 k3 k4 => by
                  rw [bc_un2 k4, bc_rn k2, ← em, bc_un2 k3, bc_rn k1]
                have gr : ∀ x, x ≠ 5 → x ≠ 161 → x ≠ 0 → x ≠ 156 → bc_upd (bc_row m 161 (bs_cm (h 157) (h 161) (60 * a) (h 159 a) (h 157 2))) 156 2 0 x = h x := fun x k1 k2 k3 k4 => funext fun y => go x y k1 k2 (Or.inl k3) (Or.inl k4)
                refine hK _ _ (bs_R_T hR (fun x y k k1 k2 k3 => ?_) ?_ ?_ ?_ ?_)
                · have kf := bs_kf k
                  exact go x y (by omega) (by omega) kf.1 kf.2
                · rw [bc_uu, bc_ur (by decide), bc_rn (by decide), ← em, bc_uu]
                · rw [gr 3 (by decide) (by decide) (by decide) (by decide), gr 4 (by decide) (by decide) (by decide) (by decide), gr 159 (by decide) (by decide) (by decide) (by decide), gr 160 (by decide) (by decide) (by decide) (by decide)]
                  rw [bc_urow (a := 5) (by decide), bc_rn (a := 5) (by decide), ← em, bc_urow (a := 5) (by decide), bs_rr, bc_urow (a := 161) (by decide), bs_rr]
                  intro u u0 u4
                  rcases htr u u0 u4 with g | ⟨g1, g2, g3, g4, g5⟩
                  · exact Or.inl g
                  · refine Or.inr ⟨g1, g2, g3, g4, fun k k0 k1 => ?_⟩
                    unfold bs_cm
                    by_cases e : u = a ∧ k < h 157 2
                    · rw [if_pos (by omega), if_pos (by omega), t1, show u * 60 + k - a * 60 = 60 * u + k - 60 * a by omega]
                    · rw [if_neg (by omega), if_neg (by omega)]
                      exact g5 k k0 k1
                · rw [go 6 0 (by decide) (by decide) (by decide) (by decide), go 156 10 (by decide) (by decide) (by decide) (by decide), gr 7 (by decide) (by decide) (by decide) (by decide), gr 162 (by decide) (by decide) (by decide) (by decide)]; exact htp
                · rw [go 6 1 (by decide) (by decide) (by decide) (by decide), go 6 2 (by decide) (by decide) (by decide) (by decide), go 156 16 (by decide) (by decide) (by decide) (by decide), go 156 17 (by decide) (by decide) (by decide) (by decide)]; exact hfa
              · refine rv_M_copyMost_32 (d := d + 8) ?_
                rw [bc_rn (by decide), m157]
                refine ⟨fun q => absurd q (by omega), fun _ => ?_⟩
                refine bc_m_mostOf (d := d + 5) (by rw [bc_rn (by decide)]; exact m157) hW i0 hi ⟨by omega, ?_⟩
                rw [bc_rn (by decide), m159]
                refine bc_m_cut ?_
                simp (disch := omega) only [bc_wi, Int.add_zero]
                rw [bc_ru, bs_cm_s i0]
                exact ⟨by omega, ih⟩
            rw [bs_cm_0, ← m161, bc_rself] at key2
            exact key2
          · refine rv_X_copyMost_31 (d := d + 7) ?_
            rw [bc_rn (by decide), e12, bc_rn (by omega), n2]
            refine ⟨by omega, fun q => absurd q (by omega), fun _ => ⟨by omega, ?_⟩⟩
            refine bc_c_greatestI (A := h 157) (fun v u0 u1 => by rw [bc_rn (by omega), bc_rn (by omega), bc_rn (by omega), bc_rn (by omega)]; exact hm v u0 u1) i0 hi w2.2 ⟨by omega, ?_⟩
            rw [bc_rn (by decide)]
            refine bc_c_cut ?_
            simp (disch := omega) only [bc_wi, Int.add_zero]
            rw [bc_ru, bs_cm_s i0]
            exact ⟨by omega, ih⟩
        rw [bs_cm_0, bc_rself] at key
        exact key
  · refine hQ _ _ (by first | rfl | exact bc_urow (by decide)) (by first | rfl | exact bc_urow (by decide)) ?_
    refine rv_M_copyMost (d := d + 8) ?_
    exact ⟨fun q => absurd q (by omega), fun _ => hq _ _⟩
