/-! ===== waking ===== -/
def bs_wakeN (A : Int → Int) (v n : Int) : Int → Int := fun k => if 54 + 8 * v + 3 ≤ k ∧ k < 54 + 8 * v + 3 + n then (A k) / 2 else A k
def bs_wake (A : Int → Int) (v : Int) : Int → Int := bs_wakeN A v 5
theorem bs_wakeN_n {A : Int → Int} {v n k : Int} (h : k < 54 + 8 * v + 3 ∨ 54 + 8 * v + 3 + n ≤ k) : bs_wakeN A v n k = A k := by unfold bs_wakeN; rw [if_neg (by omega)]
theorem bs_wakeN_0 (A : Int → Int) (v : Int) : bs_wakeN A v 0 = A := by funext k; exact bs_wakeN_n (by omega)
theorem bs_wakeN_s {A : Int → Int} {v n : Int} (h : 0 ≤ n) : bc_set (bs_wakeN A v n) (54 + 8 * v + 3 + n) (A (54 + 8 * v + 3 + n) / 2) = bs_wakeN A v (n + 1) := by
  funext k; unfold bc_set bs_wakeN
  by_cases e : k = 54 + 8 * v + 3 + n
  · rw [if_pos e, if_pos (by omega), e]
  · rw [if_neg e]
    (repeat' split) <;> first | rfl | (exfalso; omega)
theorem bs_wake_m {A : Int → Int} {v b : Int} (b0 : 0 ≤ b) (b5 : b < 5) : bs_wake A v (54 + 8 * v + (3 + b)) = A (54 + 8 * v + (3 + b)) / 2 := by
  unfold bs_wake bs_wakeN; rw [if_pos (by omega)]
def bs_hf (x : Int → Int) (o n : Int) : Int → Int := fun k => if o ≤ k ∧ k < o + n then x k / 2 else x k
theorem bs_hf_s {x : Int → Int} {o n : Int} (h : 0 ≤ n) : bc_set (bs_hf x o n) (o + n) (x (o + n) / 2) = bs_hf x o (n + 1) := by
  funext k; unfold bc_set bs_hf
  by_cases e : k = o + n
  · rw [if_pos e, if_pos (by omega), e]
  · rw [if_neg e]
    (repeat' split) <;> first | rfl | (exfalso; omega)
theorem bs_tdiv2 {x : Int} (h0 : 0 ≤ x) (h9 : x ≤ 99) : bc_w32 (x.tdiv 2) = x / 2 := by
  have e : x.tdiv 2 = x / 2 := Int.tdiv_eq_ediv_of_nonneg h0
  rw [e, bc_wi (by omega) (by omega)]
theorem bs_W_wake {A : Int → Int} {v : Int} (hW : bs_W A) (v0 : 0 ≤ v) (v1 : v < A 2) : bs_W (bs_wake A v) := by
  obtain ⟨⟨w0, w1, w2, w3, w4, w5, w7⟩, hw, hy, hv, hf, hg⟩ := hW
  have es : ∀ k, k < 54 ∨ 102 ≤ k → bs_wake A v k = A k := fun k hk => bs_wakeN_n (by omega)
  refine ⟨?_, bs_WW_p w1.2 (es _ (by omega)) (es _ (by omega)) (fun k _ _ => es k (by omega)) hw, bs_WY_p w7.2 ⟨es _ (by omega), es _ (by omega), fun k _ _ => es k (by omega)⟩ hy, fun u u0 u1 => ?_, bs_WF_p w3.2 (es _ (by omega)) (es _ (by omega)) (fun k _ _ => es k (by omega)) hf, bs_WG_p w0.2 (es _ (by omega)) (fun k _ _ => es k (by omega)) hg⟩
  · rw [es 0 (by omega), es 1 (by omega), es 2 (by omega), es 3 (by omega), es 4 (by omega), es 5 (by omega), es 7 (by omega)]
    exact ⟨w0, w1, w2, w3, w4, w5, w7⟩
  · rw [es 2 (by omega)] at u1
    have q := hv u u0 u1
    have e0 : ∀ k, k < 3 → 0 ≤ k → bs_wake A v (54 + 8 * u + k) = A (54 + 8 * u + k) := fun k k1 k0 => bs_wakeN_n (by omega)
    have e00 : bs_wake A v (54 + 8 * u) = A (54 + 8 * u) := bs_wakeN_n (by omega)
    rw [e00, e0 1 (by omega) (by omega), e0 2 (by omega) (by omega), es 1 (by omega), es 0 (by omega)]
    refine ⟨q.1, q.2.1, q.2.2.1, fun b b0 b5 => ?_⟩
    have g := q.2.2.2 b b0 b5
    by_cases e : u = v
    · subst e
      rw [bs_wake_m b0 b5]
      refine ⟨by omega, fun z => ?_⟩
      rw [g.2 z]; rfl
    · rw [show bs_wake A v (54 + 8 * u + (3 + b)) = A (54 + 8 * u + (3 + b)) from bs_wakeN_n (by omega)]
      exact g
theorem bc_c_rouse {d : Nat} {c v : Int} {h : bc_H} {A : Int → Int} {P N : bc_H → Prop} (hC : bs_C h c A) (hW : bs_W A) (v0 : 0 ≤ v) (v1 : v < A 2) (hP : bs_most A v ≠ 0 → ∀ h', bs_vf h h' c → bs_C h' c (bs_wake A v) → P h') (hN : ¬ bs_most A v ≠ 0 → N h) : bf_Cave_rouse (d + 2) c v h (bc_B P N) := by
  obtain ⟨⟨n4, n5, n6, n2, n0, n1, n3⟩, hw, hd, hg, hf, hm⟩ := id hC
  obtain ⟨⟨w0, w1, w2, w3, w4, w5, w7⟩, hww, hwy, hwv, hwf, hwg⟩ := id hW
  have fv := hm v v0 v1
  have qv := hwv v v0 v1
  refine rv_Cave_rouse (d := d) ?_
  refine bc_c_greatestI hm v0 v1 w2.2 ⟨fun z => ?_, fun z => hN (fun q => q z)⟩
  have er : ∀ x f, x ≠ c + 16 → bc_row h (c + 16) f x = h x := fun x f x1 => bc_rn x1
  have f0 : bs_hf (h (c + 16)) (v * 5) 0 = h (c + 16) := by funext j; unfold bs_hf; rw [if_neg (by omega)]
  have key : bl_Cave_rouse_8 (d + 2) c v 0 (bc_row h (c + 16) (bs_hf (h (c + 16)) (v * 5) 0)) (bc_B P N) := by
    refine bc_lup (P := fun i => bl_Cave_rouse_8 (d + 2) c v i (bc_row h (c + 16) (bs_hf (h (c + 16)) (v * 5) i)) (bc_B P N)) (n := 5) ?_ (fun i i0 hi ih => ?_) (Int.le_refl 0) (by omega)
    · refine rv_Cave_rouse_8 ⟨fun _ => ?_, fun q => absurd q (by omega)⟩
      have es : ∀ k, k < 54 ∨ 102 ≤ k → bs_wake A v k = A k := fun k hk => bs_wakeN_n (by omega)
      refine hP z _ ⟨fun a a1 a2 a3 a4 a5 => er a _ a5, by rw [er _ _ (by omega)]⟩ ⟨⟨?_, ?_, ?_, ?_, ?_, ?_, ?_⟩, ?_, ?_, ?_, ?_, fun u u0 u1 => ?_⟩
      · rw [er _ _ (by omega), es _ (by omega)]; exact n4
      · rw [er _ _ (by omega), es _ (by omega)]; exact n5
      · rw [er _ _ (by omega), es _ (by omega)]; exact n6
      · rw [er _ _ (by omega), es _ (by omega)]; exact n2
      · rw [er _ _ (by omega), es _ (by omega)]; exact n0
      · rw [er _ _ (by omega), es _ (by omega)]; exact n1
      · rw [er _ _ (by omega), es _ (by omega)]; exact n3
      · exact bs_Cw_p w1.2 (er _ _ (by omega)) (er _ _ (by omega)) (es _ (by omega)) (fun k _ _ => es k (by omega)) hw
      · exact bs_Cd_p w7 (er _ _ (by omega)) (er _ _ (by omega)) ⟨es _ (by omega), es _ (by omega), fun k _ _ => es k (by omega)⟩ hd
      · exact bs_Cg_p w0.2 (er _ _ (by omega)) (es _ (by omega)) (fun k _ _ => es k (by omega)) hg
      · exact bs_Cf_p w3.2 (er _ _ (by omega)) (er _ _ (by omega)) (er _ _ (by omega)) (er _ _ (by omega)) (es _ (by omega)) (fun k _ _ => es k (by omega)) hf
      · rw [es 2 (by omega)] at u1
        have g := hm u u0 u1
        rw [er (c + 13) _ (by omega), er (c + 14) _ (by omega), er (c + 15) _ (by omega), bs_rr]
        refine ⟨?_, ?_, ?_, fun b b0 b5 => ?_⟩
        · rw [show bs_wake A v (54 + 8 * u) = A (54 + 8 * u) from bs_wakeN_n (by omega)]; exact g.1
        · rw [show bs_wake A v (54 + 8 * u + 1) = A (54 + 8 * u + 1) from bs_wakeN_n (by omega)]; exact g.2.1
        · rw [show bs_wake A v (54 + 8 * u + 2) = A (54 + 8 * u + 2) from bs_wakeN_n (by omega)]; exact g.2.2.1
        · show (if v * 5 ≤ u * 5 + b ∧ u * 5 + b < v * 5 + 5 then h (c + 16) (u * 5 + b) / 2 else h (c + 16) (u * 5 + b)) = _
          rw [g.2.2.2 b b0 b5]
          by_cases e : u = v
          · subst e; rw [if_pos (by omega), bs_wake_m b0 b5]
          · rw [if_neg (by omega), show bs_wake A v (54 + 8 * u + (3 + b)) = A (54 + 8 * u + (3 + b)) from bs_wakeN_n (by omega)]
    · refine rv_Cave_rouse_8 ⟨fun q => absurd q (by omega), fun _ => ?_⟩
      simp (disch := omega) only [bc_wi, Int.add_zero]
      rw [bs_rr, show bs_hf (h (c + 16)) (v * 5) i (v * 5 + i) = h (c + 16) (v * 5 + i) from if_neg (by omega)]
      have g := fv.2.2.2 i i0 hi
      have g2 := (qv.2.2.2 i i0 hi).1
      rw [bs_tdiv2 (by omega) (by omega), bc_ru, bs_hf_s i0]
      exact ⟨by omega, by omega, ih⟩
  rw [f0, bc_rself] at key
  exact key
theorem bc_m_wakes {d : Nat} {v : Int} {h : bc_H} {A : Int → Int} {P N : bc_H → Prop} (hW : bs_W A) (v0 : 0 ≤ v) (v1 : v < A 2) (hP : bs_most A v ≠ 0 → P (bc_row h 157 (bs_wake A v))) (hN : ¬ bs_most A v ≠ 0 → N (bc_row h 157 A)) : bf_M_wakes (d + 4) v (bc_row h 157 A) (bc_B P N) := by
  have w2 := hW.1.2.2.1
  have qv := hW.2.2.2.1 v v0 v1
  refine rv_M_wakes (d := d + 3) ?_
  refine bc_m_mostOf (d := d) (bs_rr h 157 A) hW v0 v1 ⟨fun z => ?_, fun z => hN (fun q => q z)⟩
  have key : bl_M_wakes_8 (d + 4) v 0 (bc_row h 157 (bs_wakeN A v 0)) (bc_B P N) := by
    refine bc_lup (P := fun i => bl_M_wakes_8 (d + 4) v i (bc_row h 157 (bs_wakeN A v i)) (bc_B P N)) (n := 5) ?_ (fun i i0 hi ih => ?_) (Int.le_refl 0) (by omega)
    · exact rv_M_wakes_8 (d := d + 3) ⟨fun _ => hP z, fun q => absurd q (by omega)⟩
    · refine rv_M_wakes_8 (d := d + 3) ⟨fun q => absurd q (by omega), fun _ => ?_⟩
      simp (disch := omega) only [bc_wi, Int.add_zero]
      have g2 := (qv.2.2.2 i i0 hi).1
      rw [show 54 + 8 * v + (3 + i) = 54 + 8 * v + 3 + i by omega] at g2
      rw [bs_rr, bs_wakeN_n (k := 54 + 8 * v + 3 + i) (by omega)]
      rw [bs_tdiv2 (by omega) (by omega)]
      refine ⟨by omega, by omega, fun hh eh => ?_⟩
      rw [eh, bc_ru, bs_wakeN_s i0]
      exact ih
  rw [bs_wakeN_0] at key
  exact key
theorem bs_o_wake {d : Nat} {a : Int} {S : Int → Int} {L c s p q : Int} {h : bc_H} (hR : bs_R S L c s p q h) {P : Int → Int → bc_H → Prop} {Q1 : Int → bc_H → Prop} (hQ : ∀ y h1, h1 (-2) = h (-2) → h1 (-3) = h (-3) → bf_M_wake (d + 6) a h1 (bc_I fun y2 h2 => P y y2 h2) → Q1 y h1) (hK : ∀ y h2, bs_R S L c s p q h2 → P y y h2) : bf_X_wake (d + 6) a h (bc_I Q1) := by
  obtain ⟨⟨hcs, hpq⟩, ⟨e12, e13, e14, e15⟩, hS, est, efr, htr, htp, hfa, hlv, hlo, hrs, hmk, ⟨hC, hW, hck, hN, hP⟩⟩ := id hR
  obtain ⟨⟨n4, n5, n6, n2, n0, n1, n3⟩, hw, hd, hg, hf, hm⟩ := id hC
  obtain ⟨⟨w0, w1, w2, w3, w4, w5, w7⟩, hww, hwy, hwv, hwf, hwg⟩ := id hW
  have hq : ∀ y v, P y y (bc_upd (bc_upd h 0 0 v) 156 2 v) := fun y v => hK _ _ (bs_R_st hR v)
  have e157 : ∀ v, bc_upd h 0 0 v 157 = h 157 := fun v => bc_urow (by decide)
  refine rv_X_wake (d := d + 4) ?_
  rw [e12, n2, bc_wi (x := h 157 2 - 1) (by omega) (by omega)]
  refine ⟨by omega, fun za => ⟨by omega, ?_⟩, fun za => ?_⟩
  · refine bc_c_rouse (d := d + 3) hC hW za.1 (by omega) (fun z h1 hv hC1 => ?_) (fun z => ?_)
    · have e0 : ∀ x y, (x < 24 ∨ 155 < x) → h1 x y = h x y := fun x y hx => by rw [hv.1 x (by omega) (by omega) (by omega) (by omega) (by omega)]
      have hk : ∀ k, k < 54 ∨ 102 ≤ k → bs_wake (h 157) a k = h 157 k := fun k hk => bs_wakeN_n (by omega)
      have hW1 := bs_W_wake hW za.1 (by omega : a < h 157 2)
      rw [e0 0 12 (by omega), e12]
      refine ⟨by omega, ?_⟩
      refine bc_c_greatestI hC1.2.2.2.2.2 za.1 (by rw [hk 2 (by omega)]; omega) (by rw [hk 2 (by omega)]; omega) ?_
      refine hQ _ _ (by rw [bc_urow (by decide)]; exact funext fun y => e0 _ _ (by omega)) (by rw [bc_urow (by decide)]; exact funext fun y => e0 _ _ (by omega)) ?_
      have e1571 : bc_upd h1 0 0 0 157 = h 157 := by rw [bc_urow (by decide)]; exact funext fun y => e0 _ _ (by omega)
      refine rv_M_wake (d := d + 5) ?_
      rw [e1571]
      refine ⟨fun _ => ?_, fun q => absurd (by omega) q⟩
      rw [← bc_rself (bc_upd h1 0 0 0) 157, e1571]
      refine bc_m_wakes (d := d + 1) hW za.1 (by omega) (fun _ => ?_) (fun q => absurd z q)
      refine bc_m_mostOf (d := d + 2) (bs_rr _ _ _) hW1 za.1 (by rw [hk 2 (by omega)]; omega) ?_
      exact hK _ _ (bs_R_vf hR hv hC1 hW1 (by rw [hk 6 (by omega)]; exact hck) (fun k q => hk k (by omega)) (hk _ (by omega)) (hk _ (by omega)) (hk _ (by omega)) (hk _ (by omega)))
    · refine hQ _ _ (by first | rfl | exact bc_urow (by decide)) (by first | rfl | exact bc_urow (by decide)) ?_
      refine rv_M_wake (d := d + 5) ?_
      rw [e157]
      refine ⟨fun _ => ?_, fun q => absurd (by omega) q⟩
      rw [← bc_rself (bc_upd h 0 0 7) 157, e157]
      refine bc_m_wakes (d := d + 1) hW za.1 (by omega) (fun q => absurd q z) (fun _ => ?_)
      rw [← e157 7, bc_rself]
      exact hq _ _
  · refine hQ _ _ (by first | rfl | exact bc_urow (by decide)) (by first | rfl | exact bc_urow (by decide)) ?_
    refine rv_M_wake (d := d + 5) ?_
    rw [e157]
    exact ⟨fun q => absurd q (by omega), fun _ => hq _ _⟩
/-! minutes -/
theorem bs_o_minute {d : Nat} {n : Int} {S : Int → Int} {L c s p q : Int} {h : bc_H} (hR : bs_R S L c s p q h) {P : Int → Int → bc_H → Prop} {Q1 : Int → bc_H → Prop} (hQ : ∀ y h1, h1 (-2) = h (-2) → h1 (-3) = h (-3) → bf_M_minute (d + 9) n h1 (bc_I fun y2 h2 => P y y2 h2) → Q1 y h1) (hK : ∀ y h2, bs_R S L c s p q h2 → P y y h2) : bf_X_minute (d + 9) n h (bc_I Q1) := by
  obtain ⟨⟨hcs, hpq⟩, ⟨e12, e13, e14, e15⟩, hS, est, efr, htr, htp, hfa, hlv, hlo, hrs, hmk, ⟨hC, hW, hck, hN, hP⟩⟩ := id hR
  obtain ⟨⟨n4, n5, n6, n2, n0, n1, n3⟩, hw, hd, hg, hf, hm⟩ := id hC
  obtain ⟨⟨w0, w1, w2, w3, w4, w5, w7⟩, hww, hwy, hwv, hwf, hwg⟩ := id hW
  have hq : ∀ y v, P y y (bc_upd (bc_upd h 0 0 v) 156 2 v) := fun y v => hK _ _ (bs_R_st hR v)
  have e157 : ∀ v, bc_upd h 0 0 v 157 = h 157 := fun v => bc_urow (by decide)
  refine rv_X_minute (d := d + 8) ⟨fun zn => ?_, fun zn => ?_⟩
  · rw [e12, n6, bc_wi (x := 9999 - n) (by omega) (by omega)]
    refine ⟨by omega, fun z => ?_, fun z => ?_⟩
    · have key : ∀ h1, bs_vf h h1 c → bs_C h1 c (bs_passN (h 157) 0) → bl_X_minute_22 (d + 9) n 0 h1 (bc_I Q1) := by
        refine bc_lup (P := fun i => ∀ h1, bs_vf h h1 c → bs_C h1 c (bs_passN (h 157) i) → bl_X_minute_22 (d + 9) n i h1 (bc_I Q1)) (n := n) ?_ (fun i i0 hi ih => ?_) (Int.le_refl 0) (by omega)
        · intro h1 hv hC1
          have e0 : ∀ x y, (x < 24 ∨ 155 < x) → h1 x y = h x y := fun x y hx => by rw [hv.1 x (by omega) (by omega) (by omega) (by omega) (by omega)]
          have hp := bs_passN_p hW (n := n) (by omega)
          have hk := hp.2.2.1
          refine rv_X_minute_22 (d := d + 8) ⟨fun _ => ?_, fun q => absurd q (by omega)⟩
          rw [e0 0 12 (by omega), e12]
          refine ⟨by omega, ?_⟩
          have c2 := hk 2 (by omega) (by omega) (by omega)
          refine bc_c_turnedOnes (d := d + 6) hC1.2.2.2.2.2 hC1.1.2.2.2.1 (by rw [c2]; omega) (by rw [c2]; omega) ?_
          have hr := bs_bset_ge (bs_turned (bs_passN (h 157) n)) (n := bs_passN (h 157) n 2) (by rw [c2]; omega) (by rw [c2]; omega)
          refine bc_j_bitCount hr.1 hr.2 ?_
          refine hQ _ _ (by rw [bc_urow (by decide)]; exact funext fun y => e0 _ _ (by omega)) (by rw [bc_urow (by decide)]; exact funext fun y => e0 _ _ (by omega)) ?_
          have e1571 : bc_upd h1 0 0 0 157 = h 157 := by rw [bc_urow (by decide)]; exact funext fun y => e0 _ _ (by omega)
          refine rv_M_minute (d := d + 8) ?_
          rw [e1571]
          simp (disch := omega) only [bc_wi, Int.add_zero]
          refine ⟨fun _ => ⟨fun _ => ?_, fun q => absurd q (by omega)⟩, fun q => absurd zn q⟩
          rw [← bc_rself (bc_upd h1 0 0 0) 157, e1571]
          refine bc_m_minutesGo (d := d + 1) hW (by omega) (by omega) (by omega) ?_
          refine bc_m_visitorsThat0 (d := d + 3) (bs_rr _ _ _) hp.1 ?_
          refine bc_m_bits hr.1 hr.2 ?_
          exact hK _ _ (bs_R_vf hR hv hC1 hp.1 (by rw [hp.2.1]; omega) (fun k q => by
            by_cases k160 : 160 ≤ k
            · exact hp.2.2.2 k (by omega)
            · exact hk k (by omega) (by omega) (by omega)) (hk _ (by omega) (by omega) (by omega)) (hk _ (by omega) (by omega) (by omega)) (hk _ (by omega) (by omega) (by omega)) (hk _ (by omega) (by omega) (by omega)))
        · intro h1 hv hC1
          have e0 : ∀ x y, (x < 24 ∨ 155 < x) → h1 x y = h x y := fun x y hx => by rw [hv.1 x (by omega) (by omega) (by omega) (by omega) (by omega)]
          have hp := bs_passN_p hW i0
          refine rv_X_minute_22 (d := d + 8) ⟨fun q => absurd q (by omega), fun _ => ?_⟩
          rw [e0 0 12 (by omega), e12]
          simp (disch := omega) only [bc_wi, Int.add_zero]
          refine ⟨by omega, ?_⟩
          refine bc_c_passMinute (d := d + 6) hC1 hp.1 (by rw [hp.2.1]; omega) (fun h2 hv2 hC2 => ?_)
          rw [← bs_passN_s _ i0] at hC2
          exact ih h2 (bs_vf_tr hv hv2) hC2
      exact key h (bs_vf_refl h c) hC
    · refine hQ _ _ (by first | rfl | exact bc_urow (by decide)) (by first | rfl | exact bc_urow (by decide)) ?_
      refine rv_M_minute (d := d + 8) ?_
      rw [e157]
      simp (disch := omega) only [bc_wi, Int.add_zero]
      exact ⟨fun _ => ⟨fun q => absurd q (by omega), fun _ => hq _ _⟩, fun q => absurd zn q⟩
  · refine hQ _ _ (by first | rfl | exact bc_urow (by decide)) (by first | rfl | exact bc_urow (by decide)) ?_
    refine rv_M_minute (d := d + 8) ?_
    exact ⟨fun q => absurd q zn, fun _ => hq _ _⟩
