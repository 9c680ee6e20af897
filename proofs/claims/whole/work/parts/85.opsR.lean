/-! ===== low ===== -/
theorem bs_orNF : ∀ s : Nat, s < 256 → ∀ w : Nat, w < 256 → bc_or (s : Int) (w : Int) = ((s ||| w : Nat) : Int) := by decide +kernel
theorem bs_subPn : ∀ s : Nat, s < 256 → ∀ t : Nat, t < 256 → s &&& t = s → s = t ∨ bs_pn (s : Int) < bs_pn (t : Int) := by decide +kernel
theorem bs_and_or_self (s w : Nat) : s &&& (s ||| w) = s := by
  refine Nat.eq_of_testBit_eq (fun i => ?_)
  rw [Nat.testBit_and, Nat.testBit_or]
  cases s.testBit i <;> simp
def bs_sb (s t : Int) : Prop := s.toNat &&& t.toNat = s.toNat
theorem bs_or_sb {s w m : Int} (m0 : 0 ≤ m) (m1 : m ≤ 8) (s0 : 0 ≤ s) (s1 : s < bc_shl 1 m) (w0 : 0 ≤ w) (w1 : w < bc_shl 1 m) : (0 ≤ bc_or s w ∧ bc_or s w < bc_shl 1 m) ∧ bs_sb s (bc_or s w) := by
  have r := bs_shl_r m0 m1
  have e := bs_orNF s.toNat (by omega) w.toNat (by omega)
  rw [show ((s.toNat : Nat) : Int) = s by omega, show ((w.toNat : Nat) : Int) = w by omega] at e
  rw [bs_shl m0 m1] at s1 w1 ⊢
  have lt := Nat.or_lt_two_pow (x := s.toNat) (y := w.toNat) (n := m.toNat) (by omega) (by omega)
  rw [e]
  refine ⟨⟨by omega, by omega⟩, ?_⟩
  unfold bs_sb
  rw [show (((s.toNat ||| w.toNat : Nat) : Int)).toNat = s.toNat ||| w.toNat by omega]
  exact bs_and_or_self _ _
theorem bs_sb_tr {a b c : Int} (h1 : bs_sb a b) (h2 : bs_sb b c) : bs_sb a c := by
  unfold bs_sb at *
  rw [← h1, Nat.and_assoc, h2]
theorem bs_sb_rf (a : Int) : bs_sb a a := Nat.and_self _
theorem bs_sb_pn {s t : Int} (s0 : 0 ≤ s) (s1 : s < 256) (t0 : 0 ≤ t) (t1 : t < 256) (h : bs_sb s t) : s = t ∨ bs_pn s < bs_pn t := by
  have u := bs_subPn s.toNat (by omega) t.toNat (by omega) h
  rw [show ((s.toNat : Nat) : Int) = s by omega, show ((t.toNat : Nat) : Int) = t by omega] at u
  rcases u with u | u
  · exact Or.inl (by omega)
  · exact Or.inr u
def bs_pp (A : Int → Int) (s i : Int) : Int := bc_it (fun f x => if bc_and (bc_shr x f) 1 = 1 then bc_or x (A (102 + 4 * f + 3)) else x) s i
theorem bs_pp_s (A : Int → Int) (s : Int) {i : Int} (h : 0 ≤ i) : bs_pp A s (i + 1) = if bc_and (bc_shr (bs_pp A s i) i) 1 = 1 then bc_or (bs_pp A s i) (A (102 + 4 * i + 3)) else bs_pp A s i := bc_its _ _ h
theorem bs_pp_r {A : Int → Int} (w3 : 0 ≤ A 3 ∧ A 3 ≤ 8) (hwf : bs_WF A) {s : Int} (s0 : 0 ≤ s ∧ s < bc_shl 1 (A 3)) {i : Int} (i0 : 0 ≤ i) (i1 : i ≤ A 3) : (0 ≤ bs_pp A s i ∧ bs_pp A s i < bc_shl 1 (A 3)) ∧ bs_sb s (bs_pp A s i) := by
  refine bc_it_indB (P := fun _ x => (0 ≤ x ∧ x < bc_shl 1 (A 3)) ∧ bs_sb s x) ⟨s0, bs_sb_rf s⟩ (fun j x j0 j1 ih => ?_) i0
  have w := (hwf j j0 (by omega)).2.2.2
  split
  · have t := bs_or_sb w3.1 w3.2 ih.1.1 ih.1.2 w.1 w.2
    exact ⟨t.1, bs_sb_tr ih.2 t.2⟩
  · exact ih
def bs_pi (A : Int → Int) (s i : Int) : Int := bc_it (fun _ x => bs_pp A x (A 3)) s i
theorem bs_pi_s (A : Int → Int) (s : Int) {i : Int} (h : 0 ≤ i) : bs_pi A s (i + 1) = bs_pp A (bs_pi A s i) (A 3) := bc_its _ _ h
theorem bs_pi_r {A : Int → Int} (w3 : 0 ≤ A 3 ∧ A 3 ≤ 8) (hwf : bs_WF A) {s : Int} (s0 : 0 ≤ s ∧ s < bc_shl 1 (A 3)) {i : Int} (i0 : 0 ≤ i) : (0 ≤ bs_pi A s i ∧ bs_pi A s i < bc_shl 1 (A 3)) ∧ (bs_pp A (bs_pi A s i) (A 3) = bs_pi A s i ∨ i ≤ bs_pn (bs_pi A s i)) := by
  have r := bs_shl_r w3.1 w3.2
  refine bc_it_ind (fun i x => (0 ≤ x ∧ x < bc_shl 1 (A 3)) ∧ (bs_pp A x (A 3) = x ∨ i ≤ bs_pn x)) ⟨s0, Or.inr (bs_pnI s0.1 (by omega)).1.1⟩ (fun j x j0 ih => ?_) i0
  have t := bs_pp_r w3 hwf ih.1 w3.1 (Int.le_refl _)
  refine ⟨t.1, ?_⟩
  by_cases z : bs_pp A x (A 3) = x
  · exact Or.inl (by rw [z, z])
  · rcases bs_sb_pn ih.1.1 (by omega) t.1.1 (by omega) t.2 with e | e
    · exact absurd e.symm z
    · rcases ih.2 with y | y
      · exact absurd y z
      · exact Or.inr (by omega)
theorem bs_pi_8 {A : Int → Int} (w3 : 0 ≤ A 3 ∧ A 3 ≤ 8) (hwf : bs_WF A) {s : Int} (s0 : 0 ≤ s ∧ s < bc_shl 1 (A 3)) : bs_pi A s 8 = bs_pi A s (A 3) := by
  have r := bs_shl_r w3.1 w3.2
  have fu := bs_full w3.1 w3.2
  have t := bs_pi_r w3 hwf s0 w3.1
  have fx : bs_pp A (bs_pi A s (A 3)) (A 3) = bs_pi A s (A 3) := by
    rcases t.2 with y | y
    · exact y
    · have u := bs_pp_r w3 hwf t.1 w3.1 (Int.le_refl _)
      rcases bs_sb_pn t.1.1 (by omega) u.1.1 (by omega) u.2 with e | e
      · exact e.symm
      · by_cases z : bs_pp A (bs_pi A s (A 3)) (A 3) = bc_shl 1 (A 3) - 1
        · rw [z, fu.1.1] at e; omega
        · have := fu.2 _ u.1.1 u.1.2 z; omega
  have key : ∀ n : Nat, bs_pi A s (A 3 + n) = bs_pi A s (A 3) := by
    intro n
    induction n with
    | zero => rw [show A 3 + ((0 : Nat) : Int) = A 3 by omega]
    | succ n ih => rw [show A 3 + ((n + 1 : Nat) : Int) = A 3 + n + 1 by omega, bs_pi_s A s (by omega), ih, fx]
  have := key (8 - A 3).toNat
  rw [show A 3 + (((8 - A 3).toNat : Nat) : Int) = 8 by omega] at this
  exact this
theorem bs_o_low {d : Nat} {a : Int} {S : Int → Int} {L c s p q : Int} {h : bc_H} (hR : bs_R S L c s p q h) {P : Int → Int → bc_H → Prop} {Q1 : Int → bc_H → Prop} (hQ : ∀ y h1, h1 (-2) = h (-2) → h1 (-3) = h (-3) → bf_M_low (d + 6) a h1 (bc_I fun y2 h2 => P y y2 h2) → Q1 y h1) (hK : ∀ y h2, bs_R S L c s p q h2 → P y y h2) : bf_X_low (d + 6) a h (bc_I Q1) := by
  obtain ⟨⟨hcs, hpq⟩, ⟨e12, e13, e14, e15⟩, hS, est, efr, htr, htp, hfa, hlv, hlo, hrs, hmk, ⟨hC, hW, hck, hN, hP⟩⟩ := id hR
  obtain ⟨⟨n4, n5, n6, n2, n0, n1, n3⟩, hw, hd, hg, hf, hm⟩ := id hC
  obtain ⟨⟨w0, w1, w2, w3, w4, w5, w7⟩, hww, hwy, hwv, hwf, hwg⟩ := id hW
  have hq : ∀ y v, P y y (bc_upd (bc_upd h 0 0 v) 156 2 v) := fun y v => hK _ _ (bs_R_st hR v)
  have sr := bs_shl_r w3.1 w3.2
  refine rv_X_low (d := d + 4) ?_
  rw [e12, n3, bc_wi (x := h 157 3 - 1) (by omega) (by omega)]
  refine ⟨by omega, fun za => ⟨by omega, ?_⟩, fun za => ?_⟩
  · have sa := (hwf a za.1 (by omega)).2.2.2
    refine bc_c_first (d := d + 4) (A := h 157) n3 hf w3 hwf (Int.le_refl 0) (by omega) (fun hp => ?_) (fun hz => ?_)
    · have nn : bs_gf (h 157) (bs_gq (h 157) 0) ≠ -1 := fun e => by
        rcases bs_gf_p (h 157) w3 (bs_gq (h 157) 0) with ⟨_, y⟩ | y
        · have nf : (0 : Int) ≠ bc_shl 1 (h 157 3) - 1 := fun q => by
            have u := (bs_full w3.1 w3.2).1.1
            rw [← q, bs_pn0] at u; omega
          obtain ⟨g, hg, e2, _⟩ := (bs_Lb_pos w3 (Int.le_refl 0) (by omega) nf).1 hp
          have y2 : bs_may (h 157) g 0 = 0 := y g hg.1 hg.2
          omega
        · omega
      refine ⟨fun _ => ?_, fun q => absurd q nn⟩
      rw [e12]
      refine ⟨by omega, rv_Figures_allBelow (d := d + 4) ⟨by omega, ?_⟩⟩
      rw [(hf a za.1 (by omega)).2.2.2]
      refine bc_lup (P := fun i => bl_Figures_allBelow_7 (d + 5) (c + 8) (bs_pi (h 157) (h 157 (102 + 4 * a + 3)) i) i h (bc_I fun y8 h6 => bf_JInteger_bitCount (d + 5) y8 h6 (bc_I fun y11 h9 => Q1 y11 (bc_upd h9 0 0 0)))) (n := h 157 3) ?_ (fun i i0 i1 ih => ?_) (Int.le_refl 0) w3.1
      · refine rv_Figures_allBelow_7 (d := d + 4) ⟨fun _ => bc_bitCount ?_, fun q => absurd q (by omega)⟩
        refine hQ _ _ (by first | rfl | exact bc_urow (by decide)) (by first | rfl | exact bc_urow (by decide)) ?_
        refine rv_M_low (d := d + 4) ?_
        rw [show bc_upd h 0 0 0 157 = h 157 from bc_urow (by decide)]
        refine ⟨fun _ => ?_, fun q => absurd (by omega) q⟩
        refine bc_m_laysLayers (d := d + 2) (A := h 157) (bc_urow (by decide)) w3 (fun h2 g1 _ => ⟨fun _ => ?_, fun q => absurd q (by omega)⟩)
        have h7 : h2 157 = h 157 := by rw [g1 _ (by decide), bc_urow (by decide)]
        rw [h7]
        simp (disch := omega) only [bc_wi, Int.add_zero]
        refine ⟨by omega, ?_⟩
        refine bc_lup (P := fun i => bl_M_low_22 (d + 6) (bs_pi (h 157) (h 157 (102 + 4 * a + 3)) i) i h2 (bc_I fun y2 h2 => P (bs_pn (bs_pi (h 157) (h 157 (102 + 4 * a + 3)) (h 157 3))) y2 h2)) (n := 8) ?_ (fun i i0 i1 ih => ?_) (Int.le_refl 0) (by decide)
        · have pr := bs_pi_r w3 hwf sa (i := 8) (by decide)
          refine rv_M_low_22 (d := d + 4) ⟨fun _ => bc_m_bitsN pr.1.1 (by omega) ?_, fun q => absurd q (by decide)⟩
          rw [bs_pi_8 w3 hwf sa]
          exact hK _ _ (bs_yfin hR (fun _ _ => rfl) g1)
        · have pr := bs_pi_r w3 hwf sa i0
          rw [bs_pi_s _ _ i0] at ih
          refine rv_M_low_22 (d := d + 4) ⟨fun q => absurd q (by omega), fun _ => ?_⟩
          refine bc_lup (P := fun x => bl_M_low_27 (d + 6) (bs_pp (h 157) (bs_pi (h 157) (h 157 (102 + 4 * a + 3)) i) x) i x h2 (bc_I fun y2 h2 => P (bs_pn (bs_pi (h 157) (h 157 (102 + 4 * a + 3)) (h 157 3))) y2 h2)) (n := h 157 3) ?_ (fun x x0 x1 ihx => ?_) (Int.le_refl 0) w3.1
          · refine rv_M_low_27 (d := d + 4) ⟨fun _ => ?_, fun q => absurd q (by rw [h7]; omega)⟩
            rw [bc_wi (by omega) (by omega)]; exact ih
          · rw [bs_pp_s _ _ x0] at ihx
            refine rv_M_low_27 (d := d + 4) ⟨fun q => absurd q (by rw [h7]; omega), fun _ => ?_⟩
            rw [h7]
            simp (disch := omega) only [bc_wi, Int.add_zero]
            refine ⟨fun z => ⟨by omega, ?_⟩, fun z => ?_⟩
            · rw [if_pos z] at ihx; exact ihx
            · rw [if_neg z] at ihx; exact ihx
      · have pr := bs_pi_r w3 hwf sa i0
        rw [bs_pi_s _ _ i0] at ih
        refine rv_Figures_allBelow_7 (d := d + 4) ⟨fun q => absurd q (by omega), fun _ => ?_⟩
        refine bc_lup (P := fun x => bl_Figures_allBelow_13 (d + 5) (c + 8) (bs_pp (h 157) (bs_pi (h 157) (h 157 (102 + 4 * a + 3)) i) x) i x h (bc_I fun y8 h6 => bf_JInteger_bitCount (d + 5) y8 h6 (bc_I fun y11 h9 => Q1 y11 (bc_upd h9 0 0 0)))) (n := h 157 3) ?_ (fun x x0 x1 ihx => ?_) (Int.le_refl 0) w3.1
        · refine rv_Figures_allBelow_13 (d := d + 4) ⟨fun _ => ?_, fun q => absurd q (by omega)⟩
          rw [bc_wi (by omega) (by omega)]; exact ih
        · have rr := (bs_pp_r w3 hwf pr.1 x0 (by omega)).1
          have bb := bs_bit (s := bs_pp (h 157) (bs_pi (h 157) (h 157 (102 + 4 * a + 3)) i) x) (k := x) rr.1 (by omega) x0 (by omega)
          rw [bs_pp_s _ _ x0] at ihx
          refine rv_Figures_allBelow_13 (d := d + 4) ⟨fun q => absurd q (by omega), fun _ => ?_⟩
          rw [(hf x x0 x1).2.2.2, bs_or0 rr.1 (by omega), bc_wi (x := x + 1) (by omega) (by omega)]
          refine ⟨fun z => ⟨by omega, ?_⟩, fun z => ?_⟩
          · rw [if_pos (by omega)] at ihx; exact ihx
          · rw [if_neg (by omega)] at ihx; exact ihx
    · refine ⟨fun q => absurd rfl q, fun _ => ?_⟩
      refine hQ _ _ (by first | rfl | exact bc_urow (by decide)) (by first | rfl | exact bc_urow (by decide)) ?_
      refine rv_M_low (d := d + 4) ?_
      rw [show bc_upd h 0 0 6 157 = h 157 from bc_urow (by decide)]
      refine ⟨fun _ => ?_, fun q => absurd (by omega) q⟩
      exact bc_m_laysLayers (d := d + 2) (A := h 157) (bc_urow (by decide)) w3 (fun h2 g1 _ => ⟨fun q => absurd hz q, fun _ => hK _ _ (bs_yfin hR (fun _ _ => rfl) g1)⟩)
  · refine hQ _ _ (by first | rfl | exact bc_urow (by decide)) (by first | rfl | exact bc_urow (by decide)) ?_
    refine rv_M_low (d := d + 4) ?_
    rw [show bc_upd h 0 0 1 157 = h 157 from bc_urow (by decide)]
    exact ⟨fun q => absurd q (by omega), fun _ => hq _ _⟩
