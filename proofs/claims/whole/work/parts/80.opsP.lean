/-! ===== layers ===== -/
theorem bs_p87 {k : Nat} (h : k ≤ 7) : ((8 ^ k : Nat) : Int) ≤ 2097152 := by
  have p : 8 ^ k ≤ 8 ^ 7 := Nat.pow_le_pow_right (by decide) h
  have q : (8 : Nat) ^ 7 = 2097152 := by decide
  omega
theorem bs_pn0 : bs_pn 0 = 0 := by decide +kernel
def bs_Lf (A : Int → Int) (s : Int) : Int := bs_NL A (bs_pn s).toNat 0 s
def bs_Lb (A : Int → Int) (s : Int) : Int := bs_NF A (A 3 - bs_pn s).toNat s (bc_shl 1 (A 3) - 1)
theorem bs_L_eq {A : Int → Int} (w3 : 0 ≤ A 3 ∧ A 3 ≤ 8) : bs_Lf A (bc_shl 1 (A 3) - 1) = bs_Lb A 0 := by
  have r := bs_shl_r w3.1 w3.2
  unfold bs_Lf bs_Lb
  rw [(bs_full w3.1 w3.2).1.1, bs_pn0, Int.sub_zero]
  exact (bs_NFL w3 _ _ _ (by omega) (by omega) (by omega) (by omega)).symm
theorem bc_c_countOrders {d : Nat} {c : Int} {h : bc_H} {A : Int → Int} {K : Int → bc_H → Prop} (hc : 24 ≤ c ∧ c ≤ 130) (n3 : h (c + 8) 0 = A 3) (hf : bs_Cf h c A) (w3 : 0 ≤ A 3 ∧ A 3 ≤ 8) (hK : ∀ h', (∀ x, x ≠ 23 → h' x = h x) → K (bs_Lf A (bc_shl 1 (A 3) - 1)) h') : bf_Figures_countOrders d (c + 8) h (bc_I K) := by
  have sr := bs_shl_r w3.1 w3.2
  refine rv_Figures_countOrders ?_
  rw [n3]
  refine bc_lupF (P := fun s => ∀ g, (∀ x, x ≠ 23 → g x = h x) → (∀ u, 0 ≤ u → u < s → g 23 u = bs_Lf A u) → bl_Figures_countOrders_11 d (c + 8) (bc_shl 1 (A 3)) s g (bc_I K)) (a := 1) (n := bc_shl 1 (A 3)) (fun g a1 a2 => ?_) (fun s s0 s1 ih g a1 a2 => ?_) (Int.le_refl 1) sr.1 _ (fun x x1 => bc_urow x1) (fun u u0 u1 => ?_)
  · refine rv_Figures_countOrders_11 ⟨fun _ => ?_, fun q => absurd q (by omega)⟩
    rw [bc_wi (by omega) (by omega), a2 _ (by omega) (by omega)]
    exact ⟨by omega, hK g a1⟩
  · refine rv_Figures_countOrders_11 ⟨fun q => absurd q (by omega), fun _ => ?_⟩
    have ps := bs_pnI (s := s) (by omega) (by omega)
    have ps1 := (ps.2 (by omega)).2
    have ps2 := (bs_pnI (ps.2 (by omega)).1.1 (by omega)).1
    obtain ⟨k, hk⟩ : ∃ k : Nat, (bs_pn s).toNat = k + 1 := ⟨(bs_pn s).toNat - 1, by omega⟩
    have k7 : k ≤ 7 := by omega
    have eL : bs_Lf A s = bs_tN (fun f => bs_lv A f s * bs_NL A k 0 (bs_sdn f s)) (A 3).toNat := by unfold bs_Lf; rw [hk]; rfl
    have gr : ∀ f : Int, 0 ≤ bs_lv A f s * bs_NL A k 0 (bs_sdn f s) ∧ bs_lv A f s * bs_NL A k 0 (bs_sdn f s) ≤ 2097152 := fun f => by
      have t := bs_NL_r w3 k 0 (bs_sdn f s)
      have u := bs_p87 k7
      rcases bs_lv_r A f s with e | e
      · rw [e, Int.zero_mul]; omega
      · rw [e, Int.one_mul]; omega
    refine bc_lup (P := fun i => bl_Figures_countOrders_18 d (c + 8) (bc_shl 1 (A 3)) s (bs_tN (fun f => bs_lv A f s * bs_NL A k 0 (bs_sdn f s)) i.toNat) i g (bc_I K)) (n := A 3) ?_ (fun i i0 i1 ihi => ?_) (Int.le_refl 0) w3.1
    · refine rv_Figures_countOrders_18 ⟨fun _ => ?_, fun q => absurd q (by rw [a1 _ (by omega)]; omega)⟩
      rw [bc_wi (by omega) (by omega)]
      refine ⟨by omega, ih _ (fun x x1 => by rw [bc_urow x1]; exact a1 x x1) (fun u u0 u1 => ?_)⟩
      by_cases e : u = s
      · subst e; rw [bc_uu]; exact eL.symm
      · rw [bc_uj e]; exact a2 u u0 (by omega)
    · have tr := bs_tN_r (G := fun f => bs_lv A f s * bs_NL A k 0 (bs_sdn f s)) (M := 2097152) i.toNat (fun f _ => gr f)
      have st : bs_tN (fun f => bs_lv A f s * bs_NL A k 0 (bs_sdn f s)) (i + 1).toNat = bs_tN (fun f => bs_lv A f s * bs_NL A k 0 (bs_sdn f s)) i.toNat + bs_lv A i s * bs_NL A k 0 (bs_sdn i s) := by
        rw [show (i + 1).toNat = i.toNat + 1 by omega]
        show _ + bs_lv A ((i.toNat : Nat) : Int) s * bs_NL A k 0 (bs_sdn ((i.toNat : Nat) : Int) s) = _
        rw [show ((i.toNat : Nat) : Int) = i by omega]
      have gi := gr i
      rw [st] at ihi
      have zero : bs_lv A i s = 0 → bl_Figures_countOrders_18 d (c + 8) (bc_shl 1 (A 3)) s (bs_tN (fun f => bs_lv A f s * bs_NL A k 0 (bs_sdn f s)) i.toNat) (bc_w32 (i + 1)) g (bc_I K) := fun e => by
        rw [e, Int.zero_mul, Int.add_zero] at ihi
        rw [bc_wi (by omega) (by omega)]; exact ihi
      have ud := bs_ud (f := i) (s := s) i0 (by omega) (by omega) (by omega)
      refine rv_Figures_countOrders_18 ⟨fun q => absurd q (by rw [a1 _ (by omega)]; omega), fun _ => ⟨fun z => zero (if_pos z), fun z => ?_⟩⟩
      have z' : ¬ bs_sdn i s = s := z
      have bi : bs_b s i := by
        by_cases y : bs_b s i
        · exact y
        · exact absurd (ud.2 y).1 z'
      obtain ⟨⟨_, q1, q2⟩, _, _, q4⟩ := ud.1 bi
      have lv1 : bs_lv A i s = if bc_and (A (102 + 4 * i + 3)) (bc_xor (bs_sdn i s) (-1)) = 0 then 1 else 0 := if_neg z'
      have e4 : g (c + 8 + 4) i = A (102 + 4 * i + 3) := by rw [a1 _ (by omega)]; exact (hf i i0 i1).2.2.2
      rw [e4]
      refine ⟨by omega, fun y => zero (lv1.trans (if_neg y)), fun y => ⟨⟨q1, show bs_sdn i s < 512 by omega⟩, ?_⟩⟩
      have e1 : bs_lv A i s = 1 := lv1.trans (if_pos y)
      rw [e1, Int.one_mul] at ihi gi
      have et : g 23 (bs_sdn i s) = bs_NL A k 0 (bs_sdn i s) := by
        rw [a2 _ q1 q2]
        unfold bs_Lf
        rw [show (bs_pn (bs_sdn i s)).toNat = k by omega]
      have et' : g 23 (bc_and s (bc_xor (bc_shl 1 i) (-1))) = bs_NL A k 0 (bs_sdn i s) := et
      rw [et', bc_wi (x := i + 1) (by omega) (by omega), bc_wi (by omega) (by omega)]
      exact ihi
  · rw [show u = 0 by omega, bc_uu]
    unfold bs_Lf
    rw [bs_pn0]; rfl
theorem bc_m_mayCome {d : Nat} {f s : Int} {h : bc_H} {P N : bc_H → Prop} (f0 : 0 ≤ f) (f1 : f < 8) (hP : bs_may (h 157) f s = 1 → ¬ bs_b s f → P h) (hN : bs_may (h 157) f s = 0 → N h) : bf_M_mayCome (d + 2) f s h (bc_B P N) := by
  refine rv_M_mayCome (d := d) ⟨fun z => hN (if_pos z), fun z => ?_⟩
  have e : bs_may (h 157) f s = if bc_and (h 157 (102 + 4 * f + 3)) (bc_xor s (-1)) = 0 then 1 else 0 := if_neg z
  simp (disch := omega) only [bc_wi, Int.add_zero]
  exact ⟨by omega, fun y => hP (e.trans (if_pos y)) z, fun y => hN (e.trans (if_neg y))⟩
theorem bc_m_laysLayers {d : Nat} {h : bc_H} {A : Int → Int} {K : Int → bc_H → Prop} (eA : h 157 = A) (w3 : 0 ≤ A 3 ∧ A 3 ≤ 8) (hK : ∀ h', (∀ x, x ≠ 169 → h' x = h x) → (∀ u, 0 ≤ u → u < bc_shl 1 (A 3) → h' 169 u = bs_Lb A u) → K (bs_Lb A 0) h') : bf_M_laysLayers (d + 3) h (bc_I K) := by
  have sr := bs_shl_r w3.1 w3.2
  have fu := bs_full w3.1 w3.2
  refine rv_M_laysLayers (d := d + 2) ?_
  rw [eA, bc_wi (x := bc_shl 1 (A 3) - 1) (by omega) (by omega)]
  have lp := bc_lup (P := fun t => ∀ g, (∀ x, x ≠ 169 → g x = h x) → (∀ u, bc_shl 1 (A 3) - 1 - t < u → u < bc_shl 1 (A 3) → g 169 u = bs_Lb A u) → bl_M_laysLayers_11 (d + 3) (bc_shl 1 (A 3) - 1) (bc_shl 1 (A 3) - 1 - t) g (bc_I K)) (n := bc_shl 1 (A 3)) (fun g a1 a2 => ?_) (fun t t0 t1 ih g a1 a2 => ?_) (Int.le_refl 0) (by omega) h (fun _ _ => rfl) (fun u u0 u1 => absurd u1 (by omega))
  · rw [Int.sub_zero] at lp; exact lp
  · refine rv_M_laysLayers_11 (d := d + 2) ⟨fun _ => ?_, fun q => absurd q (by omega)⟩
    rw [a2 0 (by omega) (by omega)]
    exact hK g a1 (fun u u0 u1 => a2 u (by omega) u1)
  · have g7 : ∀ g : bc_H, (∀ x, x ≠ 169 → g x = h x) → g 157 = A := fun g b1 => by rw [b1 _ (by decide)]; exact eA
    have ea : bc_shl 1 (A 3) - 1 - (t + 1) = bc_shl 1 (A 3) - 1 - t - 1 := by omega
    rw [ea] at ih
    obtain ⟨s, hs⟩ : ∃ s, s = bc_shl 1 (A 3) - 1 - t := ⟨_, rfl⟩
    rw [← hs] at ih a2 ⊢
    have s0 : 0 ≤ s := by omega
    have s1 : s < bc_shl 1 (A 3) := by omega
    by_cases full : s = bc_shl 1 (A 3) - 1
    · refine rv_M_laysLayers_11 (d := d + 2) ⟨fun q => absurd q (by omega), fun _ => ⟨fun _ => ⟨by omega, ?_⟩, fun q => absurd full q⟩⟩
      refine bc_lup (P := fun i => bl_M_laysLayers_25 (d + 3) (bc_shl 1 (A 3) - 1) s i (bc_upd g 169 s 1) (bc_I K)) (n := A 3) ?_ (fun i i0 i1 ihi => ?_) (Int.le_refl 0) w3.1
      · refine rv_M_laysLayers_25 (d := d + 2) ⟨fun _ => ?_, fun q => absurd q (by rw [bc_ur (by decide), g7 g a1]; omega)⟩
        rw [bc_wi (by omega) (by omega), Int.add_neg_eq_sub]
        refine ih _ (fun x x1 => by rw [bc_urow x1]; exact a1 x x1) (fun u u0 u1 => ?_)
        rw [show u = s by omega, bc_uu]
        unfold bs_Lb
        rw [full, fu.1.1, Int.sub_self]
        exact (if_pos rfl).symm
      · refine rv_M_laysLayers_25 (d := d + 2) ⟨fun q => absurd q (by rw [bc_ur (by decide), g7 g a1]; omega), fun _ => ?_⟩
        refine bc_m_mayCome (d := d) i0 (by omega) (fun _ y => absurd (by rw [full]; exact fu.1.2 i i0 i1) y) (fun _ => ?_)
        rw [bc_wi (by omega) (by omega)]; exact ihi
    · have ps := (bs_pnI (s := s) s0 (by omega)).1
      have pm := fu.2 s s0 s1 full
      obtain ⟨k, hk⟩ : ∃ k : Nat, (A 3 - bs_pn s).toNat = k + 1 := ⟨(A 3 - bs_pn s).toNat - 1, by omega⟩
      have k7 : k ≤ 7 := by omega
      have eL : bs_Lb A s = bs_tN (fun f => bs_may A f s * bs_NF A k (bs_sup f s) (bc_shl 1 (A 3) - 1)) (A 3).toNat := by unfold bs_Lb; rw [hk]; rfl
      have gr : ∀ f : Int, 0 ≤ bs_may A f s * bs_NF A k (bs_sup f s) (bc_shl 1 (A 3) - 1) ∧ bs_may A f s * bs_NF A k (bs_sup f s) (bc_shl 1 (A 3) - 1) ≤ 2097152 := fun f => by
        have t := bs_NF_r w3 k (bs_sup f s) (bc_shl 1 (A 3) - 1)
        have u := bs_p87 k7
        rcases bs_cm_r A f s with e | e
        · rw [e, Int.zero_mul]; omega
        · rw [e, Int.one_mul]; omega
      refine rv_M_laysLayers_11 (d := d + 2) ⟨fun q => absurd q (by omega), fun _ => ⟨fun q => absurd q full, fun _ => ⟨by omega, ?_⟩⟩⟩
      refine bc_lup (P := fun i => ∀ g, (∀ x, x ≠ 169 → g x = h x) → (∀ u, s < u → u < bc_shl 1 (A 3) → g 169 u = bs_Lb A u) → g 169 s = bs_tN (fun f => bs_may A f s * bs_NF A k (bs_sup f s) (bc_shl 1 (A 3) - 1)) i.toNat → bl_M_laysLayers_25 (d + 3) (bc_shl 1 (A 3) - 1) s i g (bc_I K)) (n := A 3) (fun g b1 b2 b3 => ?_) (fun i i0 i1 ihi g b1 b2 b3 => ?_) (Int.le_refl 0) w3.1 _ (fun x x1 => by rw [bc_urow x1]; exact a1 x x1) (fun u u0 u1 => by rw [bc_uj (by omega)]; exact a2 u u0 u1) (by rw [bc_uu]; rfl)
      · refine rv_M_laysLayers_25 (d := d + 2) ⟨fun _ => ?_, fun q => absurd q (by rw [g7 g b1]; omega)⟩
        rw [bc_wi (by omega) (by omega), Int.add_neg_eq_sub]
        refine ih _ b1 (fun u u0 u1 => ?_)
        by_cases e : u = s
        · subst e; rw [b3]; exact eL.symm
        · exact b2 u (by omega) u1
      · have tr := bs_tN_r (G := fun f => bs_may A f s * bs_NF A k (bs_sup f s) (bc_shl 1 (A 3) - 1)) (M := 2097152) i.toNat (fun f _ => gr f)
        have st : bs_tN (fun f => bs_may A f s * bs_NF A k (bs_sup f s) (bc_shl 1 (A 3) - 1)) (i + 1).toNat = bs_tN (fun f => bs_may A f s * bs_NF A k (bs_sup f s) (bc_shl 1 (A 3) - 1)) i.toNat + bs_may A i s * bs_NF A k (bs_sup i s) (bc_shl 1 (A 3) - 1) := by
          rw [show (i + 1).toNat = i.toNat + 1 by omega]
          show _ + bs_may A ((i.toNat : Nat) : Int) s * bs_NF A k (bs_sup ((i.toNat : Nat) : Int) s) (bc_shl 1 (A 3) - 1) = _
          rw [show ((i.toNat : Nat) : Int) = i by omega]
        have gi := gr i
        rw [st] at ihi
        refine rv_M_laysLayers_25 (d := d + 2) ⟨fun q => absurd q (by rw [g7 g b1]; omega), fun _ => ?_⟩
        refine bc_m_mayCome (d := d) i0 (by omega) (fun e y => ?_) (fun e => ?_)
        · rw [g7 g b1] at e
          obtain ⟨_, ⟨u1, u2⟩, u3, u4, u5⟩ := (bs_ud (f := i) (s := s) i0 (by omega) s0 (by omega)).2 y
          have u6 : 0 ≤ bs_sup i s ∧ bs_sup i s < bc_shl 1 (A 3) := bs_or_r s0 i0 i1 w3.2 s1
          rw [e, Int.one_mul] at ihi gi
          have eb : g 169 (bs_sup i s) = bs_NF A k (bs_sup i s) (bc_shl 1 (A 3) - 1) := by
            rw [b2 _ u1 u6.2]
            unfold bs_Lb
            rw [show (A 3 - bs_pn (bs_sup i s)).toNat = k by omega]
          have eb' : g 169 (bc_or s (bc_shl 1 i)) = bs_NF A k (bs_sup i s) (bc_shl 1 (A 3) - 1) := eb
          rw [eb', b3, bc_wi (x := i + 1) (by omega) (by omega), bc_wi (by omega) (by omega)]
          refine ⟨by omega, ⟨show 0 ≤ bs_sup i s from u6.1, show bs_sup i s < 256 from u2⟩, by omega, ihi _ (fun x x1 => by rw [bc_urow x1]; exact b1 x x1) (fun u u0 u1 => by rw [bc_uj (by omega)]; exact b2 u u0 u1) (by rw [bc_uu])⟩
        · rw [g7 g b1] at e
          rw [e, Int.zero_mul, Int.add_zero] at ihi
          rw [bc_wi (by omega) (by omega)]; exact ihi g b1 b2 b3
theorem bs_yfin {S : Int → Int} {L c s p q : Int} {h : bc_H} (hR : bs_R S L c s p q h) {h1 h2 : bc_H} {v : Int} (f1 : ∀ x, x ≠ 23 → h1 x = h x) (f2 : ∀ x, x ≠ 169 → h2 x = bc_upd h1 0 0 v x) : bs_R S L c s p q (bc_upd h2 156 2 v) := by
  refine bs_R_F hR (fun x y k => ?_) (by rw [bc_uu, bc_ur (by decide), f2 0 (by decide), bc_uu])
  have kf := bs_kf k
  rw [bc_un2 kf.2, f2 x (fun e => by subst e; exact bs_nk (by omega) k), bc_un2 kf.1, f1 x (fun e => by subst e; exact bs_nk (by omega) k)]
theorem bs_o_layers {d : Nat} {S : Int → Int} {L c s p q : Int} {h : bc_H} (hR : bs_R S L c s p q h) {P : Int → Int → bc_H → Prop} {Q1 : Int → bc_H → Prop} (hQ : ∀ y h1, h1 (-2) = h (-2) → h1 (-3) = h (-3) → bf_M_layers (d + 6) h1 (bc_I fun y2 h2 => P y y2 h2) → Q1 y h1) (hK : ∀ y h2, bs_R S L c s p q h2 → P y y h2) : bf_X_layers (d + 6) h (bc_I Q1) := by
  obtain ⟨⟨hcs, hpq⟩, ⟨e12, e13, e14, e15⟩, hS, est, efr, htr, htp, hfa, hlv, hlo, hrs, hmk, ⟨hC, hW, hck, hN, hP⟩⟩ := id hR
  obtain ⟨⟨n4, n5, n6, n2, n0, n1, n3⟩, hw, hd, hg, hf, hm⟩ := id hC
  obtain ⟨⟨w0, w1, w2, w3, w4, w5, w7⟩, hww, hwy, hwv, hwf, hwg⟩ := id hW
  refine rv_X_layers (d := d + 5) ?_
  rw [e12]
  refine ⟨by omega, ?_⟩
  refine bc_c_countOrders (A := h 157) (by omega) n3 hf w3 (fun h1 f1 => ?_)
  refine hQ _ _ (by rw [bc_urow (by decide), f1 _ (by decide)]) (by rw [bc_urow (by decide), f1 _ (by decide)]) ?_
  refine rv_M_layers (d := d + 5) ?_
  refine bc_m_laysLayers (d := d + 2) (A := h 157) (by rw [bc_urow (by decide), f1 _ (by decide)]) w3 (fun h2 g1 _ => ?_)
  rw [bs_L_eq w3]
  exact hK _ _ (bs_yfin hR f1 g1)
