/-! ===== layerAt ===== -/
theorem bs_o_layerAt {d : Nat} {k : Int} {S : Int → Int} {L c s p q : Int} {h : bc_H} (hR : bs_R S L c s p q h) {P : Int → Int → bc_H → Prop} {Q1 : Int → bc_H → Prop} (hQ : ∀ y h1, h1 (-2) = h (-2) → h1 (-3) = h (-3) → bf_M_layerAt (d + 6) k h1 (bc_I fun y2 h2 => P y y2 h2) → Q1 y h1) (hK : ∀ y h2, bs_R S L c s p q h2 → P y y h2) : bf_X_layerAt (d + 6) k h (bc_I Q1) := by
  obtain ⟨⟨hcs, hpq⟩, ⟨e12, e13, e14, e15⟩, hS, est, efr, htr, htp, hfa, hlv, hlo, hrs, hmk, ⟨hC, hW, hck, hN, hP⟩⟩ := id hR
  obtain ⟨⟨n4, n5, n6, n2, n0, n1, n3⟩, hw, hd, hg, hf, hm⟩ := id hC
  obtain ⟨⟨w0, w1, w2, w3, w4, w5, w7⟩, hww, hwy, hwv, hwf, hwg⟩ := id hW
  have hq : ∀ y v, P y y (bc_upd (bc_upd h 0 0 v) 156 2 v) := fun y v => hK _ _ (bs_R_st hR v)
  have sr := bs_shl_r w3.1 w3.2
  have fu := bs_full w3.1 w3.2
  refine rv_X_layerAt (d := d + 5) ⟨fun zk => ?_, fun zk => ?_⟩
  · rw [e12, n3]
    refine ⟨by omega, fun z => ?_, fun z => ⟨by omega, ?_⟩⟩
    · refine hQ _ _ (by first | rfl | exact bc_urow (by decide)) (by first | rfl | exact bc_urow (by decide)) ?_
      refine rv_M_layerAt (d := d + 5) ⟨fun _ => ?_, fun q => absurd q (by omega)⟩
      refine bc_m_laysLayers (d := d + 2) (A := h 157) (bc_urow (by decide)) w3 (fun h2 g1 _ => ?_)
      have fin : P (-1) (-1) (bc_upd h2 156 2 6) := hK _ _ (bs_yfin hR (fun _ _ => rfl) g1)
      exact ⟨fun _ => fin, fun _ => ⟨fun q => absurd q (by rw [g1 _ (by decide), bc_urow (by decide)]; omega), fun _ => fin⟩⟩
    · refine bc_c_first (d := d + 4) (A := h 157) n3 hf w3 hwf zk z (fun hp => ?_) (fun hz => ?_)
      · have gpk : ∀ i, 0 ≤ i → i ≤ k → 0 < bs_Lb (h 157) (bs_gq (h 157) i) → (0 ≤ bs_gq (h 157) i ∧ bs_gq (h 157) i < bc_shl 1 (h 157 3)) → bs_pn (bs_gq (h 157) i) = i → (0 ≤ bs_gf (h 157) (bs_gq (h 157) i) ∧ bs_gf (h 157) (bs_gq (h 157) i) < h 157 3) ∧ bs_may (h 157) (bs_gf (h 157) (bs_gq (h 157) i)) (bs_gq (h 157) i) = 1 ∧ ∀ f, 0 ≤ f → f < bs_gf (h 157) (bs_gq (h 157) i) → bs_may (h 157) f (bs_gq (h 157) i) = 0 := fun i i0 i1 p1 p2 p3 => by
          rcases bs_gf_p (h 157) w3 (bs_gq (h 157) i) with ⟨_, y⟩ | y
          · have nf : bs_gq (h 157) i ≠ bc_shl 1 (h 157 3) - 1 := fun e => by rw [e, fu.1.1] at p3; omega
            obtain ⟨g, hg, e, _⟩ := (bs_Lb_pos w3 p2.1 p2.2 nf).1 p1
            have := y g hg.1 hg.2; omega
          · exact y
        have stp : ∀ i, 0 ≤ i → i ≤ k → 0 < bs_Lb (h 157) (bs_gq (h 157) i) → (0 ≤ bs_gq (h 157) i ∧ bs_gq (h 157) i < bc_shl 1 (h 157 3)) → bs_pn (bs_gq (h 157) i) = i → 0 < bs_Lb (h 157) (bs_gq (h 157) (i + 1)) ∧ (0 ≤ bs_gq (h 157) (i + 1) ∧ bs_gq (h 157) (i + 1) < bc_shl 1 (h 157 3)) ∧ bs_pn (bs_gq (h 157) (i + 1)) = i + 1 := fun i i0 i1 p1 p2 p3 => by
          have g := gpk i i0 i1 p1 p2 p3
          rw [bs_gq_s _ i0]
          have ud := (bs_ud (f := bs_gf (h 157) (bs_gq (h 157) i)) (s := bs_gq (h 157) i) g.1.1 (by omega) p2.1 (by omega)).2 (bs_may1.1 g.2.1).1
          exact ⟨bs_exch w3 hwf 8 _ _ (by omega) p2.1 p2.2 g.1.1 g.1.2 p1 g.2.1, bs_or_r p2.1 g.1.1 g.1.2 w3.2 p2.2, by have := ud.2.2.2.2; omega⟩
        have nn : bs_gf (h 157) (bs_gq (h 157) k) ≠ -1 := by
          have t := bc_it_ind (f := fun _ (x : Int) => x) (a := (0 : Int)) (fun i _ => i ≤ k → 0 < bs_Lb (h 157) (bs_gq (h 157) i) ∧ (0 ≤ bs_gq (h 157) i ∧ bs_gq (h 157) i < bc_shl 1 (h 157 3)) ∧ bs_pn (bs_gq (h 157) i) = i) (fun _ => ⟨hp, ⟨Int.le_refl 0, by show (0 : Int) < _; omega⟩, bs_pn0⟩) (fun i _ i0 ih i1 => by
            obtain ⟨q1, q2, q3⟩ := ih (by omega)
            exact stp i i0 (by omega) q1 q2 q3) zk (Int.le_refl k)
          have := gpk k zk (Int.le_refl k) t.1 t.2.1 t.2.2
          omega
        refine ⟨fun _ => ?_, fun q => absurd q nn⟩
        refine hQ _ _ (by first | rfl | exact bc_urow (by decide)) (by first | rfl | exact bc_urow (by decide)) ?_
        refine rv_M_layerAt (d := d + 5) ⟨fun _ => ?_, fun q => absurd q (by omega)⟩
        refine bc_m_laysLayers (d := d + 2) (A := h 157) (bc_urow (by decide)) w3 (fun h2 g1 g2 => ?_)
        have h7 : h2 157 = h 157 := by rw [g1 _ (by decide), bc_urow (by decide)]
        refine ⟨fun q => absurd q (by omega), fun _ => ⟨fun _ => ?_, fun q => absurd q (by rw [h7]; omega)⟩⟩
        refine bc_lup (P := fun i => 0 < bs_Lb (h 157) (bs_gq (h 157) i) → (0 ≤ bs_gq (h 157) i ∧ bs_gq (h 157) i < bc_shl 1 (h 157 3)) → bs_pn (bs_gq (h 157) i) = i → bl_M_layerAt_25 (d + 6) k (bs_gq (h 157) i) (if i = 0 then -1 else bs_gf (h 157) (bs_gq (h 157) (i - 1))) i h2 (bc_I fun y2 h2 => P (bs_gf (h 157) (bs_gq (h 157) k)) y2 h2)) (n := k + 1) (fun p1 p2 p3 => ?_) (fun i i0 i1 ih p1 p2 p3 => ?_) (Int.le_refl 0) (by omega) hp ⟨Int.le_refl 0, by show (0 : Int) < _; omega⟩ bs_pn0
        · refine rv_M_layerAt_25 (d := d + 5) ⟨fun _ => ?_, fun q => absurd q (by omega)⟩
          rw [if_neg (by omega), show k + 1 - 1 = k by omega]
          exact hK _ _ (bs_yfin hR (fun _ _ => rfl) g1)
        · refine rv_M_layerAt_25 (d := d + 5) ⟨fun q => absurd q (by omega), fun _ => ?_⟩
          have gp := gpk i i0 (by omega) p1 p2 p3
          obtain ⟨s1, s2, s3⟩ := stp i i0 (by omega) p1 p2 p3
          have t := ih s1 s2 s3
          rw [if_neg (by omega), show i + 1 - 1 = i by omega] at t
          have gs := bs_gq_s (h 157) i0
          rw [gs] at t s1 s2
          refine bc_lup (P := fun x => bl_M_layerAt_30 (d + 6) k (bs_gq (h 157) i) x i h2 (bc_I fun y2 h2 => P (bs_gf (h 157) (bs_gq (h 157) k)) y2 h2)) (n := bs_gf (h 157) (bs_gq (h 157) i)) ?_ (fun x x0 x1 ihx => ?_) (Int.le_refl 0) gp.1.1
          · refine rv_M_layerAt_30 (d := d + 5) ?_
            refine bc_m_mayCome (d := d + 3) gp.1.1 (by omega) (fun _ _ => ?_) (fun e => absurd e (by rw [h7]; omega))
            have e9 : h2 169 (bs_sup (bs_gf (h 157) (bs_gq (h 157) i)) (bs_gq (h 157) i)) = bs_Lb (h 157) (bs_sup (bs_gf (h 157) (bs_gq (h 157) i)) (bs_gq (h 157) i)) := g2 _ s2.1 s2.2
            refine ⟨⟨s2.1, show bs_sup _ _ < 256 by omega⟩, fun _ => ?_, fun q => absurd (e9.symm.trans q) (by omega)⟩
            rw [bc_wi (by omega) (by omega)]
            exact t
          · have m0 := gp.2.2 x x0 x1
            refine rv_M_layerAt_30 (d := d + 5) ?_
            refine bc_m_mayCome (d := d + 3) x0 (by omega) (fun e _ => absurd e (by rw [h7]; omega)) (fun _ => ?_)
            rw [bc_wi (by omega) (by omega)]; exact ihx
      · refine ⟨fun q => absurd rfl q, fun _ => ?_⟩
        refine hQ _ _ (by first | rfl | exact bc_urow (by decide)) (by first | rfl | exact bc_urow (by decide)) ?_
        refine rv_M_layerAt (d := d + 5) ⟨fun _ => ?_, fun q => absurd q (by omega)⟩
        refine bc_m_laysLayers (d := d + 2) (A := h 157) (bc_urow (by decide)) w3 (fun h2 g1 _ => ?_)
        exact ⟨fun _ => hK _ _ (bs_yfin hR (fun _ _ => rfl) g1), fun q => absurd hz q⟩
  · refine hQ _ _ (by first | rfl | exact bc_urow (by decide)) (by first | rfl | exact bc_urow (by decide)) ?_
    exact rv_M_layerAt (d := d + 5) ⟨fun q => absurd q (by omega), fun _ => hq _ _⟩
