/-! ===== what is done ===== -/
theorem bs_o_rule {d : Nat} {a : Int} {S : Int → Int} {L c s p q : Int} {h : bc_H} (hR : bs_R S L c s p q h) {P N1 N2 : bc_H → Prop} {Q1 Q0 : bc_H → Prop} (hQ : ∀ h1, h1 (-2) = h (-2) → h1 (-3) = h (-3) → bf_M_rule (d + 4) a h1 (bc_B P N1) → Q1 h1) (hQ0 : ∀ h1, h1 (-2) = h (-2) → h1 (-3) = h (-3) → bf_M_rule (d + 4) a h1 (bc_B N2 P) → Q0 h1) (hK : ∀ h2, bs_R S L c s p q h2 → P h2) : bf_X_rule (d + 4) a h (bc_B Q1 Q0) := by
  obtain ⟨⟨hcs, hpq⟩, ⟨e12, e13, e14, e15⟩, hS, est, efr, htr, htp, hfa, hlv, hlo, hrs, hmk, ⟨hC, hW, hck, hN, hP⟩⟩ := id hR
  obtain ⟨⟨n4, n5, n6, n2, n0, n1, n3⟩, hw, hd, hg, hf, hm⟩ := id hC
  obtain ⟨⟨w0, w1, w2, w3, w4, w5, w7⟩, hww, hwy, hwv, hwf, hwg⟩ := id hW
  have hq : ∀ v, P (bc_upd (bc_upd h 0 0 v) 156 2 v) := fun v => hK _ (bs_R_st hR v)
  refine rv_X_rule (d := d + 3) ?_
  rw [e12]
  refine ⟨fun z => ⟨by omega, ?_⟩, fun z => ?_⟩
  · refine hQ _ (by rw [bc_urow (by omega), bc_urow (by omega)]) (by rw [bc_urow (by omega), bc_urow (by omega)]) ?_
    refine rv_M_rule (d := d + 3) ⟨fun _ => ?_, fun q => absurd z q⟩
    have e157 : bc_upd (bc_upd (bc_upd (bc_upd h c 1 a) 0 0 0) 157 5 a) 156 2 0 157 = bc_set (h 157) 5 a := by
      rw [bc_urow (by decide), bc_u_row _ 157, bs_rr, bc_urow (by omega), bc_urow (by omega)]
    have er : ∀ x y, x ≠ 157 → (x ≠ c ∨ y ≠ 1) → (x ≠ 0 ∨ y ≠ 0) → (x ≠ 156 ∨ y ≠ 2) → bc_upd (bc_upd (bc_upd (bc_upd h c 1 a) 0 0 0) 157 5 a) 156 2 0 x y = h x y := fun x y k1 k2 k3 k4 => by
      rw [bc_un2 k4, bc_ur k1, bc_un2 k3, bc_un2 k2]
    have rw0 : ∀ x, x ≠ 157 → x ≠ c → x ≠ 0 → x ≠ 156 → bc_upd (bc_upd (bc_upd (bc_upd h c 1 a) 0 0 0) 157 5 a) 156 2 0 x = h x := fun x k1 k2 k3 k4 => funext fun y => er x y k1 (Or.inl k2) (Or.inl k3) (Or.inl k4)
    have es : ∀ k, k ≠ 5 → bc_set (h 157) 5 a k = h 157 k := fun k hk => bc_setn hk
    refine hK _ (bs_R_mut hR (fun x y k k1 k2 => ?_) ?_ (by rw [e157, es _ (by decide)]) (by rw [e157, es _ (by decide)]) (by rw [e157, es _ (by decide)]) (by rw [e157, es _ (by decide)]) ?_ ?_ ?_)
    · have kf := bs_kf k
      by_cases e : x = 157
      · subst e; rw [bc_ur (by decide), bc_uj (by omega), bc_ur (by omega), bc_ur (by omega)]
      · exact er x y e (by omega) kf.1 kf.2
    · rw [bc_ur (by decide), bc_ur (by decide), bc_uu, bc_uu]
    · rw [e157]
      refine ⟨⟨?_, ?_, ?_, ?_, ?_, ?_, ?_⟩, ?_, ?_, ?_, ?_, ?_⟩
      · rw [er _ _ (by omega) (by omega) (by omega) (by omega), es _ (by decide)]; exact n4
      · rw [bc_ur (by omega), bc_ur (by omega), bc_ur (by omega), bc_uu, bc_setj]
      · rw [er _ _ (by omega) (by omega) (by omega) (by omega), es _ (by decide)]; exact n6
      · rw [er _ _ (by omega) (by omega) (by omega) (by omega), es _ (by decide)]; exact n2
      · rw [er _ _ (by omega) (by omega) (by omega) (by omega), es _ (by decide)]; exact n0
      · rw [er _ _ (by omega) (by omega) (by omega) (by omega), es _ (by decide)]; exact n1
      · rw [er _ _ (by omega) (by omega) (by omega) (by omega), es _ (by decide)]; exact n3
      · exact bs_Cw_p w1.2 (rw0 _ (by omega) (by omega) (by omega) (by omega)) (rw0 _ (by omega) (by omega) (by omega) (by omega)) (es _ (by decide)) (fun k _ _ => es k (by omega)) hw
      · exact bs_Cd_p w7 (rw0 _ (by omega) (by omega) (by omega) (by omega)) (rw0 _ (by omega) (by omega) (by omega) (by omega)) ⟨es _ (by decide), es _ (by decide), fun k _ _ => es k (by omega)⟩ hd
      · exact bs_Cg_p w0.2 (rw0 _ (by omega) (by omega) (by omega) (by omega)) (es _ (by decide)) (fun k _ _ => es k (by omega)) hg
      · exact bs_Cf_p w3.2 (rw0 _ (by omega) (by omega) (by omega) (by omega)) (rw0 _ (by omega) (by omega) (by omega) (by omega)) (rw0 _ (by omega) (by omega) (by omega) (by omega)) (rw0 _ (by omega) (by omega) (by omega) (by omega)) (es _ (by decide)) (fun k _ _ => es k (by omega)) hf
      · exact bs_Cm_p w2.2 (rw0 _ (by omega) (by omega) (by omega) (by omega)) (rw0 _ (by omega) (by omega) (by omega) (by omega)) (rw0 _ (by omega) (by omega) (by omega) (by omega)) (rw0 _ (by omega) (by omega) (by omega) (by omega)) (es _ (by decide)) (fun k _ _ => es k (by omega)) hm
    · rw [e157]
      refine ⟨?_, bs_WW_p w1.2 (es _ (by decide)) (es _ (by decide)) (fun k _ _ => es k (by omega)) hww, bs_WY_p w7.2 ⟨es _ (by decide), es _ (by decide), fun k _ _ => es k (by omega)⟩ hwy, bs_WV_p w2.2 (es _ (by decide)) (es _ (by decide)) (es _ (by decide)) (fun k _ _ => es k (by omega)) hwv, bs_WF_p w3.2 (es _ (by decide)) (es _ (by decide)) (fun k _ _ => es k (by omega)) hwf, bs_WG_p w0.2 (es _ (by decide)) (fun k _ _ => es k (by omega)) hwg⟩
      rw [es 0 (by decide), es 1 (by decide), es 2 (by decide), es 3 (by decide), es 4 (by decide), es 7 (by decide), bc_setj]
      exact ⟨w0, w1, w2, w3, w4, z, w7⟩
    · rw [e157, es _ (by decide)]; exact hck
  · refine hQ0 _ (bc_urow (by decide)) (bc_urow (by decide)) ?_
    exact rv_M_rule (d := d + 3) ⟨fun q => absurd q z, fun _ => hq _⟩
