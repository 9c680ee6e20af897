/-! ===== which part it is ===== -/
theorem bs_hC_0 {D : Nat} {T : Int → Int} {n c : Int} {m : bc_H} (n0 : 0 ≤ n ∧ n ≤ 900) (hb : bs_tb8 T n) (pt : bs_PT T n m) (z : m 6 4 = 0) (f : m 9 3 = 0) : bs_hC T n c D 0 m (bs_oneG D (2112 + 4) 99) := fun g P N ⟨g0, sm⟩ hG => by
  unfold bs_CP
  rw [show (2112 : Int) + 4 = 2116 from rfl] at hG
  unfold bs_oneG at hG
  refine bc_m_part n0 hb pt sm.2.2.2.1 sm.2.2.1.2.2 (fun u => ⟨fun _ => hG, fun v => absurd f (sm.2.2.2.2.2.2.2.2.1.1 v)⟩) (fun u => ?_) (fun u => ?_) (fun u => ?_) (fun u => ?_) (fun u => ?_) (fun u => ?_) (fun u => ?_) (fun u => ?_) (fun u _ _ _ _ _ _ _ _ => absurd z u)
  all_goals (exfalso; omega)
theorem bs_hC_1 {D : Nat} {T : Int → Int} {n c : Int} {m : bc_H} (n0 : 0 ≤ n ∧ n ≤ 900) (hb : bs_tb8 T n) (pt : bs_PT T n m) (z : m 6 4 = 1) (f : m 9 4 = 0) : bs_hC T n c D 1 m (bs_oneG D (2112 + 5) 16) := fun g P N ⟨g0, sm⟩ hG => by
  unfold bs_CP
  rw [show (2112 : Int) + 5 = 2117 from rfl] at hG
  unfold bs_oneG at hG
  refine bc_m_part n0 hb pt sm.2.2.2.1 sm.2.2.1.2.2 (fun u => ?_) (fun u => ⟨fun _ => hG, fun v => absurd f (sm.2.2.2.2.2.2.2.2.2.1 v)⟩) (fun u => ?_) (fun u => ?_) (fun u => ?_) (fun u => ?_) (fun u => ?_) (fun u => ?_) (fun u => ?_) (fun _ u _ _ _ _ _ _ _ => absurd z u)
  all_goals (exfalso; omega)
theorem bs_hC_2 {D : Nat} {T : Int → Int} {n c : Int} {m : bc_H} (n0 : 0 ≤ n ∧ n ≤ 900) (hb : bs_tb8 T n) (pt : bs_PT T n m) (z : m 6 4 = 2) : bs_hC T n c D 2 m (fun g P N => bf_M_aBeast (D + 5) g (bc_B P N)) := fun g P N ⟨g0, sm⟩ hG => by
  unfold bs_CP
  refine bc_m_part n0 hb pt sm.2.2.2.1 sm.2.2.1.2.2 (fun u => ?_) (fun u => ?_) (fun u => hG) (fun u => ?_) (fun u => ?_) (fun u => ?_) (fun u => ?_) (fun u => ?_) (fun u => ?_) (fun _ _ u _ _ _ _ _ _ => absurd z u)
  all_goals (exfalso; omega)
theorem bs_hC_3 {D : Nat} {T : Int → Int} {n c : Int} {m : bc_H} (n0 : 0 ≤ n ∧ n ≤ 900) (hb : bs_tb8 T n) (pt : bs_PT T n m) (z : m 6 4 = 3) : bs_hC T n c D 3 m (fun g P N => bf_M_aWall (D + 5) g (bc_B P N)) := fun g P N ⟨g0, sm⟩ hG => by
  unfold bs_CP
  refine bc_m_part n0 hb pt sm.2.2.2.1 sm.2.2.1.2.2 (fun u => ?_) (fun u => ?_) (fun u => ?_) (fun u => hG) (fun u => ?_) (fun u => ?_) (fun u => ?_) (fun u => ?_) (fun u => ?_) (fun _ _ _ u _ _ _ _ _ => absurd z u)
  all_goals (exfalso; omega)
theorem bs_hC_4 {D : Nat} {T : Int → Int} {n c : Int} {m : bc_H} (n0 : 0 ≤ n ∧ n ≤ 900) (hb : bs_tb8 T n) (pt : bs_PT T n m) (z : m 6 4 = 6) : bs_hC T n c D 4 m (fun g P N => bf_M_aWay (D + 5) g (bc_B P N)) := fun g P N ⟨g0, sm⟩ hG => by
  unfold bs_CP
  refine bc_m_part n0 hb pt sm.2.2.2.1 sm.2.2.1.2.2 (fun u => ?_) (fun u => ?_) (fun u => ?_) (fun u => ?_) (fun u => hG) (fun u => ?_) (fun u => ?_) (fun u => ?_) (fun u => ?_) (fun _ _ _ _ u _ _ _ _ => absurd z u)
  all_goals (exfalso; omega)
theorem bs_hC_5 {D : Nat} {T : Int → Int} {n c : Int} {m : bc_H} (n0 : 0 ≤ n ∧ n ≤ 900) (hb : bs_tb8 T n) (pt : bs_PT T n m) (z : m 6 4 = 8) : bs_hC T n c D 5 m (fun g P N => bf_M_aVisitor (D + 5) g (bc_B P N)) := fun g P N ⟨g0, sm⟩ hG => by
  unfold bs_CP
  refine bc_m_part n0 hb pt sm.2.2.2.1 sm.2.2.1.2.2 (fun u => ?_) (fun u => ?_) (fun u => ?_) (fun u => ?_) (fun u => ?_) (fun u => hG) (fun u => ?_) (fun u => ?_) (fun u => ?_) (fun _ _ _ _ _ u _ _ _ => absurd z u)
  all_goals (exfalso; omega)
theorem bs_hC_6 {D : Nat} {T : Int → Int} {n c : Int} {m : bc_H} (n0 : 0 ≤ n ∧ n ≤ 900) (hb : bs_tb8 T n) (pt : bs_PT T n m) (z : m 6 4 = 11) : bs_hC T n c D 6 m (fun g P N => bf_M_aFigure (D + 5) g (bc_B P N)) := fun g P N ⟨g0, sm⟩ hG => by
  unfold bs_CP
  refine bc_m_part n0 hb pt sm.2.2.2.1 sm.2.2.1.2.2 (fun u => ?_) (fun u => ?_) (fun u => ?_) (fun u => ?_) (fun u => ?_) (fun u => ?_) (fun u => hG) (fun u => ?_) (fun u => ?_) (fun _ _ _ _ _ _ u _ _ => absurd z u)
  all_goals (exfalso; omega)
theorem bs_hC_7 {D : Nat} {T : Int → Int} {n c : Int} {m : bc_H} (n0 : 0 ≤ n ∧ n ≤ 900) (hb : bs_tb8 T n) (pt : bs_PT T n m) (z : m 6 4 = 13) : bs_hC T n c D 7 m (fun g P N => bf_M_anOver (D + 5) g (bc_B P N)) := fun g P N ⟨g0, sm⟩ hG => by
  unfold bs_CP
  refine bc_m_part n0 hb pt sm.2.2.2.1 sm.2.2.1.2.2 (fun u => ?_) (fun u => ?_) (fun u => ?_) (fun u => ?_) (fun u => ?_) (fun u => ?_) (fun u => ?_) (fun u => hG) (fun u => ?_) (fun _ _ _ _ _ _ _ u _ => absurd z u)
  all_goals (exfalso; omega)
theorem bs_hC_8 {D : Nat} {T : Int → Int} {n c : Int} {m : bc_H} (n0 : 0 ≤ n ∧ n ≤ 900) (hb : bs_tb8 T n) (pt : bs_PT T n m) (z : m 6 4 = 14) : bs_hC T n c D 8 m (fun g P N => bf_M_aFollowing (D + 5) g (bc_B P N)) := fun g P N ⟨g0, sm⟩ hG => by
  unfold bs_CP
  refine bc_m_part n0 hb pt sm.2.2.2.1 sm.2.2.1.2.2 (fun u => ?_) (fun u => ?_) (fun u => ?_) (fun u => ?_) (fun u => ?_) (fun u => ?_) (fun u => ?_) (fun u => ?_) (fun u => hG) (fun _ _ _ _ _ _ _ _ u => absurd z u)
  all_goals (exfalso; omega)
theorem bs_hC_x {D : Nat} {T : Int → Int} {n c : Int} {m : bc_H} (n0 : 0 ≤ n ∧ n ≤ 900) (hb : bs_tb8 T n) (pt : bs_PT T n m) (z : m 6 4 ≠ 0 ∧ m 6 4 ≠ 1 ∧ m 6 4 ≠ 2 ∧ m 6 4 ≠ 3 ∧ m 6 4 ≠ 6 ∧ m 6 4 ≠ 8 ∧ m 6 4 ≠ 11 ∧ m 6 4 ≠ 13 ∧ m 6 4 ≠ 14) : ∀ (g : bc_H) (P N : bc_H → Prop), bs_SE T n c m g → N (bs_fg m g 2) → bs_CP D g P N := fun g P N ⟨g0, sm⟩ hG => by
  unfold bs_CP
  refine bc_m_part n0 hb pt sm.2.2.2.1 sm.2.2.1.2.2 (fun u => ?_) (fun u => ?_) (fun u => ?_) (fun u => ?_) (fun u => ?_) (fun u => ?_) (fun u => ?_) (fun u => ?_) (fun u => ?_) (fun _ _ _ _ _ _ _ _ _ => hG)
  all_goals (exfalso; omega)
theorem bs_hC_r {D : Nat} {T : Int → Int} {n c : Int} {m : bc_H} (n0 : 0 ≤ n ∧ n ≤ 900) (hb : bs_tb8 T n) (pt : bs_PT T n m) (z : (m 6 4 = 0 ∧ m 9 3 ≠ 0) ∨ (m 6 4 = 1 ∧ m 9 4 ≠ 0)) : ∀ (g : bc_H) (P N : bc_H → Prop), bs_SE T n c m g → N (bs_fg m g 5) → bs_CP D g P N := fun g P N ⟨g0, sm⟩ hG => by
  unfold bs_CP
  refine bc_m_part n0 hb pt sm.2.2.2.1 sm.2.2.1.2.2 (fun u => ⟨fun v => ?_, fun _ => hG⟩) (fun u => ⟨fun v => ?_, fun _ => hG⟩) (fun u => ?_) (fun u => ?_) (fun u => ?_) (fun u => ?_) (fun u => ?_) (fun u => ?_) (fun u => ?_) (fun _ _ _ _ _ _ _ _ _ => ?_)
  · exact absurd (sm.2.2.2.2.2.2.2.2.1.2 (by omega)) v
  · exact absurd (sm.2.2.2.2.2.2.2.2.2.2 (by omega)) v
  all_goals (exfalso; omega)
theorem bs_P_part {d D : Nat} {T : Int → Int} {n c : Int} {h m : bc_H} {P N : bc_H → Prop} (hc : 24 ≤ c ∧ c ≤ 44) (n0 : 0 ≤ n ∧ n ≤ 900) (hb : bs_tb8 T n) (ps : bs_PS h T n c m) (hP : ∀ m', bs_PS h T n c m' → m 6 10 ≤ m' 6 11 → bs_Co1 T n c m m' (bs_CP D) → P m') (hN : ∀ m', bs_PF h c m' → bs_Co0 T n c m m' (bs_CP D) → N m') : bf_Reader_takePart (d + 4) m (bc_B (fun h5 => bf_Text_needSign (d + 4) 59 h5 (bc_B P N)) N) := by
  have pt := ps.1
  have s : ∀ {k : Int} {G : bs_RT}, 2 ≤ k → k < 9 → bs_hC T n c D k m G → (∀ m', bs_PS h T n c m' → m 6 10 ≤ m' 6 10 → bs_Go1 T n c m m' G → bf_Text_needSign (d + 4) 59 m' (bc_B P N)) ∧ (∀ m', bs_PF h c m' → bs_Go0 T n c m m' G → N m') := fun k2 k9 hC => ⟨fun m' ps' pr go => bs_P_sign (d := d + 2) hc n0 hb (by omega) k9 (fun _ _ => rfl) (by rw [if_neg (by omega)]) (by rw [if_neg (by omega)]) hC ps' pr go hP hN, fun m' pf go => hN m' pf (bs_P_flt hc (by omega) k9 (fun _ _ => rfl) (by rw [if_neg (by omega)]) (by rw [if_neg (by omega)]) hC go)⟩
  have bad : m 6 4 ≠ 0 ∧ m 6 4 ≠ 1 ∧ m 6 4 ≠ 2 ∧ m 6 4 ≠ 3 ∧ m 6 4 ≠ 6 ∧ m 6 4 ≠ 8 ∧ m 6 4 ≠ 11 ∧ m 6 4 ≠ 13 ∧ m 6 4 ≠ 14 → N (bs_fl m 2) := fun z => bs_P_bad (k := 2) ps (by decide) (bs_hC_x n0 hb pt z) hN
  have again : (m 6 4 = 0 ∧ m 9 3 ≠ 0) ∨ (m 6 4 = 1 ∧ m 9 4 ≠ 0) → N (bs_fl m 5) := fun z => bs_P_bad (k := 5) ps (by decide) (bs_hC_r n0 hb pt z) hN
  refine rv_Reader_takePart (d := d + 3) ?_
  refine ⟨fun z => ?_, fun y0 => ⟨fun z => ?_, fun y1 => ⟨fun z => ?_, fun y2 => ⟨fun z => ?_, fun y3 => ⟨fun z => ?_, fun y4 => ⟨fun z => ?_, fun y5 => ⟨fun z => ?_, fun y6 => ⟨fun z => ?_, fun y7 => ⟨fun z => ?_, fun y8 => ⟨fun z => ?_, fun y9 => ⟨fun z => ?_, fun y10 => ⟨fun z => ?_, fun y11 => ⟨fun z => ?_, fun y12 => ⟨fun z => ?_, fun y13 => ⟨fun z => ?_, fun y14 => ?_⟩⟩⟩⟩⟩⟩⟩⟩⟩⟩⟩⟩⟩⟩⟩
  · refine rv_Reader_takeLamp (d := d + 2) ⟨fun f => ?_, fun f => rv_Text_fail (again (by omega))⟩
    have e : ∀ x, x ≠ 9 → bc_upd m 9 3 1 x = m x := fun x hx => bc_urow hx
    have psm : bs_PS h T n c (bc_upd m 9 3 1) := bs_PS_h hc ps (bs_PT_h pt (fun y _ => by rw [e 6 (by decide)]) (e 7 (by decide)) (e 8 (by decide))) (fun y _ => by rw [e 6 (by decide)]) (bc_uj (by decide)) (fun x _ u => e x u)
    have hC := bs_hC_0 (D := D) (c := c) n0 hb pt z f
    refine bs_P_one (d := d) (D := D) (P := fun m1 => bf_Text_needSign (d + 4) 59 m1 (bc_B P N)) (N := N) (i := 4) (j := 0) (hi := 99) hc n0 hb psm (by omega) (fun m' ps' pr go => ?_) (fun m' pf go => hN m' pf (bs_P_flt (k := 0) hc (by decide) (by decide) e (by rw [if_pos rfl]; exact bc_uu _ _ _ _) (by rw [if_neg (by decide)]; exact bc_uj (by decide)) hC go))
    exact bs_P_sign (d := d + 2) (k := 0) hc n0 hb (by decide) (by decide) e (by rw [if_pos rfl]; exact bc_uu _ _ _ _) (by rw [if_neg (by decide)]; exact bc_uj (by decide)) hC ps' (by rw [e 6 (by decide)] at pr; exact pr) go hP hN
  · refine rv_Reader_takeOdds (d := d + 2) ⟨fun f => ?_, fun f => rv_Text_fail (again (by omega))⟩
    have e : ∀ x, x ≠ 9 → bc_upd m 9 4 1 x = m x := fun x hx => bc_urow hx
    have psm : bs_PS h T n c (bc_upd m 9 4 1) := bs_PS_h hc ps (bs_PT_h pt (fun y _ => by rw [e 6 (by decide)]) (e 7 (by decide)) (e 8 (by decide))) (fun y _ => by rw [e 6 (by decide)]) (bc_uj (by decide)) (fun x _ u => e x u)
    have hC := bs_hC_1 (D := D) (c := c) n0 hb pt z f
    refine bs_P_one (d := d) (D := D) (P := fun m1 => bf_Text_needSign (d + 4) 59 m1 (bc_B P N)) (N := N) (i := 5) (j := 1) (hi := 16) hc n0 hb psm (by omega) (fun m' ps' pr go => ?_) (fun m' pf go => hN m' pf (bs_P_flt (k := 1) hc (by decide) (by decide) e (by rw [if_neg (by decide)]; exact bc_uj (by decide)) (by rw [if_pos rfl]; exact bc_uu _ _ _ _) hC go))
    exact bs_P_sign (d := d + 2) (k := 1) hc n0 hb (by decide) (by decide) e (by rw [if_neg (by decide)]; exact bc_uj (by decide)) (by rw [if_pos rfl]; exact bc_uu _ _ _ _) hC ps' (by rw [e 6 (by decide)] at pr; exact pr) go hP hN
  · have q := s (by decide) (by decide) (bs_hC_2 (D := D) (c := c) n0 hb pt z)
    exact bs_P_beast (d := d) hc n0 hb ps q.1 q.2
  · have q := s (by decide) (by decide) (bs_hC_3 (D := D) (c := c) n0 hb pt z)
    exact bs_P_wall (d := d) hc n0 hb ps q.1 q.2
  · exact rv_Text_fail (bad (by omega))
  · exact rv_Text_fail (bad (by omega))
  · have q := s (by decide) (by decide) (bs_hC_4 (D := D) (c := c) n0 hb pt z)
    exact bs_P_way (d := d) hc n0 hb ps q.1 q.2
  · exact rv_Text_fail (bad (by omega))
  · have q := s (by decide) (by decide) (bs_hC_5 (D := D) (c := c) n0 hb pt z)
    exact bs_P_visitor (d := d) hc n0 hb ps q.1 q.2
  · exact rv_Text_fail (bad (by omega))
  · exact rv_Text_fail (bad (by omega))
  · have q := s (by decide) (by decide) (bs_hC_6 (D := D) (c := c) n0 hb pt z)
    exact bs_P_figure (d := d) hc n0 hb ps q.1 q.2
  · exact rv_Text_fail (bad (by omega))
  · have q := s (by decide) (by decide) (bs_hC_7 (D := D) (c := c) n0 hb pt z)
    exact bs_P_over (d := d) hc n0 hb ps q.1 q.2
  · have q := s (by decide) (by decide) (bs_hC_8 (D := D) (c := c) n0 hb pt z)
    exact bs_P_follows (d := d) hc n0 hb ps q.1 q.2
  · exact rv_Text_fail (bad (by omega))
