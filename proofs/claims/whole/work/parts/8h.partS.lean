/-! ===== a part and its sign ===== -/
def bs_oneG (D : Nat) (to hi : Int) : bs_RT := fun g P N => ∀ K : bc_H → Prop, (∀ h2, bf_M_number (D + 5) to 0 hi h2 (bc_B P N) → K h2) → bf_M_ahead (D + 5) g (bc_U K)
theorem bs_oneG_t {D : Nat} {T : Int → Int} {n c to hi : Int} {m m1 : bc_H} (n0 : 0 ≤ n ∧ n ≤ 900) (hb : bs_tb8 T n) (pt : bs_PT T n m) (x1 : bs_nx T n m m1) : bs_Tr T n (bs_SE T n c m) (bs_oneG D to hi) (fun A => A) (fun A => A) m1 (fun g P' N' => bf_M_number (D + 3 + 2) to 0 hi g (bc_B (fun h2 => P' h2) (fun h2 => N' h2))) := by
  intro g P' N' se k
  obtain ⟨g0, sm⟩ := se
  unfold bs_oneG
  intro K hK
  refine bc_m_adv (d := D + 4) n0 hb pt x1 sm.2.2.2.1 (fun g2 a b c' => hK g2 ?_)
  exact k g2 (bs_Mid_nx (bs_Mid_0 sm) a b c')
theorem bs_P_one {d D : Nat} {T : Int → Int} {n c i j hi : Int} {h m : bc_H} {P N : bc_H → Prop} (hc : 24 ≤ c ∧ c ≤ 44) (n0 : 0 ≤ n ∧ n ≤ 900) (hb : bs_tb8 T n) (ps : bs_PS h T n c m) (hij : (i = 4 ∧ j = 0 ∧ hi = 99) ∨ (i = 5 ∧ j = 1 ∧ hi = 16)) (hP : ∀ m', bs_PS h T n c m' → m 6 10 ≤ m' 6 10 → bs_Go1 T n c m m' (bs_oneG D (2112 + i) hi) → P m') (hN : ∀ m', bs_PF h c m' → bs_Go0 T n c m m' (bs_oneG D (2112 + i) hi) → N m') : bf_Text_advance (d + 2) m (bc_U (fun h2 => bf_Text_needNumber (d + 2) 0 hi h2 (bc_B (fun h4 => (0 ≤ (h4 9 1)) ∧ P (bc_upd h4 (h4 9 1) j (h4 6 3))) (fun h4 => N h4)))) := by
  have ps' := ps
  obtain ⟨pt, ⟨z0, z1, z2⟩, z9, fr, B, NM, nw⟩ := ps'
  refine bc_c_adv (d := d + 1) n0 pt (fun m1 l1 x1 => ?_)
  have t1 := bs_oneG_t (D := D) (c := c) (to := 2112 + i) (hi := hi) n0 hb pt x1
  have ch1 := bs_Ch_l l1
  refine bs_pn' (d := d) (d' := D + 3) (R := fun g P' N' => P' g) n0 hb x1.1 bs_okX_0 bs_okY_0 (by omega) t1 (fun m2 nu l2 x2 t2 => ?_) (fun k hk fa => hN _ (bs_PFm ps (by rw [ch1.2 0 (by decide)]; exact z0) (fun x u v w y => ch1.1 x u w) hk) (bs_Go0_of fa))
  have ch2 := bs_Ch_t ch1 (bs_Ch_n l2)
  have a1 := ch2.1
  have nu2 := nu.2
  rw [a1 9 (by decide) (by decide), z9, (bs_Tl6_n l2).1]
  generalize m1 6 14 = x at nu2 t2
  refine ⟨by omega, ?_⟩
  have rr : ∀ r, r ≠ c → bc_upd m2 c j x r = m2 r := fun r u => bc_urow u
  refine bs_fin (m5 := m2) (X := fun A => bc_set A (2112 + i) x) (Y := fun A => A) (X' := fun A => bc_set A (2112 + i) x) (Y' := fun A => A) hc ps x2.1 (Int.le_trans (bs_nx_p x1) (bs_nx_p x2)) (rr 6 (by omega)) ch2.2 (fun r u v w => by rw [rr r (by omega), a1 r u v]) ⟨a1 7 (by decide) (by decide), a1 8 (by decide) (by decide)⟩ (bs_okX_s bs_okX_0 (by omega)) bs_okY_0 t2 (fun g g1 P' N' se mid k => ?_) (fun A N' nw => ?_) hP
  · exact k _ ⟨mid.1, mid.2.1, mid.2.2.1, mid.2.2.2.1, bs_Tk_h mid.2.2.2.2.1 (fun y _ => by rw [rr 6 (by omega)]) (fun _ _ => rfl) rfl, mid.2.2.2.2.2⟩
  · refine bs_Nw_one (i := i) (j := j) (x := x) nw (by omega) (fun r u v => by rw [rr r (by omega), a1 r (by omega) (by omega)]) (fun y hy => by rw [bc_uj hy, a1 c (by omega) (by omega)]) (bc_uu _ _ _ _) (fun k k0 k1 k2 => ?_) (bc_setj _ _ _) (fun _ _ _ => rfl)
    show bc_set A _ _ (2112 + k) = A (2112 + k)
    rw [bc_setn (by omega)]
theorem bs_PS_h {h : bc_H} {T : Int → Int} {n c : Int} {m m' : bc_H} (hc : 24 ≤ c ∧ c ≤ 44) (ps : bs_PS h T n c m) (pt : bs_PT T n m') (e6 : ∀ y, y < 3 → m' 6 y = m 6 y) (e9 : m' 9 1 = m 9 1) (e : ∀ x, x ≠ 6 → x ≠ 9 → m' x = m x) : bs_PS h T n c m' := by
  obtain ⟨ps1, ps2, ps3, ps4, B, NM, nw⟩ := ps
  exact ⟨pt, ⟨by rw [e6 0 (by decide)]; exact ps2.1, by rw [e6 1 (by decide)]; exact ps2.2.1, by rw [e6 2 (by decide)]; exact ps2.2.2⟩, by rw [e9]; exact ps3, fun x a b f k => by rw [e x a b]; exact ps4 x a b f k, B, NM, bs_Nw_h (fun x x0 x1 => e x (by omega) (by omega)) nw⟩
def bs_CP (D : Nat) : bs_RT := fun g P N => bf_M_cavePart (D + 6) g (bc_B P N)
def bs_hC (T : Int → Int) (n c : Int) (D : Nat) (k : Int) (m : bc_H) (G : bs_RT) : Prop := ∀ (g : bc_H) (P N : bc_H → Prop), bs_SE T n c m g → G (bs_gk g k) (fun h3 => bf_M_wantSign (D + 5) 59 h3 (bc_B P N)) N → bs_CP D g P N
theorem bs_P_sign {d D : Nat} {T : Int → Int} {n c k : Int} {h m m1 m' : bc_H} {G : bs_RT} {P N : bc_H → Prop} (hc : 24 ≤ c ∧ c ≤ 44) (n0 : 0 ≤ n ∧ n ≤ 900) (hb : bs_tb8 T n) (k0 : 0 ≤ k) (k1 : k < 9) (e : ∀ x, x ≠ 9 → m1 x = m x) (e3 : m1 9 3 = if k = 0 then 1 else m 9 3) (e4 : m1 9 4 = if k = 1 then 1 else m 9 4) (hC : bs_hC T n c D k m G) (ps : bs_PS h T n c m') (pr : m 6 10 ≤ m' 6 10) (go : bs_Go1 T n c m1 m' G) (hP : ∀ m', bs_PS h T n c m' → m 6 10 ≤ m' 6 11 → bs_Co1 T n c m m' (bs_CP D) → P m') (hN : ∀ m', bs_PF h c m' → bs_Co0 T n c m m' (bs_CP D) → N m') : bf_Text_needSign (d + 2) 59 m' (bc_B P N) := by
  refine bc_c_needSign n0 ps.1 (fun z m2 l x => ?_) (fun z => ?_)
  · have q := x.2.1.1
    refine hP m2 (bs_PS_h hc ps x.1 (fun y hy => l.2 y (Or.inl (by omega))) (by rw [l.1 9 (by decide)]) (fun x u _ => l.1 x u)) (by omega) (fun g0 g P' N' sm hP' => hC g P' N' ⟨g0, sm⟩ (go g0 _ _ _ (bs_SM_gk sm k0 k1 e hc.1 e3 e4) (fun g' sm' => ?_)))
    refine bc_m_wantSign (d := D + 3) n0 hb ps.1 sm'.2.2.2.1 (by decide) sm'.2.2.1.2.2 (fun _ => ⟨m2, x, fun g1 a b t => hP' g1 ?_⟩) (fun u => absurd z u)
    refine bs_SM_of sm' bs_okX_0 bs_okY_0 (bs_Mid_nx (bs_Mid_0 sm') a b t) (bs_Nw_h (fun x x0 x1 => l.1 x (by omega)) sm'.2.2.2.2.2.2.1) (by rw [l.1 9 (by decide)]) (by rw [l.1 9 (by decide)])
  · refine hN _ (bs_PF_of ps.2.1.1 ps.2.2.2.1 (by decide)) (fun g0 g P' N' sm hN' => hC g P' N' ⟨g0, sm⟩ (go g0 _ _ _ (bs_SM_gk sm k0 k1 e hc.1 e3 e4) (fun g' sm' => ?_)))
    refine bc_m_wantSign (d := D + 3) n0 hb ps.1 sm'.2.2.2.1 (by decide) sm'.2.2.1.2.2 (fun u => absurd u z) (fun _ => hN' _ (bs_SQ_of sm' (bs_fg_SF bs_okX_0 bs_okY_0 (bs_Mid_0 sm'))))
theorem bs_P_flt {D : Nat} {T : Int → Int} {n c k : Int} {m m1 m' : bc_H} {G : bs_RT} (hc : 24 ≤ c ∧ c ≤ 44) (k0 : 0 ≤ k) (k1 : k < 9) (e : ∀ x, x ≠ 9 → m1 x = m x) (e3 : m1 9 3 = if k = 0 then 1 else m 9 3) (e4 : m1 9 4 = if k = 1 then 1 else m 9 4) (hC : bs_hC T n c D k m G) (go : bs_Go0 T n c m1 m' G) : bs_Co0 T n c m m' (bs_CP D) := fun g0 g P' N' sm hN' => by
  have sm' := bs_SM_gk sm k0 k1 e hc.1 e3 e4
  exact hC g P' N' ⟨g0, sm⟩ (go g0 _ _ _ sm' (fun g' sf => hN' g' (bs_SQ_of sm' sf)))
theorem bs_P_bad {D : Nat} {T : Int → Int} {n c k : Int} {h m : bc_H} {N : bc_H → Prop} (ps : bs_PS h T n c m) (hk : 1 ≤ k) (hC : ∀ (g : bc_H) (P N : bc_H → Prop), bs_SE T n c m g → N (bs_fg m g k) → bs_CP D g P N) (hN : ∀ m', bs_PF h c m' → bs_Co0 T n c m m' (bs_CP D) → N m') : N (bs_fl m k) := by
  refine hN _ (bs_PF_of ps.2.1.1 ps.2.2.2.1 hk) (fun g0 g P' N' sm hN' => hC g P' N' ⟨g0, sm⟩ (hN' _ ?_))
  exact bs_SQ_of sm (bs_fg_SF bs_okX_0 bs_okY_0 (bs_Mid_0 sm))
