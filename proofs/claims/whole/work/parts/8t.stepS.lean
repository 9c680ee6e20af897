/-! ===== days: which step it is ===== -/
theorem bc_c_isStep {d : Nat} {i : Int} {m : bc_H} {A B : bc_H → Prop} (hi : (i = 16 ∨ i = 17 ∨ i = 18 ∨ i = 19 ∨ i = 20 ∨ i = 21 ∨ i = 24 ∨ i = 26)) (hA : A m) : bf_Reader_isStep d i m (bc_B A B) := by
  rcases hi with rfl | rfl | rfl | rfl | rfl | rfl | rfl | rfl
  · exact rv_Reader_isStep ⟨fun _ => hA, fun q => absurd rfl q⟩
  · exact rv_Reader_isStep ⟨fun q => absurd q (by decide), fun _ => ⟨fun _ => hA, fun q => absurd rfl q⟩⟩
  · exact rv_Reader_isStep ⟨fun q => absurd q (by decide), fun _ => ⟨fun q => absurd q (by decide), fun _ => ⟨fun _ => hA, fun q => absurd rfl q⟩⟩⟩
  · exact rv_Reader_isStep ⟨fun q => absurd q (by decide), fun _ => ⟨fun q => absurd q (by decide), fun _ => ⟨fun q => absurd q (by decide), fun _ => ⟨fun _ => hA, fun q => absurd rfl q⟩⟩⟩⟩
  · exact rv_Reader_isStep ⟨fun q => absurd q (by decide), fun _ => ⟨fun q => absurd q (by decide), fun _ => ⟨fun q => absurd q (by decide), fun _ => ⟨fun q => absurd q (by decide), fun _ => ⟨fun _ => hA, fun q => absurd rfl q⟩⟩⟩⟩⟩
  · exact rv_Reader_isStep ⟨fun q => absurd q (by decide), fun _ => ⟨fun q => absurd q (by decide), fun _ => ⟨fun q => absurd q (by decide), fun _ => ⟨fun q => absurd q (by decide), fun _ => ⟨fun q => absurd q (by decide), fun _ => ⟨fun _ => hA, fun q => absurd rfl q⟩⟩⟩⟩⟩⟩
  · exact rv_Reader_isStep ⟨fun q => absurd q (by decide), fun _ => ⟨fun q => absurd q (by decide), fun _ => ⟨fun q => absurd q (by decide), fun _ => ⟨fun q => absurd q (by decide), fun _ => ⟨fun q => absurd q (by decide), fun _ => ⟨fun q => absurd q (by decide), fun _ => ⟨fun q => absurd q (by decide), fun _ => ⟨fun q => absurd q (by decide), fun _ => ⟨fun _ => hA, fun q => absurd rfl q⟩⟩⟩⟩⟩⟩⟩⟩⟩
  · exact rv_Reader_isStep ⟨fun q => absurd q (by decide), fun _ => ⟨fun q => absurd q (by decide), fun _ => ⟨fun q => absurd q (by decide), fun _ => ⟨fun q => absurd q (by decide), fun _ => ⟨fun q => absurd q (by decide), fun _ => ⟨fun q => absurd q (by decide), fun _ => ⟨fun q => absurd q (by decide), fun _ => ⟨fun q => absurd q (by decide), fun _ => ⟨fun q => absurd q (by decide), fun _ => ⟨fun q => absurd q (by decide), fun _ => ⟨fun _ => hA, fun q => absurd rfl q⟩⟩⟩⟩⟩⟩⟩⟩⟩⟩⟩
theorem bc_c_isStepN {d : Nat} {i : Int} {m : bc_H} {A B : bc_H → Prop} (hi : ¬ (i = 16 ∨ i = 17 ∨ i = 18 ∨ i = 19 ∨ i = 20 ∨ i = 21 ∨ i = 24 ∨ i = 26)) (hB : B m) : bf_Reader_isStep d i m (bc_B A B) := by
  exact rv_Reader_isStep ⟨fun q => by exfalso; omega, fun _ => ⟨fun q => by exfalso; omega, fun _ => ⟨fun q => by exfalso; omega, fun _ => ⟨fun q => by exfalso; omega, fun _ => ⟨fun q => by exfalso; omega, fun _ => ⟨fun q => by exfalso; omega, fun _ => ⟨fun _ => hB, fun _ => ⟨fun _ => hB, fun _ => ⟨fun q => by exfalso; omega, fun _ => ⟨fun _ => hB, fun _ => ⟨fun q => by exfalso; omega, fun _ => hB⟩⟩⟩⟩⟩⟩⟩⟩⟩⟩⟩
theorem bs_kmF : ∀ x : Nat, x < 27 → (16 ≤ bs_km (x : Int) ∧ bs_km (x : Int) ≤ 24 → (x = 16 ∨ x = 17 ∨ x = 18 ∨ x = 19 ∨ x = 20 ∨ x = 21 ∨ x = 24 ∨ x = 25 ∨ x = 26)) := by decide +kernel
theorem bs_kmR {i : Int} (i0 : -1 ≤ i) (i1 : i < 27) (g : ¬ (i = 16 ∨ i = 17 ∨ i = 18 ∨ i = 19 ∨ i = 20 ∨ i = 21 ∨ i = 24 ∨ i = 26)) (i25 : i ≠ 25) : bs_km i < 16 ∨ 24 < bs_km i := by
  by_cases e : i = -1
  · subst e; exact Or.inl (by decide)
  · have := bs_kmF i.toNat (by omega)
    rw [show ((i.toNat : Nat) : Int) = i by omega] at this
    omega
theorem bs_kmK {i : Int} (hi : (i = 16 ∨ i = 17 ∨ i = 18 ∨ i = 19 ∨ i = 20 ∨ i = 21 ∨ i = 24 ∨ i = 26)) : ∃ k, ((i = 16 ∧ k = 16) ∨ (i = 17 ∧ k = 17) ∨ (i = 18 ∧ k = 18) ∨ (i = 19 ∧ k = 19) ∨ (i = 20 ∧ k = 20) ∨ (i = 21 ∧ k = 21) ∨ (i = 24 ∧ k = 22) ∨ (i = 26 ∧ k = 24)) ∧ bs_km i = k := by
  rcases hi with rfl | rfl | rfl | rfl | rfl | rfl | rfl | rfl
  · exact ⟨16, by omega, by decide⟩
  · exact ⟨17, by omega, by decide⟩
  · exact ⟨18, by omega, by decide⟩
  · exact ⟨19, by omega, by decide⟩
  · exact ⟨20, by omega, by decide⟩
  · exact ⟨21, by omega, by decide⟩
  · exact ⟨22, by omega, by decide⟩
  · exact ⟨24, by omega, by decide⟩
theorem bs_D_step {d D : Nat} {T : Int → Int} {n c q w1 w2 : Int} {h m : bc_H} {P N : bc_H → Prop} (hc : 24 ≤ c ∧ c ≤ 44) (hq : 64 ≤ q) (n0 : 0 ≤ n ∧ n ≤ 900) (hb : bs_tb8 T n) (w : (0 ≤ w1 ∧ w1 ≤ 7) ∧ 0 ≤ w2 ∧ w2 ≤ 6) (nm : bs_Nm (h c 11) (h (c + 17)) (h (c + 18)) (h (c + 19)) (h 157) (h 158)) (a12 : h 157 1 = w1 ∧ h 157 2 = w2) (n11 : 0 ≤ h c 11 ∧ h c 11 ≤ 26) (ds : bs_DS h T n c q m) (i25 : m 6 4 ≠ 25) (hP : ∀ m', bs_DS h T n c q m' → m 6 10 ≤ m' 6 11 → bs_Dc1 T n c q w1 w2 m m' (bs_dSt D) → P m') (hN : ∀ m', bs_DF h q m' → bs_Dc0 T n c q w1 w2 m m' (bs_dSt D) → N m') : bf_Reader_takeStep (d + 4) m (bc_B (fun h7 => bf_Text_needSign (d + 4) 59 h7 (bc_B P N)) N) := by
  have rc := bs_DS_nm hc hq ds
  have ds' := ds
  obtain ⟨pt, ⟨s60, s61, s62⟩, ⟨s91, s92⟩, fr, ⟨k0, k2, k1, k30, kd⟩, ns⟩ := ds'
  have r := bs_PT_r pt
  have dp := ns.1
  have nm' : bs_Nm (m c 11) (m (c + 17)) (m (c + 18)) (m (c + 19)) (h 157) (h 158) := by
    rw [rc c (by omega) (by omega), rc (c + 17) (by omega) (by omega), rc (c + 18) (by omega) (by omega), rc (c + 19) (by omega) (by omega)]; exact nm
  have n11' : 0 ≤ m c 11 ∧ m c 11 ≤ 26 := by rw [rc c (by omega) (by omega)]; exact n11
  have bad : ∀ k, 1 ≤ k → (∀ (g0 g : bc_H) (P' N' : bc_H → Prop), bs_DM T n c q w1 w2 g0 m g → N' (bs_fg m g k) → bf_M_dayStep (D + 7) g (bc_B P' N')) → N (bs_fl m k) := fun k hk f => hN _ (bs_DF_of s60 fr hk) (fun g0 g P' N' dm hN' => by
    unfold bs_dSt
    exact f g0 g P' N' dm (hN' _ (bs_DQ_fg dm)))
  by_cases good : (m 6 4 = 16 ∨ m 6 4 = 17 ∨ m 6 4 = 18 ∨ m 6 4 = 19 ∨ m 6 4 = 20 ∨ m 6 4 = 21 ∨ m 6 4 = 24 ∨ m 6 4 = 26)
  case neg =>
    refine rv_Reader_takeStep (d := d + 3) (bc_c_isStepN good (rv_Text_fail (bad 2 (by decide) (fun g0 g P' N' dm b => ?_))))
    exact bc_m_dayX (k := bs_km (m 6 4)) n0 hb pt dm.2.2.2.1 rfl dm.2.2.1.2.2 (Or.inl ⟨bs_kmR r.2.2.2.1 r.2.2.2.2 good i25, b⟩)
  obtain ⟨k, hik, ky⟩ := bs_kmK good
  refine rv_Reader_takeStep (d := d + 3) (bc_c_isStep good ?_)
  rw [s92]
  -- a line that is added
  have add : ∀ (m' mA : bc_H) (t v nn : Int), bs_PT T n m' → bs_Dh m m' → bs_Da q (m 6 4) t v nn m' mA → (bs_PT T n mA ∧ (mA 6 0 = 0 ∧ mA 6 1 = 0 ∧ mA 6 2 = -1) ∧ (mA 9 1 = c ∧ mA 9 2 = q) ∧ (∀ x, x ≠ 6 → x ≠ 9 → x ≠ 10 → x ≠ 11 → ¬ (q ≤ x ∧ x < q + 6) → mA x = h x)) ∧ (mA q 0 = 0 ∧ mA q 1 = m q 1 + 1 ∧ mA q 2 = m q 2 + 1) ∧ mA 9 6 = m 9 6 ∧ mA 11 = m 11 ∧ mA (q + 1) = bc_set (m (q + 1)) (m q 2) (m 6 4) ∧ mA (q + 5) = bc_set (m (q + 5)) (m q 2) (-1) := fun m' mA t v nn pt' dh da => by
    obtain ⟨f1, ⟨f2, f3, f4⟩, f5, f6, f7, f8, f9⟩ := da
    have mq : m' q = m q := bs_Dh_q dh (by omega)
    have m6 : mA 6 = m' 6 := f1 6 (by omega)
    have m9 : mA 9 = m' 9 := f1 9 (by omega)
    rw [mq] at f2 f3 f4 f5 f9
    rw [if_neg i25] at f3
    rw [bs_Dh_q dh (r := q + 1) (by omega)] at f5
    rw [bs_Dh_q dh (r := q + 5) (by omega)] at f9
    exact ⟨⟨bs_PT_h pt' (fun y _ => by rw [m6]) (f1 7 (by omega)) (f1 8 (by omega)), ⟨by rw [m6, dh.2.1 0 (by decide)]; exact s60, by rw [m6, dh.2.1 1 (by decide)]; exact s61, by rw [m6, dh.2.1 2 (by decide)]; exact s62⟩, ⟨by rw [m9, dh.2.2 1 (by decide)]; exact s91, by rw [m9, dh.2.2 2 (by decide)]; exact s92⟩, fun x a b e f i => by rw [f1 x i, dh.1 x a b e]; exact fr x a b e f i⟩, ⟨by rw [f2]; exact k0, f3, f4⟩, by rw [m9, dh.2.2 6 (by decide)], by rw [f1 11 (by omega)]; exact bs_Dh_q dh (by omega), f5, f9⟩
  refine ⟨by omega, fun lt => ⟨fun op => ⟨fun d3 => ?_, fun d3 => ?_⟩, fun nop => ?_⟩, fun ge => ?_⟩
  · -- it opens
    have cnt : 0 ≤ m q 2 ∧ m q 2 ≤ 59 := by omega
    have bop : bs_op (m 6 4) := op
    have kop : k = 21 ∨ k = 22 := by omega
    refine bs_D_mid (d := d) (D := D) (to := 2272 + 6 * m q 2) (w1 := w1) (w2 := w2) (k := k) hc n0 hb (by omega) w s91 nm' a12 n11' hik pt (fun m' X' pt' pr' dh ln tr => ?_) (fun m' dh k' hk' fa => hN _ (bs_DF_of (by rw [dh.2.1 0 (by decide)]; exact s60) (fun x a b e f i => by rw [dh.1 x a b e]; exact fr x a b e f i) (by omega)) (fun g0 g P' N' dm hN' => ?_))
    · have fin : ∀ nn, nn = (if m 6 4 = 17 ∨ m' 9 8 = 10 then m' 10 3 else m' 6 3) → bf_Days_add (d + 3) q (m 6 4) (m' 9 8) (m' 10 8) nn m' (bc_I (fun y14 h12 => (0 ≤ h12 9 6 ∧ h12 9 6 < 3) ∧ bf_Text_needSign (d + 4) 59 (bc_upd (bc_upd h12 11 (h12 9 6) y14) 9 6 (bc_w32 (h12 9 6 + 1))) (bc_B P N))) := fun nn en => by
        have mq : m' q = m q := bs_Dh_q dh (by omega)
        refine bc_c_dayAdd (by rw [mq]; omega) (by rw [mq]; omega) (fun mA da => ?_)
        obtain ⟨⟨a1, a2, a3, a4⟩, ⟨b0, b1, b2⟩, c96, c11, e1, e5⟩ := add m' mA _ _ _ pt' dh da
        rw [c96, bc_wi (x := m 9 6 + 1) (by omega) (by omega), mq]
        refine ⟨by omega, ?_⟩
        have u : ∀ y, y ≠ 9 → y ≠ 11 → bc_upd (bc_upd mA 11 (m 9 6) (m q 2)) 9 6 (m 9 6 + 1) y = mA y := fun y y1 y2 => by rw [bc_urow y1, bc_urow y2]
        have u9 : ∀ y, y ≠ 6 → bc_upd (bc_upd mA 11 (m 9 6) (m q 2)) 9 6 (m 9 6 + 1) 9 y = mA 9 y := fun y hy => by rw [bc_uj hy, bc_ur (by decide)]
        have u96 : bc_upd (bc_upd mA 11 (m 9 6) (m q 2)) 9 6 (m 9 6 + 1) 9 6 = m 9 6 + 1 := bc_uu _ _ _ _
        have u11 : bc_upd (bc_upd mA 11 (m 9 6) (m q 2)) 9 6 (m 9 6 + 1) 11 = bc_set (m 11) (m 9 6) (m q 2) := by rw [bc_urow (by decide), bs_rset, c11]
        refine bs_D_sign (d := d + 2) (D := D) (w1 := w1) (w2 := w2) hc hq n0 hb (m := m) ⟨bs_PT_h a1 (fun y _ => by rw [u 6 (by decide) (by decide)]) (u 7 (by decide) (by decide)) (u 8 (by decide) (by decide)), by rw [u 6 (by decide) (by decide)]; exact a2, ⟨by rw [u9 1 (by decide)]; exact a3.1, by rw [u9 2 (by decide)]; exact a3.2⟩, fun x a b e f i => by rw [u x b f]; exact a4 x a b e f i, ?_, ?_⟩ ?_ (fun g0 g A B dm hk => ?_) hP hN
        · rw [u q (by omega) (by omega), u96, b0, b1, b2]; omega
        · rw [u (q + 1) (by omega) (by omega), u (q + 5) (by omega) (by omega), u q (by omega) (by omega), u96, u11, b2, e1, e5]
          exact bs_nst_op k2 ns bop d3
        · rw [u 6 (by decide) (by decide), da.1 6 (by omega)]; exact pr'
        · have g2 : g 157 2120 = m q 2 := dm.2.2.2.2.2.1.1
          have g22 : g 156 22 = m 9 6 := dm.2.2.2.2.2.1.2.1
          have g23 : g 156 23 = m q 1 := dm.2.2.2.2.2.1.2.2
          refine bc_m_dayO (D := D) (k := k) (Q1 := fun gz g1 => bs_Mid T n m' X' (fun A => A) gz g1) (Q0 := fun _ _ => False) n0 hb pt dm.2.2.2.1 ky kop (by omega) (by omega) (by omega) (fun gz P2 N2 gf hp _ => ?_) (fun gz g1 gf mid => ?_) (fun _ _ _ x => x.elim)
          · have se := bs_DE_of cnt dm gf
            rw [g2] at se ⊢
            exact tr gz P2 N2 se (fun g1 mid => hp g1 mid)
          · have se := bs_DE_of cnt dm gf
            rw [g2] at se
            have l := ln.1 gz se
            rw [← en] at l
            have dA := bs_DM_add (k := k) (X' := X') hc hq i25 cnt dm gf dh (by rw [g2]; exact l) ln.2.1 (by rw [g2]; exact ln.2.2) mid da
            have pu := bs_DM_push (x := m q 2) hc hq (by rw [c96]; exact dp.1) dA
            rw [c96] at pu
            refine ⟨by rw [mid.2.1 22 (by decide), gf.2.1 22 (by decide)], ?_⟩
            rw [g22, g2]
            exact hk _ pu
      refine ⟨fun z => ?_, fun z => ?_⟩
      · rw [dh.2.2 2 (by decide), s92]; exact ⟨by omega, fin _ (by rw [if_pos z])⟩
      · rw [dh.2.2 2 (by decide), s92]; exact ⟨by omega, fin _ (by rw [if_neg z])⟩
    · have g2 : g 157 2120 = m q 2 := dm.2.2.2.2.2.1.1
      have g22 : g 156 22 = m 9 6 := dm.2.2.2.2.2.1.2.1
      have g23 : g 156 23 = m q 1 := dm.2.2.2.2.2.1.2.2
      unfold bs_dSt
      refine bc_m_dayO (D := D) (k := k) (Q1 := fun _ _ => False) (Q0 := fun gz g1 => bs_SF (bs_fl m' k') gz g1) n0 hb pt dm.2.2.2.1 ky kop (by omega) (by omega) (by omega) (fun gz P2 N2 gf _ hn => ?_) (fun _ _ _ x => x.elim) (fun gz g1 gf sf => hN' g1 (bs_DQ_sf cnt dm gf sf))
      have se := bs_DE_of cnt dm gf
      rw [g2] at se ⊢
      exact fa gz P2 N2 se (fun g' sf => hn g' sf)
  · refine rv_Text_fail (bad 7 (by decide) (fun g0 g P' N' dm b => ?_))
    have g22 : g 156 22 = m 9 6 := dm.2.2.2.2.2.1.2.1
    have g23 : g 156 23 = m q 1 := dm.2.2.2.2.2.1.2.2
    exact bc_m_dayX (k := k) n0 hb pt dm.2.2.2.1 ky dm.2.2.1.2.2 (Or.inr (Or.inr (Or.inl ⟨by omega, by omega, by omega, b⟩)))
  · -- it doesn't
    have cnt : 0 ≤ m q 2 ∧ m q 2 ≤ 59 := by omega
    have bop : ¬ bs_op (m 6 4) := nop
    have kop : 16 ≤ k ∧ k ≤ 24 ∧ k ≠ 21 ∧ k ≠ 22 ∧ k ≠ 23 := by omega
    refine bs_D_mid (d := d) (D := D) (to := 2272 + 6 * m q 2) (w1 := w1) (w2 := w2) (k := k) hc n0 hb (by omega) w s91 nm' a12 n11' hik pt (fun m' X' pt' pr' dh ln tr => ?_) (fun m' dh k' hk' fa => hN _ (bs_DF_of (by rw [dh.2.1 0 (by decide)]; exact s60) (fun x a b e f i => by rw [dh.1 x a b e]; exact fr x a b e f i) (by omega)) (fun g0 g P' N' dm hN' => ?_))
    · have fin : ∀ nn, nn = (if m 6 4 = 17 ∨ m' 9 8 = 10 then m' 10 3 else m' 6 3) → bf_Days_add (d + 3) q (m 6 4) (m' 9 8) (m' 10 8) nn m' (bc_I (fun y14 h12 => bf_Text_needSign (d + 4) 59 h12 (bc_B P N))) := fun nn en => by
        have mq : m' q = m q := bs_Dh_q dh (by omega)
        refine bc_c_dayAdd (by rw [mq]; omega) (by rw [mq]; omega) (fun mA da => ?_)
        obtain ⟨⟨a1, a2, a3, a4⟩, ⟨b0, b1, b2⟩, c96, c11, e1, e5⟩ := add m' mA _ _ _ pt' dh da
        refine bs_D_sign (d := d + 2) (D := D) (w1 := w1) (w2 := w2) hc hq n0 hb (m := m) ⟨a1, a2, a3, a4, by rw [b0, b1, b2, c96]; omega, by rw [b2, e1, e5, c96, c11]; exact bs_nst_no k2 ns i25 bop⟩ (by rw [da.1 6 (by omega)]; exact pr') (fun g0 g A B dm hk => ?_) hP hN
        have g2 : g 157 2120 = m q 2 := dm.2.2.2.2.2.1.1
        have g23 : g 156 23 = m q 1 := dm.2.2.2.2.2.1.2.2
        refine bc_m_dayP (D := D) (k := k) (Q1 := fun gz g1 => bs_Mid T n m' X' (fun A => A) gz g1) (Q0 := fun _ _ => False) n0 hb pt dm.2.2.2.1 ky kop (by omega) (by omega) (fun gz P2 N2 gf hp _ => ?_) (fun gz g1 gf mid => ?_) (fun _ _ _ x => x.elim)
        · have se := bs_DE_of cnt dm gf
          rw [g2] at se ⊢
          exact tr gz P2 N2 se (fun g1 mid => hp g1 mid)
        · have se := bs_DE_of cnt dm gf
          rw [g2] at se
          have l := ln.1 gz se
          rw [← en] at l
          exact hk _ (bs_DM_add (k := k) (X' := X') hc hq i25 cnt dm gf dh (by rw [g2]; exact l) ln.2.1 (by rw [g2]; exact ln.2.2) mid da)
      refine ⟨fun z => ?_, fun z => ?_⟩
      · rw [dh.2.2 2 (by decide), s92]; exact ⟨by omega, fin _ (by rw [if_pos z])⟩
      · rw [dh.2.2 2 (by decide), s92]; exact ⟨by omega, fin _ (by rw [if_neg z])⟩
    · have g2 : g 157 2120 = m q 2 := dm.2.2.2.2.2.1.1
      have g23 : g 156 23 = m q 1 := dm.2.2.2.2.2.1.2.2
      unfold bs_dSt
      refine bc_m_dayP (D := D) (k := k) (Q1 := fun _ _ => False) (Q0 := fun gz g1 => bs_SF (bs_fl m' k') gz g1) n0 hb pt dm.2.2.2.1 ky kop (by omega) (by omega) (fun gz P2 N2 gf _ hn => ?_) (fun _ _ _ x => x.elim) (fun gz g1 gf sf => hN' g1 (bs_DQ_sf cnt dm gf sf))
      have se := bs_DE_of cnt dm gf
      rw [g2] at se ⊢
      exact fa gz P2 N2 se (fun g' sf => hn g' sf)
  · refine rv_Text_fail (bad 6 (by decide) (fun g0 g P' N' dm b => ?_))
    have g23 : g 156 23 = m q 1 := dm.2.2.2.2.2.1.2.2
    exact bc_m_dayX (k := k) n0 hb pt dm.2.2.2.1 ky dm.2.2.1.2.2 (Or.inr (Or.inl ⟨by omega, by omega, b⟩))
