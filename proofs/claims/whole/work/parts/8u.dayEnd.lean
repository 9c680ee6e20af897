/-! ===== days: END ===== -/
theorem bs_DM_end {T : Int → Int} {n c q w1 w2 o : Int} {g0 m g m3 gz g1 : bc_H} (hc : 24 ≤ c ∧ c ≤ 44) (hq : 64 ≤ q) (cnt : 0 ≤ m q 2 ∧ m q 2 ≤ 59) (d0 : 0 < m 9 6) (dm : bs_DM T n c q w1 w2 g0 m g) (gf : bs_gz g 23 0 gz) (mid : bs_Mid T n m3 (fun A => A) (fun A => A) gz g1) (fr : ∀ x, x ≠ 6 → x ≠ 9 → ¬ (q ≤ x ∧ x < q + 6) → m3 x = m x) (e96 : m3 9 6 = m 9 6 - 1) (eq : m3 q 1 = m q 1 ∧ m3 q 2 = m q 2 + 1) (f1 : m3 (q + 1) = bc_set (m (q + 1)) (m q 2) 25) (f2 : m3 (q + 2) = bc_set (m (q + 2)) (m q 2) (-1)) (f3 : m3 (q + 3) = bc_set (m (q + 3)) (m q 2) (-1)) (f4 : m3 (q + 4) = bc_set (m (q + 4)) (m q 2) (-1)) (f5 : m3 (q + 5) = bc_set (bc_set (bc_set (m (q + 5)) (m q 2) (-1)) o (m q 2)) (m q 2) o) (o0 : 0 ≤ o ∧ o < m q 2) (op : m (q + 5) o = -1) : bs_DM T n c q w1 w2 g0 m3 (bc_upd (bc_upd (bc_upd g1 156 22 (m 9 6 - 1)) 157 (2272 + 6 * m q 2 + 4) o) 157 (2272 + 6 * o + 4) (m q 2)) := by
  obtain ⟨a1, a2, ⟨a3, a4, a5⟩, a6, a7, ⟨b1, b2, b3⟩, a9, a10, a11⟩ := dm
  obtain ⟨c1, c2, c3, c4, c5, c6⟩ := gf
  obtain ⟨d1, d2, d3, d4, d5, d6⟩ := mid
  rw [b1] at c4 c5 c6
  have u : ∀ x, x ≠ 156 → x ≠ 157 → bc_upd (bc_upd (bc_upd g1 156 22 (m 9 6 - 1)) 157 (2272 + 6 * m q 2 + 4) o) 157 (2272 + 6 * o + 4) (m q 2) x = g1 x := fun x x1 x2 => by rw [bc_urow x2, bc_urow x2, bc_urow x1]
  have v : ∀ y, y ≠ 22 → bc_upd (bc_upd (bc_upd g1 156 22 (m 9 6 - 1)) 157 (2272 + 6 * m q 2 + 4) o) 157 (2272 + 6 * o + 4) (m q 2) 156 y = g1 156 y := fun y hy => by rw [bc_ur (by decide), bc_ur (by decide), bc_uj hy]
  have v22 : bc_upd (bc_upd (bc_upd g1 156 22 (m 9 6 - 1)) 157 (2272 + 6 * m q 2 + 4) o) 157 (2272 + 6 * o + 4) (m q 2) 156 22 = m 9 6 - 1 := by rw [bc_ur (by decide), bc_ur (by decide), bc_uu]
  have w : ∀ j, j ≠ 2272 + 6 * m q 2 + 4 → j ≠ 2272 + 6 * o + 4 → bc_upd (bc_upd (bc_upd g1 156 22 (m 9 6 - 1)) 157 (2272 + 6 * m q 2 + 4) o) 157 (2272 + 6 * o + 4) (m q 2) 157 j = gz 157 j := fun j j1 j2 => by rw [bc_uj j2, bc_uj j1, bc_ur (by decide), d3]
  have wc : bc_upd (bc_upd (bc_upd g1 156 22 (m 9 6 - 1)) 157 (2272 + 6 * m q 2 + 4) o) 157 (2272 + 6 * o + 4) (m q 2) 157 (2272 + 6 * m q 2 + 4) = o := by rw [bc_uj (by omega), bc_uu]
  have wo : bc_upd (bc_upd (bc_upd g1 156 22 (m 9 6 - 1)) 157 (2272 + 6 * m q 2 + 4) o) 157 (2272 + 6 * o + 4) (m q 2) 157 (2272 + 6 * o + 4) = m q 2 := bc_uu _ _ _ _
  generalize bc_upd (bc_upd (bc_upd g1 156 22 (m 9 6 - 1)) 157 (2272 + 6 * m q 2 + 4) o) 157 (2272 + 6 * o + 4) (m q 2) = gE at u v v22 w wc wo ⊢
  have e157 : ∀ j, j ≠ 2120 → (j < 2272 + 6 * m q 2 ∨ 2272 + 6 * m q 2 + 5 < j) → j ≠ 2272 + 6 * o + 4 → gE 157 j = g 157 j := fun j j1 j2 j3 => by rw [w j (by omega) j3, c6 j j1 j2]
  refine ⟨fun x x1 x2 x3 x4 => ?_, fun y hy => by rw [v y (by omega), d2 y (by omega), c2 y (by omega)]; exact a2 y hy, ⟨by rw [v 10 (by decide), d2 10 (by decide), c2 10 (by decide)]; exact a3, by rw [v 17 (by decide), d2 17 (by decide), c2 17 (by decide)]; exact a4, by rw [v 18 (by decide)]; exact d6⟩, bs_Tk_h d5 (fun _ _ => rfl) (fun y hy => v y (by omega)) (u 163 (by decide) (by decide)), fun k hk => by rw [e157 k (by omega) (by omega) (by omega)]; exact a7 k hk, ⟨by rw [w 2120 (by omega) (by omega), c4, eq.2], by rw [v22, e96], by rw [v 23 (by decide), d2 23 (by decide), c3, b3, eq.1]; omega⟩, fun i i0 i1 => ?_, fun k k0 k1 => ?_, ?_⟩
  · rw [u x x1 x2]
    by_cases e : x = 158
    · subst e; rw [d4, c1 158 (by decide) (by decide)]; exact a1 158 (by decide) (by decide) (by decide) (by decide)
    · rw [d1 x x1 x2 e, c1 x x1 x2]; exact a1 x x1 x2 x3 x4
  · rw [e96] at i1
    rw [u 164 (by decide) (by decide), d1 164 (by decide) (by decide) (by decide), c1 164 (by decide) (by decide), fr 11 (by decide) (by decide) (by omega)]
    exact a9 i i0 (by omega)
  · rw [eq.2] at k1
    unfold bs_DL
    rw [f1, f2, f3, f4, f5]
    by_cases e : k = m q 2
    · subst e
      rw [bc_setj, bc_setj, bc_setj, bc_setj, bc_setj, wc, w (2272 + 6 * m q 2) (by omega) (by omega), c5]
      unfold bs_lnX
      rw [if_neg (by omega)]
      unfold bs_ln
      exact Or.inr (Or.inr (Or.inr (Or.inr (Or.inr (Or.inr (Or.inr (Or.inl ⟨rfl, rfl, rfl⟩)))))))
    · have old := a10 k k0 (by omega)
      unfold bs_DL at old
      rw [bc_setn e, bc_setn e, bc_setn e, bc_setn e, bc_setn e, e157 (2272 + 6 * k) (by omega) (by omega) (by omega), e157 (2272 + 6 * k + 1) (by omega) (by omega) (by omega), e157 (2272 + 6 * k + 2) (by omega) (by omega) (by omega), e157 (2272 + 6 * k + 5) (by omega) (by omega) (by omega)]
      by_cases e2 : k = o
      · subst e2
        rw [bc_setj, wo]
        unfold bs_lnX at old ⊢
        rw [if_pos op] at old
        rw [if_neg (by omega)]
        exact bs_ln_pr old (m q 2)
      · rw [bc_setn e2, bc_setn e, e157 (2272 + 6 * k + 4) (by omega) (by omega) (by omega)]
        exact old
  · rw [fr c (by omega) (by omega) (by omega), fr (c + 17) (by omega) (by omega) (by omega), fr (c + 18) (by omega) (by omega) (by omega), fr (c + 19) (by omega) (by omega) (by omega)]
    exact a11
theorem bs_D_end {d D : Nat} {T : Int → Int} {n c q w1 w2 : Int} {h m : bc_H} {P N : bc_H → Prop} (hc : 24 ≤ c ∧ c ≤ 44) (hq : 64 ≤ q) (n0 : 0 ≤ n ∧ n ≤ 900) (hb : bs_tb8 T n) (ds : bs_DS h T n c q m) (i25 : m 6 4 = 25) (hP : ∀ m', bs_DS h T n c q m' → m 6 10 ≤ m' 6 11 → bs_Dc1 T n c q w1 w2 m m' (bs_dSt D) → P m') (hN : ∀ m', bs_DF h q m' → bs_Dc0 T n c q w1 w2 m m' (bs_dSt D) → N m') : bf_Reader_takeEnd (d + 4) m (bc_B (fun h7 => bf_Text_needSign (d + 4) 59 h7 (bc_B P N)) N) := by
  have ds' := ds
  obtain ⟨pt, ⟨s60, s61, s62⟩, ⟨s91, s92⟩, fr, ⟨k0, k2, k1, k30, kd⟩, ns⟩ := ds'
  have dp := ns.1
  have ky : bs_km (m 6 4) = 23 := by rw [i25]; decide
  refine rv_Reader_takeEnd (d := d + 3) ⟨fun z => ?_, fun z => ⟨fun z3 => ?_, fun z3 => by exfalso; omega⟩⟩
  · refine rv_Text_fail (hN _ (bs_DF_of (k := 2) s60 fr (by decide)) (fun g0 g P' N' dm hN' => ?_))
    have g22 : g 156 22 = m 9 6 := dm.2.2.2.2.2.1.2.1
    unfold bs_dSt
    exact bc_m_dayX (k := 23) n0 hb pt dm.2.2.2.1 ky dm.2.2.1.2.2 (Or.inr (Or.inr (Or.inr ⟨rfl, by omega, hN' _ (bs_DQ_fg dm)⟩)))
  · have cnt : 0 ≤ m q 2 ∧ m q 2 ≤ 59 := by omega
    obtain ⟨⟨o0, o1⟩, o2, o3⟩ := ns.2.1 (m 9 6 - 1) (by omega) (by omega)
    have nse := bs_nst_end k2 ns z
    rw [s92, bc_wi (x := m 9 6 - 1) (by omega) (by omega)]
    generalize eo : m 11 (m 9 6 - 1) = o at o0 o1 o2 o3 nse ⊢
    refine ⟨by omega, by omega, by omega, ?_⟩
    have m0q : bc_upd m 9 6 (m 9 6 - 1) q = m q := bc_urow (by omega)
    have m0r : ∀ x, x ≠ 9 → bc_upd m 9 6 (m 9 6 - 1) x = m x := fun x hx => bc_urow hx
    have m09 : ∀ y, y ≠ 6 → bc_upd m 9 6 (m 9 6 - 1) 9 y = m 9 y := fun y hy => bc_uj hy
    have m096 : bc_upd m 9 6 (m 9 6 - 1) 9 6 = m 9 6 - 1 := bc_uu _ _ _ _
    generalize bc_upd m 9 6 (m 9 6 - 1) = m0 at m0q m0r m09 m096 ⊢
    refine bc_c_dayAdd (by rw [m0q]; omega) (by rw [m0q]; omega) (fun mA da => ?_)
    obtain ⟨f1, ⟨f2, f3, f4⟩, f5, f6, f7, f8, f9⟩ := da
    rw [m0q] at f2 f3 f4 f5 f6 f7 f8 f9 ⊢
    rw [if_pos rfl] at f3
    rw [m0r (q + 1) (by omega)] at f5
    rw [m0r (q + 2) (by omega)] at f6
    rw [m0r (q + 3) (by omega)] at f7
    rw [m0r (q + 4) (by omega)] at f8
    rw [m0r (q + 5) (by omega)] at f9
    refine rv_Days_pair (d := d + 2) ?_
    rw [f4, bc_wi (x := m q 2 + 1 - 1) (by omega) (by omega)]
    refine ⟨fun _ => ⟨fun _ => ⟨by omega, by omega, ?_⟩, fun q => by exfalso; omega⟩, fun q => by exfalso; omega⟩
    have u : ∀ x, x ≠ q + 5 → bc_upd (bc_upd mA (q + 5) o (m q 2)) (q + 5) (m q 2) o x = mA x := fun x hx => by rw [bc_urow hx, bc_urow hx]
    have u5 : bc_upd (bc_upd mA (q + 5) o (m q 2)) (q + 5) (m q 2) o (q + 5) = bc_set (bc_set (bc_set (m (q + 5)) (m q 2) (-1)) o (m q 2)) (m q 2) o := by rw [bs_rset, bs_rset, f9]
    generalize bc_upd (bc_upd mA (q + 5) o (m q 2)) (q + 5) (m q 2) o = mB at u u5 ⊢
    have b6 : mB 6 = m 6 := by rw [u 6 (by omega), f1 6 (by omega), m0r 6 (by decide)]
    have ptB : bs_PT T n mB := bs_PT_h pt (fun y _ => by rw [b6]) (by rw [u 7 (by omega), f1 7 (by omega), m0r 7 (by decide)]) (by rw [u 8 (by omega), f1 8 (by omega), m0r 8 (by decide)])
    refine bs_pa (d := d + 2) (d' := D + 5) (SM := bs_DE T n m c (2272 + 6 * m q 2) 23 w1 w2) (G := bs_dG D 23 (2272 + 6 * m q 2)) (X := fun A => A) (Y := fun A => A) (R := fun g1 P' N' => bf_M_dayOrder (D + 6) 23 (2272 + 6 * m q 2) g1 (bc_B (fun h4 => P' h4) (fun h4 => N' h4))) n0 hb ptB (fun g P' N' se kk => by
      unfold bs_dG
      exact kk g ⟨fun _ _ _ _ => rfl, fun _ _ => rfl, rfl, rfl, bs_Tk_h se.1 (fun y _ => by rw [b6]) (fun _ _ => rfl) rfl, se.2.1⟩) (fun m3 l3 x3 t3 => ?_)
    have tr : bs_Tr T n (bs_DE T n m c (2272 + 6 * m q 2) 23 w1 w2) (bs_dG D 23 (2272 + 6 * m q 2)) (fun A => A) (fun A => A) m3 (fun g P' N' => P' g) := bs_Tr_r t3 (fun g g1 P' N' sm mid kk => rv_M_dayOrder (d := D + 5) ⟨fun q => absurd q (by decide), fun _ => ⟨fun q => absurd q (by decide), fun _ => ⟨fun q => absurd q (by decide), fun _ => ⟨fun q => absurd q (by decide), fun _ => ⟨fun q => absurd q (by decide), fun _ => ⟨fun q => absurd q (by decide), fun _ => ⟨fun q => absurd q (by decide), fun _ => kk g1 mid⟩⟩⟩⟩⟩⟩⟩)
    have r := l3.1
    have r3 : ∀ x, x ≠ 6 → x ≠ 9 → ¬ (q ≤ x ∧ x < q + 6) → m3 x = m x := fun x x1 x2 x3 => by rw [r x x1, u x (by omega), f1 x x3, m0r x x2]
    have r9 : m3 9 = m0 9 := by rw [r 9 (by decide), u 9 (by omega), f1 9 (by omega)]
    have rq : ∀ x, q ≤ x → x < q + 5 → m3 x = mA x := fun x x0 x1 => by rw [r x (by omega), u x (by omega)]
    have r5 : m3 (q + 5) = bc_set (bc_set (bc_set (m (q + 5)) (m q 2) (-1)) o (m q 2)) (m q 2) o := by rw [r _ (by omega)]; exact u5
    have p6 : ∀ y, y < 3 → m3 6 y = m 6 y := fun y hy => by rw [l3.2 y (Or.inl (by omega)), b6]
    refine bs_D_sign (d := d + 2) (D := D) (w1 := w1) (w2 := w2) hc hq n0 hb (m := m) ⟨x3.1, ⟨by rw [p6 0 (by decide)]; exact s60, by rw [p6 1 (by decide)]; exact s61, by rw [p6 2 (by decide)]; exact s62⟩, ⟨by rw [r9, m09 1 (by decide)]; exact s91, by rw [r9, m09 2 (by decide)]; exact s92⟩, fun x a b e f i => by rw [r3 x a b i]; exact fr x a b e f i, ?_, ?_⟩ ?_ (fun g0 g A B dm hk => ?_) hP hN
    · rw [rq q (by omega) (by omega), r9, m096, f2, f3, f4]; omega
    · rw [rq (q + 1) (by omega) (by omega), r5, rq q (by omega) (by omega), r9, m096, r3 11 (by decide) (by decide) (by omega), f4, f5]
      exact nse
    · have := bs_nx_p x3; rw [b6] at this; exact this
    · have g2 : g 157 2120 = m q 2 := dm.2.2.2.2.2.1.1
      have g22 : g 156 22 = m 9 6 := dm.2.2.2.2.2.1.2.1
      have g23 : g 156 23 = m q 1 := dm.2.2.2.2.2.1.2.2
      refine bc_m_dayE (D := D) (k := 23) (Q1 := fun gz g1 => bs_Mid T n m3 (fun A => A) (fun A => A) gz g1) (Q0 := fun _ _ => False) n0 hb pt dm.2.2.2.1 ky rfl (by omega) (by omega) (by omega) (fun gz P2 N2 gf hp _ => ?_) (fun gz g1 gf mid => ?_) (fun _ _ _ x => x.elim)
      · have se := bs_DE_of cnt dm gf
        rw [g2] at se ⊢
        exact tr gz P2 N2 se (fun g1 mid => hp g1 mid)
      · have e164 : g1 164 (m 9 6 - 1) = o := by rw [mid.1 164 (by decide) (by decide) (by decide), gf.1 164 (by decide) (by decide), dm.2.2.2.2.2.2.1 _ (by omega) (by omega)]; exact eo
        rw [g22, g2, e164]
        refine ⟨by rw [mid.2.1 22 (by decide), gf.2.1 22 (by decide)]; exact g22, by omega, hk _ ?_⟩
        exact bs_DM_end hc hq cnt z dm gf mid r3 (by rw [r9]; exact m096) ⟨by rw [rq q (by omega) (by omega), f3]; omega, by rw [rq q (by omega) (by omega)]; exact f4⟩ (by rw [rq _ (by omega) (by omega)]; exact f5) (by rw [rq _ (by omega) (by omega)]; exact f6) (by rw [rq _ (by omega) (by omega)]; exact f7) (by rw [rq _ (by omega) (by omega)]; exact f8) r5 ⟨o0, o1⟩ o3
