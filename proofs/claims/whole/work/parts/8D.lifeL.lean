/-! ===== days lived: the reference's run ===== -/
theorem bc_m_hold {d : Nat} {x : Int} {h m : bc_H} {B A R g ki t v n pa : Int → Int} {P N : bc_H → Prop} (b8 : B 8 ≤ 60) (hl : bs_lns B ki t v n pa) (hr : bs_mrel h m A R g) (hA : bs_lA B A) (x0 : 0 ≤ x) (x1 : x < B 8) (k : 2100 ≤ B (160 + 6 * x)) (hP : bs_nxt B A x = x + 1 → P m) (hN : bs_nxt B A x = B (160 + 6 * x + 4) + 1 → N m) : bf_M_holds (d + 5) (160 + 6 * x) m (bc_B P N) := by
  have w := hA.1.1
  have e1 := hA.2.2.2.2.1
  have e2 := hA.2.2.2.2.2.1
  have e3 := hr.2.2.1
  have eB : ∀ k, 160 ≤ k → A k = B k := fun k hk => hA.2.2.1 k (by omega)
  have ln := hl x x0 x1
  have cs : (B (160 + 6 * x) = 2125 ∧ 0 ≤ B (160 + 6 * x + 1) ∧ B (160 + 6 * x + 1) < B 2) ∨ (B (160 + 6 * x) = 2113 ∧ 0 ≤ B (160 + 6 * x + 1) ∧ B (160 + 6 * x + 1) < B 2) ∨ B (160 + 6 * x) = 2126 ∨ (B (160 + 6 * x) = 2112 ∧ 0 ≤ B (160 + 6 * x + 1) ∧ B (160 + 6 * x + 1) < B 2) := by
    rcases ln with q | q | q | q | q | q | q | q | q
    · omega
    · omega
    · omega
    · omega
    · omega
    · obtain ⟨_, _, cs⟩ := q
      rcases cs with q | q | q | q
      · exact Or.inl ⟨q.2.1, by omega⟩
      · exact Or.inr (Or.inl ⟨q.2.1, by omega⟩)
      · exact Or.inr (Or.inr (Or.inl q.2))
      · exact Or.inr (Or.inr (Or.inr ⟨q.2.1, by omega⟩))
    · omega
    · omega
    · omega
  clear ln
  unfold bs_nxt at hP hN
  refine rv_M_holds (d := d + 3) ?_
  rw [e3, bc_wi (x := 160 + 6 * x + 1) (by omega) (by omega), bc_wi (x := 160 + 6 * x + 2) (by omega) (by omega), bc_wi (x := 160 + 6 * x + 5) (by omega) (by omega), eB (160 + 6 * x) (by omega), eB (160 + 6 * x + 1) (by omega), eB (160 + 6 * x + 2) (by omega), bc_wi (x := B (160 + 6 * x) - 2100) (by omega) (by omega)]
  refine ⟨by omega, by omega, fun n26 => ⟨fun n25 => ⟨fun n13 => ?_, fun z => ?_⟩, fun z => ?_⟩, fun z => ?_⟩
  · have k12 : B (160 + 6 * x) = 2112 ∧ 0 ≤ B (160 + 6 * x + 1) ∧ B (160 + 6 * x + 1) < B 2 := by omega
    rw [if_neg (by omega), if_neg (by omega), if_neg (by omega), if_pos k12.1] at hP hN
    refine bc_m_mostOf (d := d + 1) e3 hA.1 k12.2.1 (by omega) ?_
    rw [e3, eB (160 + 6 * x + 5) (by omega), eB (160 + 6 * x + 2) (by omega)]
    refine ⟨by omega, fun n60 => ⟨by omega, fun n62 => ?_, fun z62 => ?_⟩, fun z60 => ?_⟩
    · rw [if_neg n60, if_neg n62] at hP hN
      exact ⟨by omega, fun q => hP (if_pos q), fun q => hN (if_neg q)⟩
    · rw [if_neg n60, if_pos z62] at hP hN
      exact ⟨by omega, fun q => hP (if_pos q), fun q => hN (if_neg q)⟩
    · rw [if_pos z60] at hP hN
      exact ⟨by omega, fun q => hP (if_pos q), fun q => hN (if_neg q)⟩
  · have k13 : B (160 + 6 * x) = 2113 ∧ 0 ≤ B (160 + 6 * x + 1) ∧ B (160 + 6 * x + 1) < B 2 := by omega
    rw [if_neg (by omega), if_pos k13.1] at hP hN
    rw [bc_wi (x := 8 * B (160 + 6 * x + 1)) (by omega) (by omega), bc_wi (x := 54 + 8 * B (160 + 6 * x + 1)) (by omega) (by omega), bc_wi (x := 54 + 8 * B (160 + 6 * x + 1) + 1) (by omega) (by omega)]
    exact ⟨by omega, by omega, fun q => hP (if_pos q), fun q => hN (if_neg q)⟩
  · have k25 : B (160 + 6 * x) = 2125 ∧ 0 ≤ B (160 + 6 * x + 1) ∧ B (160 + 6 * x + 1) < B 2 := by omega
    rw [if_pos k25.1] at hP hN
    exact bc_m_isTurned (d := d) e3 hA.1 k25.2.1 (by omega) (fun q => hP (if_pos q)) (fun q => hN (if_neg q))
  · rw [if_neg (by omega), if_neg (by omega), if_pos (show B (160 + 6 * x) = 2126 by omega)] at hP hN
    exact ⟨fun q => hP (if_pos q), fun q => hN (if_neg q)⟩
def bs_hR (R : Int → Int) : Prop := ∀ k, 0 ≤ k → k < 60 → 0 ≤ R k ∧ R k ≤ 98
theorem bs_e1_R {B R : Int → Int} {x : Int} (hR : bs_hR R) : bs_hR (bs_e1 B R x).1 := by
  unfold bs_e1
  split
  · rename_i c
    intro k k0 k1
    show 0 ≤ bc_set R _ _ k ∧ bc_set R _ _ k ≤ 98
    have := hR k k0 k1
    by_cases e : k = B (160 + 6 * x + 4)
    · rw [e, bc_setj]; rw [e] at this; omega
    · rw [bc_setn e]; exact this
  · exact hR
theorem bc_m_ends {d : Nat} {h : bc_H} {B A g ki t v n pa : Int → Int} {K : Int → bc_H → Prop} (b8 : B 8 ≤ 60) (hA : bs_lA B A) (hl : bs_lns B ki t v n pa) (hn : bs_nest ki pa (B 8)) : ∀ (k : Nat) (R : Int → Int) (x : Int) (m : bc_H), bs_mrel h m A R g → bs_hR R → (0 ≤ x ∧ x ≤ B 8) → bs_mu B R x ≤ k → (∀ m', bs_mrel h m' A (bs_en B k (R, x)).1 g → bs_hR (bs_en B k (R, x)).1 → (0 ≤ (bs_en B k (R, x)).2 ∧ (bs_en B k (R, x)).2 ≤ B 8) → K (bs_en B k (R, x)).2 m') → bl_M_behindEnds_2 d x m (bc_I K) := by
  have a8 : A 8 = B 8 := hA.2.2.1 8 (by omega)
  have eB : ∀ k, 160 ≤ k → A k = B k := fun k hk => hA.2.2.1 k (by omega)
  have out : ∀ (R : Int → Int) (x : Int) (m : bc_H), bs_mrel h m A R g → (0 ≤ x ∧ x ≤ B 8) → ¬ bs_E B x → K x m → bl_M_behindEnds_2 d x m (bc_I K) := fun R x m hr hx z kk => by
    refine rv_M_behindEnds_2 ?_
    rw [hr.2.2.1, a8]
    refine ⟨fun _ => kk, fun q => ?_⟩
    rw [bc_wi (x := 6 * x) (by omega) (by omega), bc_wi (x := 160 + 6 * x) (by omega) (by omega), eB (160 + 6 * x) (by omega)]
    exact ⟨by omega, fun _ => kk, fun w => absurd ⟨q, w⟩ z⟩
  intro k
  induction k with
  | zero =>
    intro R x m hr hR hx hm hK
    have rg : bs_E B x → 0 ≤ R (B (160 + 6 * x + 4)) ∧ R (B (160 + 6 * x + 4)) ≤ 98 := fun z => by
      have z1 := z.1
      have lx := bs_ln_E (hl x hx.1 z.1)
      have kx := lx.1.1 z.2
      rw [lx.2.2 kx]
      have nx := hn.2.1 x hx.1 z.1 kx
      exact hR _ nx.1 (by omega)
    have ne : ¬ bs_E B x := fun z => by
      have := (bs_mu_r rg).2.2.1 z
      omega
    exact out R x m hr hx ne (hK m hr hR hx)
  | succ k ih =>
    intro R x m hr hR hx hm hK
    have ee : bs_en B (k + 1) (R, x) = if x < B 8 ∧ B (160 + 6 * x) = 23 then bs_en B k (bs_e1 B R x) else (R, x) := rfl
    rw [ee] at hK
    by_cases z : bs_E B x
    · rw [if_pos z] at hK
      have z1 := z.1
      have mu := bs_e1_mu hl hn b8 hx.1 z hR
      have hR1 := bs_e1_R (B := B) (x := x) hR
      have lx := bs_ln_E (hl x hx.1 z.1)
      have kx := lx.1.1 z.2
      have nx := hn.2.1 x hx.1 z.1 kx
      have px := lx.2.2 kx
      have nb : 0 ≤ B (160 + 6 * x + 4) ∧ B (160 + 6 * x + 4) < x := by omega
      have e1 : bs_e1 B R x = if B (160 + 6 * B (160 + 6 * x + 4)) = 22 ∧ 0 < R (B (160 + 6 * x + 4)) then (bc_set R (B (160 + 6 * x + 4)) (R (B (160 + 6 * x + 4)) - 1), B (160 + 6 * x + 4) + 1) else (R, x + 1) := rfl
      have fall : (∀ R', R' = R → ¬ (B (160 + 6 * B (160 + 6 * x + 4)) = 22 ∧ 0 < R (B (160 + 6 * x + 4))) → ∀ m', bs_mrel h m' A R' g → bl_M_behindEnds_2 d (bc_w32 (x + 1)) m' (bc_I K)) := fun R' eR' c m' hr' => by
        rw [bc_wi (x := x + 1) (by omega) (by omega)]
        rw [eR'] at hr'
        rw [e1, if_neg c] at mu hR1 hK
        dsimp only at mu hR1
        exact ih R (x + 1) m' hr' hR mu.1 (by omega) hK
      have rb := hR _ nb.1 (by omega)
      have set0 : bs_mrel h (bc_upd m 182 (B (160 + 6 * x + 4)) (R (B (160 + 6 * x + 4)) - 0)) A R g := by
        have t := bs_mrel_R (k := B (160 + 6 * x + 4)) (v := R (B (160 + 6 * x + 4)) - 0) hr
        have e : bc_set R (B (160 + 6 * x + 4)) (R (B (160 + 6 * x + 4)) - 0) = R := by
          funext j
          by_cases e : j = B (160 + 6 * x + 4)
          · subst e; rw [bc_setj]; omega
          · rw [bc_setn e]
        rw [e] at t; exact t
      refine rv_M_behindEnds_2 ?_
      rw [hr.2.2.1, a8, hr.2.2.2.1]
      rw [bc_wi (x := 6 * x) (by omega) (by omega), bc_wi (x := 160 + 6 * x) (by omega) (by omega), eB (160 + 6 * x) (by omega), bc_wi (x := 160 + 6 * x + 4) (by omega) (by omega), eB (160 + 6 * x + 4) (by omega), bc_wi (x := 6 * B (160 + 6 * x + 4)) (by omega) (by omega), bc_wi (x := 160 + 6 * B (160 + 6 * x + 4)) (by omega) (by omega), eB (160 + 6 * B (160 + 6 * x + 4)) (by omega), bc_wi (x := R (B (160 + 6 * x + 4)) - 0) (by omega) (by omega), bc_wi (x := R (B (160 + 6 * x + 4)) - 1) (by omega) (by omega)]
      refine ⟨fun q => absurd q (by omega), fun _ => ⟨by omega, fun q => absurd z.2 q, fun _ => ⟨by omega, by omega, fun q => ⟨by omega, by omega, fun h4 e4 => ?_⟩, fun q => ⟨by omega, fun q2 => ⟨by omega, by omega, fun h7 e7 => ?_⟩, fun q2 => ⟨by omega, by omega, fun h9 e9 => ?_⟩⟩⟩⟩⟩
      · rw [e4]; exact fall R rfl (fun w => q w.1) _ set0
      · rw [e7, bc_wi (x := B (160 + 6 * x + 4) + 1) (by omega) (by omega)]
        rw [e1, if_pos ⟨q, q2⟩] at mu hR1 hK
        dsimp only at mu hR1
        exact ih _ _ _ (bs_mrel_R hr) hR1 mu.1 (by omega) hK
      · rw [e9]; exact fall R rfl (fun w => q2 w.2) _ set0
    · rw [if_neg z] at hK
      exact out R x m hr hx z (hK m hr hR hx)
def bs_mt (d : Nat) (x : Int) (m : bc_H) (v : Int) (K : bc_H → Prop) : Prop := (0 ≤ (160 + 6 * x) ∧ (160 + 6 * x) < 3968) ∧ ((m 157 (160 + 6 * x)) ≠ 22 → ((0 ≤ (160 + 6 * x) ∧ (160 + 6 * x) < 3968) ∧ ((m 157 (160 + 6 * x)) < 2100 → (bf_M_behindEnds (d + 9) (bc_w32 (x + 1)) (bc_upd m 183 0 v) (bc_I (fun y10 h8 => bl_M_lives_20 (d + 10) y10 h8 (bc_U K))))) ∧ (2100 ≤ (m 157 (160 + 6 * x)) → (bf_M_holds (d + 9) (160 + 6 * x) (bc_upd m 183 0 v) (bc_B (fun h11 => bf_M_behindEnds (d + 9) (bc_w32 (x + 1)) h11 (bc_I (fun y15 h13 => bl_M_lives_20 (d + 10) y15 h13 (bc_U K)))) (fun h11 => (0 ≤ (bc_w32 ((160 + 6 * x) + 4)) ∧ (bc_w32 ((160 + 6 * x) + 4)) < 3968) ∧ bf_M_behindEnds (d + 9) (bc_w32 ((h11 157 (bc_w32 ((160 + 6 * x) + 4))) + 1)) h11 (bc_I (fun y18 h16 => bl_M_lives_20 (d + 10) y18 h16 (bc_U K))))))))) ∧ ((m 157 (160 + 6 * x)) = 22 → ((0 ≤ (bc_w32 ((160 + 6 * x) + 1)) ∧ (bc_w32 ((160 + 6 * x) + 1)) < 3968) ∧ (0 ≤ x ∧ x < 80) ∧ ∀ h19 : bc_H, h19 = (bc_upd (bc_upd m 183 0 v) 182 x (bc_w32 ((m 157 (bc_w32 ((160 + 6 * x) + 1))) - 1))) → ((0 ≤ (160 + 6 * x) ∧ (160 + 6 * x) < 3968) ∧ ((h19 157 (160 + 6 * x)) < 2100 → (bf_M_behindEnds (d + 9) (bc_w32 (x + 1)) h19 (bc_I (fun y24 h22 => bl_M_lives_20 (d + 10) y24 h22 (bc_U K))))) ∧ (2100 ≤ (h19 157 (160 + 6 * x)) → (bf_M_holds (d + 9) (160 + 6 * x) h19 (bc_B (fun h25 => bf_M_behindEnds (d + 9) (bc_w32 (x + 1)) h25 (bc_I (fun y29 h27 => bl_M_lives_20 (d + 10) y29 h27 (bc_U K)))) (fun h25 => (0 ≤ (bc_w32 ((160 + 6 * x) + 4)) ∧ (bc_w32 ((160 + 6 * x) + 4)) < 3968) ∧ bf_M_behindEnds (d + 9) (bc_w32 ((h25 157 (bc_w32 ((160 + 6 * x) + 4))) + 1)) h25 (bc_I (fun y32 h30 => bl_M_lives_20 (d + 10) y32 h30 (bc_U K))))))))))
theorem bc_m_tail {d : Nat} {x vv : Int} {h m : bc_H} {B A R g ki t v n pa : Int → Int} {K : bc_H → Prop} (b8 : B 8 ≤ 60) (hA : bs_lA B A) (hl : bs_lns B ki t v n pa) (hn : bs_nest ki pa (B 8)) (hr : bs_mrel h (bc_upd m 183 0 vv) A R g) (hR : bs_hR R) (x0 : 0 ≤ x) (x1 : x < B 8) (n24 : B (160 + 6 * x) ≠ 24) (hK : ∀ m', bs_mrel h m' A (bs_en B 400 (bs_lR B R x, bs_nxt B A x)).1 g → bs_hR (bs_en B 400 (bs_lR B R x, bs_nxt B A x)).1 → (0 ≤ (bs_en B 400 (bs_lR B R x, bs_nxt B A x)).2 ∧ (bs_en B 400 (bs_lR B R x, bs_nxt B A x)).2 ≤ B 8) → bl_M_lives_20 (d + 10) (bs_en B 400 (bs_lR B R x, bs_nxt B A x)).2 m' (bc_U K)) : bs_mt d x m vv K := by
  have a157 : m 157 = A := by rw [← bc_urow (h := m) (r := 183) (j := 0) (v := vv) (a := 157) (by decide)]; exact hr.2.2.1
  have eB : ∀ k, 160 ≤ k → A k = B k := fun k hk => hA.2.2.1 k (by omega)
  have ln := hl x x0 x1
  have lE := bs_ln_E ln
  have l22 : B (160 + 6 * x) = 22 → 1 ≤ B (160 + 6 * x + 1) ∧ B (160 + 6 * x + 1) ≤ 99 := fun z => by
    rcases ln with q | q | q | q | q | q | q | q | q <;> omega
  have lw : 2100 ≤ B (160 + 6 * x) → ki x = 21 ∧ B (160 + 6 * x + 4) = pa x := fun z => by
    rcases ln with q | q | q | q | q | q | q | q | q
    · omega
    · omega
    · omega
    · omega
    · omega
    · exact ⟨q.1, q.2.1⟩
    · omega
    · omega
    · omega
  have pw : 2100 ≤ B (160 + 6 * x) → 0 ≤ B (160 + 6 * x + 4) ∧ B (160 + 6 * x + 4) < B 8 := fun z => by
    have q := lw z
    have nx := hn.1 x x0 x1 (Or.inl q.1)
    omega
  have n1 : B (160 + 6 * x) < 2100 → bs_nxt B A x = x + 1 := fun z => by
    unfold bs_nxt; rw [if_neg (by omega), if_neg (by omega), if_neg (by omega), if_neg (by omega)]
  clear ln
  have go : ∀ (R' : Int → Int) (y : Int) (m' : bc_H), R' = bs_lR B R x → y = bs_nxt B A x → bs_mrel h m' A R' g → bs_hR R' → (0 ≤ y ∧ y ≤ B 8) → bf_M_behindEnds (d + 9) y m' (bc_I (fun y10 h8 => bl_M_lives_20 (d + 10) y10 h8 (bc_U K))) := fun R' y m' eR ey hr' hR' hy => by
    refine rv_M_behindEnds ?_
    have mu := bs_mu_r (B := B) (R := R') (x := y) (fun z => by
      have z1 := z.1
      have lx := bs_ln_E (hl _ hy.1 z.1)
      have kx := lx.1.1 z.2
      rw [lx.2.2 kx]
      have nx := hn.2.1 _ hy.1 z.1 kx
      exact hR' _ nx.1 (by omega))
    subst eR
    subst ey
    exact bc_m_ends b8 hA hl hn 400 _ _ m' hr' hR' hy (by omega) (fun m2 a b c => hK m2 a b c)
  unfold bs_mt
  rw [a157, bc_wi (x := 160 + 6 * x + 1) (by omega) (by omega), bc_wi (x := 160 + 6 * x + 4) (by omega) (by omega), eB (160 + 6 * x) (by omega), eB (160 + 6 * x + 1) (by omega), bc_wi (x := x + 1) (by omega) (by omega)]
  refine ⟨by omega, fun n22 => ⟨by omega, fun lt => ?_, fun ge => ?_⟩, fun z22 => ⟨by omega, by omega, fun h19 e19 => ⟨by omega, ?_⟩⟩⟩
  · exact go R _ _ (by unfold bs_lR; rw [if_neg n22]) (n1 lt).symm hr hR (by omega)
  · have pp := pw ge
    refine bc_m_hold (d := d + 4) b8 hl hr hA x0 x1 ge (fun q => ?_) (fun q => ?_)
    · exact go R _ _ (by unfold bs_lR; rw [if_neg n22]) q.symm hr hR (by omega)
    · rw [show bc_upd m 183 0 vv 157 = A from hr.2.2.1, eB (160 + 6 * x + 4) (by omega), bc_wi (x := B (160 + 6 * x + 4) + 1) (by omega) (by omega)]
      exact ⟨by omega, go R _ _ (by unfold bs_lR; rw [if_neg n22]) q.symm hr hR (by omega)⟩
  · have l := l22 z22
    rw [bc_wi (x := B (160 + 6 * x + 1) - 1) (by omega) (by omega)] at e19
    have hr1 := bs_mrel_R (k := x) (v := B (160 + 6 * x + 1) - 1) hr
    rw [← e19] at hr1
    rw [show h19 157 = A from hr1.2.2.1, eB (160 + 6 * x) (by omega)]
    refine ⟨fun lt => ?_, fun ge => absurd ge (by omega)⟩
    refine go _ _ _ (by unfold bs_lR; rw [if_pos z22]) (n1 lt).symm hr1 (fun k k0 k1 => ?_) (by omega)
    by_cases e : k = x
    · subst e; rw [bc_setj]; omega
    · rw [bc_setn e]; exact hR k k0 k1
theorem bs_deed0 {B A g : Int → Int} {x : Int} : (bs_deed B A g x).2 0 = g 0 := by
  unfold bs_deed bs_dl
  (repeat' split) <;> first | rfl | exact bc_setn (by decide) | (show bc_set _ _ _ 0 = _; rw [bc_setn (by decide), bc_setn (by decide)])
theorem bc_m_lives20 {d : Nat} {h : bc_H} {B ki t v n pa : Int → Int} {K : bc_H → Prop} (b80 : 0 ≤ B 8) (b8 : B 8 ≤ 60) (hl : bs_lns B ki t v n pa) (hn : bs_nest ki pa (B 8)) : ∀ (n : Nat) (A R g : Int → Int) (x : Int) (m : bc_H), bs_mrel h m A R g → bs_hR R → (0 ≤ x ∧ x ≤ B 8) → bs_lA B A → bs_lg g → (n : Int) + g 0 = 301 → (∀ m', bs_mrel h m' (bs_lf B n A R g x).1 (bs_lf B n A R g x).2.1 (bs_lf B n A R g x).2.2 → bs_hR (bs_lf B n A R g x).2.1 → bs_lA B (bs_lf B n A R g x).1 → K m') → bl_M_lives_20 (d + 10) x m (bc_U K) := by
  intro n
  induction n with
  | zero =>
    intro A R g x m hr hR hx hA hg hng hK
    have := hg.1
    omega
  | succ n ih =>
    intro A R g x m hr hR hx hA hg hng hK
    have gg := hg.1
    have a8 : A 8 = B 8 := hA.2.2.1 8 (by omega)
    have eB : ∀ k, 160 ≤ k → A k = B k := fun k hk => hA.2.2.1 k (by omega)
    have ee : bs_lf B (n + 1) A R g x = if B 8 ≤ x then (A, R, g) else if g 0 = 300 then (A, R, bc_set g 5 1) else if B (160 + 6 * x) = 24 then (A, R, bc_set g 0 (g 0 + 1)) else bs_lf B n (bs_deed B A (bc_set g 0 (g 0 + 1)) x).1 (bs_en B 400 (bs_lR B R x, bs_nxt B A x)).1 (bs_deed B A (bc_set g 0 (g 0 + 1)) x).2 (bs_en B 400 (bs_lR B R x, bs_nxt B A x)).2 := rfl
    rw [ee] at hK
    have m0 := hr.2.2.2.2.2.2
    refine rv_M_lives_20 (d := d + 9) ?_
    rw [hr.2.2.1, a8, m0, hr.2.2.2.2.1.1]
    refine ⟨fun q => ?_, fun q => ⟨fun ne => ?_, fun z => ?_⟩⟩
    · rw [if_pos q] at hK
      exact hK m hr hR hA
    · rw [if_neg (by omega), if_neg ne] at hK
      rw [bc_wi (x := 6 * x) (by omega) (by omega), bc_wi (x := 160 + 6 * x) (by omega) (by omega), eB (160 + 6 * x) (by omega), bc_wi (x := g 0 + 1) (by omega) (by omega)]
      have hr' := bs_mrel_c (v := g 0 + 1) (g' := bc_set g 0 (g 0 + 1)) hr (fun j hj => rfl)
      refine ⟨by omega, fun n24 => ?_, fun z24 => ?_⟩
      · rw [if_neg n24] at hK
        have hgs := bs_lg_s hg ne
        have lnE := hl x hx.1 q
        have hd := bs_deed_I (g := bc_set g 0 (g 0 + 1)) hA hgs lnE
        have g0' : (bs_deed B A (bc_set g 0 (g 0 + 1)) x).2 0 = g 0 + 1 := by rw [bs_deed0, bc_setj]
        have g1 : bc_set g 0 (g 0 + 1) 1 = g 1 := bc_setn (by decide)
        have gb := hg.2.1
        have nxA : bs_nxt B (bs_deed B A (bc_set g 0 (g 0 + 1)) x).1 x = bs_nxt B A x := by
          by_cases wh : 2100 ≤ B (160 + 6 * x)
          · have : bs_deed B A (bc_set g 0 (g 0 + 1)) x = (A, bc_set g 0 (g 0 + 1)) := by
              unfold bs_deed; rw [if_neg (by omega), if_neg (by omega), if_neg (by omega), if_neg (by omega), if_neg (by omega)]
            rw [this]
          · unfold bs_nxt
            rw [if_neg (by omega), if_neg (by omega), if_neg (by omega), if_neg (by omega), if_neg (by omega), if_neg (by omega), if_neg (by omega), if_neg (by omega)]
        have tail : ∀ (m4 : bc_H) (vv : Int), bs_mrel h (bc_upd m4 183 0 vv) (bs_deed B A (bc_set g 0 (g 0 + 1)) x).1 R (bs_deed B A (bc_set g 0 (g 0 + 1)) x).2 → bs_mt d x m4 vv K := fun m4 vv hr4 => by
          refine bc_m_tail b8 hd.1 hl hn hr4 hR hx.1 q n24 (fun m5 a b c => ?_)
          rw [nxA] at a b c ⊢
          exact ih _ _ _ _ m5 a b c hd.1 hd.2 (by rw [g0']; omega) hK
        refine bc_m_does b8 hl hr' hA hgs hx.1 q (fun m4 hr4 e4 => ?_) (fun m4 g4 hr4 e4 eg => ?_)
        · refine tail m4 _ ?_
          rw [bc_wi (x := g 1 + 0) (by omega) (by omega)]
          refine bs_mrel_u (k := 0) (by decide) (by decide) hr4 (fun j hj => ?_)
          rw [g1] at e4
          by_cases e : j = 0 + 1
          · rw [e, bc_setj]; show (bs_deed B A (bc_set g 0 (g 0 + 1)) x).2 1 = _; rw [e4]; omega
          · rw [bc_setn e]
        · refine tail m4 _ ?_
          rw [bc_wi (x := g 1 + 1) (by omega) (by omega)]
          rw [g1] at eg
          exact bs_mrel_u (k := 0) (by decide) (by decide) hr4 (fun j hj => by rw [eg]; rfl)
      · rw [if_pos z24] at hK
        exact hK _ hr' hR hA
    · rw [if_neg (by omega), if_pos z] at hK
      exact hK _ (bs_mrel_u (k := 4) (by decide) (by decide) hr (fun j hj => rfl)) hR hA
theorem bc_m_lives {d : Nat} {h : bc_H} {x : Int} {B A R ki t v n pa : Int → Int} {K : bc_H → Prop} (b80 : 0 ≤ B 8) (b8 : B 8 ≤ 60) (hl : bs_lns B ki t v n pa) (hn : bs_nest ki pa (B 8)) (eA : h 157 = A) (eR : h 182 = R) (hA : bs_lA B A) (hR : bs_hR R) (n0 : 0 ≤ x) (n1 : x < 65536) (hK : ∀ m', bs_mrel h m' (bs_lf B 301 A R (bs_g0 x) 0).1 (bs_lf B 301 A R (bs_g0 x) 0).2.1 (bs_lf B 301 A R (bs_g0 x) 0).2.2 → bs_hR (bs_lf B 301 A R (bs_g0 x) 0).2.1 → bs_lA B (bs_lf B 301 A R (bs_g0 x) 0).1 → K m') : bf_M_lives (d + 11) x h (bc_U K) := by
  refine rv_M_lives (d := d + 10) ?_
  refine bc_lup (P := fun i => ∀ m : bc_H, (∀ a, a ≠ 156 → a ≠ 183 → m a = h a) → (∀ b, b ≠ 43 → b ≠ 44 → m 156 b = h 156 b) → m 156 43 = x → m 156 44 = 0 → (∀ k, 0 ≤ k → k < i → m 183 k = 0) → bl_M_lives_8 (d + 11) i m (bc_U K)) (n := 5) (fun m a1 a2 a3 a4 a5 => ?_) (fun i i0 i1 ih m a1 a2 a3 a4 a5 => ?_) (Int.le_refl 0) (by omega) _ (fun a b c => by rw [bc_urow b, bc_urow b]) (fun b b1 b2 => by rw [bc_uj b2, bc_uj b1]) (by rw [bc_uj (by decide), bc_uu]) (bc_uu _ _ _ _) (fun k k0 k1 => absurd k1 (by omega))
  · refine rv_M_lives_8 (d := d + 10) ⟨fun _ => ?_, fun q => absurd q (by decide)⟩
    refine bc_m_lives20 (d := d + 1) b80 b8 hl hn 301 A R (bs_g0 x) 0 m ⟨fun a c1 c2 c3 c4 => a1 a c1 c4, a2, by rw [a1 _ (by decide) (by decide)]; exact eA, by rw [a1 _ (by decide) (by decide)]; exact eR, ⟨a5 0 (by omega) (by omega), a5 1 (by omega) (by omega), a5 2 (by omega) (by omega), a5 3 (by omega) (by omega), a5 4 (by omega) (by omega)⟩, ⟨by rw [a3]; exact (if_pos rfl).symm, a4⟩⟩ hR (by omega) hA (bs_g0_g n0 n1) (by rw [show bs_g0 x 0 = 0 from if_neg (by decide)]; rfl) hK
  · refine rv_M_lives_8 (d := d + 10) ⟨fun q => absurd q (by omega), fun _ => ⟨by omega, ?_⟩⟩
    rw [bc_wi (x := i + 1) (by omega) (by omega)]
    refine ih _ (fun a b c => by rw [bc_urow c]; exact a1 a b c) (fun b b1 b2 => by rw [bc_urow (by decide)]; exact a2 b b1 b2) (by rw [bc_urow (by decide)]; exact a3) (by rw [bc_urow (by decide)]; exact a4) (fun k k0 k1 => ?_)
    by_cases e : k = i
    · subst e; exact bc_uu _ _ _ _
    · rw [bc_uj e]; exact a5 k k0 (by omega)
