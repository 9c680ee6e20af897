/-! ===== days lived: the class's run ===== -/
theorem bs_lrel_0 {h m : bc_H} {c p : Int} {A R g : Int → Int} (hc : 24 ≤ c ∧ c ≤ 44) (hr : bs_lrel h m c p A R g) (b0 : 0 ≤ g 1) (b1 : g 1 ≤ 300) : bs_lrel h (bc_upd m 12 1 (bc_w32 ((m 12 1) + 0))) c p A R g := by
  have g1 := hr.2.2.2.2.2.2.1
  rw [g1, bc_wi (x := g 1 + 0) (by omega) (by omega)]
  refine bs_lrel_u hc.1 hr (by decide) (fun j hj => ?_)
  by_cases e : j = 1
  · subst e; rw [bc_setj]; omega
  · rw [bc_setn e]
theorem bs_lrel_1 {h m : bc_H} {c p : Int} {A R g : Int → Int} (hc : 24 ≤ c ∧ c ≤ 44) (hr : bs_lrel h m c p A R g) (b0 : 0 ≤ g 1) (b1 : g 1 ≤ 300) : bs_lrel h (bc_upd m 12 1 (bc_w32 ((m 12 1) + 1))) c p A R (bc_set g 1 (g 1 + 1)) := by
  have g1 := hr.2.2.2.2.2.2.1
  rw [g1, bc_wi (x := g 1 + 1) (by omega) (by omega)]
  exact bs_lrel_u hc.1 hr (by decide) (fun j hj => rfl)
theorem bc_c_behindStep {d : Nat} {h m : bc_H} {c p x : Int} {B A R g : Int → Int} {K : Int → bc_H → Prop} (hc : 24 ≤ c ∧ c ≤ 44) (hp : p = 64 ∨ p = 70) (b8 : B 8 ≤ 60) (hl : bs_lns B (h (p + 1)) (h (p + 2)) (h (p + 3)) (h (p + 4)) (h (p + 5))) (hn : bs_nest (h (p + 1)) (h (p + 5)) (B 8)) (hr : bs_lrel h m c p A R g) (hi : bs_lin (h (p + 1)) (h (p + 5)) (B 8) (m 13) R x) (hA : bs_lA B A) (hg : bs_lgs g) (x0 : 0 ≤ x) (x1 : x < B 8) (k25 : h (p + 1) x ≠ 25) (k26 : h (p + 1) x ≠ 26) (hK : ∀ m', bs_lrel h m' c p (bs_deed B A g x).1 (bs_lR B R x) (bs_deed B A g x).2 → bs_lin (h (p + 1)) (h (p + 5)) (B 8) (m' 13) (bs_lR B R x) (bs_nxt B A x) → (0 ≤ bs_nxt B A x ∧ bs_nxt B A x ≤ B 8) → K (bs_nxt B A x) m') : bf_Life_behindStep (d + 4) x m (bc_I K) := by
  obtain ⟨ep, ep1, ep2, ep3, ep4, ep5⟩ := bs_lrel_p hc hp hr
  obtain ⟨⟨n4, n5, n6, n2, n0, n1, n3⟩, hw, hd, hgg, hf, hm⟩ := hr.2.2.1
  have w := hA.1.1
  have e1 := hA.2.2.2.2.1
  have e2 := hA.2.2.2.2.2.1
  have gb := hg.2.1
  have g0 := hg.1
  have ln := hl x x0 x1
  have x60 : x + 1 ≤ 60 := by omega
  refine rv_Life_behindStep (d := d + 2) ?_
  rw [hr.2.2.2.1.2, hr.2.2.2.1.1, ep1, ep3, ep4, ep, n2, bc_wi (x := A 2 - 1) (by omega) (by omega), bc_wi (x := x + 1) (by omega) (by omega)]
  rcases ln with q | q | q | q | q | q | q | q | q
  · -- minutes
    obtain ⟨k, a0, a1, q0, q1⟩ := q
    have ed : bs_deed B A g x = if A 6 + h (p + 4) x ≤ 9999 then (bs_passN A (h (p + 4) x), bc_set (bc_set g 4 (g 4 + bs_newN A (h (p + 4) x))) 2 (g 2 + h (p + 4) x)) else (A, bc_set g 1 (g 1 + 1)) := by unfold bs_deed; rw [if_pos a0, a1]
    have eR : bs_lR B R x = R := by unfold bs_lR; rw [if_neg (by omega)]
    have eN : bs_nxt B A x = x + 1 := by unfold bs_nxt; rw [if_neg (by omega), if_neg (by omega), if_neg (by omega), if_neg (by omega)]
    rw [ed, eR, eN] at hK
    try dsimp only at hK
    refine ⟨by omega, by omega, by omega, by omega, fun _ => ?_, fun z => absurd k z⟩
    refine bc_c_letPass (d := d) hc hr hA hg q0 q1 (fun z m' e13 hr' => ?_) (fun z => ?_)
    · rw [if_pos z] at hK
      try dsimp only at hK
      have g1 : bc_set (bc_set g 4 (g 4 + bs_newN A (h (p + 4) x))) 2 (g 2 + h (p + 4) x) 1 = g 1 := by rw [bc_setn (by decide), bc_setn (by decide)]
      refine hK _ (bs_lrel_0 hc hr' (by omega) (by omega)) ?_ (by omega)
      rw [bc_urow (by decide), e13]; exact bs_lin_s (by omega) hi
    · rw [if_neg z] at hK
      try dsimp only at hK
      refine hK _ (bs_lrel_1 hc hr (by omega) (by omega)) ?_ (by omega)
      rw [bc_urow (by decide)]; exact bs_lin_s (by omega) hi
  · -- lead
    obtain ⟨k, a0, a1, a2, q0, q1⟩ := q
    have ed : bs_deed B A g x = bs_dl A g (h (p + 3) x) (h (p + 4) x) := by unfold bs_deed; rw [if_neg (by omega), if_pos a0, a1, a2]
    have eR : bs_lR B R x = R := by unfold bs_lR; rw [if_neg (by omega)]
    have eN : bs_nxt B A x = x + 1 := by unfold bs_nxt; rw [if_neg (by omega), if_neg (by omega), if_neg (by omega), if_neg (by omega)]
    rw [ed, eR, eN] at hK
    try dsimp only at hK
    refine ⟨by omega, by omega, by omega, by omega, fun z => absurd z (by omega), fun _ => ⟨fun _ => ?_, fun z => absurd k z⟩⟩
    refine bc_c_leadOne (d := d) hc hp b8 hr hA hg x0 x1 (by omega) q0.1 (by omega) q1.1 (by omega) (fun z m' e13 hr' => ?_) (fun z => ?_)
    · rw [show bs_dl A g (h (p + 3) x) (h (p + 4) x) = _ from if_pos z] at hK
      try dsimp only at hK
      have g1 : bc_set g 3 (g 3 + 1) 1 = g 1 := bc_setn (by decide)
      refine hK _ (bs_lrel_0 hc hr' (by omega) (by omega)) ?_ (by omega)
      rw [bc_urow (by decide), e13]; exact bs_lin_s (by omega) hi
    · rw [show bs_dl A g (h (p + 3) x) (h (p + 4) x) = _ from if_neg z] at hK
      try dsimp only at hK
      refine hK _ (bs_lrel_1 hc hr (by omega) (by omega)) ?_ (by omega)
      rw [bc_urow (by decide)]; exact bs_lin_s (by omega) hi
  · -- wake
    obtain ⟨k, a0, a1, q0, q1⟩ := q
    have ed : bs_deed B A g x = if bs_most A (h (p + 3) x) ≠ 0 then (bs_wake A (h (p + 3) x), g) else (A, bc_set g 1 (g 1 + 1)) := by unfold bs_deed; rw [if_neg (by omega), if_neg (by omega), if_pos a0, a1]
    have eR : bs_lR B R x = R := by unfold bs_lR; rw [if_neg (by omega)]
    have eN : bs_nxt B A x = x + 1 := by unfold bs_nxt; rw [if_neg (by omega), if_neg (by omega), if_neg (by omega), if_neg (by omega)]
    rw [ed, eR, eN] at hK
    try dsimp only at hK
    refine ⟨by omega, by omega, by omega, by omega, fun z => absurd z (by omega), fun _ => ⟨fun z => absurd z (by omega), fun _ => ⟨fun _ => ⟨by omega, by omega, by omega, fun _ => ⟨by omega, by omega, by omega, ?_⟩, fun z => absurd z (by omega)⟩, fun z => absurd k z⟩⟩⟩
    refine bc_c_rouse (d := d + 1) hr.2.2.1 hA.1 q0 (by omega) (fun z m' hv hC => ?_) (fun z => ?_)
    · rw [if_pos z] at hK
      try dsimp only at hK
      refine hK _ (bs_lrel_0 hc (bs_lrel_vf hc.1 hr hv hC) (by omega) (by omega)) ?_ (by omega)
      rw [bc_urow (by decide), hv.1 13 (by omega) (by omega) (by omega) (by omega) (by omega)]; exact bs_lin_s (by omega) hi
    · rw [if_neg z] at hK
      try dsimp only at hK
      refine hK _ (bs_lrel_1 hc hr (by omega) (by omega)) ?_ (by omega)
      rw [bc_urow (by decide)]; exact bs_lin_s (by omega) hi
  · -- fill
    obtain ⟨k, a0, a1, q0, q1⟩ := q
    have ed : bs_deed B A g x = if A 4 + h (p + 4) x ≤ 999 then (bs_fill A (h (p + 4) x), g) else (A, bc_set g 1 (g 1 + 1)) := by unfold bs_deed; rw [if_neg (by omega), if_neg (by omega), if_neg (by omega), if_pos a0, a1]
    have eR : bs_lR B R x = R := by unfold bs_lR; rw [if_neg (by omega)]
    have eN : bs_nxt B A x = x + 1 := by unfold bs_nxt; rw [if_neg (by omega), if_neg (by omega), if_neg (by omega), if_neg (by omega)]
    rw [ed, eR, eN] at hK
    try dsimp only at hK
    refine ⟨by omega, by omega, by omega, by omega, fun z => absurd z (by omega), fun _ => ⟨fun z => absurd z (by omega), fun _ => ⟨fun z => absurd z (by omega), fun _ => ⟨fun _ => ⟨by omega, ?_⟩, fun z => absurd k z⟩⟩⟩⟩
    refine bc_c_addOil hr.2.2.1 hA.1 (by omega) (by omega) (fun z m' hv hC => ?_) (fun z => ?_)
    · rw [if_pos z] at hK
      try dsimp only at hK
      refine hK _ (bs_lrel_0 hc (bs_lrel_vf hc.1 hr hv hC) (by omega) (by omega)) ?_ (by omega)
      rw [bc_urow (by decide), hv.1 13 (by omega) (by omega) (by omega) (by omega) (by omega)]; exact bs_lin_s (by omega) hi
    · rw [if_neg z] at hK
      try dsimp only at hK
      refine hK _ (bs_lrel_1 hc hr (by omega) (by omega)) ?_ (by omega)
      rw [bc_urow (by decide)]; exact bs_lin_s (by omega) hi
  · -- any
    obtain ⟨k, a0⟩ := q
    have ed : bs_deed B A g x = if A 2 = 0 then (A, bc_set g 1 (g 1 + 1)) else bs_dl A (bc_set g 8 (bs_sd (bs_sd (g 8)))) (bs_pk (g 8) (A 2)) (bs_pk (bs_sd (g 8)) (A 1)) := by unfold bs_deed; rw [if_neg (by omega), if_neg (by omega), if_neg (by omega), if_neg (by omega), if_pos a0]
    have eR : bs_lR B R x = R := by unfold bs_lR; rw [if_neg (by omega)]
    have eN : bs_nxt B A x = x + 1 := by unfold bs_nxt; rw [if_neg (by omega), if_neg (by omega), if_neg (by omega), if_neg (by omega)]
    rw [ed, eR, eN] at hK
    try dsimp only at hK
    refine ⟨by omega, by omega, by omega, by omega, fun z => absurd z (by omega), fun _ => ⟨fun z => absurd z (by omega), fun _ => ⟨fun z => absurd z (by omega), fun _ => ⟨fun z => absurd z (by omega), fun _ => ⟨fun _ => ?_, fun z => absurd k z⟩⟩⟩⟩⟩
    refine bc_c_leadAny (d := d) hc hp b8 hr hA hg x0 x1 k (fun z => ?_) (fun z c m' e13 hr' => ?_) (fun z c m' e13 hr' => ?_)
    · rw [if_pos z] at hK
      try dsimp only at hK
      refine hK _ (bs_lrel_1 hc hr (by omega) (by omega)) ?_ (by omega)
      rw [bc_urow (by decide)]; exact bs_lin_s (by omega) hi
    · rw [if_neg z, show bs_dl A (bc_set g 8 (bs_sd (bs_sd (g 8)))) (bs_pk (g 8) (A 2)) (bs_pk (bs_sd (g 8)) (A 1)) = _ from if_pos c] at hK
      try dsimp only at hK
      have g1 : bc_set (bc_set g 8 (bs_sd (bs_sd (g 8)))) 3 (bc_set g 8 (bs_sd (bs_sd (g 8))) 3 + 1) 1 = g 1 := by rw [bc_setn (by decide), bc_setn (by decide)]
      refine hK _ (bs_lrel_0 hc hr' (by omega) (by omega)) ?_ (by omega)
      rw [bc_urow (by decide), e13]; exact bs_lin_s (by omega) hi
    · rw [if_neg z, show bs_dl A (bc_set g 8 (bs_sd (bs_sd (g 8)))) (bs_pk (g 8) (A 2)) (bs_pk (bs_sd (g 8)) (A 1)) = _ from if_neg c] at hK
      try dsimp only at hK
      have g1 : bc_set g 8 (bs_sd (bs_sd (g 8))) 1 = g 1 := bc_setn (by decide)
      refine hK _ (bs_lrel_1 hc hr' (by omega) (by omega)) ?_ (by omega)
      rw [bc_urow (by decide), e13]; exact bs_lin_s (by omega) hi
  · -- when
    have k := q.1
    have a0 : B (160 + 6 * x) = 2125 ∨ B (160 + 6 * x) = 2113 ∨ B (160 + 6 * x) = 2126 ∨ B (160 + 6 * x) = 2112 := by
      rcases q.2.2 with q | q | q | q
      · exact Or.inl q.2.1
      · exact Or.inr (Or.inl q.2.1)
      · exact Or.inr (Or.inr (Or.inl q.2))
      · exact Or.inr (Or.inr (Or.inr q.2.1))
    clear q
    have nx := hn.1 x x0 x1 (Or.inl k)
    have ed : bs_deed B A g x = (A, g) := by unfold bs_deed; rw [if_neg (by omega), if_neg (by omega), if_neg (by omega), if_neg (by omega), if_neg (by omega)]
    have eR : bs_lR B R x = R := by unfold bs_lR; rw [if_neg (by omega)]
    rw [ed, eR] at hK
    try dsimp only at hK
    refine ⟨by omega, by omega, by omega, by omega, fun z => absurd z (by omega), fun _ => ⟨fun z => absurd z (by omega), fun _ => ⟨fun z => absurd z (by omega), fun _ => ⟨fun z => absurd z (by omega), fun _ => ⟨fun z => absurd z (by omega), fun _ => ⟨fun _ => ?_, fun z => absurd k z⟩⟩⟩⟩⟩⟩
    refine bc_c_holds (d := d + 1) hc hp b8 hl hr hA x0 x1 k (fun z => ?_) (fun z => ?_)
    · rw [z] at hK
      try dsimp only at hK
      exact hK m hr (bs_lin_s (by omega) hi) (by omega)
    · rw [z] at hK
      try dsimp only at hK
      rw [hr.2.2.2.1.2, ep5, bc_wi (x := h (p + 5) x + 1) (by omega) (by omega)]
      exact ⟨by omega, by omega, hK m hr (bs_lin_W hn x0 x1 k hi) (by omega)⟩
  · -- loop
    obtain ⟨k, a0, a1, a4, q0, q1⟩ := q
    have ed : bs_deed B A g x = (A, g) := by unfold bs_deed; rw [if_neg (by omega), if_neg (by omega), if_neg (by omega), if_neg (by omega), if_neg (by omega)]
    have eR : bs_lR B R x = bc_set R x (h (p + 4) x - 1) := by unfold bs_lR; rw [if_pos a0, a1]
    have eN : bs_nxt B A x = x + 1 := by unfold bs_nxt; rw [if_neg (by omega), if_neg (by omega), if_neg (by omega), if_neg (by omega)]
    rw [ed, eR, eN] at hK
    try dsimp only at hK
    refine ⟨by omega, by omega, by omega, by omega, fun z => absurd z (by omega), fun _ => ⟨fun z => absurd z (by omega), fun _ => ⟨fun z => absurd z (by omega), fun _ => ⟨fun z => absurd z (by omega), fun _ => ⟨fun z => absurd z (by omega), fun _ => ⟨fun z => absurd z (by omega), fun _ => ⟨fun z => absurd z (by omega), fun _ => ⟨fun z => absurd z (by omega), fun _ => ⟨fun _ => ⟨by omega, ?_⟩, fun z => absurd k z⟩⟩⟩⟩⟩⟩⟩⟩⟩
    have e13 : bc_upd m 13 x (h (p + 4) x) 13 = bc_set (m 13) x (h (p + 4) x) := by
      funext j
      by_cases z : j = x
      · subst z; rw [bc_uu, bc_setj]
      · rw [bc_uj z, bc_setn z]
    have hr' := bs_lrel_13 (k := x) (v := h (p + 4) x) (R' := bc_set R x (h (p + 4) x - 1)) hc.1 hr (fun k k0 k1 => by
      by_cases e : k = x
      · subst e; rw [bc_setj, bc_setj]; omega
      · rw [bc_setn e, bc_setn e]; exact hr.2.2.2.2.1 k k0 k1)
    have em : m 12 1 = bc_upd m 13 x (h (p + 4) x) 12 1 := by rw [bc_ur (by decide)]
    rw [em]
    refine hK _ (bs_lrel_0 hc hr' (by omega) (by omega)) ?_ (by omega)
    rw [bc_urow (by decide), e13]
    exact bs_lin_L hi
  · exact absurd q.1 k25
  · exact absurd q.1 k26
theorem bc_c_run31 {d : Nat} {h : bc_H} {c p : Int} {B : Int → Int} {K : bc_H → Prop} (hc : 24 ≤ c ∧ c ≤ 44) (hp : p = 64 ∨ p = 70) (b80 : 0 ≤ B 8) (b8 : B 8 ≤ 60) (e2 : h p 2 = B 8) (hl : bs_lns B (h (p + 1)) (h (p + 2)) (h (p + 3)) (h (p + 4)) (h (p + 5))) (hn : bs_nest (h (p + 1)) (h (p + 5)) (B 8)) : ∀ (n : Nat) (A R g : Int → Int) (x i : Int) (m : bc_H), bs_lrel h m c p A R g → bs_lin (h (p + 1)) (h (p + 5)) (B 8) (m 13) R x → (0 ≤ x ∧ x ≤ B 8) → ¬ bs_E B x → bs_lA B A → bs_lg g → (n : Int) + g 0 = 301 → (0 ≤ i ∧ i ≤ 402 * g 0) → (∀ m', bs_lrel h m' c p (bs_lf B n A R g x).1 (bs_lf B n A R g x).2.1 (bs_lf B n A R g x).2.2 → bs_lA B (bs_lf B n A R g x).1 → K m') → bl_Life_run_31 (d + 5) x i m (bc_U K) := by
  intro n
  induction n with
  | zero =>
    intro A R g x i m hr hi hx nE hA hg hng hii hK
    have := hg.1
    omega
  | succ n ih =>
    intro A R g x i m hr hi hx nE hA hg hng hii hK
    obtain ⟨ep, ep1, ep2, ep3, ep4, ep5⟩ := bs_lrel_p hc hp hr
    have g0 := hr.2.2.2.2.2.1
    have gg := hg.1
    have ee : bs_lf B (n + 1) A R g x = if B 8 ≤ x then (A, R, g) else if g 0 = 300 then (A, R, bc_set g 5 1) else if B (160 + 6 * x) = 24 then (A, R, bc_set g 0 (g 0 + 1)) else bs_lf B n (bs_deed B A (bc_set g 0 (g 0 + 1)) x).1 (bs_en B 400 (bs_lR B R x, bs_nxt B A x)).1 (bs_deed B A (bc_set g 0 (g 0 + 1)) x).2 (bs_en B 400 (bs_lR B R x, bs_nxt B A x)).2 := rfl
    rw [ee] at hK
    refine rv_Life_run_31 (d := d + 4) ⟨fun q => absurd q (by omega), fun _ => ⟨fun q => absurd q (by omega), fun _ => ?_⟩⟩
    rw [hr.2.2.2.1.2, ep, ep1, e2, g0]
    refine ⟨by omega, fun q => ?_, fun q => ⟨by omega, by omega, fun k25 => ⟨fun lt => ?_, fun ge => ?_⟩, fun k25 => ?_⟩⟩
    · rw [if_pos q] at hK
      exact hK m hr hA
    · have ne : g 0 ≠ 300 := by omega
      rw [if_neg (by omega), if_neg ne] at hK
      rw [bc_wi (x := g 0 + 1) (by omega) (by omega), bc_wi (x := i + 1) (by omega) (by omega)]
      have hr' := bs_lrel_u (k := 0) (v := g 0 + 1) (g' := bc_set g 0 (g 0 + 1)) hc.1 hr (by decide) (fun j hj => rfl)
      have e13 : bc_upd m 12 0 (g 0 + 1) 13 = m 13 := bc_urow (by decide)
      have lnE := hl x hx.1 q
      by_cases stop : B (160 + 6 * x) = 24
      · rw [if_pos stop] at hK
        have k26 : h (p + 1) x = 26 := by unfold bs_ln at lnE; omega
        obtain ⟨fp, fp1, fp2, fp3, fp4, fp5⟩ := bs_lrel_p hc hp hr'
        refine rv_Life_behindStep (d := d + 2) ?_
        rw [hr'.2.2.2.1.2, fp1, fp, e2]
        refine ⟨by omega, by omega, by omega, by omega, fun z => absurd z (by omega), fun _ => ⟨fun z => absurd z (by omega), fun _ => ⟨fun z => absurd z (by omega), fun _ => ⟨fun z => absurd z (by omega), fun _ => ⟨fun z => absurd z (by omega), fun _ => ⟨fun z => absurd z (by omega), fun _ => ⟨fun z => absurd z (by omega), fun _ => ⟨fun z => absurd z (by omega), fun _ => ⟨fun z => absurd z (by omega), fun _ => ⟨fun z => absurd z (by omega), fun _ => ⟨fun _ => ⟨by omega, ?_⟩, fun z => absurd k26 z⟩⟩⟩⟩⟩⟩⟩⟩⟩⟩⟩
        refine rv_Life_run_31 (d := d + 4) ⟨fun z => absurd z (by omega), fun _ => ⟨fun z => absurd z (by omega), fun _ => ?_⟩⟩
        rw [hr'.2.2.2.1.2, fp, e2]
        exact ⟨by omega, fun _ => hK _ hr' hA, fun z => absurd z (by omega)⟩
      · rw [if_neg stop] at hK
        have k26 : h (p + 1) x ≠ 26 := by unfold bs_ln at lnE; omega
        have hgs := bs_lg_s hg ne
        have hd := bs_deed_I (g := bc_set g 0 (g 0 + 1)) hA hgs lnE
        refine bc_c_behindStep (d := d) hc hp b8 hl hn hr' (by rw [e13]; exact hi) hA hgs hx.1 q k25 k26 (fun m1 hr1 hi1 hx1 => ?_)
        have mu := bs_mu_r (B := B) (R := bs_lR B R x) (x := bs_nxt B A x) (fun z => by
          have z1 := z.1
          have lx := bs_ln_E (hl _ hx1.1 z.1)
          have kx := lx.1.1 z.2
          rw [lx.2.2 kx]
          have nx := hn.2.1 _ hx1.1 z.1 kx
          exact (hr1.2.2.2.2.1 _ nx.1 (by omega)).1)
        have g0' : (bs_deed B A (bc_set g 0 (g 0 + 1)) x).2 0 = g 0 + 1 := by
          have t : ∀ g' : Int → Int, (bs_deed B A g' x).2 0 = g' 0 := fun g' => by
            unfold bs_deed bs_dl
            (repeat' split) <;> first | rfl | exact bc_setn (by decide) | (show bc_set _ _ _ 0 = _; rw [bc_setn (by decide), bc_setn (by decide)])
          rw [t, bc_setj]
        refine bc_c_ends hc hp b8 e2 hl hn 400 _ _ _ m1 hr1 hi1 hx1 (by omega) (by omega) (fun m2 i2 hr2 hi2 hx2 nE2 hii2 => ?_)
        exact ih _ _ _ _ i2 m2 hr2 hi2 hx2 nE2 hd.1 hd.2 (by rw [g0']; omega) (by rw [g0']; omega) hK
    · rw [if_neg (by omega), if_pos (by omega)] at hK
      exact hK _ (bs_lrel_u hc.1 hr (by decide) (fun j hj => rfl)) hA
    · exact absurd ⟨q, (bs_ln_E (hl x hx.1 q)).1.2 k25⟩ nE
