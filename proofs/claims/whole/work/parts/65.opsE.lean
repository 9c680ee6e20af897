/-! ===== ways: far, near ===== -/
def bs_ag (n : Int) (x T : Int → Int) : Prop := ∀ a b, 0 ≤ a → a < n → 0 ≤ b → b < n → x (7 * a + b) = T (7 * a + b)
def bs_tb (n : Int) (T : Int → Int) : Prop := ∀ a b, 0 ≤ a → a < n → 0 ≤ b → b < n → 0 ≤ T (7 * a + b) ∧ T (7 * a + b) ≤ 1000000
def bs_fb (n c a : Int) (T : Int → Int) (m : Int) : Int → Int := bc_it (fun b T => bs_farS c a b T) T m
def bs_fa (n c : Int) (T : Int → Int) (m : Int) : Int → Int := bc_it (fun a T => bs_fb n c a T n) T m
def bs_fc (n : Int) (T : Int → Int) (m : Int) : Int → Int := bc_it (fun c T => bs_fa n c T n) T m
theorem bs_farR_fc (A : Int → Int) : bs_farR A = bs_fc (A 1) (bs_far0 A) (A 1) := rfl
theorem bs_tb_S {n c a b : Int} {T : Int → Int} (n7 : n ≤ 7) (hc : 0 ≤ c ∧ c < n) (ha : 0 ≤ a ∧ a < n) (hb : 0 ≤ b ∧ b < n) (h : bs_tb n T) : bs_tb n (bs_farS c a b T) := by
  intro u v u0 u1 v0 v1
  have h1 := h a c ha.1 ha.2 hc.1 hc.2
  have h2 := h c b hc.1 hc.2 hb.1 hb.2
  have h3 := h a b ha.1 ha.2 hb.1 hb.2
  have h4 := h u v u0 u1 v0 v1
  unfold bs_farS bc_set
  split
  · split <;> omega
  · exact h4
theorem bs_tb_b {n c a m : Int} {T : Int → Int} (n7 : n ≤ 7) (hc : 0 ≤ c ∧ c < n) (ha : 0 ≤ a ∧ a < n) (h : bs_tb n T) (m0 : 0 ≤ m) (m1 : m ≤ n) : bs_tb n (bs_fb n c a T m) :=
  bc_it_indB (fun _ T => bs_tb n T) h (fun i x i0 i1 ih => bs_tb_S n7 hc ha ⟨i0, by omega⟩ ih) m0
theorem bs_tb_a {n c m : Int} {T : Int → Int} (n7 : n ≤ 7) (hc : 0 ≤ c ∧ c < n) (h : bs_tb n T) (m0 : 0 ≤ m) (m1 : m ≤ n) : bs_tb n (bs_fa n c T m) :=
  bc_it_indB (fun _ T => bs_tb n T) h (fun i x i0 i1 ih => bs_tb_b n7 hc ⟨i0, by omega⟩ ih (by omega) (Int.le_refl _)) m0
theorem bs_tb_c {n m : Int} {T : Int → Int} (n7 : n ≤ 7) (h : bs_tb n T) (m0 : 0 ≤ m) (m1 : m ≤ n) : bs_tb n (bs_fc n T m) :=
  bc_it_indB (fun _ T => bs_tb n T) h (fun i x i0 i1 ih => bs_tb_a n7 ⟨i0, by omega⟩ ih (by omega) (Int.le_refl _)) m0
theorem bs_far0_v {A : Int → Int} {a b : Int} (b0 : 0 ≤ b) (b7 : b < 7) : bs_far0 A (7 * a + b) = (if a = b then 0 else bs_way A a b) := by
  unfold bs_far0
  rw [show (7 * a + b) / 7 = a by omega, show (7 * a + b) % 7 = b by omega]
theorem bs_tb_0 {A : Int → Int} (hy : bs_WY A) (h7 : 0 ≤ A 7) (n7 : A 1 ≤ 7) : bs_tb (A 1) (bs_far0 A) := by
  intro a b a0 a1 b0 b1
  rw [bs_far0_v b0 (by omega)]
  have := (bs_way_r hy h7 a b).1
  split <;> omega
theorem bs_tb_R {A : Int → Int} (hW : bs_W A) : bs_tb (A 1) (bs_farR A) := by
  have w1 := hW.1.2.1
  have w7 := hW.1.2.2.2.2.2.2
  rw [bs_farR_fc]
  exact bs_tb_c w1.2 (bs_tb_0 hW.2.2.1 w7.1 w1.2) w1.1 (Int.le_refl _)
theorem bc_m_laysFar {d : Nat} {h : bc_H} {A : Int → Int} {K : bc_H → Prop} (eA : h 157 = A) (hW : bs_W A) (hK : ∀ x, bs_ag (A 1) x (bs_farR A) → K (bc_row h 165 x)) : bf_M_laysFar (d + 1) h (bc_U K) := by
  have w1 := hW.1.2.1
  have w7 := hW.1.2.2.2.2.2.2
  have e157 : ∀ x, bc_row h 165 x 157 = A := fun x => by rw [bc_rn (by decide)]; exact eA
  refine rv_M_laysFar ?_
  rw [eA]
  -- the three loops by which ways come together
  have k2 : ∀ x, bs_ag (A 1) x (bs_fc (A 1) (bs_far0 A) 0) → bl_M_laysFar_38 (d + 1) (A 1) 0 (bc_row h 165 x) (bc_U K) := by
    refine bc_lup (P := fun c => ∀ x, bs_ag (A 1) x (bs_fc (A 1) (bs_far0 A) c) → bl_M_laysFar_38 (d + 1) (A 1) c (bc_row h 165 x) (bc_U K)) (n := A 1) ?_ (fun c c0 c1 ihc => ?_) (Int.le_refl 0) w1.1
    · intro x hx
      exact rv_M_laysFar_38 ⟨fun _ => hK x (by rw [bs_farR_fc]; exact hx), fun q => absurd q (by omega)⟩
    · intro x hx
      have tc := bs_tb_c (m := c) w1.2 (bs_tb_0 hW.2.2.1 w7.1 w1.2) c0 (by omega)
      refine rv_M_laysFar_38 ⟨fun q => absurd q (by omega), fun _ => ?_⟩
      refine (bc_lup (P := fun a => ∀ x, bs_ag (A 1) x (bs_fa (A 1) c (bs_fc (A 1) (bs_far0 A) c) a) → bl_M_laysFar_43 (d + 1) (A 1) c a (bc_row h 165 x) (bc_U K)) (n := A 1) ?_ (fun a a0 a1 iha => ?_) (Int.le_refl 0) w1.1) x hx
      · intro x hx
        refine rv_M_laysFar_43 ⟨fun _ => ?_, fun q => absurd q (by omega)⟩
        simp (disch := omega) only [bc_wi, Int.add_zero]
        refine ihc x ?_
        rw [show bs_fc (A 1) (bs_far0 A) (c + 1) = bs_fa (A 1) c (bs_fc (A 1) (bs_far0 A) c) (A 1) from bc_its _ _ c0]
        exact hx
      · intro x hx
        have ta := bs_tb_a (m := a) w1.2 ⟨c0, c1⟩ tc a0 (by omega)
        refine rv_M_laysFar_43 ⟨fun q => absurd q (by omega), fun _ => ?_⟩
        refine (bc_lup (P := fun b => ∀ x, bs_ag (A 1) x (bs_fb (A 1) c a (bs_fa (A 1) c (bs_fc (A 1) (bs_far0 A) c) a) b) → bl_M_laysFar_48 (d + 1) (A 1) c a b (bc_row h 165 x) (bc_U K)) (n := A 1) ?_ (fun b b0 b1 ihb => ?_) (Int.le_refl 0) w1.1) x hx
        · intro x hx
          refine rv_M_laysFar_48 ⟨fun _ => ?_, fun q => absurd q (by omega)⟩
          simp (disch := omega) only [bc_wi, Int.add_zero]
          refine iha x ?_
          rw [show bs_fa (A 1) c (bs_fc (A 1) (bs_far0 A) c) (a + 1) = bs_fb (A 1) c a (bs_fa (A 1) c (bs_fc (A 1) (bs_far0 A) c) a) (A 1) from bc_its _ _ a0]
          exact hx
        · intro x hx
          have tb := bs_tb_b (m := b) w1.2 ⟨c0, c1⟩ ⟨a0, a1⟩ ta b0 (by omega)
          have t1 := tb a c a0 a1 c0 c1
          have t2 := tb c b c0 c1 b0 b1
          have t3 := tb a b a0 a1 b0 b1
          have x1 := hx a c a0 a1 c0 c1
          have x2 := hx c b c0 c1 b0 b1
          have x3 := hx a b a0 a1 b0 b1
          refine rv_M_laysFar_48 ⟨fun q => absurd q (by omega), fun _ => ?_⟩
          simp (disch := omega) only [bc_wi, Int.add_zero]
          rw [bs_rr, x1, x2, x3, bc_wi (x := bs_fb (A 1) c a (bs_fa (A 1) c (bs_fc (A 1) (bs_far0 A) c) a) b (7 * a + c) + bs_fb (A 1) c a (bs_fa (A 1) c (bs_fc (A 1) (bs_far0 A) c) a) b (7 * c + b)) (by omega) (by omega)]
          refine ⟨by omega, by omega, by omega, by omega, fun g eg => ?_⟩
          rw [eg, bc_ru]
          refine ihb _ ?_
          rw [show bs_fb (A 1) c a (bs_fa (A 1) c (bs_fc (A 1) (bs_far0 A) c) a) (b + 1) = bs_farS c a b (bs_fb (A 1) c a (bs_fa (A 1) c (bs_fc (A 1) (bs_far0 A) c) a) b) from bc_its _ _ b0]
          intro u v u0 u1 v0 v1
          unfold bs_farS bc_set
          split
          · rfl
          · exact hx u v u0 u1 v0 v1
  have k1 : ∀ x, (∀ a b, 0 ≤ a → a < 0 → 0 ≤ b → b < A 1 → x (7 * a + b) = bs_far0 A (7 * a + b)) → bl_M_laysFar_7 (d + 1) (A 1) 0 (bc_row h 165 x) (bc_U K) := by
    refine bc_lup (P := fun i => ∀ x, (∀ a b, 0 ≤ a → a < i → 0 ≤ b → b < A 1 → x (7 * a + b) = bs_far0 A (7 * a + b)) → bl_M_laysFar_7 (d + 1) (A 1) i (bc_row h 165 x) (bc_U K)) (n := A 1) ?_ (fun i i0 i1 ihi => ?_) (Int.le_refl 0) w1.1
    · intro x hx
      exact rv_M_laysFar_7 ⟨fun _ => k2 x (fun a b a0 a1 b0 b1 => hx a b a0 a1 b0 b1), fun q => absurd q (by omega)⟩
    · intro x hx
      refine rv_M_laysFar_7 ⟨fun q => absurd q (by omega), fun _ => ?_⟩
      refine (bc_lup (P := fun j => ∀ x, (∀ a b, 0 ≤ a → a < i ∨ (a = i ∧ b < j) → 0 ≤ b → b < A 1 → x (7 * a + b) = bs_far0 A (7 * a + b)) → bl_M_laysFar_12 (d + 1) (A 1) i j (bc_row h 165 x) (bc_U K)) (n := A 1) ?_ (fun j j0 j1 ihj => ?_) (Int.le_refl 0) w1.1) x (fun a b a0 a1 b0 b1 => hx a b a0 (by omega) b0 b1)
      · intro x hx
        refine rv_M_laysFar_12 ⟨fun _ => ?_, fun q => absurd q (by omega)⟩
        simp (disch := omega) only [bc_wi, Int.add_zero]
        exact ihi x (fun a b a0 a1 b0 b1 => hx a b a0 (by omega) b0 b1)
      · intro x hx
        have st : ∀ y, y = bs_far0 A (7 * i + j) → bl_M_laysFar_12 (d + 1) (A 1) i (j + 1) (bc_row h 165 (bc_set x (7 * i + j) y)) (bc_U K) := fun y ey => by
          refine ihj _ (fun a b a0 a1 b0 b1 => ?_)
          unfold bc_set
          split
          · rename_i e; rw [ey, e]
          · exact hx a b a0 (by omega) b0 b1
        refine rv_M_laysFar_12 ⟨fun q => absurd q (by omega), fun _ => ⟨fun q => ?_, fun q => ?_⟩⟩
        · refine bc_m_wayOf (e157 x) w7 ?_
          simp (disch := omega) only [bc_wi, Int.add_zero]
          rw [bc_ru]
          exact ⟨by omega, st _ (by rw [bs_far0_v j0 (by omega), if_neg q])⟩
        · simp (disch := omega) only [bc_wi, Int.add_zero]
          rw [bc_ru]
          exact ⟨by omega, st _ (by rw [bs_far0_v j0 (by omega), if_pos q])⟩
  have := k1 (h 165) (fun a b a0 a1 _ _ => absurd a1 (by omega))
  rw [bc_rself] at this
  exact this
/-- nothing but scratch rows -/
theorem bs_F_r {s q : Int} {h h' : bc_H} {r : Int} {f : Int → Int} (hF : bs_F s q h h') (n : ∀ b, ¬ bs_keep s q r b) : bs_F s q h (bc_row h' r f) := fun a b k => by
  rw [bc_rn ?_]
  · exact hF a b k
  · intro e; subst e; exact n b k
theorem bs_nk {s q r b : Int} (h : (163 ≤ r ∧ r ≤ 181) ∨ r = 183 ∨ (14 ≤ r ∧ r ≤ 23) ∨ (9 ≤ r ∧ r ≤ 12)) : ¬ bs_keep s q r b := by
  unfold bs_keep; omega
theorem bs_o_far {d : Nat} {a b : Int} {S : Int → Int} {L c s p q : Int} {h : bc_H} (hR : bs_R S L c s p q h) {P : Int → Int → bc_H → Prop} {Q1 : Int → bc_H → Prop} (hQ : ∀ y h1, h1 (-2) = h (-2) → h1 (-3) = h (-3) → bf_M_far (d + 4) a b h1 (bc_I fun y2 h2 => P y y2 h2) → Q1 y h1) (hK : ∀ y h2, bs_R S L c s p q h2 → P y y h2) : bf_X_far (d + 4) a b h (bc_I Q1) := by
  obtain ⟨⟨hcs, hpq⟩, ⟨e12, e13, e14, e15⟩, hS, est, efr, htr, htp, hfa, hlv, hlo, hrs, hmk, ⟨hC, hW, hck, hN, hP⟩⟩ := id hR
  obtain ⟨⟨n4, n5, n6, n2, n0, n1, n3⟩, hw, hd, hg, hf, hm⟩ := id hC
  obtain ⟨⟨w0, w1, w2, w3, w4, w5, w7⟩, hww, hwy, hwv, hwf, hwg⟩ := id hW
  have hq : ∀ y v, P y y (bc_upd (bc_upd h 0 0 v) 156 2 v) := fun y v => hK _ _ (bs_R_st hR v)
  have e157 : ∀ v, bc_upd h 0 0 v 157 = h 157 := fun v => bc_urow (by decide)
  have bad : ¬ ((0 ≤ a ∧ a < h 157 1) ∧ 0 ≤ b ∧ b < h 157 1) → Q1 (-1) (bc_upd h 0 0 1) := fun z => by
    refine hQ _ _ (by first | rfl | exact bc_urow (by decide)) (by first | rfl | exact bc_urow (by decide)) ?_
    refine rv_M_far (d := d + 3) ?_
    rw [e157]
    exact ⟨fun z1 => ⟨fun z2 => absurd ⟨z1, z2⟩ z, fun _ => hq _ _⟩, fun _ => hq _ _⟩
  have hx : ∀ x v, bs_R S L c s p q (bc_upd (bc_row (bc_upd h 0 0 v) 165 x) 156 2 v) := fun x v => by
    refine bs_R_F hR (bs_F_u (bs_F_r (bs_F_u (bs_F_refl _ _ _) ?_) (fun b => bs_nk (by omega))) ?_) ?_
    · intro k; have := (bs_kf k).1; omega
    · intro k; have := (bs_kf k).2; omega
    · rw [bc_ur (by decide), bc_rn (by decide), bc_uu, bc_uu]
  refine rv_X_far (d := d + 2) ?_
  rw [e12, n1, bc_wi (x := h 157 1 - 1) (by omega) (by omega)]
  refine ⟨by omega, fun za => ⟨by omega, fun zb => ?_, fun z => bad (by omega)⟩, fun z => bad (by omega)⟩
  have fd := (hd a b za.1 (by omega) zb.1 (by omega)).2
  have tr := bs_tb_R hW a b za.1 (by omega) zb.1 (by omega)
  have ref : ∀ v y, (bs_far (h 157) a b < 1000000 → v = 0 ∧ y = bs_far (h 157) a b) → (¬ bs_far (h 157) a b < 1000000 → v = 6 ∧ y = -1) → bf_M_far (d + 4) a b (bc_upd h 0 0 v) (bc_I fun y2 h2 => P y y2 h2) := fun v y g1 g2 => by
    refine rv_M_far (d := d + 3) ?_
    rw [e157]
    refine ⟨fun _ => ⟨fun _ => ?_, fun q => absurd (by omega) q⟩, fun q => absurd (by omega) q⟩
    refine bc_m_laysFar (d := d + 2) (e157 v) hW (fun x ag => ?_)
    simp (disch := omega) only [bc_wi, Int.add_zero]
    rw [bs_rr, ag a b za.1 (by omega) zb.1 (by omega)]
    refine ⟨by omega, fun z => ?_, fun z => ?_⟩
    · obtain ⟨rfl, rfl⟩ := g1 z
      exact hK _ _ (hx x _)
    · obtain ⟨rfl, rfl⟩ := g2 (fun q => by have q : bs_farR (h 157) (7 * a + b) < 1000000 := q; omega)
      exact hK _ _ (hx x _)
  simp (disch := omega) only [bc_wi, Int.add_zero]
  rw [fd]
  have tr : 0 ≤ bs_far (h 157) a b ∧ bs_far (h 157) a b ≤ 1000000 := tr
  by_cases z : bs_far (h 157) a b < 1000000
  · rw [if_pos z]
    refine ⟨by omega, by omega, fun _ => ?_, fun q => absurd q (by omega)⟩
    refine hQ _ _ (by first | rfl | exact bc_urow (by decide)) (by first | rfl | exact bc_urow (by decide)) ?_
    exact ref _ _ (fun _ => ⟨rfl, rfl⟩) (fun q => absurd z q)
  · rw [if_neg z]
    refine ⟨by omega, by omega, fun q => absurd rfl q, fun _ => ?_⟩
    refine hQ _ _ (by first | rfl | exact bc_urow (by decide)) (by first | rfl | exact bc_urow (by decide)) ?_
    exact ref _ _ (fun q => absurd q z) (fun _ => ⟨rfl, rfl⟩)
theorem bs_or0 {s : Int} (h0 : 0 ≤ s) (h1 : s < 256) : bc_or s 0 = s := by
  have t := (bs_bits8 (s := s.toNat) (k := 0) (by omega) (by omega)).2.2
  rw [show ((s.toNat : Nat) : Int) = s by omega] at t
  exact t
theorem bs_o_near {d : Nat} {a : Int} {S : Int → Int} {L c s p q : Int} {h : bc_H} (hR : bs_R S L c s p q h) {P : Int → Int → bc_H → Prop} {Q1 : Int → bc_H → Prop} (hQ : ∀ y h1, h1 (-2) = h (-2) → h1 (-3) = h (-3) → bf_M_near (d + 4) a h1 (bc_I fun y2 h2 => P y y2 h2) → Q1 y h1) (hK : ∀ y h2, bs_R S L c s p q h2 → P y y h2) : bf_X_near (d + 4) a h (bc_I Q1) := by
  obtain ⟨⟨hcs, hpq⟩, ⟨e12, e13, e14, e15⟩, hS, est, efr, htr, htp, hfa, hlv, hlo, hrs, hmk, ⟨hC, hW, hck, hN, hP⟩⟩ := id hR
  obtain ⟨⟨n4, n5, n6, n2, n0, n1, n3⟩, hw, hd, hg, hf, hm⟩ := id hC
  obtain ⟨⟨w0, w1, w2, w3, w4, w5, w7⟩, hww, hwy, hwv, hwf, hwg⟩ := id hW
  have hq : ∀ y v, P y y (bc_upd (bc_upd h 0 0 v) 156 2 v) := fun y v => hK _ _ (bs_R_st hR v)
  have e157 : ∀ v, bc_upd h 0 0 v 157 = h 157 := fun v => bc_urow (by decide)
  refine rv_X_near (d := d + 2) ?_
  rw [e12, n1, bc_wi (x := h 157 1 - 1) (by omega) (by omega)]
  refine ⟨by omega, fun za => ⟨by omega, ?_⟩, fun z => ?_⟩
  · refine rv_Walls_nextTo ?_
    refine bc_lup (P := fun i => bl_Walls_nextTo_4 (d + 3) (c + 3) a (bs_bset (fun w => bs_way (h 157) a w < 1000000) i) i h (bc_I fun y4 h2 => Q1 y4 (bc_upd h2 0 0 0))) (n := h 157 1) ?_ (fun i h0 hi ih => ?_) (Int.le_refl 0) w1.1
    · refine rv_Walls_nextTo_4 ⟨fun _ => ?_, fun q => absurd q (by omega)⟩
      refine hQ _ _ (by first | rfl | exact bc_urow (by decide)) (by first | rfl | exact bc_urow (by decide)) ?_
      refine rv_M_near (d := d + 3) ?_
      rw [e157]
      refine ⟨fun _ => ?_, fun q => absurd (by omega) q⟩
      refine bc_lup (P := fun i => bl_M_near_12 (d + 4) a (bs_bset (fun w => bs_way (h 157) a w < 1000000) i) i (bc_upd h 0 0 0) (bc_I fun y2 h2 => P (bs_bset (fun w => bs_way (h 157) a w < 1000000) (h 157 1)) y2 h2)) (n := h 157 1) ?_ (fun i h0 hi ih => ?_) (Int.le_refl 0) w1.1
      · exact rv_M_near_12 (d := d + 3) ⟨fun _ => hq _ _, fun q => absurd q (by rw [e157]; omega)⟩
      · refine rv_M_near_12 (d := d + 3) ⟨fun q => absurd q (by rw [e157]; omega), fun _ => ⟨fun z => ?_, fun z => ?_⟩⟩
        · rw [bs_bset_s h0] at ih
          have hr := bs_bset_ge (fun w => bs_way (h 157) a w < 1000000) (n := i) h0 (by omega)
          have e := (bs_way_r hwy w7.1 a i).2 z.symm
          rw [if_neg (by omega), bs_or0 hr.1 hr.2] at ih
          simp (disch := omega) only [bc_wi, Int.add_zero]
          exact ih
        · refine bc_m_wayOf (e157 0) w7 ?_
          rw [bs_bset_s h0] at ih
          have hr := bs_bset_ge (fun w => bs_way (h 157) a w < 1000000) (n := i) h0 (by omega)
          simp (disch := omega) only [bc_wi, Int.add_zero]
          by_cases q : bs_way (h 157) a i < 1000000
          · rw [if_pos q] at ih; rw [if_neg (by omega)]; exact ih
          · rw [if_neg q, bs_or0 hr.1 hr.2] at ih; rw [if_pos (by omega)]; exact ih
    · refine rv_Walls_nextTo_4 ⟨fun q => absurd q (by omega), fun _ => ?_⟩
      have fd := (hd a i za.1 (by omega) h0 hi).1
      have wr := (bs_way_r hwy w7.1 a i).1
      rw [bs_bset_s h0] at ih
      simp (disch := omega) only [bc_wi, Int.add_zero]
      rw [fd]
      refine ⟨by omega, ?_⟩
      by_cases q : bs_way (h 157) a i < 1000000
      · rw [if_pos q] at ih ⊢; rw [if_neg (by omega)]; exact ih
      · rw [if_neg q] at ih ⊢; rw [if_pos (Int.le_refl _)]; exact ih
  · refine hQ _ _ (by first | rfl | exact bc_urow (by decide)) (by first | rfl | exact bc_urow (by decide)) ?_
    refine rv_M_near (d := d + 3) ?_
    rw [e157]
    exact ⟨fun q => absurd q (by omega), fun _ => hq _ _⟩
