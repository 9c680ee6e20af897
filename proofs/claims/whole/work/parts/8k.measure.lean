/-! ===== distances of a cave that is told ===== -/
/-- the class's table tells what the reference's tells -/
def bs_cg (n : Int) (x T : Int → Int) : Prop := ∀ a b, 0 ≤ a → a < n → 0 ≤ b → b < n → x (a * 7 + b) = if T (7 * a + b) < 1000000 then T (7 * a + b) else -1
def bs_kM (n : Int) (T : Int → Int) (M : Int) : Prop := ∀ a b, 0 ≤ a → a < n → 0 ≤ b → b < n → T (7 * a + b) < 1000000 → T (7 * a + b) ≤ M
/-- within a round over c -/
def bs_kD (n c : Int) (T : Int → Int) (M : Int) : Prop := bs_kM n T (2 * M) ∧ ∀ a, 0 ≤ a → a < n → (T (7 * a + c) < 1000000 → T (7 * a + c) ≤ M) ∧ (T (7 * c + a) < 1000000 → T (7 * c + a) ≤ M)
theorem bs_kD_S {n c a b M : Int} {T : Int → Int} (n7 : n ≤ 7) (hc : 0 ≤ c ∧ c < n) (ha : 0 ≤ a ∧ a < n) (hb : 0 ≤ b ∧ b < n) (M0 : 0 ≤ M) (M1 : 2 * M < 1000000) (t : bs_tb n T) (h : bs_kD n c T M) : bs_kD n c (bs_farS c a b T) M := by
  have tac := t a c ha.1 ha.2 hc.1 hc.2
  have tcb := t c b hc.1 hc.2 hb.1 hb.2
  have tcc := t c c hc.1 hc.2 hc.1 hc.2
  have tab := t a b ha.1 ha.2 hb.1 hb.2
  have hac := (h.2 a ha.1 ha.2).1
  have hcb := (h.2 b hb.1 hb.2).2
  have hab := h.1 a b ha.1 ha.2 hb.1 hb.2
  have hcol := (h.2 a ha.1 ha.2).1
  have hrow := (h.2 b hb.1 hb.2).2
  unfold bs_farS
  refine ⟨fun u v u0 u1 v0 v1 => ?_, fun u u0 u1 => ⟨?_, ?_⟩⟩
  · by_cases e : 7 * u + v = 7 * a + b
    · rw [e, bc_setj]; split <;> omega
    · rw [bc_setn e]; exact h.1 u v u0 u1 v0 v1
  · by_cases e : 7 * u + c = 7 * a + b
    · have e1 : u = a := by omega
      have e2 : c = b := by omega
      subst e1; subst e2
      rw [bc_setj]; split <;> omega
    · rw [bc_setn e]; exact (h.2 u u0 u1).1
  · by_cases e : 7 * c + u = 7 * a + b
    · have e1 : c = a := by omega
      have e2 : u = b := by omega
      subst e1; subst e2
      rw [bc_setj]; split <;> omega
    · rw [bc_setn e]; exact (h.2 u u0 u1).2
theorem bs_kD_0 {n c M : Int} {T : Int → Int} (hc : 0 ≤ c ∧ c < n) (M0 : 0 ≤ M) (h : bs_kM n T M) : bs_kD n c T M := ⟨fun a b a0 a1 b0 b1 u => by have := h a b a0 a1 b0 b1 u; omega, fun a a0 a1 => ⟨h a c a0 a1 hc.1 hc.2, h c a hc.1 hc.2 a0 a1⟩⟩
theorem bs_kD_b {n c a m M : Int} {T : Int → Int} (n7 : n ≤ 7) (hc : 0 ≤ c ∧ c < n) (ha : 0 ≤ a ∧ a < n) (M0 : 0 ≤ M) (M1 : 2 * M < 1000000) (t : bs_tb n T) (h : bs_kD n c T M) (m0 : 0 ≤ m) (m1 : m ≤ n) : bs_kD n c (bs_fb n c a T m) M :=
  (bc_it_indB (fun _ T => bs_tb n T ∧ bs_kD n c T M) ⟨t, h⟩ (fun i x i0 i1 ih => ⟨bs_tb_S n7 hc ha ⟨i0, by omega⟩ ih.1, bs_kD_S n7 hc ha ⟨i0, by omega⟩ M0 M1 ih.1 ih.2⟩) m0).2
theorem bs_kD_a {n c m M : Int} {T : Int → Int} (n7 : n ≤ 7) (hc : 0 ≤ c ∧ c < n) (M0 : 0 ≤ M) (M1 : 2 * M < 1000000) (t : bs_tb n T) (h : bs_kD n c T M) (m0 : 0 ≤ m) (m1 : m ≤ n) : bs_kD n c (bs_fa n c T m) M :=
  (bc_it_indB (fun _ T => bs_tb n T ∧ bs_kD n c T M) ⟨t, h⟩ (fun i x i0 i1 ih => ⟨bs_tb_b n7 hc ⟨i0, by omega⟩ ih.1 (by omega) (Int.le_refl n), bs_kD_b n7 hc ⟨i0, by omega⟩ M0 M1 ih.1 ih.2 (by omega) (Int.le_refl n)⟩) m0).2
def bs_Mc (c : Int) : Int := bc_it (fun _ x => 2 * x) 9 c
theorem bs_Mc_r {c : Int} (c0 : 0 ≤ c) (c7 : c ≤ 7) : 0 ≤ bs_Mc c ∧ 2 * bs_Mc c < 1000000 := by
  have h : ∀ k : Nat, k < 8 → 0 ≤ bs_Mc (k : Int) ∧ 2 * bs_Mc (k : Int) < 1000000 := by decide +kernel
  have := h c.toNat (by omega)
  rw [show ((c.toNat : Nat) : Int) = c by omega] at this
  exact this
theorem bs_kM_c {n m : Int} {T : Int → Int} (n7 : n ≤ 7) (n0 : 0 ≤ n) (t : bs_tb n T) (h : bs_kM n T 9) (m0 : 0 ≤ m) (m1 : m ≤ n) : bs_kM n (bs_fc n T m) (bs_Mc m) :=
  (bc_it_indB (fun m T => bs_tb n T ∧ bs_kM n T (bs_Mc m)) ⟨t, h⟩ (fun i x i0 i1 ih => ⟨bs_tb_a n7 ⟨i0, by omega⟩ ih.1 n0 (Int.le_refl n), by
    have r := bs_Mc_r i0 (by omega)
    rw [show bs_Mc (i + 1) = 2 * bs_Mc i from bc_its _ _ i0]
    exact (bs_kD_a n7 ⟨i0, by omega⟩ r.1 r.2 ih.1 (bs_kD_0 ⟨i0, by omega⟩ r.1 ih.2) n0 (Int.le_refl n)).1⟩) m0).2
theorem bs_way_9 {A : Int → Int} (hy : bs_WY A) (h7 : 0 ≤ A 7) (a b : Int) : (1 ≤ bs_way A a b) ∧ (bs_way A a b < 1000000 → bs_way A a b ≤ 9) := by
  have := (bs_way_r hy h7 a b).1
  omega
theorem bs_kM_0 {A : Int → Int} (hy : bs_WY A) (h7 : 0 ≤ A 7) (n7 : A 1 ≤ 7) : bs_kM (A 1) (bs_far0 A) 9 := by
  intro a b a0 a1 b0 b1
  rw [bs_far0_v b0 (by omega)]
  have := (bs_way_9 hy h7 a b).2
  split <;> omega
theorem bc_c_shorten {d : Nat} {n r c a b M : Int} {h : bc_H} {x T : Int → Int} {K : bc_H → Prop} (n7 : n ≤ 7) (hc : 0 ≤ c ∧ c < n) (ha : 0 ≤ a ∧ a < n) (hb : 0 ≤ b ∧ b < n) (M0 : 0 ≤ M) (M1 : 2 * M < 1000000) (t : bs_tb n T) (s : bs_kD n c T M) (hx : bs_cg n x T) (hK : ∀ x', bs_cg n x' (bs_farS c a b T) → K (bc_row h (r + 4) x')) : bf_Walls_shorten d r a b c (bc_row h (r + 4) x) (bc_U K) := by
  have tac := t a c ha.1 ha.2 hc.1 hc.2
  have tcb := t c b hc.1 hc.2 hb.1 hb.2
  have tab := t a b ha.1 ha.2 hb.1 hb.2
  have hac := (s.2 a ha.1 ha.2).1
  have hcb := (s.2 b hb.1 hb.2).2
  have xac := hx a c ha.1 ha.2 hc.1 hc.2
  have xcb := hx c b hc.1 hc.2 hb.1 hb.2
  have xab := hx a b ha.1 ha.2 hb.1 hb.2
  have e1 : bc_w32 (bc_w32 (a * 7) + c) = a * 7 + c := by rw [bc_wi (x := a * 7) (by omega) (by omega), bc_wi (by omega) (by omega)]
  have e2 : bc_w32 (bc_w32 (c * 7) + b) = c * 7 + b := by rw [bc_wi (x := c * 7) (by omega) (by omega), bc_wi (by omega) (by omega)]
  have e3 : bc_w32 (bc_w32 (a * 7) + b) = a * 7 + b := by rw [bc_wi (x := a * 7) (by omega) (by omega), bc_wi (by omega) (by omega)]
  have keep : ¬ (T (7 * a + c) + T (7 * c + b) < T (7 * a + b)) → K (bc_row h (r + 4) x) := fun ng => by
    refine hK x (fun u v u0 u1 v0 v1 => ?_)
    have e : bs_farS c a b T (7 * u + v) = T (7 * u + v) := by
      unfold bs_farS
      rw [if_neg ng]
      by_cases q : 7 * u + v = 7 * a + b
      · rw [q, bc_setj]
      · rw [bc_setn q]
    rw [e]; exact hx u v u0 u1 v0 v1
  have sets : T (7 * a + c) < 1000000 → T (7 * c + b) < 1000000 → T (7 * a + c) + T (7 * c + b) < T (7 * a + b) → K (bc_upd (bc_row h (r + 4) x) (r + 4) (a * 7 + b) (T (7 * a + c) + T (7 * c + b))) := fun p1 p2 lt => by
    rw [bc_ru]
    refine hK _ (fun u v u0 u1 v0 v1 => ?_)
    unfold bs_farS
    rw [if_pos lt]
    by_cases q : 7 * u + v = 7 * a + b
    · rw [q, bc_setj, show u * 7 + v = a * 7 + b by omega, bc_setj, if_pos (by omega)]
    · rw [bc_setn q, bc_setn (by omega)]; exact hx u v u0 u1 v0 v1
  refine rv_Walls_shorten ?_
  rw [e1, e2, e3, bs_rr]
  rw [xac, xcb, xab]
  clear xac xcb xab hx e1 e2 e3
  generalize T (7 * a + c) = p at *
  generalize T (7 * c + b) = q at *
  generalize T (7 * a + b) = w at *
  refine ⟨by omega, by omega, fun u => keep (by split at u <;> omega), fun u => ⟨fun v => keep (by split at v <;> omega), fun v => ⟨by omega, fun z => ⟨by omega, fun h4 e4 => ?_⟩, fun z => ⟨by omega, fun z2 => keep ?_, fun z2 => ⟨by omega, fun h4 e4 => ?_⟩⟩⟩⟩⟩
  · rw [if_pos (by split at u <;> omega), if_pos (by split at v <;> omega), bc_wi (x := p + q) (by split at u <;> split at v <;> omega) (by split at u <;> split at v <;> omega)] at e4
    rw [e4]
    exact sets (by split at u <;> omega) (by split at v <;> omega) (by split at u <;> split at v <;> split at z <;> omega)
  · have p1 : p < 1000000 := by split at u <;> omega
    have q1 : q < 1000000 := by split at v <;> omega
    have w1 : w < 1000000 := by split at z <;> omega
    rw [if_pos p1, if_pos q1, if_pos w1, bc_wi (x := p + q) (by omega) (by omega)] at z2
    omega
  · have p1 : p < 1000000 := by split at u <;> omega
    have q1 : q < 1000000 := by split at v <;> omega
    have w1 : w < 1000000 := by split at z <;> omega
    rw [if_pos p1, if_pos q1, if_pos w1, bc_wi (x := p + q) (by omega) (by omega)] at z2
    rw [if_pos p1, if_pos q1, bc_wi (x := p + q) (by omega) (by omega)] at e4
    rw [e4]
    exact sets p1 q1 z2
theorem bc_c_measure {d : Nat} {r : Int} {h : bc_H} {A : Int → Int} {K : bc_H → Prop} (e0 : h r 0 = A 1) (hW : bs_W A) (e3 : ∀ a b, 0 ≤ a → a < A 1 → 0 ≤ b → b < A 1 → h (r + 3) (a * 7 + b) = if bs_way A a b < 1000000 then bs_way A a b else 0) (hK : ∀ x, bs_cg (A 1) x (bs_farR A) → K (bc_row h (r + 4) x)) : bf_Walls_measureDistances (d + 1) r h (bc_U K) := by
  have w1 := hW.1.2.1
  have w7 := hW.1.2.2.2.2.2.2
  have h0 : ∀ x, bc_row h (r + 4) x r = h r := fun x => bc_rn (by omega)
  have h3 : ∀ x, bc_row h (r + 4) x (r + 3) = h (r + 3) := fun x => bc_rn (by omega)
  have t0 := bs_tb_0 hW.2.2.1 w7.1 w1.2
  have s0 := bs_kM_0 hW.2.2.1 w7.1 w1.2
  refine rv_Walls_measureDistances ?_
  have k2 : ∀ x, bs_cg (A 1) x (bs_fc (A 1) (bs_far0 A) 0) → bl_Walls_measureDistances_44 (d + 1) r 0 (bc_row h (r + 4) x) (bc_U K) := by
    refine bc_lup (P := fun c => ∀ x, bs_cg (A 1) x (bs_fc (A 1) (bs_far0 A) c) → bl_Walls_measureDistances_44 (d + 1) r c (bc_row h (r + 4) x) (bc_U K)) (n := A 1) ?_ (fun c c0 c1 ihc => ?_) (Int.le_refl 0) w1.1
    · intro x hx
      exact rv_Walls_measureDistances_44 (by rw [h0, e0]; exact ⟨fun _ => hK x (by rw [bs_farR_fc]; exact hx), fun q => absurd q (by omega)⟩)
    · intro x hx
      have tc := bs_tb_c (m := c) w1.2 t0 c0 (by omega)
      have r9 := bs_Mc_r c0 (by omega)
      have sc := bs_kD_0 (c := c) ⟨c0, c1⟩ r9.1 (bs_kM_c (m := c) w1.2 w1.1 t0 s0 c0 (by omega))
      refine rv_Walls_measureDistances_44 ?_
      rw [h0, e0]
      refine ⟨fun q => absurd q (by omega), fun _ => ?_⟩
      refine (bc_lup (P := fun a => ∀ x, bs_cg (A 1) x (bs_fa (A 1) c (bs_fc (A 1) (bs_far0 A) c) a) → bl_Walls_measureDistances_50 (d + 1) r c a (bc_row h (r + 4) x) (bc_U K)) (n := A 1) ?_ (fun a a0 a1 iha => ?_) (Int.le_refl 0) w1.1) x hx
      · intro x hx
        refine rv_Walls_measureDistances_50 ?_
        rw [h0, e0]
        refine ⟨fun _ => ?_, fun q => absurd q (by omega)⟩
        simp (disch := omega) only [bc_wi, Int.add_zero]
        refine ihc x ?_
        rw [show bs_fc (A 1) (bs_far0 A) (c + 1) = bs_fa (A 1) c (bs_fc (A 1) (bs_far0 A) c) (A 1) from bc_its _ _ c0]
        exact hx
      · intro x hx
        have ta := bs_tb_a (m := a) w1.2 ⟨c0, c1⟩ tc a0 (by omega)
        have sa := bs_kD_a (m := a) w1.2 ⟨c0, c1⟩ r9.1 r9.2 tc sc a0 (by omega)
        refine rv_Walls_measureDistances_50 ?_
        rw [h0, e0]
        refine ⟨fun q => absurd q (by omega), fun _ => ?_⟩
        refine (bc_lup (P := fun b => ∀ x, bs_cg (A 1) x (bs_fb (A 1) c a (bs_fa (A 1) c (bs_fc (A 1) (bs_far0 A) c) a) b) → bl_Walls_measureDistances_56 (d + 1) r c a b (bc_row h (r + 4) x) (bc_U K)) (n := A 1) ?_ (fun b b0 b1 ihb => ?_) (Int.le_refl 0) w1.1) x hx
        · intro x hx
          refine rv_Walls_measureDistances_56 ?_
          rw [h0, e0]
          refine ⟨fun _ => ?_, fun q => absurd q (by omega)⟩
          simp (disch := omega) only [bc_wi, Int.add_zero]
          refine iha x ?_
          rw [show bs_fa (A 1) c (bs_fc (A 1) (bs_far0 A) c) (a + 1) = bs_fb (A 1) c a (bs_fa (A 1) c (bs_fc (A 1) (bs_far0 A) c) a) (A 1) from bc_its _ _ a0]
          exact hx
        · intro x hx
          have tb := bs_tb_b (m := b) w1.2 ⟨c0, c1⟩ ⟨a0, a1⟩ ta b0 (by omega)
          have sb := bs_kD_b (m := b) w1.2 ⟨c0, c1⟩ ⟨a0, a1⟩ r9.1 r9.2 ta sa b0 (by omega)
          refine rv_Walls_measureDistances_56 ?_
          rw [h0, e0]
          refine ⟨fun q => absurd q (by omega), fun _ => ?_⟩
          simp (disch := omega) only [bc_wi, Int.add_zero]
          refine bc_c_shorten w1.2 ⟨c0, c1⟩ ⟨a0, a1⟩ ⟨b0, b1⟩ r9.1 r9.2 tb sb hx (fun x' hx' => ihb x' ?_)
          rw [show bs_fb (A 1) c a (bs_fa (A 1) c (bs_fc (A 1) (bs_far0 A) c) a) (b + 1) = bs_farS c a b (bs_fb (A 1) c a (bs_fa (A 1) c (bs_fc (A 1) (bs_far0 A) c) a) b) from bc_its _ _ b0]
          exact hx'
  have k1 : ∀ x, (∀ a b, 0 ≤ a → a < 0 → 0 ≤ b → b < A 1 → x (a * 7 + b) = if bs_far0 A (7 * a + b) < 1000000 then bs_far0 A (7 * a + b) else -1) → bl_Walls_measureDistances_2 (d + 1) r 0 (bc_row h (r + 4) x) (bc_U K) := by
    refine bc_lup (P := fun i => ∀ x, (∀ a b, 0 ≤ a → a < i → 0 ≤ b → b < A 1 → x (a * 7 + b) = if bs_far0 A (7 * a + b) < 1000000 then bs_far0 A (7 * a + b) else -1) → bl_Walls_measureDistances_2 (d + 1) r i (bc_row h (r + 4) x) (bc_U K)) (n := A 1) ?_ (fun i i0 i1 ihi => ?_) (Int.le_refl 0) w1.1
    · intro x hx
      refine rv_Walls_measureDistances_2 ?_
      rw [h0, e0]
      exact ⟨fun _ => k2 x (fun a b a0 a1 b0 b1 => hx a b a0 a1 b0 b1), fun q => absurd q (by omega)⟩
    · intro x hx
      refine rv_Walls_measureDistances_2 ?_
      rw [h0, e0]
      refine ⟨fun q => absurd q (by omega), fun _ => ?_⟩
      refine (bc_lup (P := fun j => ∀ x, (∀ a b, 0 ≤ a → a < i ∨ (a = i ∧ b < j) → 0 ≤ b → b < A 1 → x (a * 7 + b) = if bs_far0 A (7 * a + b) < 1000000 then bs_far0 A (7 * a + b) else -1) → bl_Walls_measureDistances_8 (d + 1) r i j (bc_row h (r + 4) x) (bc_U K)) (n := A 1) ?_ (fun j j0 j1 ihj => ?_) (Int.le_refl 0) w1.1) x (fun a b a0 a1 b0 b1 => hx a b a0 (by omega) b0 b1)
      · intro x hx
        refine rv_Walls_measureDistances_8 ?_
        rw [h0, e0]
        refine ⟨fun _ => ?_, fun q => absurd q (by omega)⟩
        simp (disch := omega) only [bc_wi, Int.add_zero]
        exact ihi x (fun a b a0 a1 b0 b1 => hx a b a0 (by omega) b0 b1)
      · intro x hx
        have st : ∀ y, y = (if bs_far0 A (7 * i + j) < 1000000 then bs_far0 A (7 * i + j) else -1) → bl_Walls_measureDistances_8 (d + 1) r i (j + 1) (bc_row h (r + 4) (bc_set x (i * 7 + j) y)) (bc_U K) := fun y ey => by
          refine ihj _ (fun a b a0 a1 b0 b1 => ?_)
          by_cases q : a * 7 + b = i * 7 + j
          · rw [q, bc_setj, ey, show 7 * a + b = 7 * i + j by omega]
          · rw [bc_setn q]; exact hx a b a0 (by omega) b0 b1
        have wp := bs_way_9 hW.2.2.1 w7.1 i j
        have e3' := e3 i j i0 i1 j0 j1
        refine rv_Walls_measureDistances_8 ?_
        simp (disch := omega) only [bc_wi, Int.add_zero]
        rw [h0, e0, h3, e3', bc_ru, bc_ru, bc_ru]
        rw [bs_far0_v j0 (by omega)] at st
        refine ⟨fun q => absurd q (by omega), fun _ => ⟨fun q => ⟨by omega, fun z => ⟨by omega, st _ ?_⟩, fun z => ⟨by omega, by omega, st _ ?_⟩⟩, fun q => ⟨by omega, st _ ?_⟩⟩⟩
        · rw [if_neg q]
          by_cases u : bs_way A i j < 1000000
          · rw [if_pos u] at z; omega
          · rw [if_neg u]
        · rw [if_neg q]
          by_cases u : bs_way A i j < 1000000
          · rw [if_pos u, if_pos u]
          · rw [if_neg u] at z; omega
        · rw [if_pos q, if_pos (by decide)]
  have := k1 (h (r + 4)) (fun a b a0 a1 _ _ => absurd a1 (by omega))
  rw [bc_rself] at this
  exact this
