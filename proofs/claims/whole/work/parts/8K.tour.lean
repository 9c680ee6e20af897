/-! ===== tours ===== -/
def bs_TI (A : Int → Int) (v : Int) (B : Int → Int) : Prop := bs_W B ∧ ∀ k, k ≠ 54 + 8 * v + 1 → (k < 54 + 8 * v + 3 ∨ 54 + 8 * v + 8 ≤ k) → B k = A k
theorem bs_TI_0 {A B : Int → Int} {v : Int} (h : bs_TI A v B) (v0 : 0 ≤ v) : B 0 = A 0 ∧ B 1 = A 1 ∧ B 2 = A 2 ∧ B (54 + 8 * v) = A (54 + 8 * v) ∧ ∀ k, k < 54 → B k = A k := ⟨h.2 0 (by omega) (by omega), h.2 1 (by omega) (by omega), h.2 2 (by omega) (by omega), h.2 _ (by omega) (by omega), fun k hk => h.2 k (by omega) (by omega)⟩
theorem bs_W_v {A B : Int → Int} {v : Int} (hW : bs_W A) (v0 : 0 ≤ v) (v1 : v < A 2) (e : ∀ k, (k < 54 + 8 * v + 1 ∨ 54 + 8 * v + 8 ≤ k) → B k = A k) (ha : 0 ≤ B (54 + 8 * v + 1) ∧ B (54 + 8 * v + 1) < A 1) (hg : 0 ≤ B (54 + 8 * v + 2) ∧ B (54 + 8 * v + 2) ≤ 9) (hm : ∀ b, 0 ≤ b → b < 5 → (0 ≤ B (54 + 8 * v + (3 + b)) ∧ B (54 + 8 * v + (3 + b)) ≤ 99) ∧ (A 0 ≤ b → B (54 + 8 * v + (3 + b)) = 0)) : bs_W B := by
  obtain ⟨⟨w0, w1, w2, w3, w4, w5, w7⟩, hw, hy, hv, hf, hgg⟩ := hW
  have es : ∀ k, k < 54 ∨ 102 ≤ k → B k = A k := fun k hk => e k (by omega)
  refine ⟨?_, bs_WW_p w1.2 (es _ (by omega)) (es _ (by omega)) (fun k _ _ => es k (by omega)) hw, bs_WY_p w7.2 ⟨es _ (by omega), es _ (by omega), fun k _ _ => es k (by omega)⟩ hy, fun u u0 u1 => ?_, bs_WF_p w3.2 (es _ (by omega)) (es _ (by omega)) (fun k _ _ => es k (by omega)) hf, bs_WG_p w0.2 (es _ (by omega)) (fun k _ _ => es k (by omega)) hgg⟩
  · rw [es 0 (by omega), es 1 (by omega), es 2 (by omega), es 3 (by omega), es 4 (by omega), es 5 (by omega), es 7 (by omega)]
    exact ⟨w0, w1, w2, w3, w4, w5, w7⟩
  · rw [es 2 (by omega)] at u1
    have q := hv u u0 u1
    rw [es 1 (by omega), es 0 (by omega)]
    by_cases z : u = v
    · subst z
      rw [e (54 + 8 * u) (by omega)]
      exact ⟨q.1, ha, hg, hm⟩
    · rw [e (54 + 8 * u) (by omega), e (54 + 8 * u + 1) (by omega), e (54 + 8 * u + 2) (by omega)]
      refine ⟨q.1, q.2.1, q.2.2.1, fun b b0 b5 => ?_⟩
      rw [e (54 + 8 * u + (3 + b)) (by omega)]
      exact q.2.2.2 b b0 b5
theorem bs_lk_m {B : Int → Int} {v be p : Int} (hW : bs_W B) (v0 : 0 ≤ v) (v1 : v < B 2) (hb : be = -1 ∨ (0 ≤ be ∧ be < B 0)) {b : Int} (b0 : 0 ≤ b) (b5 : b < 5) : bs_lk B v be p (B 0) (54 + 8 * v + (3 + b)) = bs_chg (B (54 + 8 * v + (3 + b))) b be p := by
  unfold bs_lk
  by_cases z : b < B 0
  · rw [if_pos (by omega), show 54 + 8 * v + (3 + b) - (54 + 8 * v + 3) = b by omega]
  · rw [if_neg (by omega)]
    have := ((hW.2.2.2.1 v v0 v1).2.2.2 b b0 b5).2 (by omega)
    rw [this]
    unfold bs_chg bs_dn; rw [if_neg (by omega), if_neg (by omega)]
theorem bs_W_lk {B : Int → Int} {v be p : Int} (hW : bs_W B) (v0 : 0 ≤ v) (v1 : v < B 2) (hb : be = -1 ∨ (0 ≤ be ∧ be < B 0 ∧ 0 ≤ p)) : bs_W (bs_lk B v be p (B 0)) := by
  have q := hW.2.2.2.1 v v0 v1
  have w0 := hW.1.1
  refine bs_W_v hW v0 v1 (fun k hk => bs_lk_n (by omega)) (by rw [bs_lk_n (by omega)]; exact q.2.1) (by rw [bs_lk_n (by omega)]; exact q.2.2.1) (fun b b0 b5 => ?_)
  have g := q.2.2.2 b b0 b5
  rw [bs_lk_m hW v0 v1 (by omega) b0 b5]
  refine ⟨?_, fun z => ?_⟩
  · refine bs_chg_r g.1.1 g.1.2 ?_
    rcases hb with e | e
    · exact Or.inr (by omega)
    · exact Or.inl e.2.2
  · rw [g.2 z]
    unfold bs_chg bs_dn; rw [if_neg (by omega), if_neg (by omega)]
theorem bs_TI_lk {A B : Int → Int} {v be p : Int} (h : bs_TI A v B) (v0 : 0 ≤ v) (v1 : v < A 2) (hb : be = -1 ∨ (0 ≤ be ∧ be < A 0 ∧ 0 ≤ p)) : bs_TI A v (bs_lk B v be p (B 0)) := by
  have e := bs_TI_0 h v0
  have w0 := h.1.1.1
  refine ⟨bs_W_lk h.1 v0 (by omega) (by omega), fun k k1 k2 => ?_⟩
  rw [bs_lk_n (by omega)]; exact h.2 k k1 k2
def bs_Tl (B : Int → Int) (v n : Int) : Int → Int := bc_it (fun _ B => bs_lk B v (-1) 0 (B 0)) B n
def bs_Ta (B : Int → Int) (v w : Int) : Int → Int := bc_set B (54 + 8 * v + 1) w
def bs_Ts (B : Int → Int) (v w n : Int) : Int → Int := bc_it (fun _ B => bs_lk B v (B (10 + 2 * w)) (B (10 + 2 * w + 1)) (B 0)) B n
def bs_Ty (B : Int → Int) (v w n : Int) : Int := bc_it (fun i ok => if bs_turned (bs_Ts B v w (i + 1)) v then 0 else ok) 1 n
def bs_Tv (A B : Int → Int) (v w : Int) : Int → Int := bs_Ta (bs_Tl B v (bs_far A (B (54 + 8 * v + 1)) w)) v w
theorem bs_Tl_s (B : Int → Int) (v : Int) {n : Int} (h : 0 ≤ n) : bs_Tl B v (n + 1) = bs_lk (bs_Tl B v n) v (-1) 0 (bs_Tl B v n 0) := bc_its _ _ h
theorem bs_Ts_s (B : Int → Int) (v w : Int) {n : Int} (h : 0 ≤ n) : bs_Ts B v w (n + 1) = bs_lk (bs_Ts B v w n) v (bs_Ts B v w n (10 + 2 * w)) (bs_Ts B v w n (10 + 2 * w + 1)) (bs_Ts B v w n 0) := bc_its _ _ h
theorem bs_Ty_s (B : Int → Int) (v w : Int) {n : Int} (h : 0 ≤ n) : bs_Ty B v w (n + 1) = if bs_turned (bs_Ts B v w (n + 1)) v then 0 else bs_Ty B v w n := bc_its _ _ h
theorem bs_Ty_0 (B : Int → Int) (v w : Int) {n i : Int} (i0 : 0 ≤ i) (i1 : i < n) (h : bs_turned (bs_Ts B v w (i + 1)) v) : bs_Ty B v w n = 0 := by
  have key : ∀ m : Nat, bs_Ty B v w (i + 1 + (m : Int)) = 0 := by
    intro m
    induction m with
    | zero => rw [show i + 1 + ((0 : Nat) : Int) = i + 1 by omega, bs_Ty_s _ _ _ i0, if_pos h]
    | succ m ih =>
      rw [show i + 1 + ((m + 1 : Nat) : Int) = i + 1 + (m : Int) + 1 by omega, bs_Ty_s _ _ _ (by omega), ih]
      split <;> rfl
  have := key (n - (i + 1)).toNat
  rw [show i + 1 + (((n - (i + 1)).toNat : Nat) : Int) = n by omega] at this
  exact this
theorem bs_Tl_I {A B : Int → Int} {v : Int} (h : bs_TI A v B) (v0 : 0 ≤ v) (v1 : v < A 2) {n : Int} (n0 : 0 ≤ n) : bs_TI A v (bs_Tl B v n) :=
  bc_it_ind (fun _ B => bs_TI A v B) h (fun i x _ ih => bs_TI_lk ih v0 v1 (Or.inl rfl)) n0
theorem bs_Tv_I {A B : Int → Int} {v w : Int} (h : bs_TI A v B) (v0 : 0 ≤ v) (v1 : v < A 2) (w0 : 0 ≤ w) (w1 : w < A 1) {n : Int} (n0 : 0 ≤ n) : bs_TI A v (bs_Ta (bs_Tl B v n) v w) := by
  have t := bs_Tl_I h v0 v1 n0
  have e := bs_TI_0 t v0
  have q := t.1.2.2.2.1 v v0 (by omega)
  unfold bs_Ta
  refine ⟨bs_W_v t.1 v0 (by omega) (fun k hk => bc_setn (by omega)) (by rw [bc_setj]; omega) (by rw [bc_setn (by omega)]; exact q.2.2.1) (fun b b0 b5 => by rw [bc_setn (by omega)]; exact q.2.2.2 b b0 b5), fun k k1 k2 => by rw [bc_setn k1]; exact t.2 k k1 k2⟩
theorem bs_TI_w {A B : Int → Int} {v w : Int} (hW : bs_W A) (h : bs_TI A v B) (v0 : 0 ≤ v) (w0 : 0 ≤ w) (w1 : w < A 1) : (B (10 + 2 * w) = A (10 + 2 * w) ∧ B (10 + 2 * w + 1) = A (10 + 2 * w + 1)) ∧ (A (10 + 2 * w) = -1 ∨ (0 ≤ A (10 + 2 * w) ∧ A (10 + 2 * w) < A 0 ∧ 0 ≤ A (10 + 2 * w + 1))) ∧ A (10 + 2 * w + 1) ≤ 9 := by
  have e := (bs_TI_0 h v0).2.2.2.2
  have q := hW.2.1 w w0 w1
  have w7 := hW.1.2.1
  refine ⟨⟨e _ (by omega), e _ (by omega)⟩, ?_, q.2.2.2⟩
  omega
theorem bs_Ts_I {A B : Int → Int} {v w : Int} (hW : bs_W A) (h : bs_TI A v B) (v0 : 0 ≤ v) (v1 : v < A 2) (w0 : 0 ≤ w) (w1 : w < A 1) {n : Int} (n0 : 0 ≤ n) : bs_TI A v (bs_Ts B v w n) :=
  bc_it_ind (fun _ B => bs_TI A v B) h (fun i x _ ih => by
    have e := bs_TI_w hW ih v0 w0 w1
    exact bs_TI_lk ih v0 v1 (by rw [e.1.1, e.1.2]; exact e.2.1)) n0
theorem bs_far_r {A : Int → Int} (hW : bs_W A) {a b : Int} (a0 : 0 ≤ a) (a1 : a < A 1) (b0 : 0 ≤ b) (b1 : b < A 1) : 0 ≤ bs_far A a b ∧ bs_far A a b ≤ 1000000 := bs_tb_R hW a b a0 a1 b0 b1
def bs_Tg (A : Int → Int) (v st : Int) : Nat → (Int → Int) → Int → Int → Int → (Int → Int) → Int × (Int → Int) → Int × (Int → Int)
  | 0, _, _, _, tm, o, r => if r.1 = -1 ∨ tm < r.1 then (tm, o) else r
  | k + 1, B, S, dp, tm, o, r => bc_it (fun w r => if bc_and (bc_shr S w) 1 = 1 ∧ bs_far A (B (54 + 8 * v + 1)) w < 1000000 ∧ bs_Ty (bs_Tv A B v w) v w st = 1 then bs_Tg A v st k (bs_Ts (bs_Tv A B v w) v w st) (bs_sdn w S) (dp + 1) (tm + bs_far A (B (54 + 8 * v + 1)) w + st) (bc_set o dp w) r else r) r (A 1)
theorem bs_Ty_1 (B : Int → Int) (v w : Int) {n : Int} (n0 : 0 ≤ n) (h : ∀ i, 0 ≤ i → i < n → ¬ bs_turned (bs_Ts B v w (i + 1)) v) : bs_Ty B v w n = 1 :=
  bc_it_indB (P := fun _ x => x = 1) rfl (fun i x i0 i1 ih => by rw [if_neg (h i i0 i1)]; exact ih) n0
/-! the class -/
def bs_Tf (h m : bc_H) : Prop := ∀ x, x ≠ 18 → x ≠ 19 → x ≠ 20 → x ≠ 21 → m x = h x
def bs_Tb (m : bc_H) (c self st many : Int) (r : Int × (Int → Int)) : Prop := (m 18 6 = c + 3 ∧ m 18 7 = self ∧ m 18 9 = st) ∧ m 18 0 = r.1 ∧ (r.1 ≠ -1 → ∀ j, 0 ≤ j → j < many → m 19 j = r.2 j)
theorem bc_c_stays {d : Nat} {c v dp w st : Int} {h m : bc_H} {A B : Int → Int} {P N : bc_H → Prop} (hc : 24 ≤ c ∧ c ≤ 130) (hw : bs_Cw h c A) (hW : bs_W A) (v0 : 0 ≤ v) (v1 : v < A 2) (hI : bs_TI A v B) (hf : bs_Tf h m) (s6 : m 18 6 = c + 3) (s7 : m 18 7 = A (54 + 8 * v)) (s9 : m 18 9 = st) (st0 : 0 ≤ st) (st9 : st ≤ 9) (dp0 : 0 ≤ dp) (dp4 : dp ≤ 4) (w0 : 0 ≤ w) (w1 : w < A 1) (far : bs_far A (B (54 + 8 * v + 1)) w < 1000000) (rows : ∀ b, 0 ≤ b → b < 5 → m 21 (dp * 5 + b) = B (54 + 8 * v + (3 + b)))
    (hP : bs_Ty (bs_Tv A B v w) v w st = 1 → ∀ m' : bc_H, (∀ x, x ≠ 21 → m' x = m x) → (∀ y, y < dp * 5 + 5 → m' 21 y = m 21 y) → (∀ b, 0 ≤ b → b < 5 → m' 21 ((dp + 1) * 5 + b) = bs_Ts (bs_Tv A B v w) v w st (54 + 8 * v + (3 + b))) → P m') (hN : bs_Ty (bs_Tv A B v w) v w st ≠ 1 → ∀ m' : bc_H, (∀ x, x ≠ 21 → m' x = m x) → (∀ y, y < dp * 5 + 5 → m' 21 y = m 21 y) → N m') : bf_Search_staysHimself (d + 1) dp (bs_far A (B (54 + 8 * v + 1)) w) w m (bc_B P N) := by
  have q := hI.1.2.2.2.1 v v0 (by have := (bs_TI_0 hI v0).2.2.1; omega)
  have eI := bs_TI_0 hI v0
  have fr := bs_far_r hW q.2.1.1 (by rw [← eI.2.1]; exact q.2.1.2) w0 w1
  have w7 := hW.1.2.1
  have w5 := hW.1.1
  refine rv_Search_staysHimself (d := d) ?_
  rw [bc_wi (x := dp * 5) (by omega) (by omega), bc_wi (x := dp + 1) (by omega) (by omega), bc_wi (x := (dp + 1) * 5) (by omega) (by omega)]
  refine bs_copyRow (by omega) (by omega) (by omega) (Or.inr (Or.inl (by omega))) (fun m1 c1 c2 => ?_)
  have key : ∀ m2 : bc_H, (∀ x, x ≠ 21 → m2 x = m x) → (∀ y, y < dp * 5 + 5 → m2 21 y = m 21 y) → (∀ b, 0 ≤ b → b < 5 → m2 21 ((dp + 1) * 5 + b) = bs_Tl B v 0 (54 + 8 * v + (3 + b))) → bl_Search_staysHimself_17 (d + 1) (bs_far A (B (54 + 8 * v + 1)) w) w ((dp + 1) * 5) 0 m2 (bc_B P N) := by
    refine bc_lup (P := fun i => ∀ m2 : bc_H, (∀ x, x ≠ 21 → m2 x = m x) → (∀ y, y < dp * 5 + 5 → m2 21 y = m 21 y) → (∀ b, 0 ≤ b → b < 5 → m2 21 ((dp + 1) * 5 + b) = bs_Tl B v i (54 + 8 * v + (3 + b))) → bl_Search_staysHimself_17 (d + 1) (bs_far A (B (54 + 8 * v + 1)) w) w ((dp + 1) * 5) i m2 (bc_B P N)) (n := bs_far A (B (54 + 8 * v + 1)) w) (fun m2 a1 a2 a3 => ?_) (fun i i0 i1 ih m2 a1 a2 a3 => ?_) (Int.le_refl 0) fr.1
    · refine rv_Search_staysHimself_17 (d := d) ⟨fun _ => ?_, fun z => absurd z (by omega)⟩
      have hT : bs_TI A v (bs_Tv A B v w) := bs_Tv_I (w := w) hI v0 v1 w0 w1 fr.1
      have a3' : ∀ b, 0 ≤ b → b < 5 → m2 21 ((dp + 1) * 5 + b) = bs_Ts (bs_Tv A B v w) v w 0 (54 + 8 * v + (3 + b)) := fun b b0 b5 => by
        rw [a3 b b0 b5]
        show _ = bs_Ta _ v w _
        unfold bs_Ta; rw [bc_setn (by omega)]
      refine bc_lup (P := fun i => ∀ m3 : bc_H, (∀ x, x ≠ 21 → m3 x = m x) → (∀ y, y < dp * 5 + 5 → m3 21 y = m 21 y) → (∀ b, 0 ≤ b → b < 5 → m3 21 ((dp + 1) * 5 + b) = bs_Ts (bs_Tv A B v w) v w i (54 + 8 * v + (3 + b))) → (∀ j, 0 ≤ j → j < i → ¬ bs_turned (bs_Ts (bs_Tv A B v w) v w (j + 1)) v) → bl_Search_staysHimself_30 (d + 1) w ((dp + 1) * 5) i m3 (bc_B P N)) (n := st) (fun m3 b1 b2 b3 b4 => ?_) (fun i i0 i1 ihi m3 b1 b2 b3 b4 => ?_) (Int.le_refl 0) st0 m2 a1 a2 a3' (fun j j0 j1 => absurd j1 (by omega))
      · refine rv_Search_staysHimself_30 (d := d) ⟨fun _ => hP (bs_Ty_1 _ _ _ st0 b4) m3 b1 b2 b3, fun z => absurd z (by rw [b1 18 (by decide), s9]; omega)⟩
      · have hTi := bs_Ts_I hW hT v0 v1 w0 w1 i0
        have ew := bs_TI_w hW hTi v0 w0 w1
        have eT := bs_TI_0 hTi v0
        have b18 : m3 18 = m 18 := b1 18 (by decide)
        have wl : m3 (c + 3 + 1) w = A (10 + 2 * w) ∧ (A (10 + 2 * w) ≠ -1 → m3 (c + 3 + 2) w = A (10 + 2 * w + 1)) := by
          rw [b1 (c + 3 + 1) (by omega), b1 (c + 3 + 2) (by omega), hf (c + 3 + 1) (by omega) (by omega) (by omega) (by omega), hf (c + 3 + 2) (by omega) (by omega) (by omega) (by omega)]
          exact hw w w0 w1
        have mq := hTi.1.2.2.2.1 v v0 (by rw [eT.2.2.1]; exact v1)
        refine rv_Search_staysHimself_30 (d := d) ⟨fun z => absurd z (by rw [b18, s9]; omega), fun _ => ?_⟩
        rw [b18, s6, wl.1]
        refine ⟨by omega, by omega, by omega, by omega, ?_⟩
        refine bc_c_change (by omega) (by omega) (by omega) (fun b b0 b5 => by rw [b3 b b0 b5]; exact (mq.2.2.2 b b0 b5).1) ?_ ?_
        · rcases ew.2.1 with e | e
          · exact Or.inr (Or.inl (by omega))
          · exact Or.inl (by rw [wl.2 (by omega)]; omega)
        · have m4 : ∀ b, 0 ≤ b → b < 5 → bs_chr m3 21 ((dp + 1) * 5) (A (10 + 2 * w)) (m3 (c + 3 + 2) w) 5 21 ((dp + 1) * 5 + b) = bs_Ts (bs_Tv A B v w) v w (i + 1) (54 + 8 * v + (3 + b)) := fun b b0 b5 => by
            rw [bs_chr_y b0 b5, b3 b b0 b5, bs_Ts_s _ _ _ i0, bs_lk_m hTi.1 v0 (by rw [eT.2.2.1]; exact v1) (by rw [ew.1.1, eT.1]; rcases ew.2.1 with e | e; exact Or.inl e; exact Or.inr ⟨e.1, e.2.1⟩) b0 b5, ew.1.1, ew.1.2]
            by_cases z : A (10 + 2 * w) = -1
            · exact bs_chg_n (Or.inl (by omega))
            · rw [wl.2 z]
          have m18 : bs_chr m3 21 ((dp + 1) * 5) (A (10 + 2 * w)) (m3 (c + 3 + 2) w) 5 18 7 = A (54 + 8 * v) := by rw [bs_chr_n (by omega), b18]; exact s7
          refine bc_c_greatest (by omega) (by omega) (by omega) ?_
          have gr : bs_gr (fun b => bs_chr m3 21 ((dp + 1) * 5) (A (10 + 2 * w)) (m3 (c + 3 + 2) w) 5 21 ((dp + 1) * 5 + b)) = bs_most (bs_Ts (bs_Tv A B v w) v w (i + 1)) v := bs_gr_congr m4
          rw [gr, m18]
          have eT1 := bs_TI_0 (bs_Ts_I hW hT v0 v1 w0 w1 (show 0 ≤ i + 1 by omega)) v0
          have f1 : ∀ x, x ≠ 21 → bs_chr m3 21 ((dp + 1) * 5) (A (10 + 2 * w)) (m3 (c + 3 + 2) w) 5 x = m x := fun x x1 => funext fun y => by rw [bs_chr_n (Or.inl x1), b1 x x1]
          have f2 : ∀ y, y < dp * 5 + 5 → bs_chr m3 21 ((dp + 1) * 5) (A (10 + 2 * w)) (m3 (c + 3 + 2) w) 5 21 y = m 21 y := fun y y1 => by rw [bs_chr_n (by omega)]; exact b2 y y1
          refine ⟨fun le => ?_, fun lt => ?_⟩
          · rw [bc_wi (x := i + 1) (by omega) (by omega)]
            refine ihi _ f1 f2 m4 (fun j j0 j1 => ?_)
            by_cases e : j = i
            · subst e
              show ¬ _ < _
              rw [eT1.2.2.2.1]; omega
            · exact b4 j j0 (by omega)
          · refine hN (fun z => ?_) _ f1 f2
            rw [bs_Ty_0 _ _ _ i0 i1 (show _ < _ by rw [eT1.2.2.2.1]; exact lt)] at z
            exact absurd z (by decide)
    · have hTi := bs_Tl_I hI v0 v1 i0
      have eT := bs_TI_0 hTi v0
      have mq := hTi.1.2.2.2.1 v v0 (by rw [eT.2.2.1]; exact v1)
      refine rv_Search_staysHimself_17 (d := d) ⟨fun z => absurd z (by omega), fun _ => ?_⟩
      refine bc_c_change (by omega) (by omega) (by omega) (fun b b0 b5 => by rw [a3 b b0 b5]; exact (mq.2.2.2 b b0 b5).1) (Or.inr (Or.inl (by omega))) ?_
      rw [bc_wi (x := i + 1) (by omega) (by omega)]
      refine ih _ (fun x x1 => funext fun y => by rw [bs_chr_n (Or.inl x1), a1 x x1]) (fun y y1 => by rw [bs_chr_n (by omega)]; exact a2 y y1) (fun b b0 b5 => ?_)
      rw [bs_chr_y b0 b5, a3 b b0 b5, bs_Tl_s _ _ i0, bs_lk_m hTi.1 v0 (by rw [eT.2.2.1]; exact v1) (Or.inl rfl) b0 b5]
  refine key m1 (fun x x1 => funext fun y => c1 x y (Or.inl x1)) (fun y y1 => c1 21 y (by omega)) (fun b b0 b5 => ?_)
  rw [c2 b b0 b5]
  exact rows b b0 b5
theorem bs_dn_k {S w : Int} {k : Nat} (w0 : 0 ≤ w) (w7 : w < 7) (S0 : 0 ≤ S) (S1 : S < 128) (pk : bs_pn S = ((k + 1 : Nat) : Int)) (b : bc_and (bc_shr S w) 1 = 1) : (0 ≤ bs_sdn w S ∧ bs_sdn w S < 128) ∧ bs_pn (bs_sdn w S) = (k : Int) := by
  have t := (bs_ud w0 (by omega) S0 (by omega)).1 b
  exact ⟨by omega, by omega⟩
theorem bc_c_goOn {d : Nat} {c v st many : Int} {h : bc_H} {A : Int → Int} (hc : 24 ≤ c ∧ c ≤ 130) (hC : bs_C h c A) (hW : bs_W A) (v0 : 0 ≤ v) (v1 : v < A 2) (st0 : 0 ≤ st) (st9 : st ≤ 9) (mn : many ≤ 5) : ∀ (k : Nat) (B : Int → Int) (S dp tm : Int) (o : Int → Int) (r : Int × (Int → Int)) (m : bc_H) (K : bc_H → Prop), bs_TI A v B → (0 ≤ S ∧ S < 128) → bs_pn S = (k : Int) → (0 ≤ dp ∧ dp + k = many) → (0 ≤ tm ∧ tm ≤ dp * 1000009) → bs_Tf h m → bs_Tb m c (A (54 + 8 * v)) st many r → (∀ b, 0 ≤ b → b < 5 → m 21 (dp * 5 + b) = B (54 + 8 * v + (3 + b))) → (∀ j, 0 ≤ j → j < dp → m 20 j = o j) →
    (∀ m', bs_Tf h m' → bs_Tb m' c (A (54 + 8 * v)) st many (bs_Tg A v st k B S dp tm o r) → (∀ j, 0 ≤ j → j < dp → m' 20 j = m 20 j) → (∀ y, y < dp * 5 + 5 → m' 21 y = m 21 y) → K m') → bf_Search_goOn (d + k + 2) dp (B (54 + 8 * v + 1)) S tm m (bc_U K) := by
  obtain ⟨⟨n4, n5, n6, n2, n0, n1, n3⟩, hw, hd, hgg, hff, hmm⟩ := id hC
  have w7 := hW.1.2.1
  intro k
  induction k with
  | zero =>
    intro B S dp tm o r m K hI hS pS hdp htm hf hb rows ord hK
    have S0 : S = 0 := by
      refine Classical.byContradiction (fun z => ?_)
      have := (bs_pnI hS.1 (by omega)).2 z
      have := (bs_pnI (s := bc_and S (bc_w32 (S - 1))) this.1.1 (by omega)).1
      omega
    have ee : bs_Tg A v st 0 B S dp tm o r = if r.1 = -1 ∨ tm < r.1 then (tm, o) else r := rfl
    rw [ee] at hK
    have take : (r.1 = -1 ∨ tm < r.1) → K (bc_blk (bc_upd m 18 0 tm) 20 0 19 0 5) := fun z => by
      rw [if_pos z] at hK
      have r18 : bc_blk (bc_upd m 18 0 tm) 20 0 19 0 5 18 = bc_upd m 18 0 tm 18 := bc_br (by decide)
      refine hK _ (fun x x1 x2 x3 x4 => by rw [bc_br x2, bc_urow x1]; exact hf x x1 x2 x3 x4) ⟨?_, ?_, fun _ j j0 j1 => ?_⟩ (fun j j0 j1 => by rw [bc_br (by decide), bc_urow (by decide)]) (fun y y1 => by rw [bc_br (by decide), bc_urow (by decide)])
      · rw [r18, bc_uj (by decide), bc_uj (by decide), bc_uj (by decide)]; exact hb.1
      · rw [r18, bc_uu]
      · rw [bc_bi (by omega) (by omega), show 0 + (j - 0) = j by omega, bc_urow (by decide)]
        exact ord j j0 (by omega)
    refine rv_Search_goOn (d := d + 0 + 1) ⟨fun z => absurd S0 z, fun _ => ?_⟩
    rw [hb.2.1]
    refine ⟨fun z => take (Or.inl z), fun z => ⟨fun le => ?_, fun lt => take (Or.inr lt)⟩⟩
    rw [if_neg (by omega)] at hK
    exact hK m hf hb (fun _ _ _ => rfl) (fun _ _ => rfl)
  | succ k ih =>
    intro B S dp tm o r m K hI hS pS hdp htm hf hb rows ord hK
    have eI := bs_TI_0 hI v0
    have q := hI.1.2.2.2.1 v v0 (by rw [eI.2.2.1]; exact v1)
    have Sn : S ≠ 0 := fun z => by
      rw [z] at pS
      rw [show bs_pn 0 = 0 by decide +kernel] at pS
      omega
    have ee : bs_Tg A v st (k + 1) B S dp tm o r = bc_it (fun w r => if bc_and (bc_shr S w) 1 = 1 ∧ bs_far A (B (54 + 8 * v + 1)) w < 1000000 ∧ bs_Ty (bs_Tv A B v w) v w st = 1 then bs_Tg A v st k (bs_Ts (bs_Tv A B v w) v w st) (bs_sdn w S) (dp + 1) (tm + bs_far A (B (54 + 8 * v + 1)) w + st) (bc_set o dp w) r else r) r (A 1) := rfl
    rw [ee] at hK
    refine rv_Search_goOn (d := d + (k + 1) + 1) ⟨fun _ => ⟨fun _ => ?_, fun z => absurd z (by omega)⟩, fun z => absurd z Sn⟩
    refine bc_lup (P := fun w => ∀ g, bs_Tf h g → bs_Tb g c (A (54 + 8 * v)) st many (bc_it (fun w r => if bc_and (bc_shr S w) 1 = 1 ∧ bs_far A (B (54 + 8 * v + 1)) w < 1000000 ∧ bs_Ty (bs_Tv A B v w) v w st = 1 then bs_Tg A v st k (bs_Ts (bs_Tv A B v w) v w st) (bs_sdn w S) (dp + 1) (tm + bs_far A (B (54 + 8 * v + 1)) w + st) (bc_set o dp w) r else r) r w) → (∀ j, 0 ≤ j → j < dp → g 20 j = m 20 j) → (∀ y, y < dp * 5 + 5 → g 21 y = m 21 y) → bl_Search_goOn_28 (d + (k + 1) + 2) dp (B (54 + 8 * v + 1)) S tm w g (bc_U K)) (n := A 1) (fun g g1 g2 g3 g4 => ?_) (fun w w0 w1 ihw g g1 g2 g3 g4 => ?_) (Int.le_refl 0) w7.1 m hf hb (fun _ _ _ => rfl) (fun _ _ => rfl)
    · refine rv_Search_goOn_28 (d := d + (k + 1) + 1) ?_
      have gn : g (c + 3) 0 = A 1 := by rw [g1 (c + 3) (by omega) (by omega) (by omega) (by omega)]; exact n1
      rw [g2.1.1, gn]
      exact ⟨by omega, fun _ => hK g g1 g2 g3 g4, fun z => absurd z (by omega)⟩
    · have fr := bs_far_r hW q.2.1.1 (by rw [← eI.2.1]; exact q.2.1.2) w0 w1
      have gn : g (c + 3) 0 = A 1 := by rw [g1 (c + 3) (by omega) (by omega) (by omega) (by omega)]; exact n1
      have gd : g (c + 3 + 4) (B (54 + 8 * v + 1) * 7 + w) = if bs_far A (B (54 + 8 * v + 1)) w < 1000000 then bs_far A (B (54 + 8 * v + 1)) w else -1 := by
        rw [g1 (c + 3 + 4) (by omega) (by omega) (by omega) (by omega)]
        exact (hd _ w q.2.1.1 (by rw [← eI.2.1]; exact q.2.1.2) w0 w1).2
      have qa := q.2.1
      rw [bc_its _ _ w0] at ihw
      refine rv_Search_goOn_28 (d := d + (k + 1) + 1) ?_
      rw [g2.1.1, gn, bc_wi (x := B (54 + 8 * v + 1) * 7) (by omega) (by omega), bc_wi (x := B (54 + 8 * v + 1) * 7 + w) (by omega) (by omega), gd, bc_wi (x := w + 1) (by omega) (by omega)]
      refine ⟨by omega, fun z => absurd z (by omega), fun _ => ⟨by omega, by omega, fun b => ?_, fun b => ?_⟩⟩
      · have bb : bc_and (bc_shr S w) 1 = 1 := (bs_bit hS.1 (by omega) w0 (by omega)).resolve_left b
        by_cases far : bs_far A (B (54 + 8 * v + 1)) w < 1000000
        · rw [if_pos far]
          refine ⟨fun z => absurd z (by omega), fun _ => ?_⟩
          refine bc_c_stays (d := d + (k + 1)) hc hw hW v0 v1 hI g1 g2.1.1 g2.1.2.1 g2.1.2.2 st0 st9 hdp.1 (by omega) w0 w1 far (fun b b0 b5 => by rw [g4 _ (by omega)]; exact rows b b0 b5) (fun ty m1 f1 f2 f3 => ⟨by omega, ?_⟩) (fun ty m1 f1 f2 => ?_)
          · rw [if_pos ⟨bb, far, ty⟩] at ihw
            have dk := bs_dn_k (k := k) w0 (by omega) hS.1 hS.2 pS bb
            have hT0 : bs_TI A v (bs_Tv A B v w) := bs_Tv_I (w := w) hI v0 v1 w0 w1 fr.1
            have hT := bs_Ts_I hW hT0 v0 v1 w0 w1 st0
            have at' : bs_Ts (bs_Tv A B v w) v w st (54 + 8 * v + 1) = w := by
              refine bc_it_ind (fun (_ : Int) (X : Int → Int) => X (54 + 8 * v + 1) = w) ?_ (fun i x _ ihx => ?_) st0
              · exact bc_setj _ _ _
              · rw [bs_lk_n (by omega)]; exact ihx
            rw [f1 18 (by decide), g2.1.2.2, bc_wi (x := dp + 1) (by omega) (by omega), bc_wi (x := tm + bs_far A (B (54 + 8 * v + 1)) w) (by omega) (by omega), bc_wi (x := tm + bs_far A (B (54 + 8 * v + 1)) w + st) (by omega) (by omega)]
            have := ih (bs_Ts (bs_Tv A B v w) v w st) (bs_sdn w S) (dp + 1) (tm + bs_far A (B (54 + 8 * v + 1)) w + st) (bc_set o dp w) _ (bc_upd m1 20 dp w) (fun h6 => bl_Search_goOn_28 (d + (k + 1) + 2) dp (B (54 + 8 * v + 1)) S tm (w + 1) h6 (bc_U K)) hT dk.1 dk.2 (by omega) (by omega) (fun x x1 x2 x3 x4 => by rw [bc_urow x3, f1 x x4]; exact g1 x x1 x2 x3 x4) (by
              unfold bs_Tb
              rw [bc_urow (by decide), bc_urow (by decide), f1 18 (by decide), f1 19 (by decide)]; exact g2) (fun b b0 b5 => by rw [bc_urow (by decide)]; exact f3 b b0 b5) (fun j j0 j1 => by
              by_cases e : j = dp
              · subst e; rw [bc_uu, bc_setj]
              · rw [bc_uj e, bc_setn e, f1 20 (by decide), g3 j j0 (by omega)]; exact ord j j0 (by omega)) (fun m2 a1 a2 a3 a4 => ihw m2 a1 a2 (fun j j0 j1 => by rw [a3 j j0 (by omega), bc_uj (by omega), f1 20 (by decide)]; exact g3 j j0 j1) (fun y y1 => by rw [a4 y (by omega), bc_urow (by decide), f2 y y1]; exact g4 y y1))
            rw [at'] at this
            exact this
          · rw [if_neg (fun z => ty z.2.2)] at ihw
            exact ihw m1 (fun x x1 x2 x3 x4 => by rw [f1 x x4]; exact g1 x x1 x2 x3 x4) (by
              unfold bs_Tb
              rw [f1 18 (by decide), f1 19 (by decide)]; exact g2) (fun j j0 j1 => by rw [f1 20 (by decide)]; exact g3 j j0 j1) (fun y y1 => by rw [f2 y y1]; exact g4 y y1)
        · rw [if_neg far]
          rw [if_neg (fun z => far z.2.1)] at ihw
          exact ⟨fun _ => ihw g g1 g2 g3 g4, fun z => absurd rfl z⟩
      · rw [if_neg (fun z => b (by rw [z.1]; decide))] at ihw
        exact ihw g g1 g2 g3 g4
