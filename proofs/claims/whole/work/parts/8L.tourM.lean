/-! ===== tours: the reference ===== -/
def bs_a160 (X B : Int → Int) : Prop := ∀ k, 0 ≤ k → k < 160 → X k = B k
theorem bs_a160_W {X B : Int → Int} (h : bs_a160 X B) (hW : bs_W B) : bs_W X := bs_W_A hW (fun k k0 k1 _ _ => h k k0 k1)
theorem bs_a160_lk {X B : Int → Int} (h : bs_a160 X B) (v be p n : Int) : bs_a160 (bs_lk X v be p n) (bs_lk B v be p n) := fun k k0 k1 => by
  unfold bs_lk; rw [h k k0 k1]
theorem bs_a160_t {X B : Int → Int} (h : bs_a160 X B) {v : Int} (v0 : 0 ≤ v) (v6 : v < 6) : bs_turned X v ↔ bs_turned B v := by
  have e : bs_most X v = bs_most B v := bs_gr_congr (fun b b0 b5 => h _ (by omega) (by omega))
  show X (54 + 8 * v) < bs_most X v ↔ B (54 + 8 * v) < bs_most B v
  rw [e, h _ (by omega) (by omega)]
theorem bc_m_looksAtX {d : Nat} {v w : Int} {m : bc_H} {X : Int → Int} {K : bc_H → Prop} (eX : m 157 = X) (h0 : 0 ≤ v) (h6 : v < 6) (hb : 0 ≤ X 0 ∧ X 0 ≤ 5) (hw : w = -1 ∨ (0 ≤ w ∧ w < 7 ∧ -1 ≤ X (10 + 2 * w) ∧ (X (10 + 2 * w) ≠ -1 → 0 ≤ X (10 + 2 * w + 1) ∧ X (10 + 2 * w + 1) ≤ 9))) (hm : ∀ b, 0 ≤ b → b < 5 → 0 ≤ X (54 + 8 * v + 3 + b) ∧ X (54 + 8 * v + 3 + b) ≤ 99) (hK : K (bc_row m 157 (bs_lk X v (if w = -1 then -1 else X (10 + 2 * w)) (X (10 + 2 * w + 1)) (X 0)))) : bf_M_looksAt (d + 2) v w m (bc_U K) := by
  have t := bc_m_looksAt (d := d) (h := m) h0 h6 hb hw hm hK
  rw [← eX, bc_rself] at t; exact t
theorem bs_lk_p {B : Int → Int} {v p p' n : Int} : bs_lk B v (-1) p n = bs_lk B v (-1) p' n := by
  funext k; unfold bs_lk
  by_cases z : 54 + 8 * v + 3 ≤ k ∧ k < 54 + 8 * v + 3 + n
  · rw [if_pos z, if_pos z]; exact bs_chg_n (Or.inl (by omega))
  · rw [if_neg z, if_neg z]
theorem bc_m_visits {d : Nat} {v w st : Int} {m : bc_H} {A B : Int → Int} {P N : bc_H → Prop} (hW : bs_W A) (v0 : 0 ≤ v) (v1 : v < A 2) (w0 : 0 ≤ w) (w1 : w < A 1) (st0 : 0 ≤ st) (st9 : st ≤ 9) (hI : bs_TI A v B) (hX : bs_a160 (m 157) B) (hF : bs_ag (A 1) (m 165) (bs_farR A))
    (hP : bs_far A (B (54 + 8 * v + 1)) w < 1000000 → bs_Ty (bs_Tv A B v w) v w st = 1 → ∀ m' : bc_H, (∀ x, x ≠ 157 → m' x = m x) → (∀ k, k < 0 ∨ 160 ≤ k → m' 157 k = m 157 k) → bs_a160 (m' 157) (bs_Ts (bs_Tv A B v w) v w st) → P m')
    (hN : ¬ (bs_far A (B (54 + 8 * v + 1)) w < 1000000 ∧ bs_Ty (bs_Tv A B v w) v w st = 1) → ∀ m' : bc_H, (∀ x, x ≠ 157 → m' x = m x) → (∀ k, k < 0 ∨ 160 ≤ k → m' 157 k = m 157 k) → N m') : bf_M_visits (d + 6) v w st m (bc_B P N) := by
  have w2 := hW.1.2.2.1
  have w5 := hW.1.1
  have w7 := hW.1.2.1
  have eI := bs_TI_0 hI v0
  have q := hI.1.2.2.2.1 v v0 (by rw [eI.2.2.1]; exact v1)
  have qa := q.2.1
  have fr := bs_far_r hW q.2.1.1 (by rw [← eI.2.1]; exact q.2.1.2) w0 w1
  have ea : m 157 (54 + 8 * v + 1) = B (54 + 8 * v + 1) := hX _ (by omega) (by omega)
  have ef : m 165 (7 * B (54 + 8 * v + 1) + w) = bs_far A (B (54 + 8 * v + 1)) w := hF _ _ qa.1 (by rw [← eI.2.1]; exact qa.2) w0 w1
  refine rv_M_visits (d := d + 4) ?_
  rw [bc_wi (x := 8 * v) (by omega) (by omega), bc_wi (x := 54 + 8 * v) (by omega) (by omega), bc_wi (x := 54 + 8 * v + 1) (by omega) (by omega), ea, bc_wi (x := 7 * B (54 + 8 * v + 1)) (by omega) (by omega), bc_wi (x := 7 * B (54 + 8 * v + 1) + w) (by omega) (by omega), ef]
  refine ⟨by omega, by omega, fun far => ?_, fun nf => hN (fun z => absurd z.1 (by omega)) m (fun _ _ => rfl) (fun _ _ => rfl)⟩
  refine bc_lup (P := fun i => ∀ g : bc_H, (∀ x, x ≠ 157 → g x = m x) → (∀ k, k < 0 ∨ 160 ≤ k → g 157 k = m 157 k) → bs_a160 (g 157) (bs_Tl B v i) → bl_M_visits_19 (d + 6) v w st (bs_far A (B (54 + 8 * v + 1)) w) i g (bc_B P N)) (n := bs_far A (B (54 + 8 * v + 1)) w) (fun g g1 g2 g3 => ?_) (fun i i0 i1 ih g g1 g2 g3 => ?_) (Int.le_refl 0) fr.1 m (fun _ _ => rfl) (fun _ _ => rfl) hX
  · refine rv_M_visits_19 (d := d + 4) ⟨fun _ => ?_, fun z => absurd z (by omega)⟩
    rw [bc_wi (x := 8 * v) (by omega) (by omega), bc_wi (x := 54 + 8 * v) (by omega) (by omega), bc_wi (x := 54 + 8 * v + 1) (by omega) (by omega)]
    refine ⟨by omega, ?_⟩
    have hT : bs_TI A v (bs_Tv A B v w) := bs_Tv_I (w := w) hI v0 v1 w0 w1 fr.1
    have aT : bs_a160 (bc_upd g 157 (54 + 8 * v + 1) w 157) (bs_Ts (bs_Tv A B v w) v w 0) := fun k k0 k1 => by
      show _ = bc_set (bs_Tl B v _) _ _ k
      by_cases e : k = 54 + 8 * v + 1
      · subst e; rw [bc_uu, bc_setj]
      · rw [bc_uj e, bc_setn e]; exact g3 k k0 k1
    refine bc_lup (P := fun i => ∀ g' : bc_H, (∀ x, x ≠ 157 → g' x = m x) → (∀ k, k < 0 ∨ 160 ≤ k → g' 157 k = m 157 k) → bs_a160 (g' 157) (bs_Ts (bs_Tv A B v w) v w i) → (∀ j, 0 ≤ j → j < i → ¬ bs_turned (bs_Ts (bs_Tv A B v w) v w (j + 1)) v) → bl_M_visits_38 (d + 6) v w st i g' (bc_B P N)) (n := st) (fun g' b1 b2 b3 b4 => ?_) (fun i i0 i1 ih g' b1 b2 b3 b4 => ?_) (Int.le_refl 0) st0 _ (fun x x1 => by rw [bc_urow x1]; exact g1 x x1) (fun k hk => by rw [bc_uj (by omega)]; exact g2 k hk) aT (fun j j0 j1 => absurd j1 (by omega))
    · exact rv_M_visits_38 (d := d + 4) ⟨fun _ => hP far (bs_Ty_1 _ _ _ st0 b4) g' b1 b2 b3, fun z => absurd z (by omega)⟩
    · have hTi := bs_Ts_I hW hT v0 v1 w0 w1 i0
      have ew := bs_TI_w hW hTi v0 w0 w1
      have eT := bs_TI_0 hTi v0
      have mq := hTi.1.2.2.2.1 v v0 (by rw [eT.2.2.1]; exact v1)
      have c0 : g' 157 0 = bs_Ts (bs_Tv A B v w) v w i 0 := b3 0 (by omega) (by omega)
      have cw : g' 157 (10 + 2 * w) = bs_Ts (bs_Tv A B v w) v w i (10 + 2 * w) := b3 _ (by omega) (by omega)
      have cp : g' 157 (10 + 2 * w + 1) = bs_Ts (bs_Tv A B v w) v w i (10 + 2 * w + 1) := b3 _ (by omega) (by omega)
      refine rv_M_visits_38 (d := d + 4) ⟨fun z => absurd z (by omega), fun _ => ?_⟩
      refine bc_m_looksAtX (d := d + 3) rfl v0 (by omega) (by rw [c0, eT.1]; exact w5) (Or.inr ⟨w0, by omega, by rw [cw, ew.1.1]; omega, fun _ => by rw [cp, ew.1.2]; omega⟩) (fun b b0 b5 => ?_) ?_
      · rw [b3 _ (by omega) (by omega), show 54 + 8 * v + 3 + b = 54 + 8 * v + (3 + b) by omega]
        exact (mq.2.2.2 b b0 b5).1
      · rw [if_neg (by omega), c0, cw, cp]
        have hT1 := bs_Ts_I hW hT v0 v1 w0 w1 (show 0 ≤ i + 1 by omega)
        have eT1 := bs_TI_0 hT1 v0
        have aT1 : bs_a160 (bs_lk (g' 157) v (bs_Ts (bs_Tv A B v w) v w i (10 + 2 * w)) (bs_Ts (bs_Tv A B v w) v w i (10 + 2 * w + 1)) (bs_Ts (bs_Tv A B v w) v w i 0)) (bs_Ts (bs_Tv A B v w) v w (i + 1)) := by
          rw [bs_Ts_s _ _ _ i0]; exact bs_a160_lk b3 _ _ _ _
        have b2' : ∀ k, k < 0 ∨ 160 ≤ k → bs_lk (g' 157) v (bs_Ts (bs_Tv A B v w) v w i (10 + 2 * w)) (bs_Ts (bs_Tv A B v w) v w i (10 + 2 * w + 1)) (bs_Ts (bs_Tv A B v w) v w i 0) k = m 157 k := fun k hk => by rw [bs_lk_n (by omega)]; exact b2 k hk
        have c2 : bs_lk (g' 157) v (bs_Ts (bs_Tv A B v w) v w i (10 + 2 * w)) (bs_Ts (bs_Tv A B v w) v w i (10 + 2 * w + 1)) (bs_Ts (bs_Tv A B v w) v w i 0) 2 = A 2 := by rw [aT1 2 (by omega) (by omega)]; exact eT1.2.2.1
        refine bc_m_isTurned (d := d + 1) (bs_rr _ _ _) (bs_a160_W aT1 hT1.1) v0 (by rw [c2]; exact v1) (fun tu => ?_) (fun nt => ?_)
        · refine hN (fun z => ?_) _ (fun x x1 => by rw [bc_rn x1]; exact b1 x x1) (fun k hk => by rw [bs_rr]; exact b2' k hk)
          have zz := z.2
          rw [bs_Ty_0 _ _ _ i0 i1 ((bs_a160_t aT1 v0 (by omega)).1 tu)] at zz
          exact absurd zz (by decide)
        · rw [bc_wi (x := i + 1) (by omega) (by omega)]
          refine ih _ (fun x x1 => by rw [bc_rn x1]; exact b1 x x1) (fun k hk => by rw [bs_rr]; exact b2' k hk) (by rw [bs_rr]; exact aT1) (fun j j0 j1 => ?_)
          by_cases e : j = i
          · subst e; exact fun u => nt ((bs_a160_t aT1 v0 (by omega)).2 u)
          · exact b4 j j0 (by omega)
  · have hTi := bs_Tl_I hI v0 v1 i0
    have eT := bs_TI_0 hTi v0
    have mq := hTi.1.2.2.2.1 v v0 (by rw [eT.2.2.1]; exact v1)
    have c0 : g 157 0 = bs_Tl B v i 0 := g3 0 (by omega) (by omega)
    refine rv_M_visits_19 (d := d + 4) ⟨fun z => absurd z (by omega), fun _ => ?_⟩
    refine bc_m_looksAtX (d := d + 3) rfl v0 (by omega) (by rw [c0, eT.1]; exact w5) (Or.inl rfl) (fun b b0 b5 => ?_) ?_
    · rw [g3 _ (by omega) (by omega), show 54 + 8 * v + 3 + b = 54 + 8 * v + (3 + b) by omega]
      exact (mq.2.2.2 b b0 b5).1
    · rw [if_pos rfl, c0, bs_lk_p (p' := 0), bc_wi (x := i + 1) (by omega) (by omega)]
      refine ih _ (fun x x1 => by rw [bc_rn x1]; exact g1 x x1) (fun k hk => by rw [bs_rr, bs_lk_n (by omega)]; exact g2 k hk) ?_
      rw [bs_rr, bs_Tl_s _ _ i0]
      exact bs_a160_lk g3 _ _ _ _
theorem bc_m_isTried {d : Nat} {dp : Int} {m : bc_H} {P N : bc_H → Prop} (dp0 : 0 ≤ dp) (dp5 : dp < 6) (hP : (∃ j, 0 ≤ j ∧ j < dp ∧ m 166 j = m 166 dp) → P m) (hN : (∀ j, 0 ≤ j → j < dp → m 166 j ≠ m 166 dp) → N m) : bf_M_isTried d dp m (bc_B P N) := by
  refine rv_M_isTried ?_
  refine bc_lup (P := fun i => (∀ j, 0 ≤ j → j < i → m 166 j ≠ m 166 dp) → bl_M_isTried_2 d dp i m (bc_B P N)) (n := dp) (fun a => ?_) (fun i i0 i1 ih a => ?_) (Int.le_refl 0) dp0 (fun j j0 j1 => absurd j1 (by omega))
  · exact rv_M_isTried_2 ⟨fun _ => hN a, fun z => absurd z (by omega)⟩
  · refine rv_M_isTried_2 ⟨fun z => absurd z (by omega), fun _ => ⟨by omega, by omega, fun ne => ?_, fun e => hP ⟨i, i0, i1, e⟩⟩⟩
    rw [bc_wi (x := i + 1) (by omega) (by omega)]
    refine ih (fun j j0 j1 => ?_)
    by_cases e : j = i
    · subst e; exact ne
    · exact a j j0 (by omega)
/-- the reference's memory while tours are tried -/
def bs_Tm (h m : bc_H) (A : Int → Int) (many : Int) (r : Int × (Int → Int)) : Prop := (∀ x, x ≠ 156 → x ≠ 157 → x ≠ 165 → x ≠ 166 → x ≠ 167 → x ≠ 168 → m x = h x) ∧ (∀ y, y ≠ 28 → m 156 y = h 156 y) ∧ bs_ag (A 1) (m 165) (bs_farR A) ∧ m 156 28 = r.1 ∧ (r.1 ≠ -1 → ∀ j, 0 ≤ j → j < many → m 168 j = r.2 j)
def bs_TL (d : Nat) (h : bc_H) (A : Int → Int) (v S0 st many : Int) (k : Nat) : Prop := ∀ (B : Int → Int) (S dp tm : Int) (o : Int → Int) (r : Int × (Int → Int)) (m : bc_H) (K : bc_H → Prop), bs_TI A v B → (0 ≤ S ∧ S < 128) → (0 ≤ dp ∧ dp + (k + 1) = many) → (0 ≤ tm ∧ tm ≤ dp * 1000009) → bs_Tm h m A many r → (∀ q, 0 ≤ q → q < 160 → m 157 (3168 + 160 * dp + q) = B q) → m 166 dp = -1 → m 167 dp = tm → (∀ j, 0 ≤ j → j < dp → m 166 j = o j) → (∀ w, 0 ≤ w → w < A 1 → (bc_and (bc_shr S w) 1 = 1 ↔ bc_and (bc_shr S0 w) 1 = 1 ∧ ∀ j, 0 ≤ j → j < dp → o j ≠ w)) →
  (∀ m', bs_Tm h m' A many (bs_Tg A v st (k + 1) B S dp tm o r) → (∀ q, (160 ≤ q ∧ q < 3168 + 160 * dp) ∨ q < 0 → m' 157 q = m 157 q) → (∀ q, 0 ≤ q → q < 160 → m' 157 (3168 + 160 * dp + q) = B q) → (∀ j, 0 ≤ j → j < dp → m' 166 j = m 166 j ∧ m' 167 j = m 167 j) → bl_M_laysTour_28 (d + 7) v S0 st many (dp - 1) m' (bc_U K)) → bl_M_laysTour_28 (d + 7) v S0 st many dp m (bc_U K)
theorem bs_dn_b {S w u : Int} (S0 : 0 ≤ S) (S1 : S < 128) (w0 : 0 ≤ w) (w7 : w < 7) (u0 : 0 ≤ u) (u7 : u < 7) : bc_and (bc_shr (bs_sdn w S) u) 1 = 1 ↔ bc_and (bc_shr S u) 1 = 1 ∧ w ≠ u := by
  have key : ∀ s : Nat, s < 128 → ∀ w : Nat, w < 7 → ∀ u : Nat, u < 7 → (bc_and (bc_shr (bs_sdn (w : Int) (s : Int)) (u : Int)) 1 = 1 ↔ bc_and (bc_shr (s : Int) (u : Int)) 1 = 1 ∧ (w : Int) ≠ (u : Int)) := by decide +kernel
  have t := key S.toNat (by omega) w.toNat (by omega) u.toNat (by omega)
  rw [show ((S.toNat : Nat) : Int) = S by omega, show ((w.toNat : Nat) : Int) = w by omega, show ((u.toNat : Nat) : Int) = u by omega] at t
  exact t
theorem bc_m_tourStep {d : Nat} {h : bc_H} {A : Int → Int} {v S0 st many : Int} (hW : bs_W A) (v0 : 0 ≤ v) (v1 : v < A 2) (st0 : 0 ≤ st) (st9 : st ≤ 9) (mn : many ≤ 5) (k : Nat) (IH : ∀ k', k = k' + 1 → bs_TL d h A v S0 st many k') : bs_TL d h A v S0 st many k := by
  intro B S dp tm o r m K hI hS hdp htm hm rec0 tr0 ca0 ord sets hK
  have w2 := hW.1.2.2.1
  have w7 := hW.1.2.1
  have eI := bs_TI_0 hI v0
  have q := hI.1.2.2.2.1 v v0 (by rw [eI.2.2.1]; exact v1)
  have qa := q.2.1
  have ee : bs_Tg A v st (k + 1) B S dp tm o r = bc_it (fun w r => if bc_and (bc_shr S w) 1 = 1 ∧ bs_far A (B (54 + 8 * v + 1)) w < 1000000 ∧ bs_Ty (bs_Tv A B v w) v w st = 1 then bs_Tg A v st k (bs_Ts (bs_Tv A B v w) v w st) (bs_sdn w S) (dp + 1) (tm + bs_far A (B (54 + 8 * v + 1)) w + st) (bc_set o dp w) r else r) r (A 1) := rfl
  rw [ee] at hK
  refine bc_lup (P := fun w => ∀ g, bs_Tm h g A many (bc_it (fun w r => if bc_and (bc_shr S w) 1 = 1 ∧ bs_far A (B (54 + 8 * v + 1)) w < 1000000 ∧ bs_Ty (bs_Tv A B v w) v w st = 1 then bs_Tg A v st k (bs_Ts (bs_Tv A B v w) v w st) (bs_sdn w S) (dp + 1) (tm + bs_far A (B (54 + 8 * v + 1)) w + st) (bc_set o dp w) r else r) r w) → (∀ q, (160 ≤ q ∧ q < 3168 + 160 * dp) ∨ q < 0 → g 157 q = m 157 q) → (∀ q, 0 ≤ q → q < 160 → g 157 (3168 + 160 * dp + q) = B q) → g 166 dp = w - 1 → g 167 dp = tm → (∀ j, 0 ≤ j → j < dp → g 166 j = m 166 j ∧ g 167 j = m 167 j) → bl_M_laysTour_28 (d + 7) v S0 st many dp g (bc_U K)) (n := A 1) (fun g g1 g2 g3 g4 g5 g6 => ?_) (fun w w0 w1 ih g g1 g2 g3 g4 g5 g6 => ?_) (Int.le_refl 0) w7.1 m hm (fun _ _ => rfl) rec0 tr0 ca0 (fun _ _ _ => ⟨rfl, rfl⟩)
  · -- all walls tried
    refine rv_M_laysTour_28 (d := d + 5) ⟨fun z => absurd z (by omega), fun _ => ⟨fun z => absurd z (by omega), fun _ => ?_⟩⟩
    rw [bc_wi (x := 160 * dp) (by omega) (by omega), bc_wi (x := 3168 + 160 * dp) (by omega) (by omega)]
    refine bc_m_restoresX rfl (by omega) (by omega) ?_
    have x1 : bc_row g 157 (bs_rs (g 157) (3168 + 160 * dp) 160) 157 1 = A 1 := by
      rw [bs_rr]; unfold bs_rs; rw [if_pos (by omega), g3 1 (by omega) (by omega)]; exact eI.2.1
    have x166 : bc_row g 157 (bs_rs (g 157) (3168 + 160 * dp) 160) 166 = g 166 := bc_rn (by decide)
    rw [x1, x166, g4, bc_uu, bc_wi (x := A 1 - 1 + 1) (by omega) (by omega), bc_wi (x := dp + -1) (by omega) (by omega)]
    refine ⟨by omega, by omega, by omega, fun z => absurd (by omega) z, fun _ => ?_⟩
    refine hK _ ⟨fun x y1 y2 y3 y4 y5 y6 => by rw [bc_urow y4, bc_rn y2]; exact g1.1 x y1 y2 y3 y4 y5 y6, fun y hy => by rw [bc_urow (by decide), bc_rn (by decide)]; exact g1.2.1 y hy, by rw [bc_urow (by decide), bc_rn (by decide)]; exact g1.2.2.1, by rw [bc_urow (by decide), bc_rn (by decide)]; exact g1.2.2.2.1, by rw [bc_urow (by decide), bc_rn (by decide)]; exact g1.2.2.2.2⟩ (fun q hq => by rw [bc_urow (by decide), bs_rr, show bs_rs (g 157) (3168 + 160 * dp) 160 q = g 157 q from if_neg (by omega)]; exact g2 q hq) (fun q q0 q1 => by rw [bc_urow (by decide), bs_rr, show bs_rs (g 157) (3168 + 160 * dp) 160 (3168 + 160 * dp + q) = g 157 (3168 + 160 * dp + q) from if_neg (by omega)]; exact g3 q q0 q1) (fun j j0 j1 => by rw [bc_uj (by omega), bc_rn (by decide), bc_urow (by decide), bc_rn (by decide)]; exact g6 j j0 j1)
  · rw [bc_its _ _ w0] at ih
    have fr := bs_far_r hW qa.1 (by rw [← eI.2.1]; exact qa.2) w0 w1
    refine rv_M_laysTour_28 (d := d + 5) ⟨fun z => absurd z (by omega), fun _ => ⟨fun z => absurd z (by omega), fun _ => ?_⟩⟩
    rw [bc_wi (x := 160 * dp) (by omega) (by omega), bc_wi (x := 3168 + 160 * dp) (by omega) (by omega)]
    refine bc_m_restoresX rfl (by omega) (by omega) ?_
    have x157 : bs_a160 (bs_rs (g 157) (3168 + 160 * dp) 160) B := fun k k0 k1 => by
      unfold bs_rs; rw [if_pos (by omega)]; exact g3 k k0 k1
    have y157 : ∀ q, q < 0 ∨ 160 ≤ q → bs_rs (g 157) (3168 + 160 * dp) 160 q = g 157 q := fun q hq => if_neg (by omega)
    have x166 : bc_row g 157 (bs_rs (g 157) (3168 + 160 * dp) 160) 166 = g 166 := bc_rn (by decide)
    rw [x166, g4, bc_uu, bc_wi (x := w - 1 + 1) (by omega) (by omega), show w - 1 + 1 = w by omega, bs_rr, x157 1 (by omega) (by omega), eI.2.1]
    -- the memory now
    generalize eG : bc_upd (bc_row g 157 (bs_rs (g 157) (3168 + 160 * dp) 160)) 166 dp w = G
    have G157 : G 157 = bs_rs (g 157) (3168 + 160 * dp) 160 := by rw [← eG, bc_urow (by decide), bs_rr]
    have Gx : ∀ x, x ≠ 157 → x ≠ 166 → G x = g x := fun x x1 x2 => by rw [← eG, bc_urow x2, bc_rn x1]
    have G166 : ∀ j, j ≠ dp → G 166 j = g 166 j := fun j hj => by rw [← eG, bc_uj hj, bc_rn (by decide)]
    have G166d : G 166 dp = w := by rw [← eG, bc_uu]
    have skip : ¬ (bc_and (bc_shr S w) 1 = 1 ∧ bs_far A (B (54 + 8 * v + 1)) w < 1000000 ∧ bs_Ty (bs_Tv A B v w) v w st = 1) → ∀ m' : bc_H, (∀ x, x ≠ 157 → m' x = G x) → (∀ q, q < 0 ∨ 160 ≤ q → m' 157 q = G 157 q) → bl_M_laysTour_28 (d + 7) v S0 st many dp m' (bc_U K) := fun no m' f1 f2 => by
      rw [if_neg no] at ih
      refine ih m' ⟨fun x y1 y2 y3 y4 y5 y6 => by rw [f1 x y2, Gx x y2 y4]; exact g1.1 x y1 y2 y3 y4 y5 y6, fun y hy => by rw [f1 156 (by decide), Gx 156 (by decide) (by decide)]; exact g1.2.1 y hy, by rw [f1 165 (by decide), Gx 165 (by decide) (by decide)]; exact g1.2.2.1, by rw [f1 156 (by decide), Gx 156 (by decide) (by decide)]; exact g1.2.2.2.1, by rw [f1 168 (by decide), Gx 168 (by decide) (by decide)]; exact g1.2.2.2.2⟩ (fun q hq => by rw [f2 q (by omega), G157, y157 q (by omega)]; exact g2 q hq) (fun q q0 q1 => by rw [f2 _ (by omega), G157, y157 _ (by omega)]; exact g3 q q0 q1) (by rw [f1 166 (by decide), G166d]; omega) (by rw [f1 167 (by decide), Gx 167 (by decide) (by decide)]; exact g5) (fun j j0 j1 => by rw [f1 166 (by decide), f1 167 (by decide), G166 j (by omega), Gx 167 (by decide) (by decide)]; exact g6 j j0 j1)
    have setw := sets w w0 w1
    refine ⟨by omega, by omega, by omega, fun _ => ⟨fun b0 => ?_, fun b0 => skip (fun z => b0 (setw.1 z.1).1) G (fun _ _ => rfl) (fun _ _ => rfl)⟩, fun z => absurd z (by omega)⟩
    refine bc_m_isTried hdp.1 (by omega) (fun ⟨j, j0, j1, je⟩ => ?_) (fun nt => ?_)
    · refine skip (fun z => ?_) G (fun _ _ => rfl) (fun _ _ => rfl)
      refine (setw.1 z.1).2 j j0 j1 ?_
      rw [← ord j j0 j1, ← (g6 j j0 j1).1, ← G166 j (by omega), je, G166d]
    · have bit : bc_and (bc_shr S w) 1 = 1 := setw.2 ⟨b0, fun j j0 j1 e => nt j j0 j1 (by rw [G166 j (by omega), (g6 j j0 j1).1, ord j j0 j1, e, G166d])⟩
      have ga : G 157 (54 + 8 * v + 1) = B (54 + 8 * v + 1) := by rw [G157]; exact x157 _ (by omega) (by omega)
      have gf : G 165 (7 * B (54 + 8 * v + 1) + w) = bs_far A (B (54 + 8 * v + 1)) w := by
        rw [Gx 165 (by decide) (by decide)]
        exact g1.2.2.1 _ _ qa.1 (by rw [← eI.2.1]; exact qa.2) w0 w1
      have gc : G 167 dp = tm := by rw [Gx 167 (by decide) (by decide)]; exact g5
      rw [bc_wi (x := 8 * v) (by omega) (by omega), bc_wi (x := 54 + 8 * v) (by omega) (by omega), bc_wi (x := 54 + 8 * v + 1) (by omega) (by omega), ga, bc_wi (x := 7 * B (54 + 8 * v + 1)) (by omega) (by omega), bc_wi (x := 7 * B (54 + 8 * v + 1) + w) (by omega) (by omega), gf, gc, bc_wi (x := tm + bs_far A (B (54 + 8 * v + 1)) w) (by omega) (by omega), bc_wi (x := tm + bs_far A (B (54 + 8 * v + 1)) w + st) (by omega) (by omega), bc_wi (x := dp + 1) (by omega) (by omega)]
      refine ⟨by omega, by omega, by omega, ?_⟩
      refine bc_m_visits (d := d) hW v0 v1 w0 w1 st0 st9 hI (by rw [G157]; exact x157) (by rw [Gx 165 (by decide) (by decide)]; exact g1.2.2.1) (fun far ty m1 f1 f2 f3 => ?_) (fun no m1 f1 f2 => skip (fun z => no z.2) m1 f1 f2)
      rw [if_pos ⟨bit, far, ty⟩] at ih
      have Tm1 : ∀ (rr : Int × (Int → Int)) (m' : bc_H), (∀ x, x ≠ 156 → x ≠ 157 → x ≠ 166 → x ≠ 167 → x ≠ 168 → m' x = G x) → (∀ y, y ≠ 28 → m' 156 y = G 156 y) → m' 156 28 = rr.1 → (rr.1 ≠ -1 → ∀ j, 0 ≤ j → j < many → m' 168 j = rr.2 j) → bs_Tm h m' A many rr := fun rr m' a1 a2 a3 a4 => ⟨fun x y1 y2 y3 y4 y5 y6 => by rw [a1 x y1 y2 y4 y5 y6, Gx x y2 y4]; exact g1.1 x y1 y2 y3 y4 y5 y6, fun y hy => by rw [a2 y hy, Gx 156 (by decide) (by decide)]; exact g1.2.1 y hy, by rw [a1 165 (by decide) (by decide) (by decide) (by decide) (by decide), Gx 165 (by decide) (by decide)]; exact g1.2.2.1, a3, a4⟩
      have r28 : m1 156 28 = (bc_it (fun w r => if bc_and (bc_shr S w) 1 = 1 ∧ bs_far A (B (54 + 8 * v + 1)) w < 1000000 ∧ bs_Ty (bs_Tv A B v w) v w st = 1 then bs_Tg A v st k (bs_Ts (bs_Tv A B v w) v w st) (bs_sdn w S) (dp + 1) (tm + bs_far A (B (54 + 8 * v + 1)) w + st) (bc_set o dp w) r else r) r w).1 := by rw [f1 156 (by decide), Gx 156 (by decide) (by decide)]; exact g1.2.2.2.1
      generalize eR : bc_it (fun w r => if bc_and (bc_shr S w) 1 = 1 ∧ bs_far A (B (54 + 8 * v + 1)) w < 1000000 ∧ bs_Ty (bs_Tv A B v w) v w st = 1 then bs_Tg A v st k (bs_Ts (bs_Tv A B v w) v w st) (bs_sdn w S) (dp + 1) (tm + bs_far A (B (54 + 8 * v + 1)) w + st) (bc_set o dp w) r else r) r w = rw0 at ih r28 g1
      refine ⟨fun leaf => ?_, fun deep => ?_⟩
      · have k0 : k = 0 := by omega
        subst k0
        have ee0 : bs_Tg A v st 0 (bs_Ts (bs_Tv A B v w) v w st) (bs_sdn w S) (dp + 1) (tm + bs_far A (B (54 + 8 * v + 1)) w + st) (bc_set o dp w) rw0 = if rw0.1 = -1 ∨ tm + bs_far A (B (54 + 8 * v + 1)) w + st < rw0.1 then (tm + bs_far A (B (54 + 8 * v + 1)) w + st, bc_set o dp w) else rw0 := rfl
        rw [ee0] at ih
        have take : (rw0.1 = -1 ∨ tm + bs_far A (B (54 + 8 * v + 1)) w + st < rw0.1) → ∀ h17 : bc_H, h17 = bc_upd m1 156 28 (tm + bs_far A (B (54 + 8 * v + 1)) w + st) → bl_M_laysTour_127 (d + 7) v S0 st many dp 0 h17 (bc_U K) := fun z h17 e17 => by
          rw [if_pos z] at ih
          refine bc_lup (P := fun i => ∀ g' : bc_H, (∀ x, x ≠ 168 → g' x = h17 x) → (∀ j, 0 ≤ j → j < i → g' 168 j = h17 166 j) → bl_M_laysTour_127 (d + 7) v S0 st many dp i g' (bc_U K)) (n := many) (fun g' b1 b2 => ?_) (fun i i0 i1 ihi g' b1 b2 => ?_) (Int.le_refl 0) (by omega) h17 (fun _ _ => rfl) (fun j j0 j1 => absurd j1 (by omega))
          · refine rv_M_laysTour_127 (d := d + 5) ⟨fun _ => ?_, fun u => absurd u (by omega)⟩
            refine ih g' (Tm1 _ g' (fun x x1 x2 x3 x4 x5 => by rw [b1 x x5, e17, bc_urow x1, f1 x x2]) (fun y hy => by rw [b1 156 (by decide), e17, bc_uj hy, f1 156 (by decide)]) (by rw [b1 156 (by decide), e17, bc_uu]) (fun _ j j0 j1 => ?_)) (fun q hq => by rw [b1 157 (by decide), e17, bc_urow (by decide), f2 q (by omega), G157, y157 q (by omega)]; exact g2 q hq) (fun q q0 q1 => by rw [b1 157 (by decide), e17, bc_urow (by decide), f2 _ (by omega), G157, y157 _ (by omega)]; exact g3 q q0 q1) (by rw [b1 166 (by decide), e17, bc_urow (by decide), f1 166 (by decide), G166d]; omega) (by rw [b1 167 (by decide), e17, bc_urow (by decide), f1 167 (by decide)]; exact gc) (fun j j0 j1 => by rw [b1 166 (by decide), b1 167 (by decide), e17, bc_urow (by decide), bc_urow (by decide), f1 166 (by decide), f1 167 (by decide), G166 j (by omega), Gx 167 (by decide) (by decide)]; exact g6 j j0 j1)
            rw [b2 j j0 j1, e17, bc_urow (by decide), f1 166 (by decide)]
            show G 166 j = bc_set o dp w j
            by_cases e : j = dp
            · subst e; rw [G166d, bc_setj]
            · rw [G166 j e, bc_setn e, (g6 j j0 (by omega)).1]; exact ord j j0 (by omega)
          · refine rv_M_laysTour_127 (d := d + 5) ⟨fun u => absurd u (by omega), fun _ => ⟨by omega, by omega, ?_⟩⟩
            rw [bc_wi (x := i + 1) (by omega) (by omega)]
            refine ihi _ (fun x x1 => by rw [bc_urow x1]; exact b1 x x1) (fun j j0 j1 => ?_)
            by_cases e : j = i
            · subst e; rw [bc_uu, b1 166 (by decide)]
            · rw [bc_uj e]; exact b2 j j0 (by omega)
        rw [r28]
        refine ⟨fun z => take (Or.inl z), fun z => ⟨fun le => ?_, fun lt => take (Or.inr lt)⟩⟩
        rw [if_neg (by omega)] at ih
        exact ih m1 (Tm1 _ m1 (fun x x1 x2 x3 x4 x5 => f1 x x2) (fun y hy => by rw [f1 156 (by decide)]) r28 (by rw [f1 168 (by decide), Gx 168 (by decide) (by decide)]; exact g1.2.2.2.2)) (fun q hq => by rw [f2 q (by omega), G157, y157 q (by omega)]; exact g2 q hq) (fun q q0 q1 => by rw [f2 _ (by omega), G157, y157 _ (by omega)]; exact g3 q q0 q1) (by rw [f1 166 (by decide), G166d]; omega) (by rw [f1 167 (by decide)]; exact gc) (fun j j0 j1 => by rw [f1 166 (by decide), f1 167 (by decide), G166 j (by omega), Gx 167 (by decide) (by decide)]; exact g6 j j0 j1)
      · obtain ⟨k', rfl⟩ : ∃ k', k = k' + 1 := ⟨k - 1, by omega⟩
        rw [bc_wi (x := 160 * (dp + 1)) (by omega) (by omega), bc_wi (x := 3168 + 160 * (dp + 1)) (by omega) (by omega)]
        refine bc_m_keepsX rfl (by omega) (by omega) ⟨by omega, by omega, fun h24 e24 => ?_⟩
        have hT0 : bs_TI A v (bs_Tv A B v w) := bs_Tv_I (w := w) hI v0 v1 w0 w1 fr.1
        have hT := bs_Ts_I hW hT0 v0 v1 w0 w1 st0
        have dr := bs_dn_r (f := w) (s := S) w0 (by omega) hS.1 (by omega)
        have z157 : ∀ q, h24 157 q = bs_kp (m1 157) (3168 + 160 * (dp + 1)) 160 q := fun q => by rw [e24, bc_urow (by decide), bc_urow (by decide), bs_rr]
        have zx : ∀ x, x ≠ 157 → x ≠ 166 → x ≠ 167 → h24 x = m1 x := fun x x1 x2 x3 => by rw [e24, bc_urow x3, bc_urow x2, bc_rn x1]
        have z166 : ∀ j, j ≠ dp + 1 → h24 166 j = m1 166 j := fun j hj => by rw [e24, bc_urow (by decide), bc_uj hj, bc_rn (by decide)]
        have z167 : ∀ j, j ≠ dp + 1 → h24 167 j = m1 167 j := fun j hj => by rw [e24, bc_uj hj, bc_urow (by decide), bc_rn (by decide)]
        have low : ∀ q, (160 ≤ q ∧ q < 3168 + 160 * (dp + 1)) ∨ q < 0 → h24 157 q = g 157 q := fun q hq => by
          rw [z157 q, show bs_kp (m1 157) (3168 + 160 * (dp + 1)) 160 q = m1 157 q from if_neg (by omega), f2 q (by omega), G157, y157 q (by omega)]
        refine IH k' rfl (bs_Ts (bs_Tv A B v w) v w st) (bs_sdn w S) (dp + 1) (tm + bs_far A (B (54 + 8 * v + 1)) w + st) (bc_set o dp w) rw0 h24 K hT ⟨dr.1, ?_⟩ (by omega) (by omega) (Tm1 _ h24 (fun x x1 x2 x3 x4 x5 => by rw [zx x x2 x3 x4, f1 x x2]) (fun y hy => by rw [zx 156 (by decide) (by decide) (by decide), f1 156 (by decide)]) (by rw [zx 156 (by decide) (by decide) (by decide)]; exact r28) (by rw [zx 168 (by decide) (by decide) (by decide), f1 168 (by decide), Gx 168 (by decide) (by decide)]; exact g1.2.2.2.2)) (fun q q0 q1 => ?_) (by rw [e24, bc_urow (by decide), bc_uu]) (by rw [e24, bc_uu]) (fun j j0 j1 => ?_) (fun u u0 u1 => ?_) (fun m2 a1 a2 _ a3 => ?_)
        · by_cases e : bs_sdn w S = S
          · omega
          · have := (bs_ud w0 (by omega) hS.1 (by omega)).1 bit
            omega
        · rw [z157, show bs_kp (m1 157) (3168 + 160 * (dp + 1)) 160 (3168 + 160 * (dp + 1) + q) = m1 157 (3168 + 160 * (dp + 1) + q - (3168 + 160 * (dp + 1))) from if_pos (by omega), show 3168 + 160 * (dp + 1) + q - (3168 + 160 * (dp + 1)) = q by omega]
          exact f3 q q0 q1
        · rw [z166 j (by omega), f1 166 (by decide)]
          by_cases e : j = dp
          · subst e; rw [G166d, bc_setj]
          · rw [G166 j e, bc_setn e, (g6 j j0 (by omega)).1]; exact ord j j0 (by omega)
        · rw [bs_dn_b hS.1 hS.2 w0 (by omega) u0 (by omega), sets u u0 u1]
          constructor
          · intro z
            refine ⟨z.1.1, fun j j0 j1 => ?_⟩
            by_cases e : j = dp
            · subst e; rw [bc_setj]; exact z.2
            · rw [bc_setn e]; exact z.1.2 j j0 (by omega)
          · intro z
            refine ⟨⟨z.1, fun j j0 j1 => ?_⟩, ?_⟩
            · have := z.2 j j0 (by omega)
              rw [bc_setn (by omega)] at this; exact this
            · have := z.2 dp hdp.1 (by omega)
              rw [bc_setj] at this; exact this
        · rw [show dp + 1 - 1 = dp by omega]
          have a3d := a3 dp hdp.1 (by omega)
          refine ih m2 a1 (fun q hq => by rw [a2 q (by omega), low q (by omega)]; exact g2 q hq) (fun q q0 q1 => by rw [a2 _ (by omega), low _ (by omega)]; exact g3 q q0 q1) (by rw [a3d.1, z166 dp (by omega), f1 166 (by decide), G166d]; omega) (by rw [a3d.2, z167 dp (by omega), f1 167 (by decide)]; exact gc) (fun j j0 j1 => by
            have a3j := a3 j j0 (by omega)
            rw [a3j.1, a3j.2, z166 j (by omega), z167 j (by omega), f1 166 (by decide), f1 167 (by decide), G166 j (by omega), Gx 167 (by decide) (by decide)]; exact g6 j j0 j1)
theorem bc_m_tourL {d : Nat} {h : bc_H} {A : Int → Int} {v S0 st many : Int} (hW : bs_W A) (v0 : 0 ≤ v) (v1 : v < A 2) (st0 : 0 ≤ st) (st9 : st ≤ 9) (mn : many ≤ 5) : ∀ k : Nat, bs_TL d h A v S0 st many k := by
  intro k
  induction k with
  | zero => exact bc_m_tourStep hW v0 v1 st0 st9 mn 0 (fun k' e => absurd e (by omega))
  | succ k ih => exact bc_m_tourStep hW v0 v1 st0 st9 mn (k + 1) (fun k' e => by
      have : k' = k := by omega
      subst this; exact ih)
