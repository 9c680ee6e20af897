/-! ===== games: the class ===== -/
def bs_Gf (v : Int) (k : Nat) (dp : Int) (B : Int → Int) (w : Int) (r : Int × Int) : Int × Int := if bs_Gn B v dp w then bs_Gb r dp (bs_Gv v k (dp + 1) (bs_pass (bs_Gx B v dp w))).1 w else r
theorem bs_Gv_s (v : Int) (k : Nat) (dp : Int) (B : Int → Int) (h : 0 ≤ B 1) : bs_Gv v (k + 1) dp B = bs_Gf v k dp B (B 1) (bc_it (bs_Gf v k dp B) (0, -1) (B 1)) := by
  show bc_it (bs_Gf v k dp B) (0, -1) (B 1 + 1) = _
  exact bc_its _ _ h
theorem bs_Gf_e (v : Int) (k : Nat) (dp : Int) (B : Int → Int) (r : Int × Int) : bs_Gf v k dp B (B 1) r = bs_Gb r dp (bs_Gv v k (dp + 1) (bs_pass B)).1 (B 1) := by
  unfold bs_Gf; rw [if_pos (Or.inl rfl)]; unfold bs_Gx; rw [if_pos rfl]
theorem bs_Gr_r (v : Int) (k : Nat) (dp : Int) (B : Int → Int) {n : Int} (n0 : 0 ≤ n) : -1 ≤ (bc_it (bs_Gf v k dp B) (0, -1) n).2 ∧ (bc_it (bs_Gf v k dp B) (0, -1) n).2 < n ∨ n = 0 ∧ (bc_it (bs_Gf v k dp B) (0, -1) n).2 = -1 := by
  refine bc_it_ind (fun (n : Int) (r : Int × Int) => -1 ≤ r.2 ∧ r.2 < n ∨ n = 0 ∧ r.2 = -1) (Or.inr ⟨rfl, rfl⟩) (fun i r i0 ih => ?_) n0
  unfold bs_Gf bs_Gb
  split
  · split
    · exact Or.inl ⟨by show -1 ≤ i; omega, by show i < i + 1; omega⟩
    · omega
  · omega
def bs_Gm (A : Int → Int) (v dp : Int) (k : Nat) (B : Int → Int) (m m' : bc_H) : Prop := m' 18 2 = if dp = 0 ∧ k ≠ 0 then (if (bs_Gv v k dp B).2 = A 1 then -1 else (bs_Gv v k dp B).2) else m 18 2
theorem bc_c_guide {d : Nat} {h : bc_H} {A : Int → Int} {c v dp turns : Int} {k : Nat} (hc : 24 ≤ c ∧ c ≤ 130) (hC : bs_C h c A) (hW : bs_W A) (v0 : 0 ≤ v) (v1 : v < A 2) (dp0 : 0 ≤ dp) (dp4 : dp ≤ 3) (even : dp.tmod 2 = 0)
    (IH : ∀ (B : Int → Int) (m : bc_H) (K : Int → bc_H → Prop), bs_GI A v (dp + 1) B → bs_Gc h m c A v (dp + 1) B → m 18 10 = turns → (∀ m', bs_Go m m' (dp + 1) → m' 18 2 = m 18 2 → K (bs_Gv v k (dp + 1) B).1 m') → bf_Search_valueOf d (dp + 1) (B (54 + 8 * v + 1)) (B (54 + 8 * v + 2)) m (bc_I K))
    {B : Int → Int} {m : bc_H} {K : Int → bc_H → Prop} (hI : bs_GI A v dp B) (hG : bs_Gc h m c A v dp B) (ht : m 18 10 = turns) (hK : ∀ m', bs_Go m m' dp → bs_Gm A v dp (k + 1) B m m' → K (bs_Gv v (k + 1) dp B).1 m') : bf_Search_bestOfGuide (d + 2) dp (B (54 + 8 * v + 1)) (B (54 + 8 * v + 2)) m (bc_I K) := by
  obtain ⟨⟨n4, n5, n6, n2, n0, n1, n3⟩, hw, hd, hgg, hff, hmm⟩ := id hC
  have w5 := hI.1.1
  have e1 := hI.2.1
  have w7 := hW.1.2.1
  have q := hI.1.2.2.2.1 v v0 (by omega)
  have qa := q.2.1
  have b10 : 0 ≤ B 1 := by omega
  have key : bs_Gv v (k + 1) dp B = bs_Gb (bc_it (bs_Gf v k dp B) (0, -1) (B 1)) dp (bs_Gv v k (dp + 1) (bs_pass B)).1 (B 1) := by rw [bs_Gv_s v k dp B b10, bs_Gf_e]
  have fin : ∀ (m1 : bc_H) (x4 x5 x6 : Int), bs_Go m m1 dp → m1 18 2 = m 18 2 → ((bc_it (bs_Gf v k dp B) (0, -1) (B 1)).2 = -1 → x6 = 0) → ((bc_it (bs_Gf v k dp B) (0, -1) (B 1)).2 ≠ -1 → x6 ≠ 0 ∧ x4 = (bc_it (bs_Gf v k dp B) (0, -1) (B 1)).1 ∧ x5 = (bc_it (bs_Gf v k dp B) (0, -1) (B 1)).2) → bf_Search_behindMinute (d + 1) dp (B (54 + 8 * v + 1)) (B (54 + 8 * v + 2)) m1 (bc_I (fun y4 h2 => (x6 = 0 → ((dp ≠ 0 → (K y4 h2)) ∧ (dp = 0 → (K y4 (bc_upd h2 18 2 (-1)))))) ∧ (x6 ≠ 0 → ((y4 ≤ x4 → ((dp ≠ 0 → (K x4 h2)) ∧ (dp = 0 → (K x4 (bc_upd h2 18 2 x5))))) ∧ (x4 < y4 → ((dp ≠ 0 → (K y4 h2)) ∧ (dp = 0 → (K y4 (bc_upd h2 18 2 (-1)))))))))) := fun m1 x4 x5 x6 go e2 r1 r2 => by
    have rr := bs_Gr_r v k dp B b10
    refine bc_c_behind hc hw hW v0 v1 dp0 dp4 IH hI (bs_Go_c hG go) (by rw [go.2.1 10 (by decide)]; exact ht) (fun m2 go2 e3 => ?_)
    have go12 := bs_Go_t go go2
    have upd : ∀ z : Int, bs_Go m (bc_upd m2 18 2 z) dp := fun z => ⟨fun x x1 x2 => by rw [bc_urow x1]; exact go12.1 x x1 x2, fun y y1 => by rw [bc_uj y1]; exact go12.2.1 y y1, fun y y1 => by rw [bc_urow (by decide)]; exact go12.2.2 y y1⟩
    have give : ∀ (val mv : Int), bs_Gv v (k + 1) dp B = (val, mv) → (dp ≠ 0 → K val m2) ∧ (dp = 0 → K val (bc_upd m2 18 2 (if mv = A 1 then -1 else mv))) := fun val mv e => by
      have hK' : ∀ m', bs_Go m m' dp → bs_Gm A v dp (k + 1) B m m' → K val m' := fun m' a b => by
        have := hK m' a b
        rw [e] at this; exact this
      unfold bs_Gm at hK'
      rw [e] at hK'
      refine ⟨fun z => hK' m2 go12 ?_, fun z => hK' _ (upd _) ?_⟩
      · rw [if_neg (fun u => z u.1), e3, e2]
      · rw [bc_uu]; exact (if_pos ⟨z, by omega⟩).symm
    unfold bs_Gb at key
    refine ⟨fun z => ?_, fun z => ⟨fun le => ?_, fun lt => ?_⟩⟩
    · have n1' : (bc_it (bs_Gf v k dp B) (0, -1) (B 1)).2 = -1 := Classical.byContradiction (fun u => (r2 u).1 z)
      rw [if_pos (Or.inl n1')] at key
      have := give _ _ key
      rw [if_pos e1.2.1] at this; exact this
    · have n1' : (bc_it (bs_Gf v k dp B) (0, -1) (B 1)).2 ≠ -1 := fun u => z (r1 u)
      obtain ⟨_, a4, a5⟩ := r2 n1'
      rw [a4] at le
      rw [if_neg (by omega)] at key
      have := give (bc_it (bs_Gf v k dp B) (0, -1) (B 1)).1 (bc_it (bs_Gf v k dp B) (0, -1) (B 1)).2 key
      rw [if_neg (by omega)] at this
      rw [a4, a5]; exact this
    · have n1' : (bc_it (bs_Gf v k dp B) (0, -1) (B 1)).2 ≠ -1 := fun u => z (r1 u)
      obtain ⟨_, a4, a5⟩ := r2 n1'
      rw [a4] at lt
      rw [if_pos (Or.inr (Or.inl ⟨even, lt⟩))] at key
      have := give _ _ key
      rw [if_pos e1.2.1] at this; exact this
  have m6 := hG.2.1.1
  have mw : ∀ m1, bs_Go m m1 dp → m1 (c + 3) 0 = A 1 := fun m1 go => by rw [go.1 (c + 3) (by omega) (by omega), hG.1 (c + 3) (by omega) (by omega) (by omega)]; exact n1
  have cant : (B (54 + 8 * v + 2) ≠ 0 ∨ bs_turned B v) → bl_Search_bestOfGuide_23 (d + 2) dp (B (54 + 8 * v + 1)) (B (54 + 8 * v + 2)) (-1) (-1) 0 0 0 m (bc_I K) := fun z => by
    have all : bc_it (bs_Gf v k dp B) (0, -1) (B 1) = (0, -1) := by
      refine bc_it_indB (P := fun _ r => r = ((0 : Int), (-1 : Int))) rfl (fun i r i0 i1 ih => ?_) b10
      unfold bs_Gf
      rw [if_neg (fun u => ?_)]
      · exact ih
      · rcases u with u | u | u
        · omega
        · rcases z with z | z
          · exact z u.2.2.1
          · exact u.2.1 z
        · exact u.1 even
    refine rv_Search_bestOfGuide_23 (d := d + 1) ?_
    rw [m6, mw m (bs_Go_r m dp)]
    have f := fin m (-1) (-1) 0 (bs_Go_r m dp) rfl (fun _ => rfl) (fun u => absurd (by rw [all]) u)
    exact ⟨by omega, fun _ => f, fun _ => ⟨fun _ => f, fun u => absurd rfl u⟩⟩
  refine rv_Search_bestOfGuide (d := d + 1) ⟨fun z => cant (Or.inl z), fun z0 => ?_⟩
  rw [bc_wi (x := dp * 5) (by omega) (by omega)]
  refine bc_c_greatest (by omega) (by omega) (by omega) ?_
  have gr : bs_gr (fun b => m 21 (dp * 5 + b)) = bs_most B v := bs_gr_congr hG.2.2.1
  rw [gr, hG.2.1.2.1, ← hI.2.2.2.2.1]
  refine ⟨fun le => ?_, fun nle => cant (Or.inr (show B (54 + 8 * v) < bs_most B v by omega))⟩
  have nt : ¬ bs_turned B v := fun u => by
    have : B (54 + 8 * v) < bs_most B v := u
    omega
  refine bc_lup (P := fun w => ∀ m1 x4 x5 x6, bs_Go m m1 dp → m1 18 2 = m 18 2 → ((bc_it (bs_Gf v k dp B) (0, -1) w).2 = -1 → x6 = 0) → ((bc_it (bs_Gf v k dp B) (0, -1) w).2 ≠ -1 → x6 ≠ 0 ∧ x4 = (bc_it (bs_Gf v k dp B) (0, -1) w).1 ∧ x5 = (bc_it (bs_Gf v k dp B) (0, -1) w).2) → bl_Search_bestOfGuide_23 (d + 2) dp (B (54 + 8 * v + 1)) (B (54 + 8 * v + 2)) x4 x5 x6 1 w m1 (bc_I K)) (n := B 1) (fun m1 x4 x5 x6 go e2 r1 r2 => ?_) (fun w w0 w1 ih m1 x4 x5 x6 go e2 r1 r2 => ?_) (Int.le_refl 0) b10 m (-1) (-1) 0 (bs_Go_r m dp) rfl (fun _ => rfl) (fun u => absurd rfl u)
  · refine rv_Search_bestOfGuide_23 (d := d + 1) ?_
    rw [go.2.1 6 (by decide), m6, mw m1 go]
    exact ⟨by omega, fun _ => fin m1 x4 x5 x6 go e2 r1 r2, fun u => absurd u (by omega)⟩
  · rw [bc_its _ _ w0] at ih
    have rr := bs_Gr_r v k dp B w0
    have cm : m1 (c + 3 + 3) (B (54 + 8 * v + 1) * 7 + w) = if bs_way B (B (54 + 8 * v + 1)) w < 1000000 then bs_way B (B (54 + 8 * v + 1)) w else 0 := by
      rw [go.1 (c + 3 + 3) (by omega) (by omega), hG.1 (c + 3 + 3) (by omega) (by omega) (by omega), bs_GI_way hW hI]
      exact (hd _ w qa.1 (by omega) w0 (by omega)).1
    have wr := (bs_way_r hI.1.2.2.1 (by have := hI.1.1.2.2.2.2.2.2; omega) (B (54 + 8 * v + 1)) w).1
    refine rv_Search_bestOfGuide_23 (d := d + 1) ?_
    rw [go.2.1 6 (by decide), m6, mw m1 go, bc_wi (x := B (54 + 8 * v + 1) * 7) (by omega) (by omega), bc_wi (x := B (54 + 8 * v + 1) * 7 + w) (by omega) (by omega), cm, bc_wi (x := w + 1) (by omega) (by omega)]
    refine ⟨by omega, fun u => absurd u (by omega), fun _ => ⟨fun u => absurd u (by decide), fun _ => ⟨by omega, by omega, fun z => ?_, fun z => ?_⟩⟩⟩
    · have no : ¬ bs_Gn B v dp w := fun u => by
        rcases u with u | u | u
        · omega
        · rw [if_pos u.2.2.2] at z; omega
        · exact u.1 even
      have ef : bs_Gf v k dp B w (bc_it (bs_Gf v k dp B) (0, -1) w) = bc_it (bs_Gf v k dp B) (0, -1) w := if_neg no
      rw [ef] at ih
      exact ih m1 x4 x5 x6 go e2 r1 r2
    · have far : bs_way B (B (54 + 8 * v + 1)) w < 1000000 := Classical.byContradiction (fun u => by rw [if_neg u] at z; omega)
      rw [if_pos far]
      have yes : bs_Gn B v dp w := Or.inr (Or.inl ⟨even, nt, z0, far⟩)
      have can : bs_can B v w := ⟨nt, z0, far⟩
      have hX := bs_GI_l hI v0 v1 w0 (by omega) can
      have ex : bs_Gx B v dp w = bs_lead B v w := by unfold bs_Gx; rw [if_neg (by omega), if_pos even]
      have ea : bs_lead B v w (54 + 8 * v + 1) = w := bs_lead_a
      have eg : bs_lead B v w (54 + 8 * v + 2) = bs_way B (B (54 + 8 * v + 1)) w := bs_lead_g
      have ef : bs_Gf v k dp B w (bc_it (bs_Gf v k dp B) (0, -1) w) = bs_Gb (bc_it (bs_Gf v k dp B) (0, -1) w) dp (bs_Gv v k (dp + 1) (bs_pass (bs_lead B v w))).1 w := by
        unfold bs_Gf; rw [if_pos yes, ex]
      rw [ef] at ih
      have gc := bs_Go_c hG go
      have beh := bc_c_behind (K := fun y22 h20 => (x6 = 0 → (bl_Search_bestOfGuide_23 (d + 2) dp (B (54 + 8 * v + 1)) (B (54 + 8 * v + 2)) y22 w 1 1 (w + 1) h20 (bc_I K))) ∧ (x6 ≠ 0 → ((y22 ≤ x4 → (bl_Search_bestOfGuide_23 (d + 2) dp (B (54 + 8 * v + 1)) (B (54 + 8 * v + 2)) x4 x5 x6 1 (w + 1) h20 (bc_I K))) ∧ (x4 < y22 → (bl_Search_bestOfGuide_23 (d + 2) dp (B (54 + 8 * v + 1)) (B (54 + 8 * v + 2)) y22 w 1 1 (w + 1) h20 (bc_I K)))))) hc hw hW v0 v1 dp0 dp4 IH hX (m := m1) ⟨gc.1, gc.2.1, fun b b0 b5 => by rw [bs_lead_n (by omega) (by omega)]; exact gc.2.2.1 b b0 b5, fun u u0 u1 n => by
        rw [bs_lead_n (by omega) (by omega)] at n ⊢
        exact gc.2.2.2 u u0 u1 n⟩ (by rw [go.2.1 10 (by decide)]; exact ht) (fun m2 go2 e3 => by
          have go12 := bs_Go_t go go2
          have e23 : m2 18 2 = m 18 2 := by rw [e3, e2]
          unfold bs_Gb at ih
          refine ⟨fun z => ?_, fun z => ⟨fun le => ?_, fun lt => ?_⟩⟩
          · have n1' : (bc_it (bs_Gf v k dp B) (0, -1) w).2 = -1 := Classical.byContradiction (fun u => (r2 u).1 z)
            rw [if_pos (Or.inl n1')] at ih
            exact ih m2 _ _ _ go12 e23 (fun u => absurd u (by show ¬ w = -1; omega)) (fun _ => ⟨by decide, rfl, rfl⟩)
          · have n1' : (bc_it (bs_Gf v k dp B) (0, -1) w).2 ≠ -1 := fun u => z (r1 u)
            have a := r2 n1'
            rw [if_neg (by rw [← a.2.1]; omega)] at ih
            exact ih m2 _ _ _ go12 e23 r1 r2
          · have n1' : (bc_it (bs_Gf v k dp B) (0, -1) w).2 ≠ -1 := fun u => z (r1 u)
            have a := r2 n1'
            rw [if_pos (Or.inr (Or.inl ⟨even, by rw [← a.2.1]; exact lt⟩))] at ih
            exact ih m2 _ _ _ go12 e23 (fun u => absurd u (by show ¬ w = -1; omega)) (fun _ => ⟨by decide, rfl, rfl⟩))
      rw [ea, eg] at beh
      exact beh
theorem bs_pt_9 {B : Int → Int} {w : Int} (h : 9 ≤ B (10 + 2 * w + 1)) (h2 : B (10 + 2 * w + 1) ≤ 9) : bs_pt B w = B := bc_setself (by rw [if_neg (by omega)]; omega)
theorem bc_c_beast {d : Nat} {h : bc_H} {A : Int → Int} {c v dp turns : Int} {k : Nat} (hc : 24 ≤ c ∧ c ≤ 130) (hC : bs_C h c A) (hW : bs_W A) (v0 : 0 ≤ v) (v1 : v < A 2) (dp0 : 0 ≤ dp) (dp4 : dp ≤ 3) (odd : dp.tmod 2 ≠ 0)
    (IH : ∀ (B : Int → Int) (m : bc_H) (K : Int → bc_H → Prop), bs_GI A v (dp + 1) B → bs_Gc h m c A v (dp + 1) B → m 18 10 = turns → (∀ m', bs_Go m m' (dp + 1) → m' 18 2 = m 18 2 → K (bs_Gv v k (dp + 1) B).1 m') → bf_Search_valueOf d (dp + 1) (B (54 + 8 * v + 1)) (B (54 + 8 * v + 2)) m (bc_I K))
    {B : Int → Int} {m : bc_H} {K : Int → bc_H → Prop} (hI : bs_GI A v dp B) (hG : bs_Gc h m c A v dp B) (ht : m 18 10 = turns) (hK : ∀ m', bs_Go m m' dp → m' 18 2 = m 18 2 → K (bs_Gv v (k + 1) dp B).1 m') : bf_Search_bestOfBeast (d + 2) dp (B (54 + 8 * v + 1)) (B (54 + 8 * v + 2)) m (bc_I K) := by
  obtain ⟨⟨n4, n5, n6, n2, n0, n1, n3⟩, hw, hd, hgg, hff, hmm⟩ := id hC
  have w5 := hI.1.1
  have e1 := hI.2.1
  have w7 := hW.1.2.1
  have b10 : 0 ≤ B 1 := by omega
  have key : bs_Gv v (k + 1) dp B = bs_Gb (bc_it (bs_Gf v k dp B) (0, -1) (B 1)) dp (bs_Gv v k (dp + 1) (bs_pass B)).1 (B 1) := by rw [bs_Gv_s v k dp B b10, bs_Gf_e]
  refine rv_Search_bestOfBeast (d := d + 1) (bc_c_behind hc hw hW v0 v1 dp0 dp4 IH hI hG ht (fun m0 go0 e0 => ?_))
  generalize ex0 : (bs_Gv v k (dp + 1) (bs_pass B)).1 = x0 at key ⊢
  refine bc_lup (P := fun w => ∀ m1 y, bs_Go m m1 dp → m1 18 2 = m 18 2 → ((bc_it (bs_Gf v k dp B) (0, -1) w).2 = -1 → y = x0) → ((bc_it (bs_Gf v k dp B) (0, -1) w).2 ≠ -1 → y = if (bc_it (bs_Gf v k dp B) (0, -1) w).1 < x0 then (bc_it (bs_Gf v k dp B) (0, -1) w).1 else x0) → bl_Search_bestOfBeast_8 (d + 2) dp (B (54 + 8 * v + 1)) (B (54 + 8 * v + 2)) y w m1 (bc_I K)) (n := B 1) (fun m1 y go e2 r1 r2 => ?_) (fun w w0 w1 ih m1 y go e2 r1 r2 => ?_) (Int.le_refl 0) b10 m0 x0 go0 e0 (fun _ => rfl) (fun u => absurd rfl u)
  · refine rv_Search_bestOfBeast_8 (d := d + 1) ?_
    rw [go.2.1 6 (by decide), hG.2.1.1, go.1 (c + 3) (by omega) (by omega), hG.1 (c + 3) (by omega) (by omega) (by omega), n1]
    refine ⟨by omega, fun _ => ?_, fun u => absurd u (by omega)⟩
    have ev : y = (bs_Gv v (k + 1) dp B).1 := by
      rw [key]
      unfold bs_Gb
      by_cases z : (bc_it (bs_Gf v k dp B) (0, -1) (B 1)).2 = -1
      · rw [if_pos (Or.inl z)]; exact r1 z
      · rw [r2 z]
        by_cases lt : x0 < (bc_it (bs_Gf v k dp B) (0, -1) (B 1)).1
        · rw [if_pos (Or.inr (Or.inr ⟨odd, lt⟩))]
          show (if _ < x0 then _ else x0) = x0
          split <;> omega
        · rw [if_neg (show ¬ ((bc_it (bs_Gf v k dp B) (0, -1) (B 1)).2 = -1 ∨ (dp.tmod 2 = 0 ∧ (bc_it (bs_Gf v k dp B) (0, -1) (B 1)).1 < x0) ∨ (dp.tmod 2 ≠ 0 ∧ x0 < (bc_it (bs_Gf v k dp B) (0, -1) (B 1)).1)) by omega)]
          split <;> omega
    rw [ev]; exact hK m1 go e2
  · rw [bc_its _ _ w0] at ih
    have bw := hI.2.2.2.1 w w0 (by omega)
    have wl : m1 (c + 3 + 1) w = B (10 + 2 * w) := by
      rw [go.1 (c + 3 + 1) (by omega) (by omega), hG.1 (c + 3 + 1) (by omega) (by omega) (by omega), (hw w w0 (by omega)).1, bw]
    have qw := hI.1.2.1 w w0 (by omega)
    refine rv_Search_bestOfBeast_8 (d := d + 1) ?_
    rw [go.2.1 6 (by decide), hG.2.1.1, go.1 (c + 3) (by omega) (by omega), hG.1 (c + 3) (by omega) (by omega) (by omega), n1, wl, bc_wi (x := w + 1) (by omega) (by omega)]
    refine ⟨by omega, fun u => absurd u (by omega), fun _ => ⟨by omega, by omega, fun z => ?_, fun z => ?_⟩⟩
    · have no : ¬ bs_Gn B v dp w := fun u => by
        rcases u with u | u | u
        · omega
        · exact odd u.1
        · exact u.2 z
      have ef : bs_Gf v k dp B w (bc_it (bs_Gf v k dp B) (0, -1) w) = bc_it (bs_Gf v k dp B) (0, -1) w := if_neg no
      rw [ef] at ih
      exact ih m1 y go e2 r1 r2
    · have yes : bs_Gn B v dp w := Or.inr (Or.inr ⟨odd, z⟩)
      have ex : bs_Gx B v dp w = bs_pt B w := by unfold bs_Gx; rw [if_neg (by omega), if_neg odd]
      have ef : bs_Gf v k dp B w (bc_it (bs_Gf v k dp B) (0, -1) w) = bs_Gb (bc_it (bs_Gf v k dp B) (0, -1) w) dp (bs_Gv v k (dp + 1) (bs_pass (bs_pt B w))).1 w := by
        unfold bs_Gf; rw [if_pos yes, ex]
      rw [ef] at ih
      have gc := bs_Go_c hG go
      have p22 := gc.2.2.2 w w0 (by omega) z
      rw [p22]
      refine ⟨by omega, fun nine => ?_, fun lt9 => ⟨by omega, by omega, ?_⟩⟩
      · rw [bs_pt_9 nine qw.2.2.2, ex0] at ih
        refine ih m1 y go e2 (fun u => ?_) (fun u => ?_)
        · unfold bs_Gb at u
          split at u
          · have : w = -1 := u
            omega
          · exact r1 u
        · unfold bs_Gb
          by_cases zz : (bc_it (bs_Gf v k dp B) (0, -1) w).2 = -1
          · rw [if_pos (Or.inl zz), r1 zz]
            show x0 = if x0 < x0 then x0 else x0
            split <;> rfl
          · rw [r2 zz]
            by_cases lt : x0 < (bc_it (bs_Gf v k dp B) (0, -1) w).1
            · rw [if_pos (Or.inr (Or.inr ⟨odd, lt⟩))]
              show (if _ < x0 then _ else x0) = if x0 < x0 then x0 else x0
              (repeat' split) <;> omega
            · rw [if_neg (show ¬ ((bc_it (bs_Gf v k dp B) (0, -1) w).2 = -1 ∨ (dp.tmod 2 = 0 ∧ (bc_it (bs_Gf v k dp B) (0, -1) w).1 < x0) ∨ (dp.tmod 2 ≠ 0 ∧ x0 < (bc_it (bs_Gf v k dp B) (0, -1) w).1)) by omega)]
      · rw [bc_wi (x := B (10 + 2 * w + 1) + 1) (by omega) (by omega)]
        have hX := bs_GI_p hI v0 w0 (by omega)
        have ep : bs_pt B w (10 + 2 * w + 1) = B (10 + 2 * w + 1) + 1 := by
          unfold bs_pt; rw [bc_setj]; split <;> omega
        have beh := bc_c_behind (K := fun y6 h4 => (0 ≤ w ∧ w < 7) ∧ (0 ≤ w ∧ w < 7) ∧ bl_Search_bestOfBeast_8 (d + 2) dp (B (54 + 8 * v + 1)) (B (54 + 8 * v + 2)) (if y6 < y then y6 else y) (w + 1) (bc_upd h4 22 w (bc_w32 ((h4 22 w) - 1))) (bc_I K)) hc hw hW v0 v1 dp0 dp4 IH hX (m := bc_upd m1 22 w (B (10 + 2 * w + 1) + 1)) ⟨fun x x1 x2 x3 => by rw [bc_urow x3]; exact gc.1 x x1 x2 x3, by rw [bc_urow (by decide)]; exact gc.2.1, fun b b0 b5 => by rw [bc_urow (by decide), bs_pt_n (by omega)]; exact gc.2.2.1 b b0 b5, fun u u0 u1 n => by
          rw [bs_pt_n (by omega)] at n
          by_cases e : u = w
          · subst e; rw [bc_uu, ep]
          · rw [bc_uj e, bs_pt_n (by omega)]; exact gc.2.2.2 u u0 u1 n⟩ (by rw [bc_urow (by decide), go.2.1 10 (by decide)]; exact ht) (fun m2 go2 e3 => by
            have e22 : m2 22 = bc_upd m1 22 w (B (10 + 2 * w + 1) + 1) 22 := go2.1 22 (by decide) (by decide)
            refine ⟨by omega, by omega, ?_⟩
            rw [e22, bc_uu, bc_wi (x := B (10 + 2 * w + 1) + 1 - 1) (by omega) (by omega)]
            have go3 : bs_Go m (bc_upd m2 22 w (B (10 + 2 * w + 1) + 1 - 1)) dp := ⟨fun x x1 x2 => by
              by_cases e : x = 22
              · subst e
                rw [← go.1 22 x1 x2]
                funext j
                by_cases ej : j = w
                · subst ej; rw [bc_uu, p22]; omega
                · rw [bc_uj ej, e22, bc_uj ej]
              · rw [bc_urow e, go2.1 x x1 x2, bc_urow e]; exact go.1 x x1 x2, fun j j1 => by rw [bc_urow (by decide), go2.2.1 j j1, bc_urow (by decide)]; exact go.2.1 j j1, fun j j1 => by rw [bc_urow (by decide), go2.2.2 j j1, bc_urow (by decide)]; exact go.2.2 j j1⟩
            refine ih _ _ go3 (by rw [bc_urow (by decide), e3, bc_urow (by decide)]; exact e2) (fun u => ?_) (fun u => ?_)
            · unfold bs_Gb at u
              split at u
              · have : w = -1 := u
                omega
              · rename_i nn
                exact absurd (Or.inl u) nn
            · unfold bs_Gb
              by_cases zz : (bc_it (bs_Gf v k dp B) (0, -1) w).2 = -1
              · rw [if_pos (Or.inl zz), r1 zz]
              · rw [r2 zz]
                by_cases lt : (bs_Gv v k (dp + 1) (bs_pass (bs_pt B w))).1 < (bc_it (bs_Gf v k dp B) (0, -1) w).1
                · rw [if_pos (Or.inr (Or.inr ⟨odd, lt⟩))]
                  show (if _ < (if _ < x0 then _ else x0) then _ else _) = if _ < x0 then _ else x0
                  (repeat' split) <;> omega
                · rw [if_neg (show ¬ ((bc_it (bs_Gf v k dp B) (0, -1) w).2 = -1 ∨ (dp.tmod 2 = 0 ∧ (bc_it (bs_Gf v k dp B) (0, -1) w).1 < (bs_Gv v k (dp + 1) (bs_pass (bs_pt B w))).1) ∨ (dp.tmod 2 ≠ 0 ∧ (bs_Gv v k (dp + 1) (bs_pass (bs_pt B w))).1 < (bc_it (bs_Gf v k dp B) (0, -1) w).1)) by omega)]
                  (repeat' split) <;> omega)
        rw [bs_pt_n (by omega), bs_pt_n (by omega)] at beh
        exact beh
theorem bc_c_value {d : Nat} {h : bc_H} {A : Int → Int} {c v turns : Int} (hc : 24 ≤ c ∧ c ≤ 130) (hC : bs_C h c A) (hW : bs_W A) (v0 : 0 ≤ v) (v1 : v < A 2) (t4 : turns ≤ 4) : ∀ (k : Nat) (dp : Int) (B : Int → Int) (m : bc_H) (K : Int → bc_H → Prop), bs_GI A v dp B → (0 ≤ dp ∧ dp + k = turns) → bs_Gc h m c A v dp B → m 18 10 = turns → (∀ m', bs_Go m m' dp → bs_Gm A v dp k B m m' → K (bs_Gv v k dp B).1 m') → bf_Search_valueOf (bs_dd d k) dp (B (54 + 8 * v + 1)) (B (54 + 8 * v + 2)) m (bc_I K) := by
  intro k
  induction k with
  | zero =>
    intro dp B m K hI hdp hG ht hK
    have q := hI.1.2.2.2.1 v v0 (by have := hI.2.1; omega)
    refine rv_Search_valueOf (d := d) ?_
    rw [ht]
    refine ⟨fun z => absurd z (by omega), fun _ => ?_⟩
    rw [bc_wi (x := dp * 5) (by omega) (by omega)]
    refine bc_c_greatest (by omega) (by omega) (by omega) ?_
    have gr : bs_gr (fun b => m 21 (dp * 5 + b)) = bs_most B v := bs_gr_congr hG.2.2.1
    have gl : 0 ≤ bs_most B v ∧ bs_most B v ≤ 99 := ⟨bs_most_nn, bs_gr_le (by omega) (fun b b0 b5 => (q.2.2.2 b b0 b5).1.2)⟩
    rw [gr, hG.2.1.2.1, ← hI.2.2.2.2.1, bc_wi (x := B (54 + 8 * v) - bs_most B v) (by omega) (by omega)]
    exact hK m (bs_Go_r m dp) (if_neg (fun u => u.2 rfl)).symm
  | succ k ih =>
    intro dp B m K hI hdp hG ht hK
    have IH : ∀ (B' : Int → Int) (m : bc_H) (K : Int → bc_H → Prop), bs_GI A v (dp + 1) B' → bs_Gc h m c A v (dp + 1) B' → m 18 10 = turns → (∀ m', bs_Go m m' (dp + 1) → m' 18 2 = m 18 2 → K (bs_Gv v k (dp + 1) B').1 m') → bf_Search_valueOf (bs_dd d k) (dp + 1) (B' (54 + 8 * v + 1)) (B' (54 + 8 * v + 2)) m (bc_I K) := fun B' m K a b e f => ih (dp + 1) B' m K a (by omega) b e (fun m' o gm => f m' o (by
      unfold bs_Gm at gm
      rw [if_neg (by omega)] at gm; exact gm))
    refine rv_Search_valueOf (d := bs_dd d k + 2) ?_
    rw [ht]
    refine ⟨fun _ => ⟨fun odd => ?_, fun even => ?_⟩, fun z => absurd z (by omega)⟩
    · refine bc_c_beast (d := bs_dd d k) hc hC hW v0 v1 hdp.1 (by omega) odd IH hI hG ht (fun m' o e => hK m' o ?_)
      have dn : dp ≠ 0 := fun e => odd (by rw [e]; rfl)
      unfold bs_Gm
      rw [if_neg (fun u => dn u.1)]; exact e
    · exact bc_c_guide (d := bs_dd d k) hc hC hW v0 v1 hdp.1 (by omega) even IH hI hG ht (fun m' o e => hK m' o e)
theorem bc_c_playGame {d : Nat} {h : bc_H} {A : Int → Int} {c v turns : Int} {K : Int → bc_H → Prop} (hc : 24 ≤ c ∧ c ≤ 130) (hC : bs_C h c A) (hW : bs_W A) (hck : 0 ≤ A 6 ∧ A 6 ≤ 9999) (v0 : 0 ≤ v) (v1 : v < A 2) (t0 : 0 ≤ turns) (t4 : turns ≤ 4) (hK : ∀ m, (∀ x, ¬ (18 ≤ x ∧ x ≤ 22) → m x = h x) → (m 18 2 = if turns = 0 ∨ (bs_Gv v turns.toNat 0 A).2 = A 1 then -1 else (bs_Gv v turns.toNat 0 A).2) → K (bs_Gv v turns.toNat 0 A).1 m) : bf_Search_playGame (d + 14) c v turns h (bc_I K) := by
  have w2 := hW.1.2.2.1
  have w7 := hW.1.2.1
  refine rv_Search_playGame (d := d + 13) (bc_c_start (d := d + 12) hc hC hW v0 v1 (fun m m1 m2 m3 m4 => ?_))
  rw [m3.1]
  refine ⟨by omega, by omega, by omega, ?_⟩
  rw [if_neg (show ¬ 4 < turns by omega)]
  generalize eM : bc_blk (bc_upd (bc_upd m 18 10 turns) 18 2 (-1)) (c + 3 + 2) 0 22 0 7 = M
  have Mx : ∀ x, x ≠ 18 → x ≠ 22 → M x = m x := fun x x1 x2 => by rw [← eM, bc_br x2, bc_urow x1, bc_urow x1]
  have M18 : ∀ y, y ≠ 10 → y ≠ 2 → M 18 y = m 18 y := fun y y1 y2 => by rw [← eM, bc_br (by decide), bc_uj y2, bc_uj y1]
  have M10 : M 18 10 = turns := by rw [← eM, bc_br (by decide), bc_uj (by decide), bc_uu]
  have M2 : M 18 2 = -1 := by rw [← eM, bc_br (by decide), bc_uu]
  have M22 : ∀ w, 0 ≤ w → w < 7 → M 22 w = h (c + 3 + 2) w := fun w a b => by rw [← eM, bc_bi (by omega) (by omega), bc_urow (by omega), bc_urow (by omega), m1 _ (by omega) (by omega), show 0 + (w - 0) = w by omega]
  have cm := hC.2.2.2.2.2 v v0 v1
  rw [Mx (c + 14) (by omega) (by omega), Mx (c + 15) (by omega) (by omega), m1 (c + 14) (by omega) (by omega), m1 (c + 15) (by omega) (by omega), cm.2.1, cm.2.2.1]
  obtain ⟨d0, e⟩ : ∃ d0, d + 13 = bs_dd d0 turns.toNat := ⟨d + 12 - 3 * turns.toNat, by rw [bs_dd_e]; omega⟩
  rw [e]
  have w4 := hW.1.2.2.2.2.1
  refine bc_c_value hc hC hW v0 v1 t4 turns.toNat 0 A M _ ⟨hW, ⟨rfl, rfl, rfl, rfl⟩, fun _ _ _ => rfl, fun _ _ _ => rfl, rfl, by split <;> omega, by omega⟩ (by omega) ⟨fun x x1 x2 x3 => by rw [Mx x x1 x3]; exact m1 x x1 x2, by rw [M18 6 (by decide) (by decide), M18 7 (by decide) (by decide), M18 8 (by decide) (by decide)]; exact m3, fun b b0 b5 => by rw [Mx 21 (by decide) (by decide), show 0 * 5 + b = b by omega]; exact m4 b b0 b5, fun w a b n => by rw [M22 w a (by omega)]; exact (hC.2.1 w a b).2 n⟩ M10 (fun m' o gm => hK m' (fun x hx => by rw [o.1 x (by omega) (by omega), Mx x (by omega) (by omega)]; exact m1 x (by omega) (by omega)) ?_)
  unfold bs_Gm at gm
  rw [gm, M2]
  by_cases z : turns = 0
  · rw [if_neg (by omega), if_pos (Or.inl z)]
  · rw [if_pos ⟨rfl, by omega⟩]
    by_cases u : (bs_Gv v turns.toNat 0 A).2 = A 1
    · rw [if_pos u, if_pos (Or.inr u)]
    · rw [if_neg u, if_neg (by omega)]
