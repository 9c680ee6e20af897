/-! ===== games ===== -/
abbrev bs_Gn (B : Int → Int) (v dp w : Int) : Prop := w = B 1 ∨ (dp.tmod 2 = 0 ∧ ¬ bs_turned B v ∧ B (54 + 8 * v + 2) = 0 ∧ bs_way B (B (54 + 8 * v + 1)) w < 1000000) ∨ (dp.tmod 2 ≠ 0 ∧ B (10 + 2 * w) ≠ -1)
def bs_pt (B : Int → Int) (w : Int) : Int → Int := bc_set B (10 + 2 * w + 1) (if B (10 + 2 * w + 1) + 1 < 9 then B (10 + 2 * w + 1) + 1 else 9)
def bs_Gx (B : Int → Int) (v dp w : Int) : Int → Int := if w = B 1 then B else if dp.tmod 2 = 0 then bs_lead B v w else bs_pt B w
def bs_Gb (r : Int × Int) (dp x w : Int) : Int × Int := if r.2 = -1 ∨ (dp.tmod 2 = 0 ∧ r.1 < x) ∨ (dp.tmod 2 ≠ 0 ∧ x < r.1) then (x, w) else r
def bs_Gv (v : Int) : Nat → Int → (Int → Int) → Int × Int
  | 0, _, B => (B (54 + 8 * v) - bs_most B v, -1)
  | k + 1, dp, B => bc_it (fun w r => if bs_Gn B v dp w then bs_Gb r dp (bs_Gv v k (dp + 1) (bs_pass (bs_Gx B v dp w))).1 w else r) (0, -1) (B 1 + 1)
def bs_GI (A : Int → Int) (v dp : Int) (B : Int → Int) : Prop := bs_W B ∧ (B 0 = A 0 ∧ B 1 = A 1 ∧ B 2 = A 2 ∧ B 7 = A 7) ∧ (∀ k, 24 ≤ k → k < 54 → B k = A k) ∧ (∀ w, 0 ≤ w → w < A 1 → B (10 + 2 * w) = A (10 + 2 * w)) ∧ B (54 + 8 * v) = A (54 + 8 * v) ∧ B 4 = (if dp < A 4 then A 4 - dp else 0) ∧ (0 ≤ B 6 ∧ B 6 ≤ 9999 + dp)
theorem bs_GI_way {A B : Int → Int} {v dp : Int} (hW : bs_W A) (h : bs_GI A v dp B) (a b : Int) : bs_way B a b = bs_way A a b := bs_way_congr ⟨h.2.1.2.1, h.2.1.2.2.2, h.2.2.1⟩ hW.1.2.2.2.2.2.2 a b
theorem bs_GI_l {A B : Int → Int} {v dp w : Int} (h : bs_GI A v dp B) (v0 : 0 ≤ v) (v1 : v < A 2) (w0 : 0 ≤ w) (w1 : w < A 1) (c : bs_can B v w) : bs_GI A v dp (bs_lead B v w) := by
  obtain ⟨g1, ⟨g2, g3, g4, g5⟩, g6, g7, g8, g9, g10⟩ := h
  have w7 := g1.1.2.1
  have e : ∀ k, k ≠ 54 + 8 * v + 1 → k ≠ 54 + 8 * v + 2 → bs_lead B v w k = B k := fun k a b => bs_lead_n a b
  refine ⟨bs_W_lead g1 v0 (by omega) w0 (by omega) c, ⟨by rw [e 0 (by omega) (by omega)]; exact g2, by rw [e 1 (by omega) (by omega)]; exact g3, by rw [e 2 (by omega) (by omega)]; exact g4, by rw [e 7 (by omega) (by omega)]; exact g5⟩, fun k a b => by rw [e k (by omega) (by omega)]; exact g6 k a b, fun u a b => by rw [e _ (by omega) (by omega)]; exact g7 u a b, by rw [e _ (by omega) (by omega)]; exact g8, by rw [e 4 (by omega) (by omega)]; exact g9, by rw [e 6 (by omega) (by omega)]; exact g10⟩
theorem bs_pt_n {B : Int → Int} {w k : Int} (h : k ≠ 10 + 2 * w + 1) : bs_pt B w k = B k := bc_setn h
theorem bs_W_pt {B : Int → Int} {w : Int} (hW : bs_W B) (w0 : 0 ≤ w) (w1 : w < B 1) : bs_W (bs_pt B w) := by
  obtain ⟨⟨w0', w1', w2, w3, w4, w5, w7⟩, hw, hy, hv, hf, hg⟩ := hW
  have e : ∀ k, k ≠ 10 + 2 * w + 1 → bs_pt B w k = B k := fun k hk => bs_pt_n hk
  refine ⟨?_, fun u u0 u1 => ?_, bs_WY_p w7.2 ⟨e _ (by omega), e _ (by omega), fun k _ _ => e k (by omega)⟩ hy, bs_WV_p w2.2 (e _ (by omega)) (e _ (by omega)) (e _ (by omega)) (fun k _ _ => e k (by omega)) hv, bs_WF_p w3.2 (e _ (by omega)) (e _ (by omega)) (fun k _ _ => e k (by omega)) hf, bs_WG_p w0'.2 (e _ (by omega)) (fun k _ _ => e k (by omega)) hg⟩
  · rw [e 0 (by omega), e 1 (by omega), e 2 (by omega), e 3 (by omega), e 4 (by omega), e 5 (by omega), e 7 (by omega)]
    exact ⟨w0', w1', w2, w3, w4, w5, w7⟩
  · rw [e 1 (by omega)] at u1
    have q := hw u u0 u1
    rw [e (10 + 2 * u) (by omega), e 0 (by omega)]
    by_cases z : u = w
    · subst z
      have ep : bs_pt B u (10 + 2 * u + 1) = if B (10 + 2 * u + 1) + 1 < 9 then B (10 + 2 * u + 1) + 1 else 9 := bc_setj _ _ _
      rw [ep]
      refine ⟨q.1, fun _ => ?_, ?_, ?_⟩ <;> split <;> omega
    · rw [e (10 + 2 * u + 1) (by omega)]; exact q
theorem bs_GI_p {A B : Int → Int} {v dp w : Int} (h : bs_GI A v dp B) (v0 : 0 ≤ v) (w0 : 0 ≤ w) (w1 : w < A 1) : bs_GI A v dp (bs_pt B w) := by
  obtain ⟨g1, ⟨g2, g3, g4, g5⟩, g6, g7, g8, g9, g10⟩ := h
  have w7 := g1.1.2.1
  have e : ∀ k, k ≠ 10 + 2 * w + 1 → bs_pt B w k = B k := fun k hk => bs_pt_n hk
  exact ⟨bs_W_pt g1 w0 (by omega), ⟨by rw [e 0 (by omega)]; exact g2, by rw [e 1 (by omega)]; exact g3, by rw [e 2 (by omega)]; exact g4, by rw [e 7 (by omega)]; exact g5⟩, fun k a b => by rw [e k (by omega)]; exact g6 k a b, fun u a b => by rw [e _ (by omega)]; exact g7 u a b, by rw [e _ (by omega)]; exact g8, by rw [e 4 (by omega)]; exact g9, by rw [e 6 (by omega)]; exact g10⟩
theorem bs_GI_s {A B : Int → Int} {v dp : Int} (h : bs_GI A v dp B) (v0 : 0 ≤ v) (v1 : v < A 2) (dp0 : 0 ≤ dp) : bs_GI A v (dp + 1) (bs_pass B) := by
  obtain ⟨g1, ⟨g2, g3, g4, g5⟩, g6, g7, g8, g9, g10⟩ := h
  have w7 := g1.1.2.1
  have e : ∀ k, k < 54 → k ≠ 4 → k ≠ 6 → bs_pass B k = B k := fun k a b c => bs_pass_lo a b c
  refine ⟨bs_W_pass g1, ⟨by rw [e 0 (by omega) (by omega) (by omega)]; exact g2, by rw [e 1 (by omega) (by omega) (by omega)]; exact g3, by rw [e 2 (by omega) (by omega) (by omega)]; exact g4, by rw [e 7 (by omega) (by omega) (by omega)]; exact g5⟩, fun k a b => by rw [e k (by omega) (by omega) (by omega)]; exact g6 k a b, fun u a b => by rw [e _ (by omega) (by omega) (by omega)]; exact g7 u a b, by rw [bs_pass_se v0 (by omega)]; exact g8, ?_, by rw [bs_pass_6]; omega⟩
  rw [bs_pass_4, g9]
  (repeat' split) <;> omega
theorem bs_GI_x {A B : Int → Int} {v dp w : Int} (h : bs_GI A v dp B) (v0 : 0 ≤ v) (v1 : v < A 2) (w0 : 0 ≤ w) (w1 : w ≤ A 1) (n : bs_Gn B v dp w) : bs_GI A v dp (bs_Gx B v dp w) := by
  have e1 := h.2.1.2.1
  unfold bs_Gx
  by_cases z : w = B 1
  · rw [if_pos z]; exact h
  · rw [if_neg z]
    by_cases t : dp.tmod 2 = 0
    · rw [if_pos t]
      rcases n with n | n | n
      · exact absurd n z
      · exact bs_GI_l h v0 v1 w0 (by omega) n.2
      · exact absurd t n.1
    · rw [if_neg t]; exact bs_GI_p h v0 w0 (by omega)
def bs_dd (d : Nat) : Nat → Nat
  | 0 => d + 1
  | k + 1 => bs_dd d k + 3
theorem bs_dd_e (d : Nat) : ∀ k, bs_dd d k = d + 3 * k + 1
  | 0 => rfl
  | k + 1 => by show bs_dd d k + 3 = _; rw [bs_dd_e d k]; omega
def bs_Gc (h m : bc_H) (c : Int) (A : Int → Int) (v dp : Int) (B : Int → Int) : Prop := (∀ x, x ≠ 18 → x ≠ 21 → x ≠ 22 → m x = h x) ∧ (m 18 6 = c + 3 ∧ m 18 7 = A (54 + 8 * v) ∧ m 18 8 = A 4) ∧ (∀ b, 0 ≤ b → b < 5 → m 21 (dp * 5 + b) = B (54 + 8 * v + (3 + b))) ∧ (∀ w, 0 ≤ w → w < A 1 → B (10 + 2 * w) ≠ -1 → m 22 w = B (10 + 2 * w + 1))
/-- what a value leaves -/
def bs_Go (m m' : bc_H) (dp : Int) : Prop := (∀ x, x ≠ 18 → x ≠ 21 → m' x = m x) ∧ (∀ y, y ≠ 2 → m' 18 y = m 18 y) ∧ (∀ y, y < dp * 5 + 5 → m' 21 y = m 21 y)
theorem bs_Go_c {h m m' : bc_H} {c v dp : Int} {A B : Int → Int} (g : bs_Gc h m c A v dp B) (o : bs_Go m m' dp) : bs_Gc h m' c A v dp B := by
  obtain ⟨g1, g2, g3, g4⟩ := g
  obtain ⟨o1, o2, o3⟩ := o
  exact ⟨fun x x1 x2 x3 => by rw [o1 x x1 x2]; exact g1 x x1 x2 x3, by rw [o2 6 (by decide), o2 7 (by decide), o2 8 (by decide)]; exact g2, fun b b0 b5 => by rw [o3 _ (by omega)]; exact g3 b b0 b5, fun w w0 w1 n => by rw [o1 22 (by decide) (by decide)]; exact g4 w w0 w1 n⟩
theorem bs_Go_t {m m1 m2 : bc_H} {dp : Int} (a : bs_Go m m1 dp) (b : bs_Go m1 m2 dp) : bs_Go m m2 dp := ⟨fun x x1 x2 => by rw [b.1 x x1 x2]; exact a.1 x x1 x2, fun y y1 => by rw [b.2.1 y y1]; exact a.2.1 y y1, fun y y1 => by rw [b.2.2 y y1]; exact a.2.2 y y1⟩
theorem bs_Go_r (m : bc_H) (dp : Int) : bs_Go m m dp := ⟨fun _ _ _ => rfl, fun _ _ => rfl, fun _ _ => rfl⟩
theorem bc_c_behind {d : Nat} {h : bc_H} {A : Int → Int} {c v dp turns : Int} {k : Nat} (hc : 24 ≤ c ∧ c ≤ 130) (hw : bs_Cw h c A) (hW : bs_W A) (v0 : 0 ≤ v) (v1 : v < A 2) (dp0 : 0 ≤ dp) (dp4 : dp ≤ 3)
    (IH : ∀ (B : Int → Int) (m : bc_H) (K : Int → bc_H → Prop), bs_GI A v (dp + 1) B → bs_Gc h m c A v (dp + 1) B → m 18 10 = turns → (∀ m', bs_Go m m' (dp + 1) → m' 18 2 = m 18 2 → K (bs_Gv v k (dp + 1) B).1 m') → bf_Search_valueOf d (dp + 1) (B (54 + 8 * v + 1)) (B (54 + 8 * v + 2)) m (bc_I K))
    {X : Int → Int} {m : bc_H} {K : Int → bc_H → Prop} (hI : bs_GI A v dp X) (hG : bs_Gc h m c A v dp X) (ht : m 18 10 = turns) (hK : ∀ m', bs_Go m m' dp → m' 18 2 = m 18 2 → K (bs_Gv v k (dp + 1) (bs_pass X)).1 m') : bf_Search_behindMinute (d + 1) dp (X (54 + 8 * v + 1)) (X (54 + 8 * v + 2)) m (bc_I K) := by
  have w0 := hI.1.1
  have e1 := hI.2.1
  have q := hI.1.2.2.2.1 v v0 (by omega)
  have qa := q.2.1
  have qw := hI.1.2.1 (X (54 + 8 * v + 1)) qa.1 qa.2
  obtain ⟨g1, g2, g3, g4⟩ := hG
  have lamp := hI.2.2.2.2.2.1
  have w4 := hW.1.2.2.2.2.1
  have hI' := bs_GI_s hI v0 v1 dp0
  have fin : ∀ (be p : Int), (be = -1 ∨ (0 ≤ be ∧ be < A 0)) → (∀ b, 0 ≤ b → b < 5 → bs_pass X (54 + 8 * v + (3 + b)) = bs_chg (X (54 + 8 * v + (3 + b))) b be p) → ∀ m1 : bc_H, (∀ x y, x ≠ 21 ∨ y < (dp + 1) * 5 ∨ (dp + 1) * 5 + 5 ≤ y → m1 x y = m x y) → (∀ b, 0 ≤ b → b < 5 → m1 21 ((dp + 1) * 5 + b) = m 21 (dp * 5 + b)) → bf_Search_valueOf d (dp + 1) (X (54 + 8 * v + 1)) (if bc_w32 (X (54 + 8 * v + 2) - 1) < 0 then 0 else bc_w32 (X (54 + 8 * v + 2) - 1)) (bs_chr m1 21 ((dp + 1) * 5) be p 5) (bc_I K) := fun be p hbe hm m1 c1 c2 => by
    have et : (if bc_w32 (X (54 + 8 * v + 2) - 1) < 0 then 0 else bc_w32 (X (54 + 8 * v + 2) - 1)) = bs_pass X (54 + 8 * v + 2) := by
      rw [bc_wi (by omega) (by omega), bs_pass_go v0 (by omega)]
      (repeat' split) <;> omega
    rw [et, ← bs_pass_at (A := X) v0 (by omega)]
    have f1 : ∀ x, x ≠ 21 → bs_chr m1 21 ((dp + 1) * 5) be p 5 x = m x := fun x x1 => funext fun y => by rw [bs_chr_n (Or.inl x1)]; exact c1 x y (Or.inl x1)
    have f2 : ∀ y, y < (dp + 1) * 5 → bs_chr m1 21 ((dp + 1) * 5) be p 5 21 y = m 21 y := fun y y1 => by rw [bs_chr_n (by omega)]; exact c1 21 y (by omega)
    refine IH (bs_pass X) _ K hI' ⟨fun x x1 x2 x3 => by rw [f1 x x2]; exact g1 x x1 x2 x3, by rw [f1 18 (by decide)]; exact g2, fun b b0 b5 => ?_, fun u u0 u1 n => ?_⟩ (by rw [f1 18 (by decide)]; exact ht) (fun m' o e => hK m' ⟨fun x x1 x2 => by rw [o.1 x x1 x2, f1 x x2], fun y y1 => by rw [o.2.1 y y1, f1 18 (by decide)], fun y y1 => by rw [o.2.2 y (by omega), f2 y (by omega)]⟩ (by rw [e, f1 18 (by decide)]))
    · rw [bs_chr_y b0 b5, c2 b b0 b5, g3 b b0 b5, hm b b0 b5]
    · rw [f1 22 (by decide)]
      rw [bs_pass_lo (by omega) (by omega) (by omega)] at n
      rw [bs_pass_lo (by omega) (by omega) (by omega)]
      exact g4 u u0 u1 n
  have row0 : ∀ b, 0 ≤ b → b < 5 → 0 ≤ m 21 (dp * 5 + b) ∧ m 21 (dp * 5 + b) ≤ 99 := fun b b0 b5 => by rw [g3 b b0 b5]; exact (q.2.2.2 b b0 b5).1
  refine rv_Search_behindMinute (d := d) ?_
  rw [g2.2.2, bc_wi (x := dp * 5) (by omega) (by omega), bc_wi (x := dp + 1) (by omega) (by omega), bc_wi (x := (dp + 1) * 5) (by omega) (by omega)]
  refine ⟨fun z => ?_, fun z => ?_⟩
  · refine bs_copyRow (by omega) (by omega) (by omega) (Or.inr (Or.inl (by omega))) (fun m1 c1 c2 => ?_)
    have m118 : m1 18 = m 18 := funext fun y => c1 18 y (Or.inl (by decide))
    have wl : m1 (c + 3 + 1) (X (54 + 8 * v + 1)) = X (10 + 2 * X (54 + 8 * v + 1)) := by
      rw [c1 _ _ (Or.inl (by omega)), g1 (c + 3 + 1) (by omega) (by omega) (by omega), (hw _ qa.1 (by omega)).1, hI.2.2.2.1 _ qa.1 (by omega)]
    have m122 : m1 22 = m 22 := funext fun y => c1 22 y (Or.inl (by decide))
    rw [m118, g2.1, wl, m122]
    refine ⟨by omega, by omega, by omega, ?_⟩
    have mb : bs_mb X v = X (10 + 2 * X (54 + 8 * v + 1)) := by
      unfold bs_mb; rw [if_pos ⟨z.1, by rw [lamp, if_pos z.2]; omega⟩]
    refine bc_c_change (by omega) (by omega) (by omega) (fun b b0 b5 => by rw [c2 b b0 b5]; exact row0 b b0 b5) ?_ ?_
    · by_cases u : X (10 + 2 * X (54 + 8 * v + 1)) = -1
      · exact Or.inr (Or.inl (by omega))
      · refine Or.inl ?_
        rw [g4 _ qa.1 (by omega) u]; omega
    · refine fin _ _ (by omega) (fun b b0 b5 => ?_) m1 c1 c2
      rw [bs_pass_m5 hI.1 v0 (by omega) b0 b5, mb]
      by_cases u : X (10 + 2 * X (54 + 8 * v + 1)) = -1
      · exact bs_chg_n (Or.inl (by omega))
      · rw [g4 _ qa.1 (by omega) u]
  · refine bs_copyRow (by omega) (by omega) (by omega) (Or.inr (Or.inl (by omega))) (fun m1 c1 c2 => ⟨by omega, ?_⟩)
    have mb : bs_mb X v = -1 := by
      unfold bs_mb
      refine if_neg (fun u => z ⟨u.1, ?_⟩)
      have := u.2
      rw [lamp] at this
      refine Classical.byContradiction (fun w => ?_)
      rw [if_neg w] at this; omega
    refine bc_c_change (by omega) (by omega) (by omega) (fun b b0 b5 => by rw [c2 b b0 b5]; exact row0 b b0 b5) (Or.inr (Or.inl (by omega))) ?_
    refine fin _ _ (Or.inl rfl) (fun b b0 b5 => ?_) m1 c1 c2
    rw [bs_pass_m5 hI.1 v0 (by omega) b0 b5, mb]
    exact bs_chg_n (Or.inl (by omega))
