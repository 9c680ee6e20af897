/-! ===== what a cave's row in the reference tells ===== -/
def bs_gr (f : Int → Int) : Int := bc_it (fun b x => if x < f b then f b else x) 0 5
def bs_most (A : Int → Int) (v : Int) : Int := bs_gr (fun b => A (54 + 8 * v + (3 + b)))
abbrev bs_turned (A : Int → Int) (v : Int) : Prop := A (54 + 8 * v) < bs_most A v
def bs_bset (p : Int → Prop) [DecidablePred p] (n : Int) : Int := bc_it (fun v s => if p v then bc_or s (bc_shl 1 v) else bc_or s 0) 0 n
def bs_dn (x : Int) : Int := if 0 < x then x - 1 else 0
def bs_up (x p : Int) : Int := if x + p < 99 then x + p else 99
def bs_chg (x b be p : Int) : Int := if b = be then bs_up x p else bs_dn x
/-- a measure of b after a minute -/
def bs_mb (A : Int → Int) (v : Int) : Int := if A (54 + 8 * v + 2) = 0 ∧ 0 < A 4 then A (10 + 2 * A (54 + 8 * v + 1)) else -1
def bs_pass (A : Int → Int) : Int → Int := fun k =>
  if k = 4 then (if 0 < A 4 then A 4 - 1 else 0)
  else if k = 6 then A 6 + 1
  else if 54 ≤ k ∧ k < 54 + 8 * A 2 then
    (if (k - 54) % 8 = 2 then (if 0 < A k then A k - 1 else 0)
     else if 3 ≤ (k - 54) % 8 ∧ (k - 54) % 8 < 3 + A 0 then bs_chg (A k) ((k - 54) % 8 - 3) (bs_mb A ((k - 54) / 8)) (A (10 + 2 * A (54 + 8 * ((k - 54) / 8) + 1) + 1))
     else A k)
  else A k
def bs_wayf (A : Int → Int) (a b : Int) (k x : Int) : Int := if (A (24 + 3 * k) = a ∧ A (24 + 3 * k + 1) = b) ∨ (A (24 + 3 * k) = b ∧ A (24 + 3 * k + 1) = a) then (if A (24 + 3 * k + 2) < x then A (24 + 3 * k + 2) else x) else x
def bs_way (A : Int → Int) (a b : Int) : Int := bc_it (bs_wayf A a b) 1000000 (A 7)
def bs_far0 (A : Int → Int) : Int → Int := fun k => if k / 7 = k % 7 then 0 else bs_way A (k / 7) (k % 7)
def bs_farS (c a b : Int) (T : Int → Int) : Int → Int := bc_set T (7 * a + b) (if T (7 * a + c) + T (7 * c + b) < T (7 * a + b) then T (7 * a + c) + T (7 * c + b) else T (7 * a + b))
def bs_farR (A : Int → Int) : Int → Int := bc_it (fun c T => bc_it (fun a T => bc_it (fun b T => bs_farS c a b T) T (A 1)) T (A 1)) (bs_far0 A) (A 1)
def bs_far (A : Int → Int) (a b : Int) : Int := bs_farR A (7 * a + b)
/-- what is so of every cave's row, but for the clock -/
def bs_WW (A : Int → Int) : Prop := ∀ w, 0 ≤ w → w < A 1 → (-1 ≤ A (10 + 2 * w) ∧ A (10 + 2 * w) < A 0) ∧ (A (10 + 2 * w) ≠ -1 → 1 ≤ A (10 + 2 * w + 1)) ∧ 0 ≤ A (10 + 2 * w + 1) ∧ A (10 + 2 * w + 1) ≤ 9
def bs_WY (A : Int → Int) : Prop := ∀ k, 0 ≤ k → k < A 7 → (0 ≤ A (24 + 3 * k) ∧ A (24 + 3 * k) < A 1) ∧ (0 ≤ A (24 + 3 * k + 1) ∧ A (24 + 3 * k + 1) < A 1) ∧ A (24 + 3 * k) ≠ A (24 + 3 * k + 1) ∧ 1 ≤ A (24 + 3 * k + 2) ∧ A (24 + 3 * k + 2) ≤ 9
def bs_WV (A : Int → Int) : Prop := ∀ v, 0 ≤ v → v < A 2 → (1 ≤ A (54 + 8 * v) ∧ A (54 + 8 * v) ≤ 60) ∧ (0 ≤ A (54 + 8 * v + 1) ∧ A (54 + 8 * v + 1) < A 1) ∧ (0 ≤ A (54 + 8 * v + 2) ∧ A (54 + 8 * v + 2) ≤ 9) ∧ ∀ b, 0 ≤ b → b < 5 → (0 ≤ A (54 + 8 * v + (3 + b)) ∧ A (54 + 8 * v + (3 + b)) ≤ 99) ∧ (A 0 ≤ b → A (54 + 8 * v + (3 + b)) = 0)
def bs_WF (A : Int → Int) : Prop := ∀ f, 0 ≤ f → f < A 3 → (0 ≤ A (102 + 4 * f) ∧ A (102 + 4 * f) < A 0) ∧ (0 ≤ A (102 + 4 * f + 1) ∧ A (102 + 4 * f + 1) ≤ 9) ∧ (0 ≤ A (102 + 4 * f + 2) ∧ A (102 + 4 * f + 2) ≤ 9) ∧ 0 ≤ A (102 + 4 * f + 3) ∧ A (102 + 4 * f + 3) < bc_shl 1 (A 3)
def bs_WG (A : Int → Int) : Prop := ∀ a b, 0 ≤ a → a < A 0 → 0 ≤ b → b < A 0 → 0 ≤ A (134 + 5 * a + b) ∧ A (134 + 5 * a + b) ≤ 9
def bs_W (A : Int → Int) : Prop := ((0 ≤ A 0 ∧ A 0 ≤ 5) ∧ (0 ≤ A 1 ∧ A 1 ≤ 7) ∧ (0 ≤ A 2 ∧ A 2 ≤ 6) ∧ (0 ≤ A 3 ∧ A 3 ≤ 8) ∧ (0 ≤ A 4 ∧ A 4 ≤ 999) ∧ (0 ≤ A 5 ∧ A 5 ≤ 16) ∧ (0 ≤ A 7 ∧ A 7 ≤ 10)) ∧ bs_WW A ∧ bs_WY A ∧ bs_WV A ∧ bs_WF A ∧ bs_WG A
/-- the class's cave at the cell c tells the same as the row -/
def bs_Cn (h : bc_H) (c : Int) (A : Int → Int) : Prop := h c 0 = A 4 ∧ h c 1 = A 5 ∧ h c 2 = A 6 ∧ h c 3 = A 2 ∧ h (c + 1) 0 = A 0 ∧ h (c + 3) 0 = A 1 ∧ h (c + 8) 0 = A 3
def bs_Cw (h : bc_H) (c : Int) (A : Int → Int) : Prop := ∀ w, 0 ≤ w → w < A 1 → h (c + 3 + 1) w = A (10 + 2 * w) ∧ (A (10 + 2 * w) ≠ -1 → h (c + 3 + 2) w = A (10 + 2 * w + 1))
def bs_Cd (h : bc_H) (c : Int) (A : Int → Int) : Prop := ∀ a b, 0 ≤ a → a < A 1 → 0 ≤ b → b < A 1 → h (c + 3 + 3) (a * 7 + b) = (if bs_way A a b < 1000000 then bs_way A a b else 0) ∧ h (c + 3 + 4) (a * 7 + b) = (if bs_far A a b < 1000000 then bs_far A a b else -1)
def bs_Cg (h : bc_H) (c : Int) (A : Int → Int) : Prop := ∀ a b, 0 ≤ a → a < A 0 → 0 ≤ b → b < A 0 → h (c + 1 + 1) (a * 5 + b) = A (134 + 5 * a + b)
def bs_Cf (h : bc_H) (c : Int) (A : Int → Int) : Prop := ∀ f, 0 ≤ f → f < A 3 → h (c + 8 + 1) f = A (102 + 4 * f) ∧ h (c + 8 + 2) f = A (102 + 4 * f + 1) ∧ h (c + 8 + 3) f = A (102 + 4 * f + 2) ∧ h (c + 8 + 4) f = A (102 + 4 * f + 3)
def bs_Cm (h : bc_H) (c : Int) (A : Int → Int) : Prop := ∀ v, 0 ≤ v → v < A 2 → h (c + 13) v = A (54 + 8 * v) ∧ h (c + 14) v = A (54 + 8 * v + 1) ∧ h (c + 15) v = A (54 + 8 * v + 2) ∧ ∀ b, 0 ≤ b → b < 5 → h (c + 16) (v * 5 + b) = A (54 + 8 * v + (3 + b))
def bs_C (h : bc_H) (c : Int) (A : Int → Int) : Prop := bs_Cn h c A ∧ bs_Cw h c A ∧ bs_Cd h c A ∧ bs_Cg h c A ∧ bs_Cf h c A ∧ bs_Cm h c A
/-! rows of five measures -/
theorem bc_c_greatest {d n : Nat} {r o : Int} {h : bc_H} {K : Int → bc_H → Prop} (ho : 0 ≤ o) (hn : o + 5 ≤ n) (hb : n ≤ 1000) (hK : K (bs_gr (fun b => h r (o + b))) h) : bf_Cave_greatest d n r o h (bc_I K) := by
  refine rv_Cave_greatest ?_
  refine bc_lup (P := fun i => bl_Cave_greatest_4 d n r o (bc_it (fun b x => if x < h r (o + b) then h r (o + b) else x) 0 i) i h (bc_I K)) (n := 5) ?_ (fun i h0 hi ih => ?_) (Int.le_refl 0) (by omega)
  · exact rv_Cave_greatest_4 ⟨fun _ => hK, fun q => absurd q (by omega)⟩
  · refine rv_Cave_greatest_4 ⟨fun q => absurd q (by omega), fun _ => ?_⟩
    simp (disch := omega) only [bc_wi]
    refine ⟨by omega, ?_⟩
    rw [bc_its _ _ h0] at ih
    exact ih
def bs_chr (h : bc_H) (r o be p n : Int) : bc_H := fun a b => if a = r ∧ o ≤ b ∧ b < o + n then bs_chg (h a b) (b - o) be p else h a b
theorem bs_chr0 (h : bc_H) (r o be p : Int) : bs_chr h r o be p 0 = h := by
  funext a b; unfold bs_chr; rw [if_neg (by omega)]
theorem bs_chr_n {h : bc_H} {r o be p n a b : Int} (q : a ≠ r ∨ b < o ∨ o + n ≤ b) : bs_chr h r o be p n a b = h a b := by
  unfold bs_chr; rw [if_neg (by omega)]
theorem bs_chr_y {h : bc_H} {r o be p n b : Int} (q : 0 ≤ b) (q2 : b < n) : bs_chr h r o be p n r (o + b) = bs_chg (h r (o + b)) b be p := by
  unfold bs_chr; rw [if_pos (by omega), show o + b - o = b by omega]
theorem bs_chr_s {h : bc_H} {r o be p n : Int} (hn : 0 ≤ n) : bc_upd (bs_chr h r o be p n) r (o + n) (bs_chg (h r (o + n)) n be p) = bs_chr h r o be p (n + 1) := by
  funext a b
  by_cases q : a = r ∧ b = o + n
  · obtain ⟨rfl, rfl⟩ := q
    rw [bc_uu, bs_chr_y hn (by omega)]
  · rw [bc_un2 (by omega)]
    unfold bs_chr
    by_cases q2 : a = r ∧ o ≤ b ∧ b < o + n
    · rw [if_pos q2, if_pos (by omega)]
    · rw [if_neg q2, if_neg (by omega)]
theorem bc_c_change {d n : Nat} {r o be p : Int} {h : bc_H} {K : bc_H → Prop} (ho : 0 ≤ o) (hn : o + 5 ≤ n) (hb : n ≤ 1000) (hm : ∀ b, 0 ≤ b → b < 5 → 0 ≤ h r (o + b) ∧ h r (o + b) ≤ 99) (hp : (0 ≤ p ∧ p ≤ 9) ∨ be < 0 ∨ 5 ≤ be) (hK : K (bs_chr h r o be p 5)) : bf_Cave_change d n r o be p h (bc_U K) := by
  refine rv_Cave_change ?_
  have key : bl_Cave_change_2 d n r o be p 0 (bs_chr h r o be p 0) (bc_U K) := by
    refine bc_lup (P := fun i => bl_Cave_change_2 d n r o be p i (bs_chr h r o be p i) (bc_U K)) (n := 5) ?_ (fun i h0 hi ih => ?_) (Int.le_refl 0) (by omega)
    · exact rv_Cave_change_2 ⟨fun _ => hK, fun q => absurd q (by omega)⟩
    · refine rv_Cave_change_2 ⟨fun q => absurd q (by omega), fun _ => ?_⟩
      have hm := hm i h0 hi
      simp (disch := omega) only [bc_wi]
      rw [bs_chr_n (by omega)]
      rw [← bs_chr_s h0] at ih
      refine ⟨by omega, fun q => ⟨by omega, ?_⟩, fun q => ⟨by omega, ?_⟩⟩
      · rw [bc_wi (by omega) (by omega)]
        have e : bs_chg (h r (o + i)) i be p = (if h r (o + i) - 1 < 0 then 0 else h r (o + i) - 1) := by
          unfold bs_chg bs_dn; rw [if_neg q]; split <;> split <;> omega
        rw [e] at ih; intro h3 e3; rw [e3]; exact ih
      · rw [bc_wi (by omega) (by omega)]
        have e : bs_chg (h r (o + i)) i be p = (if 99 < h r (o + i) + p then 99 else h r (o + i) + p) := by
          unfold bs_chg bs_up; rw [if_pos q]; split <;> split <;> omega
        rw [e] at ih; intro h3 e3; rw [e3]; exact ih
  rw [bs_chr0] at key
  exact key
