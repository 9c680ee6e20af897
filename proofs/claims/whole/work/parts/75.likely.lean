/-! ===== the likeliest row ===== -/
def bs_ax (f : Int → Int) (i : Int) : Int × Int := bc_it (fun b p => if p.2 < f b then (b, f b) else p) (-1, 0) i
theorem bs_ax_s (f : Int → Int) {i : Int} (h : 0 ≤ i) : bs_ax f (i + 1) = if (bs_ax f i).2 < f i then (i, f i) else bs_ax f i := bc_its _ _ h
theorem bs_ax_p (f : Int → Int) {i : Int} (h : 0 ≤ i) : ((bs_ax f i).2 = 0 ∧ (bs_ax f i).1 = -1) ∨ (0 < (bs_ax f i).2 ∧ 0 ≤ (bs_ax f i).1 ∧ (bs_ax f i).1 < i ∧ f (bs_ax f i).1 = (bs_ax f i).2 ∧ ∀ b, 0 ≤ b → b < (bs_ax f i).1 → f b < (bs_ax f i).2) := by
  have key : ∀ m : Nat, (∀ b, 0 ≤ b → b < (m : Int) → f b ≤ (bs_ax f m).2) ∧ (((bs_ax f m).2 = 0 ∧ (bs_ax f m).1 = -1) ∨ (0 < (bs_ax f m).2 ∧ 0 ≤ (bs_ax f m).1 ∧ (bs_ax f m).1 < (m : Int) ∧ f (bs_ax f m).1 = (bs_ax f m).2 ∧ ∀ b, 0 ≤ b → b < (bs_ax f m).1 → f b < (bs_ax f m).2)) := by
    intro m
    induction m with
    | zero => exact ⟨fun b b0 b1 => absurd b1 (by omega), Or.inl ⟨rfl, rfl⟩⟩
    | succ m ih =>
      have e : ((m + 1 : Nat) : Int) = (m : Int) + 1 := by omega
      have z2 : 0 ≤ (bs_ax f m).2 := by rcases ih.2 with q | q <;> omega
      rw [e, bs_ax_s f (by omega)]
      by_cases z : (bs_ax f m).2 < f m
      · rw [if_pos z]
        refine ⟨fun b b0 b1 => ?_, Or.inr ⟨?_, ?_, ?_, rfl, fun b b0 b1 => ?_⟩⟩
        · by_cases eb : b = m
          · subst eb; exact Int.le_refl _
          · have := ih.1 b b0 (by omega); show f b ≤ f m; omega
        · show 0 < f m; omega
        · show (0 : Int) ≤ m; omega
        · show (m : Int) < m + 1; omega
        · have := ih.1 b b0 b1; show f b < f m; omega
      · rw [if_neg z]
        refine ⟨fun b b0 b1 => ?_, ?_⟩
        · by_cases eb : b = m
          · subst eb; omega
          · exact ih.1 b b0 (by omega)
        · rcases ih.2 with q | ⟨q1, q2, q3, q4, q5⟩
          · exact Or.inl q
          · exact Or.inr ⟨q1, q2, by omega, q4, q5⟩
  have t := (key i.toNat).2
  rw [show ((i.toNat : Nat) : Int) = i by omega] at t
  exact t
theorem bs_ax_b {f : Int → Int} {i M : Int} (h : 0 ≤ i) (hM : 0 ≤ M) (hf : ∀ b, 0 ≤ b → b < i → f b ≤ M) : 0 ≤ (bs_ax f i).2 ∧ (bs_ax f i).2 ≤ M := by
  refine bc_it_indB (P := fun _ (p : Int × Int) => 0 ≤ p.2 ∧ p.2 ≤ M) ⟨Int.le_refl 0, hM⟩ (fun j x j0 j1 ih => ?_) h
  have := hf j j0 j1
  show 0 ≤ (if x.2 < f j then (j, f j) else x).2 ∧ (if x.2 < f j then (j, f j) else x).2 ≤ M
  by_cases z : x.2 < f j
  · rw [if_pos z]; show 0 ≤ f j ∧ f j ≤ M; omega
  · rw [if_neg z]; exact ih
def bs_lkf (A f : Int → Int) (b : Int) : Int → Int := fun a => A (134 + 5 * b + a) * f a
def bs_lkN (A : Int → Int) (k : Int) : Int → Int := bc_it (fun _ f b => (bs_ax (bs_lkf A f b) (A 0)).2) (fun _ => 1) k
theorem bs_lkN_s (A : Int → Int) {k : Int} (h : 0 ≤ k) : bs_lkN A (k + 1) = fun b => (bs_ax (bs_lkf A (bs_lkN A k) b) (A 0)).2 := bc_its _ _ h
theorem bs_lkN_e (A : Int → Int) {k : Int} (h : 1 ≤ k) (b : Int) : bs_lkN A k b = (bs_ax (bs_lkf A (bs_lkN A (k - 1)) b) (A 0)).2 := by
  have := bs_lkN_s A (k := k - 1) (by omega)
  rw [show k - 1 + 1 = k by omega] at this
  rw [this]
theorem bs_wx {w x M : Int} (w0 : 0 ≤ w ∧ w ≤ 9) (x0 : 0 ≤ x ∧ x ≤ M) : 0 ≤ w * x ∧ w * x ≤ 9 * M := by
  have a := Int.mul_nonneg w0.1 x0.1
  have b := Int.mul_le_mul_of_nonneg_right w0.2 x0.1
  omega
theorem bs_lkN_r {A : Int → Int} (h0 : 0 ≤ A 0) (hg : bs_WG A) : ∀ m : Nat, ∀ b, 0 ≤ b → b < A 0 → 0 ≤ bs_lkN A (m : Int) b ∧ bs_lkN A (m : Int) b ≤ ((9 ^ m : Nat) : Int)
  | 0, b, _, _ => by show (0 : Int) ≤ 1 ∧ (1 : Int) ≤ ((9 ^ 0 : Nat) : Int); decide
  | m + 1, b, b0, b1 => by
    have ih := bs_lkN_r h0 hg m
    rw [show ((m + 1 : Nat) : Int) = (m : Int) + 1 by omega, bs_lkN_s A (by omega), Nat.pow_succ]
    refine bs_ax_b h0 (Int.natCast_nonneg _) (fun a a0 a1 => ?_)
    have := (bs_wx (hg b a b0 b1 a0 a1) (ih a a0 a1)).2
    have e : bs_lkf A (bs_lkN A m) b a = A (134 + 5 * b + a) * bs_lkN A m a := rfl
    generalize 9 ^ m = M at this ⊢
    omega
theorem bs_lkN_b {A : Int → Int} (h0 : 0 ≤ A 0) (hg : bs_WG A) {k : Int} (k0 : 0 ≤ k) (k1 : k ≤ 7) (b : Int) (b0 : 0 ≤ b) (b1 : b < A 0) : 0 ≤ bs_lkN A k b ∧ bs_lkN A k b ≤ 4782969 := by
  have t := bs_lkN_r h0 hg k.toNat b b0 b1
  rw [show ((k.toNat : Nat) : Int) = k by omega] at t
  have p : 9 ^ k.toNat ≤ 9 ^ 7 := Nat.pow_le_pow_right (by decide) (by omega)
  have q : (9 : Nat) ^ 7 = 4782969 := by decide
  omega
theorem bs_lkf_b {A : Int → Int} (h0 : 0 ≤ A 0) (hg : bs_WG A) {k : Int} (k0 : 0 ≤ k) (k1 : k ≤ 7) {b a : Int} (b0 : 0 ≤ b) (b1 : b < A 0) (a0 : 0 ≤ a) (a1 : a < A 0) : 0 ≤ A (134 + 5 * b + a) * bs_lkN A k a ∧ A (134 + 5 * b + a) * bs_lkN A k a ≤ 43046721 := by
  have := bs_wx (hg b a b0 b1 a0 a1) (bs_lkN_b h0 hg k0 k1 a a0 a1)
  omega
theorem bc_c_bestProduct {d : Nat} {c n : Int} {h : bc_H} {A : Int → Int} {K : Int → bc_H → Prop} (hc : 24 ≤ c ∧ c ≤ 130) (n0 : h (c + 1) 0 = A 0) (hg : bs_Cg h c A) (w0 : 0 ≤ A 0 ∧ A 0 ≤ 5) (hwg : bs_WG A) (hn : 1 ≤ n ∧ n ≤ 8) (hK : ∀ h', (∀ x, x ≠ 23 → h' x = h x) → (∀ i b, 0 ≤ i → i < n → 0 ≤ b → b < A 0 → h' 23 (i * 5 + b) = bs_lkN A i b) → K (bs_ax (bs_lkN A (n - 1)) (A 0)).2 h') : bf_Beasts_greatestProduct d (c + 1) n h (bc_I K) := by
  refine rv_Beasts_greatestProduct ?_
  refine bc_lup (P := fun i => ∀ g m, (∀ x, x ≠ 23 → g x = h x) → (∀ j b, 0 ≤ j → j < i → 0 ≤ b → b < A 0 → g 23 (j * 5 + b) = bs_lkN A j b) → (0 < i → m = (bs_ax (bs_lkN A (i - 1)) (A 0)).2) → bl_Beasts_greatestProduct_4 d (c + 1) n m i g (bc_I K)) (n := n) (fun g m a1 a2 a3 => ?_) (fun i i0 i1 ih g m a1 a2 a3 => ?_) (Int.le_refl 0) (by omega) h 0 (fun _ _ => rfl) (fun j b j0 j1 => absurd j1 (by omega)) (fun q => absurd q (by omega))
  · refine rv_Beasts_greatestProduct_4 ⟨fun _ => ?_, fun q => absurd q (by omega)⟩
    rw [a3 (by omega)]
    exact hK g a1 a2
  · refine rv_Beasts_greatestProduct_4 ⟨fun q => absurd q (by omega), fun _ => ?_⟩
    refine bc_lup (P := fun b => ∀ g, (∀ x, x ≠ 23 → g x = h x) → (∀ j b, 0 ≤ j → j < i → 0 ≤ b → b < A 0 → g 23 (j * 5 + b) = bs_lkN A j b) → (∀ u, 0 ≤ u → u < b → g 23 (i * 5 + u) = bs_lkN A i u) → bl_Beasts_greatestProduct_11 d (c + 1) n (bs_ax (bs_lkN A i) b).2 i b g (bc_I K)) (n := A 0) (fun g b1 b2 b3 => ?_) (fun b b0 b4 ihb g b1 b2 b3 => ?_) (Int.le_refl 0) w0.1 g a1 a2 (fun u u0 u1 => absurd u1 (by omega))
    · refine rv_Beasts_greatestProduct_11 ⟨fun _ => ?_, fun q => absurd q (by rw [b1 _ (by omega)]; omega)⟩
      rw [bc_wi (by omega) (by omega)]
      refine ih g _ b1 (fun j b j0 j1 b0 b4 => ?_) (fun _ => by rw [show i + 1 - 1 = i by omega])
      by_cases e : j = i
      · subst e; exact b3 b b0 b4
      · exact b2 j b j0 (by omega) b0 b4
    · have en : ∀ x, x = bs_lkN A i b → bl_Beasts_greatestProduct_11 d (c + 1) n (if (bs_ax (bs_lkN A i) b).2 < x then x else (bs_ax (bs_lkN A i) b).2) i (b + 1) (bc_upd g 23 (i * 5 + b) x) (bc_I K) := fun x ex => by
        have t := ihb (bc_upd g 23 (i * 5 + b) x) (fun y y1 => by rw [bc_urow y1]; exact b1 y y1) (fun j u j0 j1 u0 u1 => by rw [bc_uj (by omega)]; exact b2 j u j0 j1 u0 u1) (fun u u0 u1 => by
          by_cases e : u = b
          · subst e; rw [bc_uu]; exact ex
          · rw [bc_uj (by omega)]; exact b3 u u0 (by omega))
        rw [bs_ax_s _ b0, ← ex] at t
        rw [show (if (bs_ax (bs_lkN A i) b).2 < x then x else (bs_ax (bs_lkN A i) b).2) = (if (bs_ax (bs_lkN A i) b).2 < x then (b, x) else bs_ax (bs_lkN A i) b).2 by split <;> rfl]
        exact t
      refine rv_Beasts_greatestProduct_11 ⟨fun q => absurd q (by rw [b1 _ (by omega)]; omega), fun _ => ⟨fun z => ?_, fun z => ?_⟩⟩
      · refine rv_Beasts_greatestProduct_23 ⟨fun q => absurd q (by rw [b1 _ (by omega)]; omega), fun _ => ⟨fun _ => ?_, fun q => absurd q (by omega)⟩⟩
        simp (disch := omega) only [bc_wi, Int.add_zero]
        exact ⟨by omega, en 1 (by rw [z]; rfl)⟩
      · refine bc_lup (P := fun a => bl_Beasts_greatestProduct_23 d (c + 1) n (bs_ax (bs_lkN A i) b).2 i b (bs_ax (bs_lkf A (bs_lkN A (i - 1)) b) a).2 a g (bc_I K)) (n := A 0) ?_ (fun a a0 a4 iha => ?_) (Int.le_refl 0) w0.1
        · refine rv_Beasts_greatestProduct_23 ⟨fun _ => ?_, fun q => absurd q (by rw [b1 _ (by omega)]; omega)⟩
          simp (disch := omega) only [bc_wi, Int.add_zero]
          exact ⟨by omega, en _ (bs_lkN_e A (by omega) b).symm⟩
        · refine rv_Beasts_greatestProduct_23 ⟨fun q => absurd q (by rw [b1 _ (by omega)]; omega), fun _ => ⟨fun q => absurd q (by omega), fun _ => ?_⟩⟩
          have pb := bs_lkf_b w0.1 hwg (k := i - 1) (by omega) (by omega) b0 b4 a0 a4
          simp (disch := omega) only [bc_wi, Int.add_zero]
          rw [b1 (c + 1 + 1) (by omega), hg b a b0 b4 a0 a4, b2 (i - 1) a (by omega) (by omega) a0 a4, bc_wi (x := A (134 + 5 * b + a) * bs_lkN A (i - 1) a) (by omega) (by omega)]
          refine ⟨by omega, by omega, ?_⟩
          rw [bs_ax_s _ a0] at iha
          rw [show (if (bs_ax (bs_lkf A (bs_lkN A (i - 1)) b) a).2 < A (134 + 5 * b + a) * bs_lkN A (i - 1) a then A (134 + 5 * b + a) * bs_lkN A (i - 1) a else (bs_ax (bs_lkf A (bs_lkN A (i - 1)) b) a).2) = (if (bs_ax (bs_lkf A (bs_lkN A (i - 1)) b) a).2 < bs_lkf A (bs_lkN A (i - 1)) b a then (a, bs_lkf A (bs_lkN A (i - 1)) b a) else bs_ax (bs_lkf A (bs_lkN A (i - 1)) b) a).2 by show (if (bs_ax (bs_lkf A (bs_lkN A (i - 1)) b) a).2 < bs_lkf A (bs_lkN A (i - 1)) b a then bs_lkf A (bs_lkN A (i - 1)) b a else (bs_ax (bs_lkf A (bs_lkN A (i - 1)) b) a).2) = _; split <;> rfl]
          exact iha
