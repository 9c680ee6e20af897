/-! ===== plain numbers, memory, loops ===== -/
theorem bc_wi {x : Int} (h1 : -2147483648 ≤ x) (h2 : x < 2147483648) : bc_w32 x = x := by unfold bc_w32; omega
theorem bc_wl {x : Int} (h1 : -9223372036854775808 ≤ x) (h2 : x < 9223372036854775808) : bc_w64 x = x := by unfold bc_w64; omega
theorem bc_uu (h : bc_H) (r j v : Int) : bc_upd h r j v r j = v := by unfold bc_upd; rw [if_pos ⟨rfl, rfl⟩]
theorem bc_ur {h : bc_H} {r j v a b : Int} (n : a ≠ r) : bc_upd h r j v a b = h a b := by unfold bc_upd; rw [if_neg (fun q => n q.1)]
theorem bc_uj {h : bc_H} {r j v b : Int} (n : b ≠ j) : bc_upd h r j v r b = h r b := by unfold bc_upd; rw [if_neg (fun q => n q.2)]
theorem bc_un2 {h : bc_H} {r j v a b : Int} (n : a ≠ r ∨ b ≠ j) : bc_upd h r j v a b = h a b := by unfold bc_upd; rw [if_neg (fun q => by rcases n with n | n; exact n q.1; exact n q.2)]
theorem bc_urow {h : bc_H} {r j v a : Int} (n : a ≠ r) : bc_upd h r j v a = h a := by funext b; exact bc_ur n
theorem bs_rr (h : bc_H) (r : Int) (f : Int → Int) : bc_row h r f r = f := by funext b; unfold bc_row; rw [if_pos rfl]
theorem bc_rn {h : bc_H} {r a : Int} {f : Int → Int} (n : a ≠ r) : bc_row h r f a = h a := by funext b; unfold bc_row; rw [if_neg n]
theorem bc_rself (h : bc_H) (r : Int) : bc_row h r (h r) = h := by
  funext a b; unfold bc_row
  split
  · rename_i e; rw [e]
  · rfl
theorem bc_rrow (h : bc_H) (r : Int) (f g : Int → Int) : bc_row (bc_row h r f) r g = bc_row h r g := by
  funext a b; unfold bc_row
  split <;> rfl
def bc_set (A : Int → Int) (j v : Int) : Int → Int := fun b => if b = j then v else A b
theorem bc_setj (A : Int → Int) (j v : Int) : bc_set A j v j = v := by unfold bc_set; rw [if_pos rfl]
theorem bc_setn {A : Int → Int} {j v b : Int} (n : b ≠ j) : bc_set A j v b = A b := by unfold bc_set; rw [if_neg n]
theorem bc_ru (h : bc_H) (r j v : Int) (f : Int → Int) : bc_upd (bc_row h r f) r j v = bc_row h r (bc_set f j v) := by
  funext a b; unfold bc_upd bc_row bc_set
  by_cases e : a = r
  · subst e
    by_cases e2 : b = j
    · rw [if_pos ⟨rfl, e2⟩, if_pos rfl, if_pos e2]
    · rw [if_neg (fun q => e2 q.2), if_pos rfl, if_pos rfl, if_neg e2]
  · rw [if_neg (fun q => e q.1), if_neg e, if_neg e]
theorem bc_u_row (h : bc_H) (r j v : Int) : bc_upd h r j v = bc_row h r (bc_set (h r) j v) := by
  rw [← bc_ru, bc_rself]
theorem bc_uself (h : bc_H) (r j : Int) : bc_upd h r j (h r j) = h := by
  funext a b; unfold bc_upd
  split
  · rename_i q; rw [q.1, q.2]
  · rfl
theorem bc_urn {h : bc_H} {r j v r2 : Int} {f : Int → Int} (n : r ≠ r2) : bc_upd (bc_row h r2 f) r j v = bc_row (bc_upd h r j v) r2 f := by
  funext a b; unfold bc_upd bc_row
  by_cases e : a = r2
  · rw [if_pos e, if_pos e, if_neg (fun q : a = r ∧ b = j => n (q.1.symm.trans e))]
  · rw [if_neg e, if_neg e]
theorem bc_br {h : bc_H} {r1 s1 r2 d2 n a : Int} (ne : a ≠ r2) : bc_blk h r1 s1 r2 d2 n a = h a := by
  funext b; unfold bc_blk; rw [if_neg (fun q => ne q.1)]
theorem bc_bi {h : bc_H} {r1 s1 r2 d2 n b : Int} (h1 : d2 ≤ b) (h2 : b < d2 + n) : bc_blk h r1 s1 r2 d2 n r2 b = h r1 (s1 + (b - d2)) := by
  unfold bc_blk; rw [if_pos ⟨rfl, h1, h2⟩]
theorem bc_bo {h : bc_H} {r1 s1 r2 d2 n b : Int} (h1 : b < d2 ∨ d2 + n ≤ b) : bc_blk h r1 s1 r2 d2 n r2 b = h r2 b := by
  unfold bc_blk; rw [if_neg (fun q => by omega)]
/-- a loop that counts up: shown from its end on -/
theorem bc_lup {P : Int → Prop} {n : Int} (he : P n) (hs : ∀ i, 0 ≤ i → i < n → P (i + 1) → P i) {i : Int} (h0 : 0 ≤ i) (hi : i ≤ n) : P i := by
  have key : ∀ (m : Nat) (i : Int), 0 ≤ i → i + m = n → P i := by
    intro m
    induction m with
    | zero => intro i _ e; rw [show i = n by omega]; exact he
    | succ m ih => intro i h0 e; exact hs i h0 (by omega) (ih (i + 1) (by omega) (by omega))
  exact key (n - i).toNat i h0 (by omega)
/-- the same, from a beginning on that need not be 0 -/
theorem bc_lupF {P : Int → Prop} {a n : Int} (he : P n) (hs : ∀ i, a ≤ i → i < n → P (i + 1) → P i) {i : Int} (h0 : a ≤ i) (hi : i ≤ n) : P i := by
  have key : ∀ (m : Nat) (i : Int), a ≤ i → i + m = n → P i := by
    intro m
    induction m with
    | zero => intro i _ e; rw [show i = n by omega]; exact he
    | succ m ih => intro i h0 e; exact hs i h0 (by omega) (ih (i + 1) (by omega) (by omega))
  exact key (n - i).toNat i h0 (by omega)
/-- what a counting loop comes to -/
def bc_itN {α : Type} (f : Int → α → α) (a : α) : Nat → α
  | 0 => a
  | n + 1 => f (n : Int) (bc_itN f a n)
def bc_it {α : Type} (f : Int → α → α) (a : α) (n : Int) : α := bc_itN f a n.toNat
theorem bc_it0 {α : Type} (f : Int → α → α) (a : α) : bc_it f a 0 = a := rfl
theorem bc_its {α : Type} (f : Int → α → α) (a : α) {n : Int} (h : 0 ≤ n) : bc_it f a (n + 1) = f n (bc_it f a n) := by
  unfold bc_it
  rw [show (n + 1).toNat = n.toNat + 1 by omega]
  show f ((n.toNat : Nat) : Int) _ = _
  rw [show ((n.toNat : Nat) : Int) = n by omega]
theorem bc_it_ind {α : Type} {f : Int → α → α} {a : α} (P : Int → α → Prop) (h0 : P 0 a) (hs : ∀ i x, 0 ≤ i → P i x → P (i + 1) (f i x)) {n : Int} (hn : 0 ≤ n) : P n (bc_it f a n) := by
  have key : ∀ m : Nat, P m (bc_itN f a m) := by
    intro m
    induction m with
    | zero => exact h0
    | succ m ih => exact hs _ _ (by omega) ih
  have := key n.toNat
  rw [show ((n.toNat : Nat) : Int) = n by omega] at this
  exact this
theorem bc_it_indB {α : Type} {f : Int → α → α} {a : α} (P : Int → α → Prop) {n : Int} (h0 : P 0 a) (hs : ∀ i x, 0 ≤ i → i < n → P i x → P (i + 1) (f i x)) (hn : 0 ≤ n) : P n (bc_it f a n) := by
  have key : ∀ m : Nat, (m : Int) ≤ n → P m (bc_itN f a m) := by
    intro m
    induction m with
    | zero => intro _; exact h0
    | succ m ih => intro hm; exact hs _ _ (by omega) (by omega) (ih (by omega))
  have := key n.toNat (by omega)
  rw [show ((n.toNat : Nat) : Int) = n by omega] at this
  exact this
theorem bc_it_congr {α : Type} {f g : Int → α → α} {a : α} {n : Int} (h : ∀ i x, 0 ≤ i → i < n → f i x = g i x) : bc_it f a n = bc_it g a n := by
  unfold bc_it
  have key : ∀ m : Nat, (m : Int) ≤ n → bc_itN f a m = bc_itN g a m := by
    intro m
    induction m with
    | zero => intro _; rfl
    | succ m ih => intro hm; show f m _ = g m _; rw [ih (by omega), h _ _ (by omega) (by omega)]
  by_cases hn : 0 ≤ n
  · exact key _ (by omega)
  · rw [show n.toNat = 0 by omega]; rfl
/-! sets of at most eight, as numbers -/
theorem bc_bits8 : ∀ (s : Fin 256) (k : Fin 8), bc_and (bc_shr (s.val : Int) (k.val : Int)) 1 = ((s.val / 2 ^ k.val % 2 : Nat) : Int) ∧ (s.val < 2 ^ k.val → bc_or (s.val : Int) (bc_shl 1 (k.val : Int)) = ((s.val + 2 ^ k.val : Nat) : Int)) ∧ bc_or (s.val : Int) 0 = (s.val : Int) := by decide +kernel
