/-! ===== sets of figures ===== -/
def bs_pn (a0 : Int) : Int := (bc_and (bc_w32 ((bc_w32 ((bc_and (bc_w32 ((bc_w32 ((bc_and (bc_w32 (a0 - (bc_and (bc_ushr a0 1) 1431655765))) 858993459) + (bc_and (bc_ushr (bc_w32 (a0 - (bc_and (bc_ushr a0 1) 1431655765))) 2) 858993459))) + (bc_ushr (bc_w32 ((bc_and (bc_w32 (a0 - (bc_and (bc_ushr a0 1) 1431655765))) 858993459) + (bc_and (bc_ushr (bc_w32 (a0 - (bc_and (bc_ushr a0 1) 1431655765))) 2) 858993459))) 4))) 252645135) + (bc_ushr (bc_and (bc_w32 ((bc_w32 ((bc_and (bc_w32 (a0 - (bc_and (bc_ushr a0 1) 1431655765))) 858993459) + (bc_and (bc_ushr (bc_w32 (a0 - (bc_and (bc_ushr a0 1) 1431655765))) 2) 858993459))) + (bc_ushr (bc_w32 ((bc_and (bc_w32 (a0 - (bc_and (bc_ushr a0 1) 1431655765))) 858993459) + (bc_and (bc_ushr (bc_w32 (a0 - (bc_and (bc_ushr a0 1) 1431655765))) 2) 858993459))) 4))) 252645135) 8))) + (bc_ushr (bc_w32 ((bc_and (bc_w32 ((bc_w32 ((bc_and (bc_w32 (a0 - (bc_and (bc_ushr a0 1) 1431655765))) 858993459) + (bc_and (bc_ushr (bc_w32 (a0 - (bc_and (bc_ushr a0 1) 1431655765))) 2) 858993459))) + (bc_ushr (bc_w32 ((bc_and (bc_w32 (a0 - (bc_and (bc_ushr a0 1) 1431655765))) 858993459) + (bc_and (bc_ushr (bc_w32 (a0 - (bc_and (bc_ushr a0 1) 1431655765))) 2) 858993459))) 4))) 252645135) + (bc_ushr (bc_and (bc_w32 ((bc_w32 ((bc_and (bc_w32 (a0 - (bc_and (bc_ushr a0 1) 1431655765))) 858993459) + (bc_and (bc_ushr (bc_w32 (a0 - (bc_and (bc_ushr a0 1) 1431655765))) 2) 858993459))) + (bc_ushr (bc_w32 ((bc_and (bc_w32 (a0 - (bc_and (bc_ushr a0 1) 1431655765))) 858993459) + (bc_and (bc_ushr (bc_w32 (a0 - (bc_and (bc_ushr a0 1) 1431655765))) 2) 858993459))) 4))) 252645135) 8))) 16))) 63)
theorem bc_bitCount {d : Nat} {a : Int} {h : bc_H} {K : Int → bc_H → Prop} (hK : K (bs_pn a) h) : bf_JInteger_bitCount d a h (bc_I K) := rv_JInteger_bitCount hK
theorem bs_pnF : ∀ s, s < 256 → (0 ≤ bs_pn ((s : Nat) : Int) ∧ bs_pn ((s : Nat) : Int) ≤ 8) ∧ (s ≠ 0 → (0 ≤ bc_and (s : Int) (bc_w32 ((s : Int) - 1)) ∧ bc_and (s : Int) (bc_w32 ((s : Int) - 1)) < (s : Int)) ∧ bs_pn (s : Int) = bs_pn (bc_and (s : Int) (bc_w32 ((s : Int) - 1))) + 1) := by decide +kernel
theorem bs_pnI {s : Int} (h0 : 0 ≤ s) (h1 : s < 256) : (0 ≤ bs_pn s ∧ bs_pn s ≤ 8) ∧ (s ≠ 0 → (0 ≤ bc_and s (bc_w32 (s - 1)) ∧ bc_and s (bc_w32 (s - 1)) < s) ∧ bs_pn s = bs_pn (bc_and s (bc_w32 (s - 1))) + 1) := by
  have t := bs_pnF s.toNat (by omega)
  rw [show ((s.toNat : Nat) : Int) = s by omega] at t
  exact ⟨t.1, fun z => t.2 (by omega)⟩
theorem bc_m_bitsL {d : Nat} {h : bc_H} {K : Int → bc_H → Prop} : ∀ (k : Nat) (s r : Int), 0 ≤ s → s < 256 → s ≤ k → 0 ≤ r → r ≤ 8 - bs_pn s → K (r + bs_pn s) h → bl_M_bits_4 d r s h (bc_I K)
  | 0, s, r, h0, h1, hk, _, _, hK => by
    have e : s = 0 := by omega
    subst e
    rw [show bs_pn 0 = 0 by decide +kernel, Int.add_zero] at hK
    exact rv_M_bits_4 ⟨fun _ => hK, fun q => absurd rfl q⟩
  | k + 1, s, r, h0, h1, hk, r0, r1, hK => by
    by_cases z : s = 0
    · subst z
      rw [show bs_pn 0 = 0 by decide +kernel, Int.add_zero] at hK
      exact rv_M_bits_4 ⟨fun _ => hK, fun q => absurd rfl q⟩
    · have t := bs_pnI h0 h1
      obtain ⟨t1, t2⟩ := t.2 z
      have u := bs_pnI t1.1 (by omega)
      refine rv_M_bits_4 ⟨fun q => absurd q z, fun _ => ?_⟩
      rw [bc_wi (x := r + 1) (by omega) (by omega)]
      refine bc_m_bitsL k _ (r + 1) t1.1 (by omega) (by omega) (by omega) (by omega) ?_
      rw [show r + 1 + bs_pn (bc_and s (bc_w32 (s - 1))) = r + bs_pn s by omega]
      exact hK
theorem bc_m_bitsN {d : Nat} {s : Int} {h : bc_H} {K : Int → bc_H → Prop} (h0 : 0 ≤ s) (h1 : s < 256) (hK : K (bs_pn s) h) : bf_M_bits d s h (bc_I K) := by
  have t := bs_pnI h0 h1
  refine rv_M_bits (bc_m_bitsL s.toNat s 0 h0 h1 (by omega) (by omega) (by omega) ?_)
  rw [Int.zero_add]; exact hK
def bs_b (s f : Int) : Prop := bc_and (bc_shr s f) 1 = 1
theorem bs_topF : ∀ f, f < 8 → ∀ r, r < 2 ^ f → bc_or ((2 ^ f : Nat) : Int) ((r : Nat) : Int) = ((2 ^ f + r : Nat) : Int) ∧ ∀ i, i < 8 → (bc_and (bc_shr ((2 ^ f + r : Nat) : Int) ((i : Nat) : Int)) 1 = if i = f then 1 else bc_and (bc_shr (r : Int) (i : Int)) 1) ∧ (f ≤ i → bc_and (bc_shr (r : Int) (i : Int)) 1 = 0) := by decide +kernel
theorem bs_top {f r : Int} (f0 : 0 ≤ f) (f1 : f < 8) (r0 : 0 ≤ r) (r1 : r < bc_shl 1 f) : bc_or (bc_shl 1 f) r = bc_shl 1 f + r ∧ ∀ i, 0 ≤ i → i < 8 → (bs_b (bc_shl 1 f + r) i ↔ i = f ∨ bs_b r i) ∧ (f ≤ i → ¬ bs_b r i) := by
  have e := bs_shl f0 (by omega)
  rw [e] at r1 ⊢
  have t := bs_topF f.toNat (by omega) r.toNat (by omega)
  rw [show ((2 ^ f.toNat + r.toNat : Nat) : Int) = ((2 ^ f.toNat : Nat) : Int) + r by omega, show ((r.toNat : Nat) : Int) = r by omega] at t
  refine ⟨t.1, fun i i0 i1 => ?_⟩
  have u := t.2 i.toNat (by omega)
  rw [show ((i.toNat : Nat) : Int) = i by omega] at u
  unfold bs_b
  by_cases z : i = f
  · rw [if_pos (by omega)] at u
    refine ⟨⟨fun _ => Or.inl z, fun _ => u.1⟩, fun _ q => ?_⟩
    have := u.2 (by omega); omega
  · rw [if_neg (by omega)] at u
    rw [u.1]
    refine ⟨⟨Or.inr, fun q => q.resolve_left z⟩, fun q q2 => ?_⟩
    have := u.2 (by omega); omega
theorem bs_b0 : ∀ i, i < 8 → bc_and (bc_shr 0 ((i : Nat) : Int)) 1 = 0 := by decide +kernel
def bs_abs (x : Int) : Int := if 0 ≤ x then x else -x
def bs_df (A : Int → Int) (i j : Int) : Int := bs_abs (A (102 + 4 * i + 1) - A (102 + 4 * j + 1)) + bs_abs (A (102 + 4 * i + 2) - A (102 + 4 * j + 2))
def bs_lh (A : Int → Int) (n s : Int) : Prop := ∀ i j, 0 ≤ i → i < j → j < A 3 → bs_b s i → bs_b s j → bs_df A i j ≤ n
theorem bs_lh0 {A : Int → Int} {n : Int} (w3 : A 3 ≤ 8) : bs_lh A n 0 := fun i j i0 i1 j1 hb _ => by
  have := bs_b0 i.toNat (by omega)
  rw [show ((i.toNat : Nat) : Int) = i by omega] at this
  unfold bs_b at hb
  omega
theorem bs_lh_top {A : Int → Int} {n f r : Int} (w3 : A 3 ≤ 8) (f0 : 0 ≤ f) (f1 : f < A 3) (r0 : 0 ≤ r) (r1 : r < bc_shl 1 f) : bs_lh A n (bc_shl 1 f + r) ↔ (bs_lh A n r ∧ ∀ i, 0 ≤ i → i < A 3 → bs_b r i → bs_df A i f ≤ n) := by
  have t := (bs_top (r := r) f0 (by omega) r0 r1).2
  constructor
  · intro hl
    refine ⟨fun i j i0 i1 j1 bi bj => hl i j i0 i1 j1 ((t i i0 (by omega)).1.2 (Or.inr bi)) ((t j (by omega) (by omega)).1.2 (Or.inr bj)), fun i i0 i1 bi => ?_⟩
    have lt : i < f := by
      by_cases z : f ≤ i
      · exact absurd bi ((t i i0 (by omega)).2 z)
      · omega
    exact hl i f i0 lt f1 ((t i i0 (by omega)).1.2 (Or.inr bi)) ((t f f0 (by omega)).1.2 (Or.inl rfl))
  · intro ⟨hl, hf⟩ i j i0 i1 j1 bi bj
    rcases (t j (by omega) (by omega)).1.1 bj with e | bj
    · subst e
      rcases (t i i0 (by omega)).1.1 bi with e | bi
      · omega
      · exact hf i i0 (by omega) bi
    · have lt : j < f := by
        by_cases z : f ≤ j
        · exact absurd bj ((t j (by omega) (by omega)).2 z)
        · omega
      rcases (t i i0 (by omega)).1.1 bi with e | bi
      · omega
      · exact hl i j i0 i1 j1 bi bj
theorem bs_absC {x : Int} (h0 : -100 ≤ x) (h1 : x ≤ 100) : (if 0 ≤ bc_w32 x then bc_w32 x else bc_w32 (0 - bc_w32 x)) = bs_abs x := by
  rw [bc_wi (x := x) (by omega) (by omega), bc_wi (x := 0 - x) (by omega) (by omega)]
  unfold bs_abs; split <;> omega
theorem bs_absM {x : Int} (h0 : -100 ≤ x) (h1 : x ≤ 100) : (if bc_w32 x < bc_w32 (-(bc_w32 x)) then bc_w32 (-(bc_w32 x)) else bc_w32 x) = bs_abs x := by
  rw [bc_wi (x := x) (by omega) (by omega), bc_wi (x := -x) (by omega) (by omega)]
  unfold bs_abs; split <;> split <;> omega
theorem bs_abs_r {x : Int} (h0 : -100 ≤ x) (h1 : x ≤ 100) : 0 ≤ bs_abs x ∧ bs_abs x ≤ 100 := by unfold bs_abs; split <;> omega
theorem bc_c_isLikeAll {d : Nat} {c f s n : Int} {h : bc_H} {A : Int → Int} {B1 B2 : bc_H → Prop} (n3 : h (c + 8) 0 = A 3) (hf : bs_Cf h c A) (w3 : 0 ≤ A 3 ∧ A 3 ≤ 8) (hwf : bs_WF A) (s0 : 0 ≤ s) (s1 : s < 256) (f0 : 0 ≤ f) (f1 : f < A 3) (hA : (∀ i, 0 ≤ i → i < A 3 → bs_b s i → bs_df A i f ≤ n) → B1 h) (hB : ¬ (∀ i, 0 ≤ i → i < A 3 → bs_b s i → bs_df A i f ≤ n) → B2 h) : bf_Figures_isLikeAll (d + 1) (c + 8) f s n h (bc_B B1 B2) := by
  refine rv_Figures_isLikeAll ?_
  refine bc_lup (P := fun k => (∀ i, 0 ≤ i → i < k → bs_b s i → bs_df A i f ≤ n) → bl_Figures_isLikeAll_2 (d + 1) (c + 8) f s n k h (bc_B B1 B2)) (n := A 3) (fun a => ?_) (fun i i0 i1 ih a => ?_) (Int.le_refl 0) w3.1 (fun i i0 i1 => absurd i1 (by omega))
  · exact rv_Figures_isLikeAll_2 ⟨fun _ => hA a, fun q => absurd q (by omega)⟩
  · have nx : (bs_b s i → bs_df A i f ≤ n) → bl_Figures_isLikeAll_2 (d + 1) (c + 8) f s n (bc_w32 (i + 1)) h (bc_B B1 B2) := fun q => by
      rw [bc_wi (by omega) (by omega)]
      refine ih (fun j j0 j1 bj => ?_)
      by_cases e : j = i
      · subst e; exact q bj
      · exact a j j0 (by omega) bj
    have bb := bs_bit s0 s1 i0 (show i < 8 by omega)
    have c1 := hf i i0 i1
    have c2 := hf f f0 f1
    have d1 := hwf i i0 i1
    have d2 := hwf f f0 f1
    refine rv_Figures_isLikeAll_2 ⟨fun q => absurd q (by omega), fun _ => ⟨fun z => ⟨by omega, by omega, by omega, by omega, ?_⟩, fun z => nx (fun q => absurd (show bc_and (bc_shr s i) 1 = 1 from q) (by omega))⟩⟩
    have bi : bs_b s i := by unfold bs_b; omega
    rw [c1.2.1, c1.2.2.1, c2.2.1, c2.2.2.1, bs_absC (x := A (102 + 4 * i + 1) - A (102 + 4 * f + 1)) (by omega) (by omega), bs_absC (x := A (102 + 4 * i + 2) - A (102 + 4 * f + 2)) (by omega) (by omega)]
    have a1 := bs_abs_r (x := A (102 + 4 * i + 1) - A (102 + 4 * f + 1)) (by omega) (by omega)
    have a2 := bs_abs_r (x := A (102 + 4 * i + 2) - A (102 + 4 * f + 2)) (by omega) (by omega)
    rw [bc_wi (x := bs_abs (A (102 + 4 * i + 1) - A (102 + 4 * f + 1)) + bs_abs (A (102 + 4 * i + 2) - A (102 + 4 * f + 2))) (by omega) (by omega)]
    exact ⟨fun z => nx (fun _ => z), fun z => hB (fun q => absurd (show bs_abs (A (102 + 4 * i + 1) - A (102 + 4 * f + 1)) + bs_abs (A (102 + 4 * i + 2) - A (102 + 4 * f + 2)) ≤ n from q i i0 i1 bi) (by omega))⟩
theorem bc_m_differ {d : Nat} {i j : Int} {h : bc_H} {K : Int → bc_H → Prop} (w3 : 0 ≤ h 157 3 ∧ h 157 3 ≤ 8) (hwf : bs_WF (h 157)) (i0 : 0 ≤ i) (i1 : i < h 157 3) (j0 : 0 ≤ j) (j1 : j < h 157 3) (hK : K (bs_df (h 157) i j) h) : bf_M_differ (d + 2) i j h (bc_I K) := by
  have d1 := hwf i i0 i1
  have d2 := hwf j j0 j1
  refine rv_M_differ (d := d) ?_
  rw [bc_wi (x := 4 * i) (by omega) (by omega), bc_wi (x := 4 * j) (by omega) (by omega), bc_wi (x := 102 + 4 * i) (by omega) (by omega), bc_wi (x := 102 + 4 * j) (by omega) (by omega), bc_wi (x := 102 + 4 * i + 1) (by omega) (by omega), bc_wi (x := 102 + 4 * j + 1) (by omega) (by omega), bc_wi (x := 102 + 4 * i + 2) (by omega) (by omega), bc_wi (x := 102 + 4 * j + 2) (by omega) (by omega)]
  rw [bs_absM (x := h 157 (102 + 4 * i + 1) - h 157 (102 + 4 * j + 1)) (by omega) (by omega), bs_absM (x := h 157 (102 + 4 * i + 2) - h 157 (102 + 4 * j + 2)) (by omega) (by omega)]
  have a1 := bs_abs_r (x := h 157 (102 + 4 * i + 1) - h 157 (102 + 4 * j + 1)) (by omega) (by omega)
  have a2 := bs_abs_r (x := h 157 (102 + 4 * i + 2) - h 157 (102 + 4 * j + 2)) (by omega) (by omega)
  rw [bc_wi (x := bs_abs (h 157 (102 + 4 * i + 1) - h 157 (102 + 4 * j + 1)) + bs_abs (h 157 (102 + 4 * i + 2) - h 157 (102 + 4 * j + 2))) (by omega) (by omega)]
  exact ⟨by omega, by omega, by omega, by omega, hK⟩
