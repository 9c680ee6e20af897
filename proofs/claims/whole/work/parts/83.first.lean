/-! ===== the first order ===== -/
def bs_gf (A : Int → Int) (s : Int) : Int := bc_it (fun f p => if p = -1 ∧ bs_may A f s = 1 then f else p) (-1) (A 3)
theorem bs_gf_p (A : Int → Int) (w3 : 0 ≤ A 3 ∧ A 3 ≤ 8) (s : Int) : (bs_gf A s = -1 ∧ ∀ f, 0 ≤ f → f < A 3 → bs_may A f s = 0) ∨ ((0 ≤ bs_gf A s ∧ bs_gf A s < A 3) ∧ bs_may A (bs_gf A s) s = 1 ∧ ∀ f, 0 ≤ f → f < bs_gf A s → bs_may A f s = 0) := by
  refine bc_it_ind (fun i p => (p = -1 ∧ ∀ f, 0 ≤ f → f < i → bs_may A f s = 0) ∨ ((0 ≤ p ∧ p < i) ∧ bs_may A p s = 1 ∧ ∀ f, 0 ≤ f → f < p → bs_may A f s = 0)) (Or.inl ⟨rfl, fun f f0 f1 => absurd f1 (by omega)⟩) (fun i p i0 ih => ?_) w3.1
  rcases ih with ⟨rfl, q⟩ | ⟨q1, q2, q3⟩
  · rcases bs_cm_r A i s with e | e
    · rw [if_neg (fun y => absurd y.2 (by omega))]
      refine Or.inl ⟨rfl, fun f f0 f1 => ?_⟩
      by_cases z : f = i
      · rw [z]; exact e
      · exact q f f0 (by omega)
    · rw [if_pos ⟨rfl, e⟩]
      exact Or.inr ⟨⟨i0, by omega⟩, e, q⟩
  · rw [if_neg (fun y => absurd y.1 (by omega))]
    exact Or.inr ⟨⟨q1.1, by omega⟩, q2, q3⟩
def bs_gq (A : Int → Int) (i : Int) : Int := bc_it (fun _ s => bs_sup (bs_gf A s) s) 0 i
theorem bs_gq_s (A : Int → Int) {i : Int} (h : 0 ≤ i) : bs_gq A (i + 1) = bs_sup (bs_gf A (bs_gq A i)) (bs_gq A i) := bc_its _ _ h
theorem bs_Lb_full {A : Int → Int} (w3 : 0 ≤ A 3 ∧ A 3 ≤ 8) : bs_Lb A (bc_shl 1 (A 3) - 1) = 1 := by
  unfold bs_Lb
  rw [(bs_full w3.1 w3.2).1.1, Int.sub_self]
  exact if_pos rfl
theorem bc_c_first {d : Nat} {c k : Int} {h : bc_H} {A : Int → Int} {K : Int → bc_H → Prop} (n3 : h (c + 8) 0 = A 3) (hf : bs_Cf h c A) (w3 : 0 ≤ A 3 ∧ A 3 ≤ 8) (hwf : bs_WF A) (k0 : 0 ≤ k) (k1 : k < A 3) (hP : 0 < bs_Lb A 0 → K (bs_gf A (bs_gq A k)) h) (hN : bs_Lb A 0 = 0 → K (-1) h) : bf_Figures_inFirstOrder (d + 1) (c + 8) k h (bc_I K) := by
  have sr := bs_shl_r w3.1 w3.2
  have fu := bs_full w3.1 w3.2
  have n0 := bs_Lb_n w3 0
  refine rv_Figures_inFirstOrder ?_
  refine bc_lup (P := fun i => (0 ≤ bs_gq A i ∧ bs_gq A i < bc_shl 1 (A 3)) → bs_pn (bs_gq A i) = i → (0 < bs_Lb A 0 ↔ 0 < bs_Lb A (bs_gq A i)) → bl_Figures_inFirstOrder_6 (d + 1) (c + 8) k (bs_gq A i) (if k < i then bs_gf A (bs_gq A k) else -1) i h (bc_I K)) (n := A 3) (fun a1 a2 a3 => ?_) (fun i i0 i1 ih a1 a2 a3 => ?_) (Int.le_refl 0) w3.1 ⟨Int.le_refl 0, by show (0 : Int) < _; omega⟩ bs_pn0 Iff.rfl |> fun t => by rw [if_neg (by omega)] at t; exact t
  · refine rv_Figures_inFirstOrder_6 ⟨fun _ => ?_, fun q => absurd q (by omega)⟩
    rw [if_pos k1]
    have e : bs_gq A (A 3) = bc_shl 1 (A 3) - 1 := by
      by_cases z : bs_gq A (A 3) = bc_shl 1 (A 3) - 1
      · exact z
      · have := fu.2 _ a1.1 a1.2 z; omega
    exact hP (a3.2 (by rw [e, bs_Lb_full w3]; omega))
  · refine rv_Figures_inFirstOrder_6 ⟨fun q => absurd q (by omega), fun _ => ?_⟩
    have gs := bs_gq_s A i0
    have gp := bs_gf_p A w3 (bs_gq A i)
    obtain ⟨s, hs⟩ : ∃ s, s = bs_gq A i := ⟨_, rfl⟩
    have nf : s ≠ bc_shl 1 (A 3) - 1 := fun e => by rw [← hs, e, fu.1.1] at a2; omega
    rw [← hs] at gs gp a1 a2 a3 ⊢
    have none : (∀ f, 0 ≤ f → f < A 3 → bs_may A f s = 0) → K (-1) h := fun q => hN (by
      by_cases z : 0 < bs_Lb A 0
      · obtain ⟨g, hg, e, _⟩ := (bs_Lb_pos w3 a1.1 a1.2 nf).1 (a3.1 z)
        have := q g hg.1 hg.2; omega
      · omega)
    have some : ∀ f, 0 ≤ f → f < A 3 → bs_may A f s = 1 → (∀ u, 0 ≤ u → u < f → bs_may A u s = 0) → bl_Figures_inFirstOrder_6 (d + 1) (c + 8) k (bc_or s (bc_shl 1 f)) (if i = k then f else (if k < i then bs_gf A (bs_gq A k) else -1)) (bc_w32 (i + 1)) h (bc_I K) := fun f f0 f1 e q => by
      have ef : bs_gf A s = f := by
        rcases gp with ⟨_, y⟩ | ⟨y1, y2, y3⟩
        · have := y f f0 f1; omega
        · by_cases z : bs_gf A s < f
          · have := q _ y1.1 z; omega
          · by_cases z2 : f < bs_gf A s
            · have := y3 f f0 z2; omega
            · omega
      rw [ef] at gs
      have gs' : bs_gq A (i + 1) = bc_or s (bc_shl 1 f) := gs
      rw [gs'] at ih
      have ud := (bs_ud (f := f) (s := s) f0 (by omega) a1.1 (by omega)).2 (bs_may1.1 e).1
      have t := ih (bs_or_r a1.1 f0 f1 w3.2 a1.2) (by have : bs_pn (bs_sup f s) = bs_pn s + 1 := ud.2.2.2.2
                                                      show bs_pn (bs_sup f s) = i + 1
                                                      omega) (a3.trans ⟨fun y => bs_exch w3 hwf 8 s f (by have := (bs_pnI (s := s) a1.1 (by omega)).1; omega) a1.1 a1.2 f0 f1 y e, fun y => (bs_Lb_pos w3 a1.1 a1.2 nf).2 ⟨f, ⟨f0, f1⟩, e, y⟩⟩)
      rw [bc_wi (by omega) (by omega)]
      have ew : (if k < i + 1 then bs_gf A (bs_gq A k) else -1) = (if i = k then f else (if k < i then bs_gf A (bs_gq A k) else -1)) := by
        by_cases z : i = k
        · rw [if_pos z, if_pos (by omega), ← z, ← hs, ef]
        · rw [if_neg z]
          by_cases z2 : k < i
          · rw [if_pos z2, if_pos (by omega)]
          · rw [if_neg z2, if_neg (by omega)]
      rw [← ew]; exact t
    refine bc_lup (P := fun x => (∀ u, 0 ≤ u → u < x → bs_may A u s = 0) → bl_Figures_inFirstOrder_14 (d + 1) (c + 8) k s (if k < i then bs_gf A (bs_gq A k) else -1) i (-1) x h (bc_I K)) (n := A 3) (fun q => ?_) (fun x x0 x1 ihx q => ?_) (Int.le_refl 0) w3.1 (fun u u0 u1 => absurd u1 (by omega))
    · exact rv_Figures_inFirstOrder_14 ⟨fun _ => ⟨fun y => absurd rfl y, fun _ => none q⟩, fun y => absurd y (by omega)⟩
    · have nx : bs_may A x s = 0 → bl_Figures_inFirstOrder_14 (d + 1) (c + 8) k s (if k < i then bs_gf A (bs_gq A k) else -1) i (-1) (bc_w32 (x + 1)) h (bc_I K) := fun e => by
        rw [bc_wi (by omega) (by omega)]
        refine ihx (fun u u0 u1 => ?_)
        by_cases z : u = x
        · rw [z]; exact e
        · exact q u u0 (by omega)
      have bb := bs_bit (s := s) (k := x) a1.1 (by omega) x0 (by omega)
      have e4 := (hf x x0 x1).2.2.2
      refine rv_Figures_inFirstOrder_14 ⟨fun y => absurd y (by omega), fun _ => ⟨fun y => absurd rfl y, fun _ => ⟨fun y => nx (if_pos (by omega)), fun y => ⟨by omega, ?_⟩⟩⟩⟩
      have nb : ¬ bs_b s x := fun z => y (by unfold bs_b at z; omega)
      rw [e4]
      by_cases z : bc_and (A (102 + 4 * x + 3)) (bc_xor s (-1)) = 0
      · rw [if_pos z]
        have em : bs_may A x s = 1 := bs_may1.2 ⟨nb, z⟩
        have t := some x x0 x1 em q
        have x9 : x ≠ -1 := by omega
        refine rv_Figures_inFirstOrder_14 ⟨fun _ => ⟨fun _ => t, fun y => absurd y x9⟩, fun _ => ⟨fun _ => ⟨fun _ => t, fun y => absurd y x9⟩, fun y => absurd y x9⟩⟩
      · rw [if_neg z]
        exact nx ((if_neg nb).trans (if_neg z))
