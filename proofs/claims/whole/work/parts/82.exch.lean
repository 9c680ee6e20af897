/-! ===== what may come never bars a full order ===== -/
theorem bs_tN_pos {G : Int → Int} : ∀ j : Nat, (∀ f : Nat, f < j → 0 ≤ G (f : Int)) → (0 ≤ bs_tN G j ∧ (0 < bs_tN G j ↔ ∃ f : Nat, f < j ∧ 0 < G (f : Int)))
  | 0, _ => ⟨Int.le_refl 0, fun q => absurd (show (0 : Int) < 0 from q) (by omega), fun ⟨f, hf, _⟩ => absurd hf (by omega)⟩
  | j + 1, e => by
    have ih := bs_tN_pos j (fun f hf => e f (by omega))
    have t := e j (by omega)
    show 0 ≤ bs_tN G j + G (j : Int) ∧ (0 < bs_tN G j + G (j : Int) ↔ _)
    refine ⟨by omega, fun q => ?_, fun ⟨f, hf, hp⟩ => ?_⟩
    · by_cases z : 0 < G (j : Int)
      · exact ⟨j, by omega, z⟩
      · obtain ⟨f, hf, hp⟩ := ih.2.1 (by omega)
        exact ⟨f, by omega, hp⟩
    · by_cases z : f = j
      · subst z; omega
      · have := ih.2.2 ⟨f, by omega, hp⟩; omega
theorem bs_may1 {A : Int → Int} {f s : Int} : bs_may A f s = 1 ↔ ¬ bs_b s f ∧ bc_and (A (102 + 4 * f + 3)) (bc_xor s (-1)) = 0 := by
  unfold bs_may bs_b
  by_cases z : bc_and (bc_shr s f) 1 = 1
  · rw [if_pos z]
    exact ⟨fun q => absurd q (by decide), fun q => absurd z q.1⟩
  · rw [if_neg z]
    by_cases y : bc_and (A (102 + 4 * f + 3)) (bc_xor s (-1)) = 0
    · rw [if_pos y]; exact ⟨fun _ => ⟨z, y⟩, fun _ => rfl⟩
    · rw [if_neg y]; exact ⟨fun q => absurd q (by decide), fun q => absurd q.2 y⟩
theorem bs_may_up {A : Int → Int} (w3 : 0 ≤ A 3 ∧ A 3 ≤ 8) (hwf : bs_WF A) {f g s : Int} (s0 : 0 ≤ s) (s1 : s < 256) (f0 : 0 ≤ f) (f1 : f < A 3) (g0 : 0 ≤ g) (g1 : g < A 3) (n : f ≠ g) (h : bs_may A f s = 1) : bs_may A f (bs_sup g s) = 1 := by
  have t := bs_may1.1 h
  have w := (hwf f f0 f1).2.2.2
  have r := bs_shl_r w3.1 w3.2
  exact bs_may1.2 ⟨bs_sup_b s0 s1 g0 (by omega) f0 (by omega) n t.1, bs_sub_up w.1 (by omega) s0 s1 g0 (by omega) t.2⟩
theorem bs_Lb_s {A : Int → Int} (w3 : 0 ≤ A 3 ∧ A 3 ≤ 8) {s : Int} (s0 : 0 ≤ s) (s1 : s < bc_shl 1 (A 3)) (nf : s ≠ bc_shl 1 (A 3) - 1) : bs_Lb A s = bs_tN (fun f => bs_may A f s * bs_Lb A (bs_sup f s)) (A 3).toNat := by
  have r := bs_shl_r w3.1 w3.2
  have ps := (bs_pnI (s := s) s0 (by omega)).1
  have pm := (bs_full w3.1 w3.2).2 s s0 s1 nf
  obtain ⟨k, hk⟩ : ∃ k : Nat, (A 3 - bs_pn s).toNat = k + 1 := ⟨(A 3 - bs_pn s).toNat - 1, by omega⟩
  have e1 : bs_Lb A s = bs_tN (fun f => bs_may A f s * bs_NF A k (bs_sup f s) (bc_shl 1 (A 3) - 1)) (A 3).toNat := by unfold bs_Lb; rw [hk]; rfl
  rw [e1]
  refine bs_tN_c _ (fun f hf => ?_)
  show bs_may A f s * bs_NF A k (bs_sup f s) (bc_shl 1 (A 3) - 1) = bs_may A f s * bs_Lb A (bs_sup f s)
  rcases bs_cm_r A f s with e | e
  · rw [e, Int.zero_mul, Int.zero_mul]
  · have u := (bs_ud (f := (f : Int)) (s := s) (by omega) (by omega) s0 (by omega)).2 (bs_may1.1 e).1
    unfold bs_Lb
    rw [show (A 3 - bs_pn (bs_sup f s)).toNat = k by omega]
theorem bs_Lb_n {A : Int → Int} (w3 : 0 ≤ A 3 ∧ A 3 ≤ 8) (s : Int) : 0 ≤ bs_Lb A s := (bs_NF_r w3 _ _ _).1
theorem bs_Lb_pos {A : Int → Int} (w3 : 0 ≤ A 3 ∧ A 3 ≤ 8) {s : Int} (s0 : 0 ≤ s) (s1 : s < bc_shl 1 (A 3)) (nf : s ≠ bc_shl 1 (A 3) - 1) : 0 < bs_Lb A s ↔ ∃ g, (0 ≤ g ∧ g < A 3) ∧ bs_may A g s = 1 ∧ 0 < bs_Lb A (bs_sup g s) := by
  rw [bs_Lb_s w3 s0 s1 nf]
  have t := (bs_tN_pos (G := fun f => bs_may A f s * bs_Lb A (bs_sup f s)) (A 3).toNat (fun f hf => by
    have n := bs_Lb_n w3 (bs_sup f s)
    show 0 ≤ bs_may A f s * bs_Lb A (bs_sup f s)
    rcases bs_cm_r A f s with e | e
    · rw [e, Int.zero_mul]; omega
    · rw [e, Int.one_mul]; exact n)).2
  rw [t]
  constructor
  · intro ⟨f, hf, hp⟩
    have hp' : 0 < bs_may A f s * bs_Lb A (bs_sup f s) := hp
    rcases bs_cm_r A f s with e | e
    · rw [e, Int.zero_mul] at hp'; omega
    · rw [e, Int.one_mul] at hp'
      exact ⟨f, by omega, e, hp'⟩
  · intro ⟨g, hg, e, hp⟩
    refine ⟨g.toNat, by omega, ?_⟩
    show 0 < bs_may A ((g.toNat : Nat) : Int) s * bs_Lb A (bs_sup ((g.toNat : Nat) : Int) s)
    rw [show ((g.toNat : Nat) : Int) = g by omega, e, Int.one_mul]
    exact hp
theorem bs_exch {A : Int → Int} (w3 : 0 ≤ A 3 ∧ A 3 ≤ 8) (hwf : bs_WF A) : ∀ (k : Nat) (s f : Int), A 3 - bs_pn s ≤ k → 0 ≤ s → s < bc_shl 1 (A 3) → 0 ≤ f → f < A 3 → 0 < bs_Lb A s → bs_may A f s = 1 → 0 < bs_Lb A (bs_sup f s)
  | k, s, f, hk, s0, s1, f0, f1, hp, hm => by
    have r := bs_shl_r w3.1 w3.2
    have fu := bs_full w3.1 w3.2
    have nf : s ≠ bc_shl 1 (A 3) - 1 := fun e => by
      subst e
      exact (bs_may1.1 hm).1 (fu.1.2 f f0 f1)
    have pm := fu.2 s s0 s1 nf
    obtain ⟨g, hg, e, hq⟩ := (bs_Lb_pos w3 s0 s1 nf).1 hp
    by_cases z : f = g
    · subst z; exact hq
    · match k, hk with
      | 0, hk => omega
      | k + 1, hk =>
        have ug : 0 ≤ bs_sup g s ∧ bs_sup g s < bc_shl 1 (A 3) := bs_or_r s0 hg.1 hg.2 w3.2 s1
        have uf : 0 ≤ bs_sup f s ∧ bs_sup f s < bc_shl 1 (A 3) := bs_or_r s0 f0 f1 w3.2 s1
        have p5 := ((bs_ud (f := g) (s := s) hg.1 (by omega) s0 (by omega)).2 (bs_may1.1 e).1).2.2.2.2
        have mf := bs_may_up w3 hwf s0 (by omega) f0 f1 hg.1 hg.2 z hm
        have mg := bs_may_up w3 hwf s0 (by omega) hg.1 hg.2 f0 f1 (fun q => z q.symm) e
        have t := bs_exch w3 hwf k (bs_sup g s) f (by omega) ug.1 ug.2 f0 f1 hq mf
        rw [← bs_sup_cc s0 (by omega) hg.1 (by omega) f0 (by omega)] at t
        have nf2 : bs_sup f s ≠ bc_shl 1 (A 3) - 1 := fun q => (bs_may1.1 mg).1 (by rw [q]; exact fu.1.2 g hg.1 hg.2)
        exact (bs_Lb_pos w3 uf.1 uf.2 nf2).2 ⟨g, hg, mg, t⟩
