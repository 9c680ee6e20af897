/-! the law's frame, from its entry to its loop, and from its loop to the end -/
theorem bc_r1_eq : bc_r1 = some (none, 156, bc_hC1) := by
  have h := bc_run1
  unfold bc_hC1
  unfold bc_z1 at h
  split at h
  · rename_i q; rw [q]
  · cases h
theorem bc_r2_eq : bc_r2 = some (none, 185, bc_hB) := by
  have h := (Bool.and_eq_true_iff.mp bc_run2).1
  unfold bc_hB
  unfold bc_z2 at h
  split at h
  · rename_i q; rw [q]
  · cases h
theorem bc_finB_in {h : bc_H} (hb : bc_finB h = true) : bc_fin h 185 := by
  intro i hi c hc j hj o ho
  have h1 := List.all_eq_true.mp hb i (List.mem_range.mpr hi)
  rw [hc] at h1
  have h2 := List.all_eq_true.mp h1 j (List.mem_range.mpr hj)
  rw [ho] at h2
  simpa using h2
theorem bc_fin_of {h h' : bc_H} {np : Nat} (hh : ∀ a b : Int, 0 ≤ a → h' a b = h a b) (hf : bc_fin h np) : bc_fin h' np := fun i hi c hc j hj o ho => by
  rw [hh i j (by omega)]
  exact hf i hi c hc j hj o ho
/-- the memory with the script beside it -/
def bc_mrg (h : bc_H) (L : Nat) (xs : Nat → Int32) : bc_H := fun a b => if a = -2 then (xs b.toNat).toInt else if a = -3 then (L : Int) else h a b
theorem bc_mrg_at {h : bc_H} {L : Nat} {xs : Nat → Int32} {a : Int} (ha : 0 ≤ a) : bc_mrg h L xs a = h a := by
  funext b
  unfold bc_mrg
  rw [if_neg (by omega), if_neg (by omega)]
def bc_Init (h : bc_H) (L : Nat) : Prop := (∀ a b : Int, 0 ≤ a → h a b = bc_hB a b) ∧ h (-3) 0 = (L : Int) ∧ L ≤ 3072 ∧ ∀ j : Int, 0 ≤ j → bc_i (h (-2) j)
def bc_lsL (i : Int) : bc_L := [some (.inr (.inr ((7, 0), -1))), some (.inr (.inr ((0, 11), 0))), some (.inr (.inr ((0, 12), 156))), some (.inl i)]
theorem bc_vo_8 {np : Nat} : bc_vo np (.inr (.inr ((7, 0), -1))) := Or.inl rfl
def bc_lw : List Instr := [.new 11, .dup, .invokespecial 119, .astore 1, .new 12, .dup, .invokespecial 194, .astore 2, .iconst 0, .istore 3]
theorem bc_lw_ok : ∀ n i, bc_lw[n]? = some i → (bc_code 0)[0 + n]? = some i := by
  intro n i h
  have h0 : ((List.range 10).all (fun n => decide ((bc_code 0)[n]? = bc_lw[n]?))) = true := by decide +kernel
  have hn : n < 10 := (List.getElem?_eq_some_iff.mp h).1
  have := List.all_eq_true.mp h0 n (List.mem_range.mpr hn)
  rw [decide_eq_true_eq] at this
  rw [Nat.zero_add, this]
  exact h
/-- the first rows of the law, as the small machine runs them -/
theorem bc_lw_run {P : bc_P} {Q : bc_Q} {h0 h1 h2 : bc_H} (a1 : P 99 119 0 1 (bc_pad (bc_ent [.inr (.inr ((0, 11), 0))]) (bc_mt 119).2.2.1) [] (bc_new h0 0 (0, 11)) 156 (bc_E none h1)) (a2 : P 99 194 0 157 (bc_pad (bc_ent [.inr (.inr ((0, 12), 156))]) (bc_mt 194).2.2.1) [] (bc_new h1 156 (0, 12)) 185 (bc_E none h2)) (hx : P 100 0 10 185 (bc_lsL 0) [] h2 185 Q) : bc_seg false P 100 0 185 Q (bc_lw ++ [.goto ((10 : Nat) : Int)]) 0 (bc_pad (bc_ent [.inr (.inr ((7, 0), -1))]) 4) [] h0 := by
  refine And.intro ⟨rfl, by decide⟩ ?_
  refine Exists.intro 156 (Exists.intro (bc_E none h1) (And.intro ⟨by decide, by decide⟩ (And.intro a1 ?_)))
  intro r h' q
  have q1 := q.1
  have q2 := q.2
  subst q1
  subst q2
  refine And.intro ⟨rfl, by decide⟩ ?_
  refine Exists.intro 185 (Exists.intro (bc_E none h2) (And.intro ⟨by decide, by decide⟩ (And.intro a2 ?_)))
  intro r h' q
  have q1 := q.1
  have q2 := q.2
  subst q1
  subst q2
  exact hx
