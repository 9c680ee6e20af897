/-! locals -/
theorem bc_lget_set (l : bc_L) (i j : Nat) (x : Option bc_V) : bc_lget (bc_lset l i x) j = if j = i then x else bc_lget l j := by
  induction i generalizing l j with
  | zero => cases l <;> cases j <;> simp [bc_lset, bc_lget]
  | succ i ih => cases l <;> cases j <;> simp [bc_lset, bc_lget, ih]
theorem bc_lget_cl {l : bc_L} {n j : Nat} {w : bc_V} (h : bc_lget (bc_cl l n) j = some w) : bc_lget l j = some w ∧ ¬ (j + 1 = n ∧ ∃ x, w = .inr (.inl x)) := by
  cases n with
  | zero => exact ⟨h, by omega⟩
  | succ n =>
    simp only [bc_cl] at h
    split at h
    · rename_i x hx
      rw [bc_lget_set] at h
      by_cases e : j = n
      · rw [if_pos e] at h; cases h
      · rw [if_neg e] at h; exact ⟨h, by omega⟩
    · rename_i hx
      refine ⟨h, fun q => ?_⟩
      obtain ⟨q1, x, rfl⟩ := q
      have e : j = n := by omega
      subst e
      exact hx x h
def bc_lv (g : bc_GG) (ad : Nat → Nat) (nL : Nat) (ls : bc_L) : List (Nat × Value) := (List.range nL).filterMap (fun j => (bc_lget ls j).map (fun w => (j, bc_cv g ad w)))
theorem bc_lv_mem {g : bc_GG} {ad : Nat → Nat} {nL : Nat} {ls : bc_L} {q : Nat × Value} : q ∈ bc_lv g ad nL ls ↔ q.1 < nL ∧ ∃ w, bc_lget ls q.1 = some w ∧ q.2 = bc_cv g ad w := by
  unfold bc_lv
  rw [List.mem_filterMap]
  constructor
  · rintro ⟨j, hj, h⟩
    cases hw : bc_lget ls j with
    | none => rw [hw] at h; cases h
    | some w =>
      rw [hw] at h
      cases h
      exact ⟨List.mem_range.mp hj, w, hw, rfl⟩
  · rintro ⟨h1, w, h2, h3⟩
    refine ⟨q.1, List.mem_range.mpr h1, ?_⟩
    rw [h2]
    show some (q.1, bc_cv g ad w) = some q
    rw [← h3]
theorem bc_lh_has {g : bc_GG} {ad : Nat → Nat} {np nL : Nat} {lsc : Array Slot} {ls : bc_L} (h : bc_lh g ad np nL lsc ls) : lv_has lsc nL (bc_lv g ad nL ls) := by
  refine ⟨h.1, h.2.1, fun q hq => ?_⟩
  obtain ⟨-, w, h2, h3⟩ := bc_lv_mem.mp hq
  rw [h3]
  exact (h.2.2 _ _ h2).2
theorem bc_lh_lt {g : bc_GG} {ad : Nat → Nat} {np nL : Nat} {lsc : Array Slot} {ls : bc_L} (h : bc_lh g ad np nL lsc ls) {j : Nat} {w : bc_V} (hw : bc_lget ls j = some w) : j < nL := by
  have := (Array.getElem?_eq_some_iff.mp (h.2.2 _ _ hw).2).1
  rw [h.1] at this
  exact this
theorem bc_cv_cat2 {g : bc_GG} {ad : Nat → Nat} {w : bc_V} (h : (bc_cv g ad w).category = 2) : ∃ x, w = .inr (.inl x) := by
  rcases w with x | x | x
  · cases h
  · exact ⟨x, rfl⟩
  · rw [bc_catr] at h; cases h
theorem bc_lh_sto {g : bc_GG} {ad : Nat → Nat} {np nL : Nat} {lsc ls1 : Array Slot} {ls : bc_L} {i : Nat} {v : bc_V} (h : bc_lh g ad np nL lsc ls) (hv : bc_vo np v)
    (h1 : lv_has ls1 nL ((i, bc_cv g ad v) :: (bc_lv g ad nL ls).filter (fun q => !(q.1 == i) && !(q.1 + 1 == i && q.2.category == 2)))) : bc_lh g ad np nL ls1 (bc_sto ls i v) := by
  refine ⟨h1.1, h1.2.1, fun j w hw => ?_⟩
  unfold bc_sto at hw
  rw [bc_lget_set] at hw
  by_cases e : j = i
  · rw [if_pos e] at hw
    cases hw
    rw [e]
    exact ⟨hv, h1.2.2 _ List.mem_cons_self⟩
  · rw [if_neg e] at hw
    obtain ⟨h2, h3⟩ := bc_lget_cl hw
    refine ⟨(h.2.2 _ _ h2).1, h1.2.2 (j, bc_cv g ad w) (List.mem_cons_of_mem _ (List.mem_filter.mpr ⟨bc_lv_mem.mpr ⟨bc_lh_lt h h2, w, h2, rfl⟩, ?_⟩))⟩
    simp only [Bool.and_eq_true, Bool.not_eq_true', beq_eq_false_iff_ne, ne_eq, Bool.and_eq_false_iff]
    refine ⟨e, ?_⟩
    by_cases z : j + 1 = i
    · exact Or.inr (fun q => h3 ⟨z, bc_cv_cat2 q⟩)
    · exact Or.inl z
theorem bc_lh_sto2 {g : bc_GG} {ad : Nat → Nat} {np nL : Nat} {lsc ls1 : Array Slot} {ls : bc_L} {i : Nat} {v : bc_V} (h : bc_lh g ad np nL lsc ls) (hv : bc_vo np v)
    (h1 : lv_has ls1 nL ((i, bc_cv g ad v) :: (bc_lv g ad nL ls).filter (fun q => !(q.1 == i) && (!(q.1 == i + 1) && !(q.1 + 1 == i && q.2.category == 2))))) : bc_lh g ad np nL ls1 (bc_sto2 ls i v) := by
  refine ⟨h1.1, h1.2.1, fun j w hw => ?_⟩
  unfold bc_sto2 at hw
  rw [bc_lget_set] at hw
  by_cases e1 : j = i + 1
  · rw [if_pos e1] at hw; cases hw
  · rw [if_neg e1, bc_lget_set] at hw
    by_cases e : j = i
    · rw [if_pos e] at hw
      cases hw
      rw [e]
      exact ⟨hv, h1.2.2 _ List.mem_cons_self⟩
    · rw [if_neg e] at hw
      obtain ⟨h2, h3⟩ := bc_lget_cl hw
      refine ⟨(h.2.2 _ _ h2).1, h1.2.2 (j, bc_cv g ad w) (List.mem_cons_of_mem _ (List.mem_filter.mpr ⟨bc_lv_mem.mpr ⟨bc_lh_lt h h2, w, h2, rfl⟩, ?_⟩))⟩
      simp only [Bool.and_eq_true, Bool.not_eq_true', beq_eq_false_iff_ne, ne_eq, Bool.and_eq_false_iff]
      refine ⟨e, e1, ?_⟩
      by_cases z : j + 1 = i
      · exact Or.inr (fun q => h3 ⟨z, bc_cv_cat2 q⟩)
      · exact Or.inl z
theorem bc_stcons {np : Nat} {st : bc_St} {v : bc_V} (hv : bc_vo np v) (hV : ∀ w ∈ st, bc_vo np w) : ∀ w ∈ v :: st, bc_vo np w := fun w hw => by
  rcases List.mem_cons.mp hw with rfl | hw
  · exact hv
  · exact hV w hw
