/-! calls -/
theorem bc_take_spec : ∀ (n : Nat) (st acc as rest : bc_St), bc_take n st acc = some (as, rest) → ∃ pre : bc_St, as = pre ++ acc ∧ pre.length = n ∧ st = pre.reverse ++ rest
  | 0, st, acc, as, rest, h => by
    simp only [bc_take, Option.some.injEq, Prod.mk.injEq] at h
    exact ⟨[], by rw [← h.1]; rfl, rfl, by rw [← h.2]; rfl⟩
  | n + 1, [], acc, as, rest, h => by simp [bc_take] at h
  | n + 1, v :: st, acc, as, rest, h => by
    simp only [bc_take] at h
    obtain ⟨pre, h1, h2, h3⟩ := bc_take_spec n st (v :: acc) as rest h
    exact ⟨pre ++ [v], by rw [h1]; simp, by simp [h2], by rw [h3]; simp⟩
theorem bc_lget_pad : ∀ (l : bc_L) (n i : Nat), bc_lget (bc_pad l n) i = bc_lget l i
  | l, 0, i => by cases l <;> rfl
  | [], n + 1, 0 => rfl
  | [], n + 1, i + 1 => by show bc_lget (bc_pad [] n) i = none; rw [bc_lget_pad [] n i]; rfl
  | a :: l, n + 1, 0 => rfl
  | a :: l, n + 1, i + 1 => by show bc_lget (bc_pad l n) i = bc_lget l i; exact bc_lget_pad l n i
theorem bc_ent_mem {g : bc_GG} {ad : Nat → Nat} : ∀ (as : bc_St) (o i : Nat) (v : bc_V), bc_lget (bc_ent as) i = some v → v ∈ as ∧ (o + i, bc_cv g ad v) ∈ lv_args o (as.map (bc_cv g ad))
  | [], o, i, v, h => by cases i <;> cases h
  | .inl x :: as, o, i, v, h => by
    cases i with
    | zero => cases h; exact ⟨List.mem_cons_self, List.mem_cons_self⟩
    | succ i =>
      obtain ⟨h1, h2⟩ := bc_ent_mem (g := g) (ad := ad) as (o + 1) i v h
      refine ⟨List.mem_cons_of_mem _ h1, List.mem_cons_of_mem _ ?_⟩
      rw [show o + (i + 1) = o + 1 + i by omega]
      exact h2
  | .inr (.inr x) :: as, o, i, v, h => by
    cases i with
    | zero => cases h; exact ⟨List.mem_cons_self, List.mem_cons_self⟩
    | succ i =>
      obtain ⟨h1, h2⟩ := bc_ent_mem (g := g) (ad := ad) as (o + 1) i v h
      refine ⟨List.mem_cons_of_mem _ h1, ?_⟩
      rw [List.map_cons, lv_args, bc_catr, if_neg (by decide), show o + (i + 1) = o + 1 + i by omega]
      exact List.mem_cons_of_mem _ h2
  | .inr (.inl x) :: as, o, i, v, h => by
    cases i with
    | zero => cases h; exact ⟨List.mem_cons_self, List.mem_cons_self⟩
    | succ i =>
      cases i with
      | zero => cases h
      | succ i =>
        obtain ⟨h1, h2⟩ := bc_ent_mem (g := g) (ad := ad) as (o + 2) i v h
        refine ⟨List.mem_cons_of_mem _ h1, List.mem_cons_of_mem _ ?_⟩
        rw [show o + (i + 1 + 1) = o + 2 + i by omega]
        exact h2
theorem bc_sl_len {g : bc_GG} {ad : Nat → Nat} : ∀ as : bc_St, (lg_sl (as.map (bc_cv g ad))).length = bc_cat as
  | [] => rfl
  | .inl x :: as => by
    have ih := bc_sl_len (g := g) (ad := ad) as
    unfold lg_sl at ih ⊢
    rw [List.map_cons, List.flatMap_cons, List.length_append, ih]
    rfl
  | .inr (.inl x) :: as => by
    have ih := bc_sl_len (g := g) (ad := ad) as
    unfold lg_sl at ih ⊢
    rw [List.map_cons, List.flatMap_cons, List.length_append, ih]
    rfl
  | .inr (.inr x) :: as => by
    have ih := bc_sl_len (g := g) (ad := ad) as
    unfold lg_sl at ih ⊢
    rw [List.map_cons, List.flatMap_cons, List.length_append, ih, bc_catr]
    rfl
