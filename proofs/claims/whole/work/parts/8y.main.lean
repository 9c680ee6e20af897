/-! ===== the law's walk ===== -/
abbrev bs_Qf : bc_Q := fun v _ => v = some (.inl 1)
theorem bs_L_22 {S : Int → Int} {L c s p q x : Int} {h : bc_H} (hS : ∀ j : Int, 0 ≤ j → bc_i (S j)) (L3 : L ≤ 3072) (x0 : 0 ≤ x) (x1 : x ≤ L - 6) (hR : bs_R S L c s p q h) (next : ∀ c s p q h2, bs_R S L c s p q h2 → bl_law_1447 100 x h2 bs_Qf) : bl_law_22 100 x h bs_Qf := by
  have e3 := hR.2.2.1.2
  refine rv_law_22 (d := 99) ?_
  refine bs_o_status (d := 99) (P := fun y y2 h2 => (y = y2 → bl_law_1447 100 x h2 bs_Qf) ∧ (y ≠ y2 → bs_Qf (some (.inl 0)) h2)) hR (fun y h1 e e' k => ?_) (fun y h2 r => ⟨fun _ => next _ _ _ _ _ r, fun q => absurd rfl q⟩)
  exact k
theorem bs_L_29 {S : Int → Int} {L c s p q x : Int} {h : bc_H} (hS : ∀ j : Int, 0 ≤ j → bc_i (S j)) (L3 : L ≤ 3072) (x0 : 0 ≤ x) (x1 : x ≤ L - 6) (hR : bs_R S L c s p q h) (next : ∀ c s p q h2, bs_R S L c s p q h2 → bl_law_1447 100 x h2 bs_Qf) : bl_law_29 100 x h bs_Qf := by
  have e3 := hR.2.2.1.2
  refine rv_law_29 (d := 99) ?_
  refine bs_o_top (d := 99) (P := fun y y2 h2 => (y = y2 → bl_law_1447 100 x h2 bs_Qf) ∧ (y ≠ y2 → bs_Qf (some (.inl 0)) h2)) hR (fun y h1 e e' k => ?_) (fun y h2 r => ⟨fun _ => next _ _ _ _ _ r, fun q => absurd rfl q⟩)
  exact k
theorem bs_L_37 {S : Int → Int} {L c s p q x : Int} {h : bc_H} (hS : ∀ j : Int, 0 ≤ j → bc_i (S j)) (L3 : L ≤ 3072) (x0 : 0 ≤ x) (x1 : x ≤ L - 6) (hR : bs_R S L c s p q h) (next : ∀ c s p q h2, bs_R S L c s p q h2 → bl_law_1447 100 x h2 bs_Qf) : bl_law_37 100 x h bs_Qf := by
  have e3 := hR.2.2.1.2
  refine rv_law_37 (d := 99) ?_
  refine bs_o_bottom (d := 99) (P := fun y y2 h2 => (y = y2 → bl_law_1447 100 x h2 bs_Qf) ∧ (y ≠ y2 → bs_Qf (some (.inl 0)) h2)) hR (fun y h1 e e' k => ?_) (fun y h2 r => ⟨fun _ => next _ _ _ _ _ r, fun q => absurd rfl q⟩)
  exact k
theorem bs_L_45 {S : Int → Int} {L c s p q x : Int} {h : bc_H} (hS : ∀ j : Int, 0 ≤ j → bc_i (S j)) (L3 : L ≤ 3072) (x0 : 0 ≤ x) (x1 : x ≤ L - 6) (hR : bs_R S L c s p q h) (next : ∀ c s p q h2, bs_R S L c s p q h2 → bl_law_1447 100 x h2 bs_Qf) : bl_law_45 100 x h bs_Qf := by
  have e3 := hR.2.2.1.2
  refine rv_law_45 (d := 99) ?_
  rw [bc_wi (x := x + 1) (by omega) (by omega), bc_wi (x := x + 2) (by omega) (by omega), bc_wi (x := x + 3) (by omega) (by omega), e3]
  refine ⟨by omega, by omega, by omega, bs_o_tray (d := 94) (P := fun h2 => bl_law_1447 100 x h2 bs_Qf) (N1 := fun h2 => bs_Qf (some (.inl 0)) h2) (N2 := fun h2 => bs_Qf (some (.inl 0)) h2) hR (fun h1 e e' k => ?_) (fun h1 e e' k => ?_) (fun h2 r => next _ _ _ _ _ r)⟩
  · rw [e', e, e3]
    exact ⟨by omega, by omega, by omega, k⟩
  · rw [e', e, e3]
    exact ⟨by omega, by omega, by omega, k⟩
theorem bs_L_82 {S : Int → Int} {L c s p q x : Int} {h : bc_H} (hS : ∀ j : Int, 0 ≤ j → bc_i (S j)) (L3 : L ≤ 3072) (x0 : 0 ≤ x) (x1 : x ≤ L - 6) (hR : bs_R S L c s p q h) (next : ∀ c s p q h2, bs_R S L c s p q h2 → bl_law_1447 100 x h2 bs_Qf) : bl_law_82 100 x h bs_Qf := by
  have e3 := hR.2.2.1.2
  refine rv_law_82 (d := 99) ?_
  rw [bc_wi (x := x + 1) (by omega) (by omega), bc_wi (x := x + 2) (by omega) (by omega), bc_wi (x := x + 3) (by omega) (by omega), bc_wi (x := x + 4) (by omega) (by omega), e3]
  refine ⟨by omega, by omega, by omega, by omega, bs_o_write (d := 93) (P := fun h2 => bl_law_1447 100 x h2 bs_Qf) (N1 := fun h2 => bs_Qf (some (.inl 0)) h2) (N2 := fun h2 => bs_Qf (some (.inl 0)) h2) hR (fun h1 e e' k => ?_) (fun h1 e e' k => ?_) (fun h2 r => next _ _ _ _ _ r)⟩
  · rw [e', e, e3]
    exact ⟨by omega, by omega, by omega, by omega, k⟩
  · rw [e', e, e3]
    exact ⟨by omega, by omega, by omega, by omega, k⟩
theorem bs_L_143 {S : Int → Int} {L c s p q x : Int} {h : bc_H} (hS : ∀ j : Int, 0 ≤ j → bc_i (S j)) (L3 : L ≤ 3072) (x0 : 0 ≤ x) (x1 : x ≤ L - 6) (hR : bs_R S L c s p q h) (next : ∀ c s p q h2, bs_R S L c s p q h2 → bl_law_1447 100 x h2 bs_Qf) : bl_law_143 100 x h bs_Qf := by
  have e3 := hR.2.2.1.2
  refine rv_law_143 (d := 99) ?_
  rw [bc_wi (x := x + 1) (by omega) (by omega), bc_wi (x := x + 2) (by omega) (by omega), e3]
  refine ⟨by omega, by omega, bs_o_read (d := 94) (P := fun y y2 h2 => (y = y2 → bl_law_1447 100 x h2 bs_Qf) ∧ (y ≠ y2 → bs_Qf (some (.inl 0)) h2)) hR (fun y h1 e e' k => ?_) (fun y h2 r => ⟨fun _ => next _ _ _ _ _ r, fun q => absurd rfl q⟩)⟩
  rw [e', e, e3]
  exact ⟨by omega, by omega, k⟩
theorem bs_L_171 {S : Int → Int} {L c s p q x : Int} {h : bc_H} (hS : ∀ j : Int, 0 ≤ j → bc_i (S j)) (L3 : L ≤ 3072) (x0 : 0 ≤ x) (x1 : x ≤ L - 6) (hR : bs_R S L c s p q h) (next : ∀ c s p q h2, bs_R S L c s p q h2 → bl_law_1447 100 x h2 bs_Qf) : bl_law_171 100 x h bs_Qf := by
  have e3 := hR.2.2.1.2
  have e2 := hR.2.2.1.1
  refine rv_law_171 (d := 99) ?_
  rw [bc_wi (x := x + 1) (by omega) (by omega), bc_wi (x := x + 2) (by omega) (by omega), bc_wi (x := x + 3) (by omega) (by omega), bc_wi (x := x + 4) (by omega) (by omega), bc_wi (x := x + 5) (by omega) (by omega), e3]
  have b1 := hS (x + 2) (by omega)
  have b2 := hS (x + 4) (by omega)
  unfold bc_i at b1 b2
  refine ⟨by omega, by omega, by omega, by omega, by omega, bs_o_pour (d := 95) (ip := by rw [e2]; omega) (ia := by rw [e2]; omega) (P := fun h2 => bl_law_1447 100 x h2 bs_Qf) (N1 := fun h2 => bs_Qf (some (.inl 0)) h2) (N2 := fun h2 => bs_Qf (some (.inl 0)) h2) hR (fun h1 e e' k => ?_) (fun h1 e e' k => ?_) (fun h2 r => next _ _ _ _ _ r)⟩
  · rw [e', e, e3]
    exact ⟨by omega, by omega, by omega, by omega, by omega, k⟩
  · rw [e', e, e3]
    exact ⟨by omega, by omega, by omega, by omega, by omega, k⟩
theorem bs_L_228 {S : Int → Int} {L c s p q x : Int} {h : bc_H} (hS : ∀ j : Int, 0 ≤ j → bc_i (S j)) (L3 : L ≤ 3072) (x0 : 0 ≤ x) (x1 : x ≤ L - 6) (hR : bs_R S L c s p q h) (next : ∀ c s p q h2, bs_R S L c s p q h2 → bl_law_1447 100 x h2 bs_Qf) : bl_law_228 100 x h bs_Qf := by
  have e3 := hR.2.2.1.2
  refine rv_law_228 (d := 99) ?_
  rw [bc_wi (x := x + 1) (by omega) (by omega), bc_wi (x := x + 2) (by omega) (by omega), bc_wi (x := x + 3) (by omega) (by omega), bc_wi (x := x + 4) (by omega) (by omega), bc_wi (x := x + 5) (by omega) (by omega), e3]
  refine ⟨by omega, by omega, by omega, by omega, by omega, bs_o_feed (d := 97) (P := fun y y2 h2 => (y = y2 → bl_law_1447 100 x h2 bs_Qf) ∧ (y ≠ y2 → bs_Qf (some (.inl 0)) h2)) hR (fun y h1 e e' k => ?_) (fun y h2 r => ⟨fun _ => next _ _ _ _ _ r, fun q => absurd rfl q⟩)⟩
  rw [e', e, e3]
  exact ⟨by omega, by omega, by omega, by omega, by omega, k⟩
theorem bs_L_285 {S : Int → Int} {L c s p q x : Int} {h : bc_H} (hS : ∀ j : Int, 0 ≤ j → bc_i (S j)) (L3 : L ≤ 3072) (x0 : 0 ≤ x) (x1 : x ≤ L - 6) (hR : bs_R S L c s p q h) (next : ∀ c s p q h2, bs_R S L c s p q h2 → bl_law_1447 100 x h2 bs_Qf) : bl_law_285 100 x h bs_Qf := by
  have e3 := hR.2.2.1.2
  refine rv_law_285 (d := 99) ?_
  rw [bc_wi (x := x + 1) (by omega) (by omega), e3]
  refine ⟨by omega, bs_o_cave (d := 92) (P := fun y y2 h2 => (y = y2 → bl_law_1447 100 x h2 bs_Qf) ∧ (y ≠ y2 → bs_Qf (some (.inl 0)) h2)) hR (fun y h1 e e' k => ?_) (fun y c' s' h2 r => ⟨fun _ => next _ _ _ _ _ r, fun q => absurd rfl q⟩)⟩
  rw [e', e, e3]
  exact ⟨by omega, k⟩
theorem bs_L_302 {S : Int → Int} {L c s p q x : Int} {h : bc_H} (hS : ∀ j : Int, 0 ≤ j → bc_i (S j)) (L3 : L ≤ 3072) (x0 : 0 ≤ x) (x1 : x ≤ L - 6) (hR : bs_R S L c s p q h) (next : ∀ c s p q h2, bs_R S L c s p q h2 → bl_law_1447 100 x h2 bs_Qf) : bl_law_302 100 x h bs_Qf := by
  have e3 := hR.2.2.1.2
  refine rv_law_302 (d := 99) ?_
  rw [bc_wi (x := x + 1) (by omega) (by omega), e3]
  refine ⟨by omega, bs_o_days (d := 91) (P := fun y y2 h2 => (y = y2 → bl_law_1447 100 x h2 bs_Qf) ∧ (y ≠ y2 → bs_Qf (some (.inl 0)) h2)) hR (fun y h1 e e' k => ?_) (fun y p' q' h2 r => ⟨fun _ => next _ _ _ _ _ r, fun q => absurd rfl q⟩)⟩
  rw [e', e, e3]
  exact ⟨by omega, k⟩
theorem bs_L_319 {S : Int → Int} {L c s p q x : Int} {h : bc_H} (hS : ∀ j : Int, 0 ≤ j → bc_i (S j)) (L3 : L ≤ 3072) (x0 : 0 ≤ x) (x1 : x ≤ L - 6) (hR : bs_R S L c s p q h) (next : ∀ c s p q h2, bs_R S L c s p q h2 → bl_law_1447 100 x h2 bs_Qf) : bl_law_319 100 x h bs_Qf := by
  have e3 := hR.2.2.1.2
  refine rv_law_319 (d := 99) ?_
  rw [bc_wi (x := x + 1) (by omega) (by omega), e3]
  refine ⟨by omega, bs_o_fault (d := 99) (P := fun y y2 h2 => (y = y2 → bl_law_1447 100 x h2 bs_Qf) ∧ (y ≠ y2 → bs_Qf (some (.inl 0)) h2)) hR (fun y h1 e e' k => ?_) (fun y h2 r => ⟨fun _ => next _ _ _ _ _ r, fun q => absurd rfl q⟩)⟩
  rw [e', e, e3]
  exact ⟨by omega, k⟩
theorem bs_L_336 {S : Int → Int} {L c s p q x : Int} {h : bc_H} (hS : ∀ j : Int, 0 ≤ j → bc_i (S j)) (L3 : L ≤ 3072) (x0 : 0 ≤ x) (x1 : x ≤ L - 6) (hR : bs_R S L c s p q h) (next : ∀ c s p q h2, bs_R S L c s p q h2 → bl_law_1447 100 x h2 bs_Qf) : bl_law_336 100 x h bs_Qf := by
  have e3 := hR.2.2.1.2
  refine rv_law_336 (d := 99) ?_
  rw [bc_wi (x := x + 1) (by omega) (by omega), e3]
  refine ⟨by omega, bs_o_told (d := 90) (P := fun y y2 h2 => (y = y2 → bl_law_1447 100 x h2 bs_Qf) ∧ (y ≠ y2 → bs_Qf (some (.inl 0)) h2)) hR (fun y h1 e e' k => ?_) (fun y h2 r => ⟨fun _ => next _ _ _ _ _ r, fun q => absurd rfl q⟩)⟩
  rw [e', e, e3]
  exact ⟨by omega, k⟩
theorem bs_L_353 {S : Int → Int} {L c s p q x : Int} {h : bc_H} (hS : ∀ j : Int, 0 ≤ j → bc_i (S j)) (L3 : L ≤ 3072) (x0 : 0 ≤ x) (x1 : x ≤ L - 6) (hR : bs_R S L c s p q h) (next : ∀ c s p q h2, bs_R S L c s p q h2 → bl_law_1447 100 x h2 bs_Qf) : bl_law_353 100 x h bs_Qf := by
  have e3 := hR.2.2.1.2
  refine rv_law_353 (d := 99) ?_
  rw [bc_wi (x := x + 1) (by omega) (by omega), bc_wi (x := x + 2) (by omega) (by omega), e3]
  refine ⟨by omega, by omega, bs_o_wall (d := 94) (P := fun y y2 h2 => (y = y2 → bl_law_1447 100 x h2 bs_Qf) ∧ (y ≠ y2 → bs_Qf (some (.inl 0)) h2)) hR (fun y h1 e e' k => ?_) (fun y h2 r => ⟨fun _ => next _ _ _ _ _ r, fun q => absurd rfl q⟩)⟩
  rw [e', e, e3]
  exact ⟨by omega, by omega, k⟩
theorem bs_L_380 {S : Int → Int} {L c s p q x : Int} {h : bc_H} (hS : ∀ j : Int, 0 ≤ j → bc_i (S j)) (L3 : L ≤ 3072) (x0 : 0 ≤ x) (x1 : x ≤ L - 6) (hR : bs_R S L c s p q h) (next : ∀ c s p q h2, bs_R S L c s p q h2 → bl_law_1447 100 x h2 bs_Qf) : bl_law_380 100 x h bs_Qf := by
  have e3 := hR.2.2.1.2
  refine rv_law_380 (d := 99) ?_
  rw [bc_wi (x := x + 1) (by omega) (by omega), bc_wi (x := x + 2) (by omega) (by omega), e3]
  refine ⟨by omega, by omega, bs_o_visitor (d := 90) (P := fun y y2 h2 => (y = y2 → bl_law_1447 100 x h2 bs_Qf) ∧ (y ≠ y2 → bs_Qf (some (.inl 0)) h2)) hR (fun y h1 e e' k => ?_) (fun y h2 r => ⟨fun _ => next _ _ _ _ _ r, fun q => absurd rfl q⟩)⟩
  rw [e', e, e3]
  exact ⟨by omega, by omega, k⟩
theorem bs_L_407 {S : Int → Int} {L c s p q x : Int} {h : bc_H} (hS : ∀ j : Int, 0 ≤ j → bc_i (S j)) (L3 : L ≤ 3072) (x0 : 0 ≤ x) (x1 : x ≤ L - 6) (hR : bs_R S L c s p q h) (next : ∀ c s p q h2, bs_R S L c s p q h2 → bl_law_1447 100 x h2 bs_Qf) : bl_law_407 100 x h bs_Qf := by
  have e3 := hR.2.2.1.2
  refine rv_law_407 (d := 99) ?_
  rw [bc_wi (x := x + 1) (by omega) (by omega), bc_wi (x := x + 2) (by omega) (by omega), e3]
  refine ⟨by omega, by omega, bs_o_measure (d := 94) (P := fun y y2 h2 => (y = y2 → bl_law_1447 100 x h2 bs_Qf) ∧ (y ≠ y2 → bs_Qf (some (.inl 0)) h2)) hR (fun y h1 e e' k => ?_) (fun y h2 r => ⟨fun _ => next _ _ _ _ _ r, fun q => absurd rfl q⟩)⟩
  rw [e', e, e3]
  exact ⟨by omega, by omega, k⟩
theorem bs_L_434 {S : Int → Int} {L c s p q x : Int} {h : bc_H} (hS : ∀ j : Int, 0 ≤ j → bc_i (S j)) (L3 : L ≤ 3072) (x0 : 0 ≤ x) (x1 : x ≤ L - 6) (hR : bs_R S L c s p q h) (next : ∀ c s p q h2, bs_R S L c s p q h2 → bl_law_1447 100 x h2 bs_Qf) : bl_law_434 100 x h bs_Qf := by
  have e3 := hR.2.2.1.2
  refine rv_law_434 (d := 99) ?_
  rw [bc_wi (x := x + 1) (by omega) (by omega), e3]
  refine ⟨by omega, bs_o_who (d := 90) (P := fun y y2 h2 => (y = y2 → bl_law_1447 100 x h2 bs_Qf) ∧ (y ≠ y2 → bs_Qf (some (.inl 0)) h2)) hR (fun y h1 e e' k => ?_) (fun y h2 r => ⟨fun _ => next _ _ _ _ _ r, fun q => absurd rfl q⟩)⟩
  rw [e', e, e3]
  exact ⟨by omega, k⟩
theorem bs_L_451 {S : Int → Int} {L c s p q x : Int} {h : bc_H} (hS : ∀ j : Int, 0 ≤ j → bc_i (S j)) (L3 : L ≤ 3072) (x0 : 0 ≤ x) (x1 : x ≤ L - 6) (hR : bs_R S L c s p q h) (next : ∀ c s p q h2, bs_R S L c s p q h2 → bl_law_1447 100 x h2 bs_Qf) : bl_law_451 100 x h bs_Qf := by
  have e3 := hR.2.2.1.2
  refine rv_law_451 (d := 99) ?_
  rw [bc_wi (x := x + 1) (by omega) (by omega), bc_wi (x := x + 2) (by omega) (by omega), e3]
  refine ⟨by omega, by omega, bs_o_figure (d := 94) (P := fun y y2 h2 => (y = y2 → bl_law_1447 100 x h2 bs_Qf) ∧ (y ≠ y2 → bs_Qf (some (.inl 0)) h2)) hR (fun y h1 e e' k => ?_) (fun y h2 r => ⟨fun _ => next _ _ _ _ _ r, fun q => absurd rfl q⟩)⟩
  rw [e', e, e3]
  exact ⟨by omega, by omega, k⟩
theorem bs_L_478 {S : Int → Int} {L c s p q x : Int} {h : bc_H} (hS : ∀ j : Int, 0 ≤ j → bc_i (S j)) (L3 : L ≤ 3072) (x0 : 0 ≤ x) (x1 : x ≤ L - 6) (hR : bs_R S L c s p q h) (next : ∀ c s p q h2, bs_R S L c s p q h2 → bl_law_1447 100 x h2 bs_Qf) : bl_law_478 100 x h bs_Qf := by
  have e3 := hR.2.2.1.2
  refine rv_law_478 (d := 99) ?_
  rw [bc_wi (x := x + 1) (by omega) (by omega), bc_wi (x := x + 2) (by omega) (by omega), e3]
  refine ⟨by omega, by omega, bs_o_weight (d := 94) (P := fun y y2 h2 => (y = y2 → bl_law_1447 100 x h2 bs_Qf) ∧ (y ≠ y2 → bs_Qf (some (.inl 0)) h2)) hR (fun y h1 e e' k => ?_) (fun y h2 r => ⟨fun _ => next _ _ _ _ _ r, fun q => absurd rfl q⟩)⟩
  rw [e', e, e3]
  exact ⟨by omega, by omega, k⟩
theorem bs_L_505 {S : Int → Int} {L c s p q x : Int} {h : bc_H} (hS : ∀ j : Int, 0 ≤ j → bc_i (S j)) (L3 : L ≤ 3072) (x0 : 0 ≤ x) (x1 : x ≤ L - 6) (hR : bs_R S L c s p q h) (next : ∀ c s p q h2, bs_R S L c s p q h2 → bl_law_1447 100 x h2 bs_Qf) : bl_law_505 100 x h bs_Qf := by
  have e3 := hR.2.2.1.2
  refine rv_law_505 (d := 99) ?_
  rw [bc_wi (x := x + 1) (by omega) (by omega), e3]
  refine ⟨by omega, bs_o_minute (d := 90) (P := fun y y2 h2 => (y = y2 → bl_law_1447 100 x h2 bs_Qf) ∧ (y ≠ y2 → bs_Qf (some (.inl 0)) h2)) hR (fun y h1 e e' k => ?_) (fun y h2 r => ⟨fun _ => next _ _ _ _ _ r, fun q => absurd rfl q⟩)⟩
  rw [e', e, e3]
  exact ⟨by omega, k⟩
theorem bs_L_522 {S : Int → Int} {L c s p q x : Int} {h : bc_H} (hS : ∀ j : Int, 0 ≤ j → bc_i (S j)) (L3 : L ≤ 3072) (x0 : 0 ≤ x) (x1 : x ≤ L - 6) (hR : bs_R S L c s p q h) (next : ∀ c s p q h2, bs_R S L c s p q h2 → bl_law_1447 100 x h2 bs_Qf) : bl_law_522 100 x h bs_Qf := by
  have e3 := hR.2.2.1.2
  refine rv_law_522 (d := 99) ?_
  rw [bc_wi (x := x + 1) (by omega) (by omega), bc_wi (x := x + 2) (by omega) (by omega), e3]
  refine ⟨by omega, by omega, bs_o_lead (d := 90) (P := fun y y2 h2 => (y = y2 → bl_law_1447 100 x h2 bs_Qf) ∧ (y ≠ y2 → bs_Qf (some (.inl 0)) h2)) hR (fun y h1 e e' k => ?_) (fun y h2 r => ⟨fun _ => next _ _ _ _ _ r, fun q => absurd rfl q⟩)⟩
  rw [e', e, e3]
  exact ⟨by omega, by omega, k⟩
theorem bs_L_549 {S : Int → Int} {L c s p q x : Int} {h : bc_H} (hS : ∀ j : Int, 0 ≤ j → bc_i (S j)) (L3 : L ≤ 3072) (x0 : 0 ≤ x) (x1 : x ≤ L - 6) (hR : bs_R S L c s p q h) (next : ∀ c s p q h2, bs_R S L c s p q h2 → bl_law_1447 100 x h2 bs_Qf) : bl_law_549 100 x h bs_Qf := by
  have e3 := hR.2.2.1.2
  refine rv_law_549 (d := 99) ?_
  rw [bc_wi (x := x + 1) (by omega) (by omega), e3]
  refine ⟨by omega, bs_o_wake (d := 93) (P := fun y y2 h2 => (y = y2 → bl_law_1447 100 x h2 bs_Qf) ∧ (y ≠ y2 → bs_Qf (some (.inl 0)) h2)) hR (fun y h1 e e' k => ?_) (fun y h2 r => ⟨fun _ => next _ _ _ _ _ r, fun q => absurd rfl q⟩)⟩
  rw [e', e, e3]
  exact ⟨by omega, k⟩
theorem bs_L_566 {S : Int → Int} {L c s p q x : Int} {h : bc_H} (hS : ∀ j : Int, 0 ≤ j → bc_i (S j)) (L3 : L ≤ 3072) (x0 : 0 ≤ x) (x1 : x ≤ L - 6) (hR : bs_R S L c s p q h) (next : ∀ c s p q h2, bs_R S L c s p q h2 → bl_law_1447 100 x h2 bs_Qf) : bl_law_566 100 x h bs_Qf := by
  have e3 := hR.2.2.1.2
  refine rv_law_566 (d := 99) ?_
  rw [bc_wi (x := x + 1) (by omega) (by omega), e3]
  refine ⟨by omega, bs_o_fill (d := 95) (P := fun y y2 h2 => (y = y2 → bl_law_1447 100 x h2 bs_Qf) ∧ (y ≠ y2 → bs_Qf (some (.inl 0)) h2)) hR (fun y h1 e e' k => ?_) (fun y h2 r => ⟨fun _ => next _ _ _ _ _ r, fun q => absurd rfl q⟩)⟩
  rw [e', e, e3]
  exact ⟨by omega, k⟩
theorem bs_L_583 {S : Int → Int} {L c s p q x : Int} {h : bc_H} (hS : ∀ j : Int, 0 ≤ j → bc_i (S j)) (L3 : L ≤ 3072) (x0 : 0 ≤ x) (x1 : x ≤ L - 6) (hR : bs_R S L c s p q h) (next : ∀ c s p q h2, bs_R S L c s p q h2 → bl_law_1447 100 x h2 bs_Qf) : bl_law_583 100 x h bs_Qf := by
  have e3 := hR.2.2.1.2
  refine rv_law_583 (d := 99) ?_
  rw [bc_wi (x := x + 1) (by omega) (by omega), bc_wi (x := x + 2) (by omega) (by omega), bc_wi (x := x + 3) (by omega) (by omega), e3]
  refine ⟨by omega, by omega, by omega, bs_o_paint (d := 95) (P := fun h2 => bl_law_1447 100 x h2 bs_Qf) (N1 := fun h2 => bs_Qf (some (.inl 0)) h2) (N2 := fun h2 => bs_Qf (some (.inl 0)) h2) hR (fun h1 e e' k => ?_) (fun h1 e e' k => ?_) (fun h2 r => next _ _ _ _ _ r)⟩
  · rw [e', e, e3]
    exact ⟨by omega, by omega, by omega, k⟩
  · rw [e', e, e3]
    exact ⟨by omega, by omega, by omega, k⟩
theorem bs_L_620 {S : Int → Int} {L c s p q x : Int} {h : bc_H} (hS : ∀ j : Int, 0 ≤ j → bc_i (S j)) (L3 : L ≤ 3072) (x0 : 0 ≤ x) (x1 : x ≤ L - 6) (hR : bs_R S L c s p q h) (next : ∀ c s p q h2, bs_R S L c s p q h2 → bl_law_1447 100 x h2 bs_Qf) : bl_law_620 100 x h bs_Qf := by
  have e3 := hR.2.2.1.2
  refine rv_law_620 (d := 99) ?_
  rw [bc_wi (x := x + 1) (by omega) (by omega), e3]
  refine ⟨by omega, bs_o_scrub (d := 95) (P := fun y y2 h2 => (y = y2 → bl_law_1447 100 x h2 bs_Qf) ∧ (y ≠ y2 → bs_Qf (some (.inl 0)) h2)) hR (fun y h1 e e' k => ?_) (fun y h2 r => ⟨fun _ => next _ _ _ _ _ r, fun q => absurd rfl q⟩)⟩
  rw [e', e, e3]
  exact ⟨by omega, k⟩
theorem bs_L_637 {S : Int → Int} {L c s p q x : Int} {h : bc_H} (hS : ∀ j : Int, 0 ≤ j → bc_i (S j)) (L3 : L ≤ 3072) (x0 : 0 ≤ x) (x1 : x ≤ L - 6) (hR : bs_R S L c s p q h) (next : ∀ c s p q h2, bs_R S L c s p q h2 → bl_law_1447 100 x h2 bs_Qf) : bl_law_637 100 x h bs_Qf := by
  have e3 := hR.2.2.1.2
  refine rv_law_637 (d := 99) ?_
  rw [bc_wi (x := x + 1) (by omega) (by omega), bc_wi (x := x + 2) (by omega) (by omega), e3]
  refine ⟨by omega, by omega, bs_o_come (d := 95) (P := fun y y2 h2 => (y = y2 → bl_law_1447 100 x h2 bs_Qf) ∧ (y ≠ y2 → bs_Qf (some (.inl 0)) h2)) hR (fun y h1 e e' k => ?_) (fun y h2 r => ⟨fun _ => next _ _ _ _ _ r, fun q => absurd rfl q⟩)⟩
  rw [e', e, e3]
  exact ⟨by omega, by omega, k⟩
theorem bs_L_664 {S : Int → Int} {L c s p q x : Int} {h : bc_H} (hS : ∀ j : Int, 0 ≤ j → bc_i (S j)) (L3 : L ≤ 3072) (x0 : 0 ≤ x) (x1 : x ≤ L - 6) (hR : bs_R S L c s p q h) (next : ∀ c s p q h2, bs_R S L c s p q h2 → bl_law_1447 100 x h2 bs_Qf) : bl_law_664 100 x h bs_Qf := by
  have e3 := hR.2.2.1.2
  refine rv_law_664 (d := 99) ?_
  rw [bc_wi (x := x + 1) (by omega) (by omega), bc_wi (x := x + 2) (by omega) (by omega), bc_wi (x := x + 3) (by omega) (by omega), e3]
  refine ⟨by omega, by omega, by omega, bs_o_draw (d := 95) (P := fun y y2 h2 => (y = y2 → bl_law_1447 100 x h2 bs_Qf) ∧ (y ≠ y2 → bs_Qf (some (.inl 0)) h2)) hR (fun y h1 e e' k => ?_) (fun y h2 r => ⟨fun _ => next _ _ _ _ _ r, fun q => absurd rfl q⟩)⟩
  rw [e', e, e3]
  exact ⟨by omega, by omega, by omega, k⟩
theorem bs_L_701 {S : Int → Int} {L c s p q x : Int} {h : bc_H} (hS : ∀ j : Int, 0 ≤ j → bc_i (S j)) (L3 : L ≤ 3072) (x0 : 0 ≤ x) (x1 : x ≤ L - 6) (hR : bs_R S L c s p q h) (next : ∀ c s p q h2, bs_R S L c s p q h2 → bl_law_1447 100 x h2 bs_Qf) : bl_law_701 100 x h bs_Qf := by
  have e3 := hR.2.2.1.2
  refine rv_law_701 (d := 99) ?_
  rw [bc_wi (x := x + 1) (by omega) (by omega), bc_wi (x := x + 2) (by omega) (by omega), e3]
  refine ⟨by omega, by omega, bs_o_cover (d := 95) (P := fun h2 => bl_law_1447 100 x h2 bs_Qf) (N1 := fun h2 => bs_Qf (some (.inl 0)) h2) (N2 := fun h2 => bs_Qf (some (.inl 0)) h2) hR (fun h1 e e' k => ?_) (fun h1 e e' k => ?_) (fun h2 r => next _ _ _ _ _ r)⟩
  · rw [e', e, e3]
    exact ⟨by omega, by omega, k⟩
  · rw [e', e, e3]
    exact ⟨by omega, by omega, k⟩
theorem bs_L_728 {S : Int → Int} {L c s p q x : Int} {h : bc_H} (hS : ∀ j : Int, 0 ≤ j → bc_i (S j)) (L3 : L ≤ 3072) (x0 : 0 ≤ x) (x1 : x ≤ L - 6) (hR : bs_R S L c s p q h) (next : ∀ c s p q h2, bs_R S L c s p q h2 → bl_law_1447 100 x h2 bs_Qf) : bl_law_728 100 x h bs_Qf := by
  have e3 := hR.2.2.1.2
  refine rv_law_728 (d := 99) ?_
  rw [bc_wi (x := x + 1) (by omega) (by omega), e3]
  refine ⟨by omega, bs_o_rule (d := 95) (P := fun h2 => bl_law_1447 100 x h2 bs_Qf) (N1 := fun h2 => bs_Qf (some (.inl 0)) h2) (N2 := fun h2 => bs_Qf (some (.inl 0)) h2) hR (fun h1 e e' k => ?_) (fun h1 e e' k => ?_) (fun h2 r => next _ _ _ _ _ r)⟩
  · rw [e', e, e3]
    exact ⟨by omega, k⟩
  · rw [e', e, e3]
    exact ⟨by omega, k⟩
theorem bs_L_745 {S : Int → Int} {L c s p q x : Int} {h : bc_H} (hS : ∀ j : Int, 0 ≤ j → bc_i (S j)) (L3 : L ≤ 3072) (x0 : 0 ≤ x) (x1 : x ≤ L - 6) (hR : bs_R S L c s p q h) (next : ∀ c s p q h2, bs_R S L c s p q h2 → bl_law_1447 100 x h2 bs_Qf) : bl_law_745 100 x h bs_Qf := by
  have e3 := hR.2.2.1.2
  refine rv_law_745 (d := 99) ?_
  rw [bc_wi (x := x + 1) (by omega) (by omega), bc_wi (x := x + 2) (by omega) (by omega), bc_wi (x := x + 3) (by omega) (by omega), e3]
  refine ⟨by omega, by omega, by omega, bs_o_measureIn (d := 88) (P := fun y y2 h2 => (y = y2 → bl_law_1447 100 x h2 bs_Qf) ∧ (y ≠ y2 → bs_Qf (some (.inl 0)) h2)) hR (fun y h1 e e' k => ?_) (fun y h2 r => ⟨fun _ => next _ _ _ _ _ r, fun q => absurd rfl q⟩)⟩
  rw [e', e, e3]
  exact ⟨by omega, by omega, by omega, k⟩
theorem bs_L_782 {S : Int → Int} {L c s p q x : Int} {h : bc_H} (hS : ∀ j : Int, 0 ≤ j → bc_i (S j)) (L3 : L ≤ 3072) (x0 : 0 ≤ x) (x1 : x ≤ L - 6) (hR : bs_R S L c s p q h) (next : ∀ c s p q h2, bs_R S L c s p q h2 → bl_law_1447 100 x h2 bs_Qf) : bl_law_782 100 x h bs_Qf := by
  have e3 := hR.2.2.1.2
  refine rv_law_782 (d := 99) ?_
  rw [bc_wi (x := x + 1) (by omega) (by omega), bc_wi (x := x + 2) (by omega) (by omega), e3]
  refine ⟨by omega, by omega, bs_o_whoIn (d := 88) (P := fun y y2 h2 => (y = y2 → bl_law_1447 100 x h2 bs_Qf) ∧ (y ≠ y2 → bs_Qf (some (.inl 0)) h2)) hR (fun y h1 e e' k => ?_) (fun y h2 r => ⟨fun _ => next _ _ _ _ _ r, fun q => absurd rfl q⟩)⟩
  rw [e', e, e3]
  exact ⟨by omega, by omega, k⟩
theorem bs_L_809 {S : Int → Int} {L c s p q x : Int} {h : bc_H} (hS : ∀ j : Int, 0 ≤ j → bc_i (S j)) (L3 : L ≤ 3072) (x0 : 0 ≤ x) (x1 : x ≤ L - 6) (hR : bs_R S L c s p q h) (next : ∀ c s p q h2, bs_R S L c s p q h2 → bl_law_1447 100 x h2 bs_Qf) : bl_law_809 100 x h bs_Qf := by
  have e3 := hR.2.2.1.2
  refine rv_law_809 (d := 99) ?_
  rw [bc_wi (x := x + 1) (by omega) (by omega), e3]
  refine ⟨by omega, bs_o_turnIn (d := 88) (P := fun y y2 h2 => (y = y2 → bl_law_1447 100 x h2 bs_Qf) ∧ (y ≠ y2 → bs_Qf (some (.inl 0)) h2)) hR (fun y h1 e e' k => ?_) (fun y h2 r => ⟨fun _ => next _ _ _ _ _ r, fun q => absurd rfl q⟩)⟩
  rw [e', e, e3]
  exact ⟨by omega, k⟩
theorem bs_L_826 {S : Int → Int} {L c s p q x : Int} {h : bc_H} (hS : ∀ j : Int, 0 ≤ j → bc_i (S j)) (L3 : L ≤ 3072) (x0 : 0 ≤ x) (x1 : x ≤ L - 6) (hR : bs_R S L c s p q h) (next : ∀ c s p q h2, bs_R S L c s p q h2 → bl_law_1447 100 x h2 bs_Qf) : bl_law_826 100 x h bs_Qf := by
  have e3 := hR.2.2.1.2
  refine rv_law_826 (d := 99) ?_
  refine bs_o_freeIn (d := 88) (P := fun y y2 h2 => (y = y2 → bl_law_1447 100 x h2 bs_Qf) ∧ (y ≠ y2 → bs_Qf (some (.inl 0)) h2)) hR (fun y h1 e e' k => ?_) (fun y h2 r => ⟨fun _ => next _ _ _ _ _ r, fun q => absurd rfl q⟩)
  exact k
theorem bs_L_833 {S : Int → Int} {L c s p q x : Int} {h : bc_H} (hS : ∀ j : Int, 0 ≤ j → bc_i (S j)) (L3 : L ≤ 3072) (x0 : 0 ≤ x) (x1 : x ≤ L - 6) (hR : bs_R S L c s p q h) (next : ∀ c s p q h2, bs_R S L c s p q h2 → bl_law_1447 100 x h2 bs_Qf) : bl_law_833 100 x h bs_Qf := by
  have e3 := hR.2.2.1.2
  refine rv_law_833 (d := 99) ?_
  rw [bc_wi (x := x + 1) (by omega) (by omega), bc_wi (x := x + 2) (by omega) (by omega), e3]
  refine ⟨by omega, by omega, bs_o_safe (d := 90) (P := fun y y2 h2 => (y = y2 → bl_law_1447 100 x h2 bs_Qf) ∧ (y ≠ y2 → bs_Qf (some (.inl 0)) h2)) hR (fun y h1 e e' k => ?_) (fun y h2 r => ⟨fun _ => next _ _ _ _ _ r, fun q => absurd rfl q⟩)⟩
  rw [e', e, e3]
  exact ⟨by omega, by omega, k⟩
theorem bs_L_860 {S : Int → Int} {L c s p q x : Int} {h : bc_H} (hS : ∀ j : Int, 0 ≤ j → bc_i (S j)) (L3 : L ≤ 3072) (x0 : 0 ≤ x) (x1 : x ≤ L - 6) (hR : bs_R S L c s p q h) (next : ∀ c s p q h2, bs_R S L c s p q h2 → bl_law_1447 100 x h2 bs_Qf) : bl_law_860 100 x h bs_Qf := by
  have e3 := hR.2.2.1.2
  refine rv_law_860 (d := 99) ?_
  rw [bc_wi (x := x + 1) (by omega) (by omega), bc_wi (x := x + 2) (by omega) (by omega), e3]
  refine ⟨by omega, by omega, bs_o_far (d := 95) (P := fun y y2 h2 => (y = y2 → bl_law_1447 100 x h2 bs_Qf) ∧ (y ≠ y2 → bs_Qf (some (.inl 0)) h2)) hR (fun y h1 e e' k => ?_) (fun y h2 r => ⟨fun _ => next _ _ _ _ _ r, fun q => absurd rfl q⟩)⟩
  rw [e', e, e3]
  exact ⟨by omega, by omega, k⟩
theorem bs_L_887 {S : Int → Int} {L c s p q x : Int} {h : bc_H} (hS : ∀ j : Int, 0 ≤ j → bc_i (S j)) (L3 : L ≤ 3072) (x0 : 0 ≤ x) (x1 : x ≤ L - 6) (hR : bs_R S L c s p q h) (next : ∀ c s p q h2, bs_R S L c s p q h2 → bl_law_1447 100 x h2 bs_Qf) : bl_law_887 100 x h bs_Qf := by
  have e3 := hR.2.2.1.2
  refine rv_law_887 (d := 99) ?_
  rw [bc_wi (x := x + 1) (by omega) (by omega), e3]
  refine ⟨by omega, bs_o_near (d := 95) (P := fun y y2 h2 => (y = y2 → bl_law_1447 100 x h2 bs_Qf) ∧ (y ≠ y2 → bs_Qf (some (.inl 0)) h2)) hR (fun y h1 e e' k => ?_) (fun y h2 r => ⟨fun _ => next _ _ _ _ _ r, fun q => absurd rfl q⟩)⟩
  rw [e', e, e3]
  exact ⟨by omega, k⟩
theorem bs_L_904 {S : Int → Int} {L c s p q x : Int} {h : bc_H} (hS : ∀ j : Int, 0 ≤ j → bc_i (S j)) (L3 : L ≤ 3072) (x0 : 0 ≤ x) (x1 : x ≤ L - 6) (hR : bs_R S L c s p q h) (next : ∀ c s p q h2, bs_R S L c s p q h2 → bl_law_1447 100 x h2 bs_Qf) : bl_law_904 100 x h bs_Qf := by
  have e3 := hR.2.2.1.2
  refine rv_law_904 (d := 99) ?_
  rw [bc_wi (x := x + 1) (by omega) (by omega), bc_wi (x := x + 2) (by omega) (by omega), bc_wi (x := x + 3) (by omega) (by omega), e3]
  refine ⟨by omega, by omega, by omega, bs_o_tour (d := 89) (P := fun y y2 h2 => (y = y2 → bl_law_1447 100 x h2 bs_Qf) ∧ (y ≠ y2 → bs_Qf (some (.inl 0)) h2)) hR (fun y h1 e e' k => ?_) (fun y h2 r => ⟨fun _ => next _ _ _ _ _ r, fun q => absurd rfl q⟩)⟩
  rw [e', e, e3]
  exact ⟨by omega, by omega, by omega, k⟩
theorem bs_L_941 {S : Int → Int} {L c s p q x : Int} {h : bc_H} (hS : ∀ j : Int, 0 ≤ j → bc_i (S j)) (L3 : L ≤ 3072) (x0 : 0 ≤ x) (x1 : x ≤ L - 6) (hR : bs_R S L c s p q h) (next : ∀ c s p q h2, bs_R S L c s p q h2 → bl_law_1447 100 x h2 bs_Qf) : bl_law_941 100 x h bs_Qf := by
  have e3 := hR.2.2.1.2
  refine rv_law_941 (d := 99) ?_
  rw [bc_wi (x := x + 1) (by omega) (by omega), bc_wi (x := x + 2) (by omega) (by omega), bc_wi (x := x + 3) (by omega) (by omega), bc_wi (x := x + 4) (by omega) (by omega), e3]
  refine ⟨by omega, by omega, by omega, by omega, bs_o_tourAt (d := 89) (P := fun y y2 h2 => (y = y2 → bl_law_1447 100 x h2 bs_Qf) ∧ (y ≠ y2 → bs_Qf (some (.inl 0)) h2)) hR (fun y h1 e e' k => ?_) (fun y h2 r => ⟨fun _ => next _ _ _ _ _ r, fun q => absurd rfl q⟩)⟩
  rw [e', e, e3]
  exact ⟨by omega, by omega, by omega, by omega, k⟩
theorem bs_L_988 {S : Int → Int} {L c s p q x : Int} {h : bc_H} (hS : ∀ j : Int, 0 ≤ j → bc_i (S j)) (L3 : L ≤ 3072) (x0 : 0 ≤ x) (x1 : x ≤ L - 6) (hR : bs_R S L c s p q h) (next : ∀ c s p q h2, bs_R S L c s p q h2 → bl_law_1447 100 x h2 bs_Qf) : bl_law_988 100 x h bs_Qf := by
  have e3 := hR.2.2.1.2
  refine rv_law_988 (d := 99) ?_
  refine bs_o_layers (d := 93) (P := fun y y2 h2 => (y = y2 → bl_law_1447 100 x h2 bs_Qf) ∧ (y ≠ y2 → bs_Qf (some (.inl 0)) h2)) hR (fun y h1 e e' k => ?_) (fun y h2 r => ⟨fun _ => next _ _ _ _ _ r, fun q => absurd rfl q⟩)
  exact k
theorem bs_L_995 {S : Int → Int} {L c s p q x : Int} {h : bc_H} (hS : ∀ j : Int, 0 ≤ j → bc_i (S j)) (L3 : L ≤ 3072) (x0 : 0 ≤ x) (x1 : x ≤ L - 6) (hR : bs_R S L c s p q h) (next : ∀ c s p q h2, bs_R S L c s p q h2 → bl_law_1447 100 x h2 bs_Qf) : bl_law_995 100 x h bs_Qf := by
  have e3 := hR.2.2.1.2
  refine rv_law_995 (d := 99) ?_
  rw [bc_wi (x := x + 1) (by omega) (by omega), e3]
  refine ⟨by omega, bs_o_layerAt (d := 93) (P := fun y y2 h2 => (y = y2 → bl_law_1447 100 x h2 bs_Qf) ∧ (y ≠ y2 → bs_Qf (some (.inl 0)) h2)) hR (fun y h1 e e' k => ?_) (fun y h2 r => ⟨fun _ => next _ _ _ _ _ r, fun q => absurd rfl q⟩)⟩
  rw [e', e, e3]
  exact ⟨by omega, k⟩
theorem bs_L_1012 {S : Int → Int} {L c s p q x : Int} {h : bc_H} (hS : ∀ j : Int, 0 ≤ j → bc_i (S j)) (L3 : L ≤ 3072) (x0 : 0 ≤ x) (x1 : x ≤ L - 6) (hR : bs_R S L c s p q h) (next : ∀ c s p q h2, bs_R S L c s p q h2 → bl_law_1447 100 x h2 bs_Qf) : bl_law_1012 100 x h bs_Qf := by
  have e3 := hR.2.2.1.2
  refine rv_law_1012 (d := 99) ?_
  rw [bc_wi (x := x + 1) (by omega) (by omega), e3]
  refine ⟨by omega, bs_o_low (d := 93) (P := fun y y2 h2 => (y = y2 → bl_law_1447 100 x h2 bs_Qf) ∧ (y ≠ y2 → bs_Qf (some (.inl 0)) h2)) hR (fun y h1 e e' k => ?_) (fun y h2 r => ⟨fun _ => next _ _ _ _ _ r, fun q => absurd rfl q⟩)⟩
  rw [e', e, e3]
  exact ⟨by omega, k⟩
theorem bs_L_1029 {S : Int → Int} {L c s p q x : Int} {h : bc_H} (hS : ∀ j : Int, 0 ≤ j → bc_i (S j)) (L3 : L ≤ 3072) (x0 : 0 ≤ x) (x1 : x ≤ L - 6) (hR : bs_R S L c s p q h) (next : ∀ c s p q h2, bs_R S L c s p q h2 → bl_law_1447 100 x h2 bs_Qf) : bl_law_1029 100 x h bs_Qf := by
  have e3 := hR.2.2.1.2
  refine rv_law_1029 (d := 99) ?_
  rw [bc_wi (x := x + 1) (by omega) (by omega), e3]
  refine ⟨by omega, bs_o_hands (d := 93) (P := fun y y2 h2 => (y = y2 → bl_law_1447 100 x h2 bs_Qf) ∧ (y ≠ y2 → bs_Qf (some (.inl 0)) h2)) hR (fun y h1 e e' k => ?_) (fun y h2 r => ⟨fun _ => next _ _ _ _ _ r, fun q => absurd rfl q⟩)⟩
  rw [e', e, e3]
  exact ⟨by omega, k⟩
theorem bs_L_1046 {S : Int → Int} {L c s p q x : Int} {h : bc_H} (hS : ∀ j : Int, 0 ≤ j → bc_i (S j)) (L3 : L ≤ 3072) (x0 : 0 ≤ x) (x1 : x ≤ L - 6) (hR : bs_R S L c s p q h) (next : ∀ c s p q h2, bs_R S L c s p q h2 → bl_law_1447 100 x h2 bs_Qf) : bl_law_1046 100 x h bs_Qf := by
  have e3 := hR.2.2.1.2
  refine rv_law_1046 (d := 99) ?_
  rw [bc_wi (x := x + 1) (by omega) (by omega), e3]
  refine ⟨by omega, bs_o_hand (d := 93) (P := fun y y2 h2 => (y = y2 → bl_law_1447 100 x h2 bs_Qf) ∧ (y ≠ y2 → bs_Qf (some (.inl 0)) h2)) hR (fun y h1 e e' k => ?_) (fun y h2 r => ⟨fun _ => next _ _ _ _ _ r, fun q => absurd rfl q⟩)⟩
  rw [e', e, e3]
  exact ⟨by omega, k⟩
theorem bs_L_1063 {S : Int → Int} {L c s p q x : Int} {h : bc_H} (hS : ∀ j : Int, 0 ≤ j → bc_i (S j)) (L3 : L ≤ 3072) (x0 : 0 ≤ x) (x1 : x ≤ L - 6) (hR : bs_R S L c s p q h) (next : ∀ c s p q h2, bs_R S L c s p q h2 → bl_law_1447 100 x h2 bs_Qf) : bl_law_1063 100 x h bs_Qf := by
  have e3 := hR.2.2.1.2
  refine rv_law_1063 (d := 99) ?_
  rw [bc_wi (x := x + 1) (by omega) (by omega), e3]
  refine ⟨by omega, bs_o_rows (d := 95) (P := fun y y2 h2 => (y = y2 → bl_law_1447 100 x h2 bs_Qf) ∧ (y ≠ y2 → bs_Qf (some (.inl 0)) h2)) hR (fun y h1 e e' k => ?_) (fun y h2 r => ⟨fun _ => next _ _ _ _ _ r, fun q => absurd rfl q⟩)⟩
  rw [e', e, e3]
  exact ⟨by omega, k⟩
theorem bs_L_1081 {S : Int → Int} {L c s p q x : Int} {h : bc_H} (hS : ∀ j : Int, 0 ≤ j → bc_i (S j)) (L3 : L ≤ 3072) (x0 : 0 ≤ x) (x1 : x ≤ L - 6) (hR : bs_R S L c s p q h) (next : ∀ c s p q h2, bs_R S L c s p q h2 → bl_law_1447 100 x h2 bs_Qf) : bl_law_1081 100 x h bs_Qf := by
  have e3 := hR.2.2.1.2
  refine rv_law_1081 (d := 99) ?_
  rw [bc_wi (x := x + 1) (by omega) (by omega), bc_wi (x := x + 2) (by omega) (by omega), e3]
  refine ⟨by omega, by omega, bs_o_rowsTo (d := 95) (P := fun y y2 h2 => (y = y2 → bl_law_1447 100 x h2 bs_Qf) ∧ (y ≠ y2 → bs_Qf (some (.inl 0)) h2)) hR (fun y h1 e e' k => ?_) (fun y h2 r => ⟨fun _ => next _ _ _ _ _ r, fun q => absurd rfl q⟩)⟩
  rw [e', e, e3]
  exact ⟨by omega, by omega, k⟩
theorem bs_L_1109 {S : Int → Int} {L c s p q x : Int} {h : bc_H} (hS : ∀ j : Int, 0 ≤ j → bc_i (S j)) (L3 : L ≤ 3072) (x0 : 0 ≤ x) (x1 : x ≤ L - 6) (hR : bs_R S L c s p q h) (next : ∀ c s p q h2, bs_R S L c s p q h2 → bl_law_1447 100 x h2 bs_Qf) : bl_law_1109 100 x h bs_Qf := by
  have e3 := hR.2.2.1.2
  refine rv_law_1109 (d := 99) ?_
  rw [bc_wi (x := x + 1) (by omega) (by omega), e3]
  refine ⟨by omega, bs_o_likeliest (d := 95) (P := fun y y2 h2 => (y = y2 → bl_law_1447 100 x h2 bs_Qf) ∧ (y ≠ y2 → bs_Qf (some (.inl 0)) h2)) hR (fun y h1 e e' k => ?_) (fun y h2 r => ⟨fun _ => next _ _ _ _ _ r, fun q => absurd rfl q⟩)⟩
  rw [e', e, e3]
  exact ⟨by omega, k⟩
theorem bs_L_1126 {S : Int → Int} {L c s p q x : Int} {h : bc_H} (hS : ∀ j : Int, 0 ≤ j → bc_i (S j)) (L3 : L ≤ 3072) (x0 : 0 ≤ x) (x1 : x ≤ L - 6) (hR : bs_R S L c s p q h) (next : ∀ c s p q h2, bs_R S L c s p q h2 → bl_law_1447 100 x h2 bs_Qf) : bl_law_1126 100 x h bs_Qf := by
  have e3 := hR.2.2.1.2
  refine rv_law_1126 (d := 99) ?_
  rw [bc_wi (x := x + 1) (by omega) (by omega), bc_wi (x := x + 2) (by omega) (by omega), e3]
  refine ⟨by omega, by omega, bs_o_likeliestAt (d := 95) (P := fun y y2 h2 => (y = y2 → bl_law_1447 100 x h2 bs_Qf) ∧ (y ≠ y2 → bs_Qf (some (.inl 0)) h2)) hR (fun y h1 e e' k => ?_) (fun y h2 r => ⟨fun _ => next _ _ _ _ _ r, fun q => absurd rfl q⟩)⟩
  rw [e', e, e3]
  exact ⟨by omega, by omega, k⟩
theorem bs_L_1153 {S : Int → Int} {L c s p q x : Int} {h : bc_H} (hS : ∀ j : Int, 0 ≤ j → bc_i (S j)) (L3 : L ≤ 3072) (x0 : 0 ≤ x) (x1 : x ≤ L - 6) (hR : bs_R S L c s p q h) (next : ∀ c s p q h2, bs_R S L c s p q h2 → bl_law_1447 100 x h2 bs_Qf) : bl_law_1153 100 x h bs_Qf := by
  have e3 := hR.2.2.1.2
  refine rv_law_1153 (d := 99) ?_
  rw [bc_wi (x := x + 1) (by omega) (by omega), bc_wi (x := x + 2) (by omega) (by omega), bc_wi (x := x + 3) (by omega) (by omega), e3]
  refine ⟨by omega, by omega, by omega, bs_o_fits (d := 90) (P := fun y y2 h2 => (y = y2 → bl_law_1447 100 x h2 bs_Qf) ∧ (y ≠ y2 → bs_Qf (some (.inl 0)) h2)) hR (fun y h1 e e' k => ?_) (fun y h2 r => ⟨fun _ => next _ _ _ _ _ r, fun q => absurd rfl q⟩)⟩
  rw [e', e, e3]
  exact ⟨by omega, by omega, by omega, k⟩
theorem bs_L_1190 {S : Int → Int} {L c s p q x : Int} {h : bc_H} (hS : ∀ j : Int, 0 ≤ j → bc_i (S j)) (L3 : L ≤ 3072) (x0 : 0 ≤ x) (x1 : x ≤ L - 6) (hR : bs_R S L c s p q h) (next : ∀ c s p q h2, bs_R S L c s p q h2 → bl_law_1447 100 x h2 bs_Qf) : bl_law_1190 100 x h bs_Qf := by
  have e3 := hR.2.2.1.2
  refine rv_law_1190 (d := 99) ?_
  rw [bc_wi (x := x + 1) (by omega) (by omega), bc_wi (x := x + 2) (by omega) (by omega), bc_wi (x := x + 3) (by omega) (by omega), bc_wi (x := x + 4) (by omega) (by omega), e3]
  refine ⟨by omega, by omega, by omega, by omega, bs_o_fitsAt (d := 90) (P := fun y y2 h2 => (y = y2 → bl_law_1447 100 x h2 bs_Qf) ∧ (y ≠ y2 → bs_Qf (some (.inl 0)) h2)) hR (fun y h1 e e' k => ?_) (fun y h2 r => ⟨fun _ => next _ _ _ _ _ r, fun q => absurd rfl q⟩)⟩
  rw [e', e, e3]
  exact ⟨by omega, by omega, by omega, by omega, k⟩
theorem bs_L_1237 {S : Int → Int} {L c s p q x : Int} {h : bc_H} (hS : ∀ j : Int, 0 ≤ j → bc_i (S j)) (L3 : L ≤ 3072) (x0 : 0 ≤ x) (x1 : x ≤ L - 6) (hR : bs_R S L c s p q h) (next : ∀ c s p q h2, bs_R S L c s p q h2 → bl_law_1447 100 x h2 bs_Qf) : bl_law_1237 100 x h bs_Qf := by
  have e3 := hR.2.2.1.2
  refine rv_law_1237 (d := 99) ?_
  rw [bc_wi (x := x + 1) (by omega) (by omega), bc_wi (x := x + 2) (by omega) (by omega), bc_wi (x := x + 3) (by omega) (by omega), e3]
  refine ⟨by omega, by omega, by omega, bs_o_ask (d := 90) (P := fun y y2 h2 => (y = y2 → bl_law_1447 100 x h2 bs_Qf) ∧ (y ≠ y2 → bs_Qf (some (.inl 0)) h2)) hR (fun y h1 e e' k => ?_) (fun y h2 r => ⟨fun _ => next _ _ _ _ _ r, fun q => absurd rfl q⟩)⟩
  rw [e', e, e3]
  exact ⟨by omega, by omega, by omega, k⟩
theorem bs_L_1274 {S : Int → Int} {L c s p q x : Int} {h : bc_H} (hS : ∀ j : Int, 0 ≤ j → bc_i (S j)) (L3 : L ≤ 3072) (x0 : 0 ≤ x) (x1 : x ≤ L - 6) (hR : bs_R S L c s p q h) (next : ∀ c s p q h2, bs_R S L c s p q h2 → bl_law_1447 100 x h2 bs_Qf) : bl_law_1274 100 x h bs_Qf := by
  have e3 := hR.2.2.1.2
  refine rv_law_1274 (d := 99) ?_
  rw [bc_wi (x := x + 1) (by omega) (by omega), bc_wi (x := x + 2) (by omega) (by omega), e3]
  refine ⟨by omega, by omega, bs_o_game (d := 83) (P := fun y y2 h2 => (y = y2 → bl_law_1447 100 x h2 bs_Qf) ∧ (y ≠ y2 → bs_Qf (some (.inl 0)) h2)) hR (fun y h1 e e' k => ?_) (fun y h2 r => ⟨fun _ => next _ _ _ _ _ r, fun q => absurd rfl q⟩)⟩
  rw [e', e, e3]
  exact ⟨by omega, by omega, k⟩
theorem bs_L_1301 {S : Int → Int} {L c s p q x : Int} {h : bc_H} (hS : ∀ j : Int, 0 ≤ j → bc_i (S j)) (L3 : L ≤ 3072) (x0 : 0 ≤ x) (x1 : x ≤ L - 6) (hR : bs_R S L c s p q h) (next : ∀ c s p q h2, bs_R S L c s p q h2 → bl_law_1447 100 x h2 bs_Qf) : bl_law_1301 100 x h bs_Qf := by
  have e3 := hR.2.2.1.2
  refine rv_law_1301 (d := 99) ?_
  rw [bc_wi (x := x + 1) (by omega) (by omega), bc_wi (x := x + 2) (by omega) (by omega), e3]
  refine ⟨by omega, by omega, bs_o_moveOf (d := 83) (P := fun y y2 h2 => (y = y2 → bl_law_1447 100 x h2 bs_Qf) ∧ (y ≠ y2 → bs_Qf (some (.inl 0)) h2)) hR (fun y h1 e e' k => ?_) (fun y h2 r => ⟨fun _ => next _ _ _ _ _ r, fun q => absurd rfl q⟩)⟩
  rw [e', e, e3]
  exact ⟨by omega, by omega, k⟩
theorem bs_L_1328 {S : Int → Int} {L c s p q x : Int} {h : bc_H} (hS : ∀ j : Int, 0 ≤ j → bc_i (S j)) (L3 : L ≤ 3072) (x0 : 0 ≤ x) (x1 : x ≤ L - 6) (hR : bs_R S L c s p q h) (next : ∀ c s p q h2, bs_R S L c s p q h2 → bl_law_1447 100 x h2 bs_Qf) : bl_law_1328 100 x h bs_Qf := by
  have e3 := hR.2.2.1.2
  refine rv_law_1328 (d := 99) ?_
  rw [bc_wi (x := x + 1) (by omega) (by omega), bc_wi (x := x + 2) (by omega) (by omega), e3]
  refine ⟨by omega, by omega, bs_o_flicker (d := 95) (P := fun h2 => bl_law_1447 100 x h2 bs_Qf) (N1 := fun h2 => bs_Qf (some (.inl 0)) h2) (N2 := fun h2 => bs_Qf (some (.inl 0)) h2) hR (fun h1 e e' k => ?_) (fun h1 e e' k => ?_) (fun h2 r => next _ _ _ _ _ r)⟩
  · rw [e', e, e3]
    exact ⟨by omega, by omega, k⟩
  · rw [e', e, e3]
    exact ⟨by omega, by omega, k⟩
theorem bs_L_1355 {S : Int → Int} {L c s p q x : Int} {h : bc_H} (hS : ∀ j : Int, 0 ≤ j → bc_i (S j)) (L3 : L ≤ 3072) (x0 : 0 ≤ x) (x1 : x ≤ L - 6) (hR : bs_R S L c s p q h) (next : ∀ c s p q h2, bs_R S L c s p q h2 → bl_law_1447 100 x h2 bs_Qf) : bl_law_1355 100 x h bs_Qf := by
  have e3 := hR.2.2.1.2
  refine rv_law_1355 (d := 99) ?_
  rw [bc_wi (x := x + 1) (by omega) (by omega), e3]
  refine ⟨by omega, bs_o_copyMost (d := 90) (P := fun y y2 h2 => (y = y2 → bl_law_1447 100 x h2 bs_Qf) ∧ (y ≠ y2 → bs_Qf (some (.inl 0)) h2)) hR (fun y h1 e e' k => ?_) (fun y h2 r => ⟨fun _ => next _ _ _ _ _ r, fun q => absurd rfl q⟩)⟩
  rw [e', e, e3]
  exact ⟨by omega, k⟩
theorem bs_L_1372 {S : Int → Int} {L c s p q x : Int} {h : bc_H} (hS : ∀ j : Int, 0 ≤ j → bc_i (S j)) (L3 : L ≤ 3072) (x0 : 0 ≤ x) (x1 : x ≤ L - 6) (hR : bs_R S L c s p q h) (next : ∀ c s p q h2, bs_R S L c s p q h2 → bl_law_1447 100 x h2 bs_Qf) : bl_law_1372 100 x h bs_Qf := by
  have e3 := hR.2.2.1.2
  refine rv_law_1372 (d := 99) ?_
  rw [bc_wi (x := x + 1) (by omega) (by omega), e3]
  refine ⟨by omega, bs_o_live (d := 87) (P := fun y y2 h2 => (y = y2 → bl_law_1447 100 x h2 bs_Qf) ∧ (y ≠ y2 → bs_Qf (some (.inl 0)) h2)) hR (fun y h1 e e' k => ?_) (fun y h2 r => ⟨fun _ => next _ _ _ _ _ r, fun q => absurd rfl q⟩)⟩
  rw [e', e, e3]
  exact ⟨by omega, k⟩
theorem bs_L_1389 {S : Int → Int} {L c s p q x : Int} {h : bc_H} (hS : ∀ j : Int, 0 ≤ j → bc_i (S j)) (L3 : L ≤ 3072) (x0 : 0 ≤ x) (x1 : x ≤ L - 6) (hR : bs_R S L c s p q h) (next : ∀ c s p q h2, bs_R S L c s p q h2 → bl_law_1447 100 x h2 bs_Qf) : bl_law_1389 100 x h bs_Qf := by
  have e3 := hR.2.2.1.2
  refine rv_law_1389 (d := 99) ?_
  rw [bc_wi (x := x + 1) (by omega) (by omega), e3]
  refine ⟨by omega, bs_o_lived (d := 94) (P := fun y y2 h2 => (y = y2 → bl_law_1447 100 x h2 bs_Qf) ∧ (y ≠ y2 → bs_Qf (some (.inl 0)) h2)) hR (fun y h1 e e' k => ?_) (fun y h2 r => ⟨fun _ => next _ _ _ _ _ r, fun q => absurd rfl q⟩)⟩
  rw [e', e, e3]
  exact ⟨by omega, k⟩
theorem bs_L_1406 {S : Int → Int} {L c s p q x : Int} {h : bc_H} (hS : ∀ j : Int, 0 ≤ j → bc_i (S j)) (L3 : L ≤ 3072) (x0 : 0 ≤ x) (x1 : x ≤ L - 6) (hR : bs_R S L c s p q h) (next : ∀ c s p q h2, bs_R S L c s p q h2 → bl_law_1447 100 x h2 bs_Qf) : bl_law_1406 100 x h bs_Qf := by
  have e3 := hR.2.2.1.2
  refine rv_law_1406 (d := 99) ?_
  rw [bc_wi (x := x + 1) (by omega) (by omega), bc_wi (x := x + 2) (by omega) (by omega), e3]
  refine ⟨by omega, by omega, bs_o_mean (d := 87) (P := fun h2 => bl_law_1447 100 x h2 bs_Qf) (N1 := fun h2 => bs_Qf (some (.inl 0)) h2) (N2 := fun h2 => bs_Qf (some (.inl 0)) h2) hR (fun h1 e e' k => ?_) (fun h1 e e' k => ?_) (fun h2 r => next _ _ _ _ _ r)⟩
  · rw [e', e, e3]
    exact ⟨by omega, by omega, k⟩
  · rw [e', e, e3]
    exact ⟨by omega, by omega, k⟩
theorem bs_L_1433 {S : Int → Int} {L c s p q x : Int} {h : bc_H} (hS : ∀ j : Int, 0 ≤ j → bc_i (S j)) (L3 : L ≤ 3072) (x0 : 0 ≤ x) (x1 : x ≤ L - 6) (hR : bs_R S L c s p q h) (next : ∀ c s p q h2, bs_R S L c s p q h2 → bl_law_1447 100 x h2 bs_Qf) : bl_law_1433 100 x h bs_Qf := by
  have e3 := hR.2.2.1.2
  refine rv_law_1433 (d := 99) ?_
  refine bs_o_mark (d := 95) (P := fun y y2 h2 => (y = y2 → bl_law_1447 100 x h2 bs_Qf) ∧ (y ≠ y2 → bs_Qf (some (.inl 0)) h2)) hR (fun y h1 e e' k => ?_) (fun y h2 r => ⟨fun _ => next _ _ _ _ _ r, fun q => absurd rfl q⟩)
  exact k
theorem bs_L_1440 {S : Int → Int} {L c s p q x : Int} {h : bc_H} (hS : ∀ j : Int, 0 ≤ j → bc_i (S j)) (L3 : L ≤ 3072) (x0 : 0 ≤ x) (x1 : x ≤ L - 6) (hR : bs_R S L c s p q h) (next : ∀ c s p q h2, bs_R S L c s p q h2 → bl_law_1447 100 x h2 bs_Qf) : bl_law_1440 100 x h bs_Qf := by
  have e3 := hR.2.2.1.2
  refine rv_law_1440 (d := 99) ?_
  refine bs_o_undo (d := 95) (P := fun y y2 h2 => (y = y2 → bl_law_1447 100 x h2 bs_Qf) ∧ (y ≠ y2 → bs_Qf (some (.inl 0)) h2)) hR (fun y h1 e e' k => ?_) (fun y h2 r => ⟨fun _ => next _ _ _ _ _ r, fun q => absurd rfl q⟩)
  exact k
