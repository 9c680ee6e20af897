/-! ===== the small machine's points against the JVM's ===== -/
/-- what is fixed: first free cell, script's cell, its length; its numbers; where the String constants and their rows are; array classes; slots -/
abbrev bc_GG : Type := (Nat × Nat × Nat) × (Nat → Int32) × (Nat → Nat) × (Nat → Nat) × (Nat → ClassId) × va_G
abbrev bc_q0 (g : bc_GG) : Nat := g.1.1
abbrev bc_b (g : bc_GG) : Nat := g.1.2.1
abbrev bc_len (g : bc_GG) : Nat := g.1.2.2
abbrev bc_xs (g : bc_GG) : Nat → Int32 := g.2.1
abbrev bc_aK (g : bc_GG) : Nat → Nat := g.2.2.1
abbrev bc_aV (g : bc_GG) : Nat → Nat := g.2.2.2.1
abbrev bc_cA (g : bc_GG) : Nat → ClassId := g.2.2.2.2.1
abbrev bc_D (g : bc_GG) : va_G := g.2.2.2.2.2
def bc_A (g : bc_GG) : Nat → Prop := fun q => bc_q0 g ≤ q
def bc_nf (c : Nat) : Nat := (vwCl.getD c ("", TX0, 0)).2.2
def bc_cv (g : bc_GG) (ad : Nat → Nat) : bc_V → Value
  | .inl x => .int (Int32.ofInt x)
  | .inr (.inl x) => .long (Int64.ofInt x)
  | .inr (.inr (sh, r)) => if sh.1 = 7 then .ref (bc_b g) else if sh.1 = 8 then .ref (bc_aK g sh.2) else .ref (ad r.toNat)
def bc_rr (ad : Nat → Nat) (x : Int) : Option Nat := if x < 0 then none else some (ad x.toNat)
def bc_cf (ad : Nat → Nat) (ft : Nat × Nat) (x : Int) : Value := match ft.1 with
  | 10 => .int (Int32.ofInt x)
  | 11 => .long (Int64.ofInt x)
  | 12 => .int (Int32.ofInt x)
  | _ => va_rf (bc_rr ad x)
def bc_ce (g : bc_GG) (ad : Nat → Nat) (sh : Nat × Nat) (f : Int → Int) : va_E := match sh with
  | (0, c) => .inr (c, (List.range (bc_nf c)).map (fun j : Nat => bc_cf ad (bc_ft c j) (f j)))
  | (1, n) => .inl (bc_cA g 0, n, .inl (fun j : Nat => Int32.ofInt (f j)))
  | (2, n) => .inl (bc_cA g 1, n, .inl (fun j : Nat => Int32.ofInt (f j)))
  | (3, n) => .inl (bc_cA g 2, n, .inr (.inl (fun j : Nat => Int64.ofInt (f j))))
  | (4, n) => .inl (bc_cA g 3, n, .inl (fun j : Nat => Int32.ofInt (f j)))
  | (5, n) => .inl (bc_cA g 4, n, .inr (.inr (.inr (.inr (fun j : Nat => if j < n then bc_rr ad (f j) else none)))))
  | (6, n) => .inl (bc_cA g 5, n, .inr (.inr (.inr (.inr (fun j : Nat => if j < n then bc_rr ad (f j) else none)))))
  | _ => .inl (0, 0, .inl (fun _ => 0))
def bc_sh (i : Nat) : Nat × Nat := bc_SH.getD i (99, 0)
def bc_ws (g : bc_GG) (ad : Nat → Nat) (h : bc_H) (np : Nat) : va_W := (List.range np).map (fun i : Nat => (ad i, bc_ce g ad (bc_sh i) (h i)))
def bc_ty (g : bc_GG) : List (ClassId × FieldType) := [(bc_cA g 0, .int), (bc_cA g 1, .byte), (bc_cA g 2, .long), (bc_cA g 3, .boolean), (bc_cA g 4, .object RX2), (bc_cA g 5, .object RX3)]
/-- a value that can be -/
def bc_vo (np : Nat) : bc_V → Prop
  | .inl x => bc_i x
  | .inr (.inl x) => bc_j x
  | .inr (.inr (sh, r)) => (sh.1 = 7) ∨ (sh.1 = 8 ∧ sh.2 < 2) ∨ (sh.1 < 7 ∧ 0 ≤ r ∧ r.toNat < np ∧ bc_sh r.toNat = sh)
def bc_fk (np : Nat) (ft : Nat × Nat) (x : Int) : Prop := match ft.1 with
  | 10 => bc_i x
  | 11 => bc_j x
  | 12 => x = 0 ∨ x = 1
  | _ => ft.1 < 7 ∧ (0 ≤ x → x.toNat < np ∧ bc_sh x.toNat = ft)
def bc_ck (np : Nat) (sh : Nat × Nat) (f : Int → Int) : Prop := match sh with
  | (0, c) => ∀ j : Nat, j < bc_nf c → bc_fk np (bc_ft c j) (f j)
  | (1, n) => ∀ j : Nat, j < n → bc_i (f j)
  | (2, n) => ∀ j : Nat, j < n → -128 ≤ f j ∧ f j < 128
  | (3, n) => ∀ j : Nat, j < n → bc_j (f j)
  | (4, n) => ∀ j : Nat, j < n → f j = 0 ∨ f j = 1
  | (5, n) => ∀ j : Nat, j < n → bc_fk np (0, 2) (f j)
  | (6, n) => ∀ j : Nat, j < n → bc_fk np (0, 3) (f j)
  | _ => False
/-- final fields name what lies where the table says -/
def bc_fin (h : bc_H) (np : Nat) : Prop := ∀ i : Nat, i < np → ∀ c : Nat, bc_sh i = (0, c) → ∀ j : Nat, j < bc_nf c → ∀ o : Int, bc_fo c j = some o → h i j = i + o ∧ 0 ≤ h i j
def bc_R (g : bc_GG) (ph : Bool) (ad : Nat → Nat) (h : bc_H) (np : Nat) (H : Heap) : Prop :=
  va_P (bc_D g) vwCl (bc_ws g ad h np) H ∧ va_D (bc_A g) (bc_ws g ad h np) ∧ (∀ i : Nat, i < np → bc_ck np (bc_sh i) (h i)) ∧ (ph = true → bc_fin h np) ∧ (ph = true → ∀ j : Nat, j < bc_len g → h (-2) j = (bc_xs g j).toInt) ∧ (ph = true → h (-3) 0 = bc_len g)
def bc_lh (g : bc_GG) (ad : Nat → Nat) (np nL : Nat) (lsc : Array Slot) (ls : bc_L) : Prop := lsc.size = nL ∧ lv_wf lsc ∧ ∀ (i : Nat) (v : bc_V), bc_lget ls i = some v → bc_vo np v ∧ lsc[i]? = some (.val (bc_cv g ad v))
theorem bc_ws_get {g : bc_GG} {ad : Nat → Nat} {h : bc_H} {np i : Nat} (hi : i < np) : (bc_ws g ad h np)[i]? = some (ad i, bc_ce g ad (bc_sh i) (h i)) := by
  unfold bc_ws
  rw [List.getElem?_map, List.getElem?_range hi]
  rfl
theorem bc_ws_set {g : bc_GG} {ad : Nat → Nat} {h h' : bc_H} {np r : Nat} (hr : r < np) (hh : ∀ i : Nat, i ≠ r → h' i = h i) : bc_ws g ad h' np = (bc_ws g ad h np).set r (ad r, bc_ce g ad (bc_sh r) (h' r)) := by
  unfold bc_ws
  apply List.ext_getElem?
  intro i
  by_cases hi : i < np
  · rw [List.getElem?_map, List.getElem?_range hi]
    by_cases e : i = r
    · subst e
      rw [List.getElem?_set_self (by simpa using hi)]
      rfl
    · rw [List.getElem?_set_ne (Ne.symm e), List.getElem?_map, List.getElem?_range hi]
      simp [hh i e]
  · rw [List.getElem?_eq_none (by simpa using hi), List.getElem?_eq_none (by simpa using hi)]
theorem bc_upd_ne {h : bc_H} {r j v : Int} {i : Int} (hi : i ≠ r) : bc_upd h r j v i = h i := by
  funext b
  unfold bc_upd
  rw [if_neg (fun q => hi q.1)]
theorem bc_upd_at {h : bc_H} {r j v : Int} (b : Int) : bc_upd h r j v r b = if b = j then v else h r b := by
  unfold bc_upd
  by_cases e : b = j
  · rw [if_pos ⟨rfl, e⟩, if_pos e]
  · rw [if_neg (fun q => e q.2), if_neg e]
theorem bc_blk_ne {h : bc_H} {r1 s1 r2 d2 n : Int} {i : Int} (hi : i ≠ r2) : bc_blk h r1 s1 r2 d2 n i = h i := by
  funext b
  unfold bc_blk
  rw [if_neg (fun q => hi q.1)]
theorem bc_fk_mono {np nq : Nat} (hn : np ≤ nq) {ft : Nat × Nat} {x : Int} (h : bc_fk np ft x) : bc_fk nq ft x := by
  unfold bc_fk at h ⊢
  split at h
  · exact h
  · exact h
  · exact h
  · exact ⟨h.1, fun q => ⟨by have := (h.2 q).1; omega, (h.2 q).2⟩⟩
theorem bc_ck_mono {np nq : Nat} (hn : np ≤ nq) {sh : Nat × Nat} {f : Int → Int} (h : bc_ck np sh f) : bc_ck nq sh f := by
  unfold bc_ck at h ⊢
  split at h
  all_goals first
    | exact fun j hj => bc_fk_mono hn (h j hj)
    | exact h
theorem bc_vo_mono {np nq : Nat} (hn : np ≤ nq) {v : bc_V} (h : bc_vo np v) : bc_vo nq v := by
  rcases v with x | x | ⟨sh, r⟩
  · exact h
  · exact h
  · rcases h with h | h | ⟨h1, h2, h3, h4⟩
    · exact Or.inl h
    · exact Or.inr (Or.inl h)
    · exact Or.inr (Or.inr ⟨h1, h2, by omega, h4⟩)
/-- a row written in a way that keeps its kind -/
theorem bc_R_row {g : bc_GG} {ph : Bool} {ad : Nat → Nat} {h h' : bc_H} {np : Nat} {H H1 : Heap} {r : Nat} (hR : bc_R g ph ad h np H) (hr : r < np) (hh : ∀ i : Int, i ≠ (r : Int) → h' i = h i) (hk : bc_ck np (bc_sh r) (h' r)) (hf : ph = true → ∀ c : Nat, bc_sh r = (0, c) → ∀ j : Nat, j < bc_nf c → ∀ o : Int, bc_fo c j = some o → h' r j = h r j)
    (hP : va_P (bc_D g) vwCl ((bc_ws g ad h np).set r (ad r, bc_ce g ad (bc_sh r) (h' r))) H1) (hD : va_D (bc_A g) ((bc_ws g ad h np).set r (ad r, bc_ce g ad (bc_sh r) (h' r)))) : bc_R g ph ad h' np H1 := by
  obtain ⟨-, -, h3, h4, h5, h6⟩ := hR
  have e : bc_ws g ad h' np = (bc_ws g ad h np).set r (ad r, bc_ce g ad (bc_sh r) (h' r)) := bc_ws_set hr (fun i hi => hh i (by omega))
  refine ⟨e ▸ hP, e ▸ hD, fun i hi => ?_, fun q i hi c hc j hj o ho => ?_, fun q j hj => ?_, fun q => ?_⟩
  · by_cases q : i = r
    · subst q; exact hk
    · rw [hh i (by omega)]; exact h3 i hi
  · by_cases z : i = r
    · subst z; rw [hf q c hc j hj o ho]; exact h4 q i hi c hc j hj o ho
    · rw [hh i (by omega)]; exact h4 q i hi c hc j hj o ho
  · rw [hh (-2) (by omega)]; exact h5 q j hj
  · rw [hh (-3) (by omega)]; exact h6 q
