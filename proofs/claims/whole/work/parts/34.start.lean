/-! the law's start: what lies outside the world -/
def bc_tm (i : Nat) : Term := match i with
  | 0 => .string "BeastCave$Text" 29
  | _ => .string "BeastCaveModel" 211
def bc_pre0 : Jvm.Cond := Jvm.Cond.and given_1 narrow_1
def bc_el (i j : Nat) : Jvm.Cond := .eq (.elem (.field (bc_tm i) "java/lang/String" "value" "[B") (.int (Int32.ofNat j))) (.int ((bc_bytS.getD i []).getD j 0))
theorem bc_hel0 : ((flatC bc_pre0).drop 39).take 145 = (List.range 145).map (bc_el 0) := by decide +kernel
theorem bc_hel1 : ((flatC bc_pre0).drop 188).take 146 = (List.range 146).map (bc_el 1) := by decide +kernel
theorem bc_lens2 : bc_lenS = [145, 146] := by decide +kernel
theorem bc_helI {i j : Nat} (hi : i < 2) (hj : j < bc_lenS.getD i 0) : bc_el i j ∈ flatC bc_pre0 := by
  rw [bc_lens2] at hj
  have hc : i = 0 ∨ i = 1 := by omega
  rcases hc with rfl | rfl
  · exact List.mem_of_mem_drop (List.mem_of_mem_take (show bc_el 0 j ∈ ((flatC bc_pre0).drop 39).take 145 by rw [bc_hel0]; exact List.mem_map.mpr ⟨j, List.mem_range.mpr hj, rfl⟩))
  · exact List.mem_of_mem_drop (List.mem_of_mem_take (show bc_el 1 j ∈ ((flatC bc_pre0).drop 188).take 146 by rw [bc_hel1]; exact List.mem_map.mpr ⟨j, List.mem_range.mpr hj, rfl⟩))
theorem bc_fl (i : Nat) {w : Jvm.Cond} (h : (flatC bc_pre0)[i]? = some w) : w ∈ flatC bc_pre0 := List.mem_of_getElem? h
theorem bc_f4 : Cond.eq (.static "java/lang/String" "COMPACT_STRINGS" "Z") (.int 1) ∈ flatC bc_pre0 := bc_fl 4 (by decide +kernel)
theorem bc_f5 : Cond.isRef (.static "jdk/internal/util/Preconditions" "SIOOBE_FORMATTER" "Ljava/util/function/BiFunction;") ∈ flatC bc_pre0 := bc_fl 5 (by decide +kernel)
theorem bc_f35 : ∀ i, i < 2 → Cond.exactly (bc_tm i) "java/lang/String" ∈ flatC bc_pre0
  | 0, _ => bc_fl 35 (by decide +kernel)
  | 1, _ => bc_fl 184 (by decide +kernel)
  | n + 2, h => absurd h (by omega)
theorem bc_f36 : ∀ i, i < 2 → Cond.eq (.field (bc_tm i) "java/lang/String" "coder" "B") (.int 0) ∈ flatC bc_pre0
  | 0, _ => bc_fl 36 (by decide +kernel)
  | 1, _ => bc_fl 185 (by decide +kernel)
  | n + 2, h => absurd h (by omega)
theorem bc_f37 : ∀ i, i < 2 → Cond.arrayOf (.field (bc_tm i) "java/lang/String" "value" "[B") .byte ∈ flatC bc_pre0
  | 0, _ => bc_fl 37 (by decide +kernel)
  | 1, _ => bc_fl 186 (by decide +kernel)
  | n + 2, h => absurd h (by omega)
theorem bc_f38 : ∀ i, i < 2 → Cond.eq (.length (.field (bc_tm i) "java/lang/String" "value" "[B")) (.int (Int32.ofNat (bc_lenS.getD i 0))) ∈ flatC bc_pre0
  | 0, _ => bc_fl 38 (by decide +kernel)
  | 1, _ => bc_fl 187 (by decide +kernel)
  | n + 2, h => absurd h (by omega)
theorem bc_f334 : Cond.not (Cond.eq (bc_tm 0) (bc_tm 1)) ∈ flatC bc_pre0 := bc_fl 334 (by decide +kernel)
theorem bc_lks : ∀ (qs : List Nat) (ws : List Jvm.Cond), qs.map bc_lk = ws.map some → ∀ w ∈ ws, w ∈ lw_tbl
  | [], [], _, w, hw => absurd hw List.not_mem_nil
  | [], _ :: _, h, _, _ => by cases h
  | _ :: _, [], h, _, _ => by cases h
  | q :: qs, v :: ws, h, w, hw => by
    rw [List.map_cons, List.map_cons] at h
    injection h with h1 h2
    rcases List.mem_cons.mp hw with rfl | hw
    · exact bc_lk_in h1
    · exact bc_lks qs ws h2 w hw
def bc_nws : List Jvm.Cond := bc_nest.map (fun q => .methodLinkNest q.1 q.2.1 q.2.2 "BeastCave")
theorem bc_nsin : ∀ w ∈ bc_nws, w ∈ lw_tbl := bc_lks [33, 195, 238, 1017, 1060, 1236, 5023, 1066, 1084, 1126, 3139, 4181, 5121, 4154, 2114] _ (by decide +kernel)
def bc_iws : List Jvm.Cond := (List.range 13).map (fun c => .instantiable (vwCl.getD c ("", TX0, 0)).1 (vwCl.getD c ("", TX0, 0)).2.2)
theorem bc_insin : ∀ w ∈ bc_iws, w ∈ lw_tbl := bc_lks [237, 1065, 1059, 1235, 1125, 194, 160, 1016, 50, 32, 1083, 24, 5163] _ (by decide +kernel)
def bc_sws : List Jvm.Cond := [.stringRef "BeastCave$Text" 29 bc_tx0, .stringRef "BeastCaveModel" 211 bc_tx1, .laysStatic "java/lang/String" "COMPACT_STRINGS" "Z", .laysStatic "jdk/internal/util/Preconditions" "SIOOBE_FORMATTER" "Ljava/util/function/BiFunction;", .initialized "java/lang/String", .initialized "jdk/internal/util/Preconditions", .arrayOver (.object RX2), .arrayOver (.object RX3), .arrayClass .int, .arrayClass .byte, .arrayClass .long, .arrayClass .boolean]
theorem bc_ssin : ∀ w ∈ bc_sws, w ∈ lw_tbl := bc_lks [55, 6171, 65, 81, 4, 6, 2035, 2036, 47, 158, 48, 6083] _ (by decide +kernel)
theorem bc_swi (i : Nat) {w : Jvm.Cond} (h : bc_sws[i]? = some w) : w ∈ lw_tbl := bc_ssin w (List.mem_of_getElem? h)
theorem bc_arC {args : Array Value} {s : State} {ty : FieldType} (hn : ∀ C, ty ≠ .object C) (h : (Cond.arrayClass ty).before args s = true) : ∃ cA, ArrOfT s cA ty ∧ va_RA s cA ty := by
  obtain ⟨c, k, comp, h1, h2, h3⟩ := Cond.arrayClass_spec (args := args) (first := s) (o := none) (idx := []) (s := s) h
  refine ⟨c, fun n z => ⟨fun k h => (by cases h), k, h2, comp, h3⟩, ?_⟩
  cases ty with
  | object C => exact absurd rfl (hn C)
  | _ => exact h1
theorem bc_arO {args : Array Value} {s : State} {C : String} (h : (Cond.arrayOver (.object C)).before args s = true) : ∃ cA, ArrOfT s cA (.object C) ∧ va_RA s cA (.object C) := by
  obtain ⟨comp, c, k, h1, h2, h3, h4, h5⟩ := Cond.arrayOver_spec (args := args) (first := s) (o := none) (idx := []) (s := s) h
  exact ⟨c, fun n z => ⟨fun k h => (by cases h), k, h3, comp, h4⟩, k, comp, h3, h4, h1, h5⟩
/-- what is fixed, found at the start -/
theorem bc_given {s : State} {b L : Nat} {xs : Nat → Int32} (hL : L ≤ 3072) (hts : ∀ w ∈ lw_tbl, w.before #[Value.ref b] s = true) (hX : va_X b L xs s s.heap) (hbl : b < s.heap.size) (hgv : bc_pre0.before #[Value.ref b] s = true) :
    ∃ g : bc_GG, g.1 = (s.heap.size, b, L) ∧ g.2.1 = xs ∧ va_K (bc_D g) vwCl (bc_ty g) s ∧ bc_X g s s.heap := by
  have hf := flat_of_before _ hgv
  obtain ⟨aK, aV, hS, hev⟩ := vk_Sof (args := #[Value.ref b]) (s := s) (N := 2) (tm := bc_tm) (len := bc_lenS) (byt := bc_bytS) (A := fun q => s.heap.size ≤ q) (fun i hi => by
      have h1 := (bc_strs i hi).2.1
      have h2 := (bc_strs i hi).2.2.1
      omega) (fun i hi => hf _ (bc_f35 i hi)) (fun i hi => hf _ (bc_f36 i hi)) (fun i hi => hf _ (bc_f37 i hi)) (fun i hi => hf _ (bc_f38 i hi)) (fun i hi j hj => hf _ (bc_helI hi hj)) (fun i j hi hj hij => by
      have hc : (i = 0 ∧ j = 1) ∨ (i = 1 ∧ j = 0) := by omega
      rcases hc with ⟨rfl, rfl⟩ | ⟨rfl, rfl⟩
      · exact Or.inl (hf _ bc_f334)
      · exact Or.inr (hf _ bc_f334)) (fun a ha q => by omega)
  have hcls : ∀ c : Nat, ∃ q : ClassId × (Nat → Nat), ∀ q' : vw_C, vwCl[c]? = some q' → u_Kn s q'.1 q'.2.1 q'.2.2 q.1 q.2 := by
    intro c
    by_cases hc : c < 13
    · obtain ⟨C, T, N, ty, c1, c2, c3, -, -, -, -, c8, c9⟩ := bc_cls c hc
      have hw : Cond.instantiable C N ∈ lw_tbl := by
        have := bc_insin (.instantiable (vwCl.getD c ("", TX0, 0)).1 (vwCl.getD c ("", TX0, 0)).2.2) (List.mem_map.mpr ⟨c, List.mem_range.mpr hc, rfl⟩)
        rw [c8, c9] at this
        exact this
      obtain ⟨cC, iS, hk⟩ := u_known (ws := bc_T) (fun w h => hts w (List.mem_filter.mp h).1) c3 (hts _ hw)
      refine ⟨(cC, iS), fun q' hq => ?_⟩
      rw [c1] at hq
      cases hq
      exact hk
    · refine ⟨(0, fun _ => 0), fun q' hq => ?_⟩
      have := (List.getElem?_eq_some_iff.mp hq).1
      exact absurd this hc
  obtain ⟨D, hD⟩ := Classical.axiomOfChoice hcls
  obtain ⟨a0, z0, y0⟩ := bc_arC (ty := .int) (fun C h => by cases h) (hts _ (bc_swi 8 rfl))
  obtain ⟨a1, z1, y1⟩ := bc_arC (ty := .byte) (fun C h => by cases h) (hts _ (bc_swi 9 rfl))
  obtain ⟨a2, z2, y2⟩ := bc_arC (ty := .long) (fun C h => by cases h) (hts _ (bc_swi 10 rfl))
  obtain ⟨a3, z3, y3⟩ := bc_arC (ty := .boolean) (fun C h => by cases h) (hts _ (bc_swi 11 rfl))
  obtain ⟨a4, z4, y4⟩ := bc_arO (C := RX2) (hts _ (bc_swi 6 rfl))
  obtain ⟨a5, z5, y5⟩ := bc_arO (C := RX3) (hts _ (bc_swi 7 rfl))
  refine ⟨((s.heap.size, b, L), xs, aK, aV, (fun k => [a0, a1, a2, a3, a4, a5].getD k 0), (fun c => (D c).1), (fun c => (D c).2)), rfl, rfl, ⟨fun c q hq => hD c q hq, fun k q hq => ?_⟩, hX, hbl, Nat.le_refl _, hL, hS, ?_, ?_, ?_, ?_, ?_, ?_, ?_⟩
  · have hk : k < 6 := (List.getElem?_eq_some_iff.mp hq).1
    have hc : k = 0 ∨ k = 1 ∨ k = 2 ∨ k = 3 ∨ k = 4 ∨ k = 5 := by omega
    rcases hc with rfl | rfl | rfl | rfl | rfl | rfl <;> cases hq
    · exact ⟨z0, y0⟩
    · exact ⟨z1, y1⟩
    · exact ⟨z2, y2⟩
    · exact ⟨z3, y3⟩
    · exact ⟨z4, y4⟩
    · exact ⟨z5, y5⟩
  · exact vk_R.of (hts _ (bc_swi 0 rfl)) (hev 0 (by decide))
  · exact vk_R.of (hts _ (bc_swi 1 rfl)) (hev 1 (by decide))
  · exact va_Zof (hts _ (bc_swi 2 rfl)) (hts _ (bc_swi 4 rfl)) (va_eqi (hf _ bc_f4)) (fun a ha q => by have q : s.heap.size ≤ a := q; omega)
  · exact va_Zqof (hts _ (bc_swi 3 rfl)) (hts _ (bc_swi 5 rfl)) (hf _ bc_f5) (fun a ha q => by have q : s.heap.size ≤ a := q; omega)
  · exact fun q hq => va_Nw.of rfl (hts _ (bc_nsin _ (List.mem_map.mpr ⟨q, hq, rfl⟩)))
  · exact va_AO.of (hts _ (bc_swi 6 rfl))
  · exact va_AO.of (hts _ (bc_swi 7 rfl))
