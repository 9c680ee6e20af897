/-! new cells -/
def bc_ad (ad : Nat → Nat) (np q : Nat) : Nat → Nat := fun i => if i = np then q else ad i
theorem bc_ad_lt {ad : Nat → Nat} {np q i : Nat} (hi : i < np) : bc_ad ad np q i = ad i := if_neg (by omega)
theorem bc_ad_at {ad : Nat → Nat} {np q : Nat} : bc_ad ad np q np = q := if_pos rfl
theorem bc_rr_up {ad ad' : Nat → Nat} {np : Nat} {x : Int} (ha : ∀ i, i < np → ad' i = ad i) (hx : 0 ≤ x → x.toNat < np) : bc_rr ad' x = bc_rr ad x := by
  unfold bc_rr
  split
  · rfl
  · rw [ha _ (hx (by omega))]
theorem bc_fk_lt {np : Nat} {ft : Nat × Nat} {x : Int} (h : bc_fk np ft x) : ft.1 = 10 ∨ ft.1 = 11 ∨ ft.1 = 12 ∨ (0 ≤ x → x.toNat < np) := by
  unfold bc_fk at h
  split at h
  · rename_i q; exact Or.inl q
  · rename_i q; exact Or.inr (Or.inl q)
  · rename_i q; exact Or.inr (Or.inr (Or.inl q))
  · exact Or.inr (Or.inr (Or.inr (fun z => (h.2 z).1)))
theorem bc_cf_up {ad ad' : Nat → Nat} {np : Nat} {ft : Nat × Nat} {x : Int} (ha : ∀ i, i < np → ad' i = ad i) (h : bc_fk np ft x) : bc_cf ad' ft x = bc_cf ad ft x := by
  unfold bc_cf
  split
  · rfl
  · rfl
  · rfl
  · rename_i q1 q2 q3
    rcases bc_fk_lt h with z | z | z | z
    · exact absurd z q1
    · exact absurd z q2
    · exact absurd z q3
    · rw [bc_rr_up ha z]
theorem bc_ce_up {g : bc_GG} {ad ad' : Nat → Nat} {np : Nat} {sh : Nat × Nat} {f : Int → Int} (ha : ∀ i, i < np → ad' i = ad i) (h : bc_ck np sh f) : bc_ce g ad' sh f = bc_ce g ad sh f := by
  unfold bc_ck at h
  split at h
  · show Sum.inr (_, _) = Sum.inr (_, _)
    refine congrArg (fun z => Sum.inr (_, z)) (List.map_congr_left (fun j hj => bc_cf_up ha (h j (List.mem_range.mp hj))))
  · rfl
  · rfl
  · rfl
  · rfl
  · rename_i n
    show Sum.inl (bc_cA g 4, n, Sum.inr (Sum.inr (Sum.inr (Sum.inr (fun j : Nat => if j < n then bc_rr ad' (f j) else none))))) = Sum.inl (bc_cA g 4, n, Sum.inr (Sum.inr (Sum.inr (Sum.inr (fun j : Nat => if j < n then bc_rr ad (f j) else none)))))
    have e : (fun j : Nat => if j < n then bc_rr ad' (f j) else none) = (fun j : Nat => if j < n then bc_rr ad (f j) else none) := by
      funext j
      by_cases hj : j < n
      · rw [if_pos hj, if_pos hj, bc_rr_up ha (fun z => (((bc_fk_r (by show 0 < 7; decide)).mp (h j hj)) z).1)]
      · rw [if_neg hj, if_neg hj]
    rw [e]
  · rename_i n
    show Sum.inl (bc_cA g 5, n, Sum.inr (Sum.inr (Sum.inr (Sum.inr (fun j : Nat => if j < n then bc_rr ad' (f j) else none))))) = Sum.inl (bc_cA g 5, n, Sum.inr (Sum.inr (Sum.inr (Sum.inr (fun j : Nat => if j < n then bc_rr ad (f j) else none)))))
    have e : (fun j : Nat => if j < n then bc_rr ad' (f j) else none) = (fun j : Nat => if j < n then bc_rr ad (f j) else none) := by
      funext j
      by_cases hj : j < n
      · rw [if_pos hj, if_pos hj, bc_rr_up ha (fun z => (((bc_fk_r (by show 0 < 7; decide)).mp (h j hj)) z).1)]
      · rw [if_neg hj, if_neg hj]
    rw [e]
  · exact h.elim
theorem bc_sh_of {np : Nat} {sh : Nat × Nat} (h : bc_SH[np]? = some sh) : bc_sh np = sh := by
  unfold bc_sh
  rw [List.getD_eq_getElem?_getD, h]
  rfl
theorem bc_SH_all : bc_SH.all (fun q => decide (q.1 < 7)) = true := by decide +kernel
theorem bc_SH_lt {np : Nat} {sh : Nat × Nat} (h : bc_SH[np]? = some sh) : sh.1 < 7 := by
  have := List.all_eq_true.mp bc_SH_all sh (List.mem_of_getElem? h)
  simpa using this
theorem bc_SZ_succ {np : Nat} {sh : Nat × Nat} (h : bc_SH[np]? = some sh) : bc_SZ (np + 1) = bc_SZ np + bc_sz sh := by
  unfold bc_SZ
  rw [List.take_add_one, h, List.map_append, List.sum_append]
  rfl
theorem bc_new_ne {h : bc_H} {np : Nat} {sh : Nat × Nat} {i : Int} (hi : i ≠ (np : Int)) : bc_new h np sh i = h i := by
  unfold bc_new bc_row
  split <;> (funext b; exact if_neg hi)
theorem bc_R_push {g : bc_GG} {ad : Nat → Nat} {h h' : bc_H} {np q : Nat} {H H1 : Heap} {sh : Nat × Nat} {E : va_E} (hR : bc_R g false ad h np H) (hsh : bc_sh np = sh) (hh : ∀ i : Int, i ≠ (np : Int) → h' i = h i) (hE : bc_ce g (bc_ad ad np q) sh (h' np) = E) (hk : bc_ck (np + 1) sh (h' np))
    (hP : va_P (bc_D g) vwCl (bc_ws g ad h np ++ [(q, E)]) H1) (hD : va_D (bc_A g) (bc_ws g ad h np ++ [(q, E)])) : bc_R g false (bc_ad ad np q) h' (np + 1) H1 := by
  obtain ⟨-, -, h3, -, h5, h6⟩ := hR
  have e : bc_ws g (bc_ad ad np q) h' (np + 1) = bc_ws g ad h np ++ [(q, E)] := by
    unfold bc_ws
    rw [List.range_succ, List.map_append]
    congr 1
    · refine List.map_congr_left (fun i hi => ?_)
      have hi := List.mem_range.mp hi
      rw [bc_ad_lt hi, hh i (by omega), bc_ce_up (fun j hj => bc_ad_lt hj) (h3 i hi)]
    · rw [List.map_cons, List.map_nil, bc_ad_at, hsh, hE]
  refine ⟨e ▸ hP, e ▸ hD, fun i hi => ?_, fun z => (by cases z), fun z => (by cases z), fun z => (by cases z)⟩
  · by_cases hz : i = np
    · subst hz; rw [hsh]; exact hk
    · rw [hh i (by omega)]
      exact bc_ck_mono (Nat.le_succ np) (h3 i (by omega))
def bc_z0 (ft : Nat × Nat) : Int := match ft with | (10, _) => 0 | (11, _) => 0 | (12, _) => 0 | _ => -1
theorem bc_z0_ok {ft : Nat × Nat} {ty : FieldType} {fo : Option Int} (h : bc_kin ft ty fo = true) (ad : Nat → Nat) (np : Nat) : defaultValue ty = bc_cf ad ft (bc_z0 ft) ∧ bc_fk np ft (bc_z0 ft) := by
  obtain ⟨a, b⟩ := ft
  unfold bc_kin at h
  split at h
  · rename_i q
    dsimp only at q
    subst q
    simp only [Bool.and_eq_true, decide_eq_true_eq] at h
    rw [h.1]
    exact ⟨rfl, ⟨by show _ ≤ (0 : Int); decide, by show (0 : Int) < _; decide⟩⟩
  · rename_i q
    dsimp only at q
    subst q
    simp only [Bool.and_eq_true, decide_eq_true_eq] at h
    rw [h.1]
    exact ⟨rfl, ⟨by show _ ≤ (0 : Int); decide, by show (0 : Int) < _; decide⟩⟩
  · rename_i q
    dsimp only at q
    subst q
    simp only [Bool.and_eq_true, decide_eq_true_eq] at h
    rw [h.1]
    exact ⟨rfl, Or.inl rfl⟩
  · simp only [Bool.and_eq_true, decide_eq_true_eq] at h
    obtain ⟨h1, h2⟩ := h
    have hc : a = 0 ∨ a = 1 ∨ a = 2 ∨ a = 3 ∨ a = 4 ∨ a = 5 ∨ a = 6 := by omega
    have hd : defaultValue ty = .null := by cases ty <;> first | rfl | cases h2
    rw [hd]
    rcases hc with rfl | rfl | rfl | rfl | rfl | rfl | rfl <;> exact ⟨rfl, ⟨h1, fun z => absurd z (show ¬ (0 : Int) ≤ -1 by decide)⟩⟩
section BCN
variable {g : bc_GG} {ph : Bool} {p : Program} {l : Launch} {e : Env} {R : Room} {s : State} {m : MethodId} {args : Array Value} {below : List Frame} {meth : Method} {c : Code} {Z : State → Prop} {d k nq mc ms n0 : Nat} {ad0 : Nat → Nat} {idx np : Nat} {ls : bc_L} {st : bc_St} {h : bc_H}
theorem bc_hA (hX : bc_X g s s.heap) : ∀ q, s.heap.size ≤ q → bc_A g q := fun q hq => by
  have := hX.2.2.1
  show bc_q0 g ≤ q
  omega
/-- on from a new cell -/
theorem bc_on {H1 : Heap} {locs : List Loc} {ad : Nat → Nat} {lsc : Array Slot} {pcb q len cells slots : Nat} {sh : Nat × Nat} {h' : bc_H} (hsh : bc_SH[np]? = some sh) (hnq : np + 1 ≤ nq) (hF : np ≤ nq ∧ cells + (nq - np) = mc ∧ slots + (bc_SZ nq - bc_SZ np) = ms) (h0 : n0 ≤ np) (hR : bc_R g false (bc_ad ad np q) h' (np + 1) H1) (hS : va_S (bc_A g) s.heap H1 locs) (hL : bc_lh g ad np (bc_mi k).2.2.2.1 lsc ls) (hV : ∀ v ∈ st, bc_vo np v) (hA : ∀ i, i < n0 → ad i = ad0 i) (hp : bc_pc k (idx + 1) = some (pcb + len))
    (hx : bc_At g false p l e R s m args below meth c Z k nq mc ms n0 ad0 (idx + 1) (np + 1) ls (.inr (.inr (sh, (np : Int))) :: st) h') : W p l e R s m args below meth c H1 locs (cells + 1) (slots + bc_sz sh) Z (F0 m (pcb + len) lsc (.ref q :: st.map (bc_cv g ad))) := by
  have hlt := bc_SH_lt hsh
  have ha : ∀ i, i < np → bc_ad ad np q i = ad i := fun i hi => bc_ad_lt hi
  have e1 : (.ref q :: st.map (bc_cv g ad)) = (.inr (.inr (sh, (np : Int))) :: st : bc_St).map (bc_cv g (bc_ad ad np q)) := by
    rw [List.map_cons, bc_map_up hV ha]
    congr 1
    unfold bc_cv
    dsimp only
    rw [if_neg (by omega), if_neg (by omega), Int.toNat_natCast, bc_ad_at]
  rw [e1]
  have z1 := bc_SZ_succ hsh
  have z2 := bc_SZ_mono hnq
  refine hx (cells + 1) (slots + bc_sz sh) H1 locs (bc_ad ad np q) lsc (pcb + len) ⟨hnq, by omega, by omega⟩ (by omega) hR hS (bc_lh_up hL (Nat.le_succ np) ha) (fun v hv => ?_) (fun i hi => by rw [bc_ad_lt (by omega)]; exact hA i hi) hp
  rcases List.mem_cons.mp hv with rfl | hv
  · exact Or.inr (Or.inr ⟨hlt, Int.natCast_nonneg np, by rw [Int.toNat_natCast]; omega, by rw [Int.toNat_natCast]; exact bc_sh_of hsh⟩)
  · exact bc_vo_mono (Nat.le_succ np) (hV v hv)
theorem bc_fit {sh : Nat × Nat} {cells slots : Nat} (hcs : mc ≤ R.cells ∧ ms ≤ R.slots) (hsh : bc_SH[np]? = some sh) (hnq : np + 1 ≤ nq) (hF : np ≤ nq ∧ cells + (nq - np) = mc ∧ slots + (bc_SZ nq - bc_SZ np) = ms) : cells + 1 ≤ R.cells ∧ slots + bc_sz sh ≤ R.slots := by
  have z1 := bc_SZ_succ hsh
  have z2 := bc_SZ_mono hnq
  exact ⟨by omega, by omega⟩
theorem bc_o_new (hC : bc_Cx g p s m args meth c k) (hcs : mc ≤ R.cells ∧ ms ≤ R.slots) {n : Nat} (hi : (bc_code k)[idx]? = some (.new n)) (hsh : bc_SH[np]? = some (0, n)) (hnq : np + 1 ≤ nq)
    (hx : bc_At g false p l e R s m args below meth c Z k nq mc ms n0 ad0 (idx + 1) (np + 1) ls (.inr (.inr ((0, n), (np : Int))) :: st) (bc_new h np (0, n))) : bc_At g false p l e R s m args below meth c Z k nq mc ms n0 ad0 idx np ls st h := by
  intro cells slots H locs ad lsc pcb hF h0 hR hS hL hV hA hp
  obtain ⟨j, len, wi, hd, hr⟩ := bc_rw0 hC.2.2.2.2.2.2.2.2 hi hp
  unfold bc_rel at hr
  simp only [Bool.and_eq_true, decide_eq_true_eq] at hr
  obtain ⟨⟨⟨hnx, rfl⟩, hn13⟩, hm⟩ := hr
  split at hm
  · rename_i q
    simp only [Bool.and_eq_true] at hm
    obtain ⟨⟨w1, w2⟩, w3⟩ := hm
    obtain ⟨C, T, N, ty, hcK⟩ := bc_cls n hn13
    obtain ⟨c1, c2, c3, c4, c5, c6, c7, c8, c9⟩ := hcK
    rw [c8] at w1 w2 w3
    rw [c9] at w2
    have hts := hC.2.2.2.2.1
    have hfit := bc_fit hcs hsh hnq hF
    have hsz : bc_sz (0, n) = N := c2.symm
    rw [hsz] at hfit
    have hat : ∀ j : Nat, bc_new h np (0, n) np j = bc_z0 (bc_ft n j) := by
      intro j
      show (if (np : Int) = np then _ else _) = _
      rw [if_pos rfl, Int.toNat_natCast]
      rfl
    refine va_new hC.1 hC.2.1 hts c3 ty c4 hC.2.2.2.1 (hts _ (bc_wd_in w1)) (hts _ (bc_wd_in w2)) (hts _ (bc_wd_in w3)) hC.2.2.2.2.2.2.1 hR.1 hR.2.1 hS (bc_hA hC.2.2.2.2.2.2.2.1) c1 (fs := (List.range (bc_nf n)).map (fun j : Nat => bc_cf ad (bc_ft n j) (bc_z0 (bc_ft n j)))) (fun j hj => ?_) hfit.1 hfit.2 hd (fun q H1 hP hD hS1 => ?_)
    · unfold vp_V
      rw [List.getD_eq_getElem?_getD, List.getElem?_map, List.getElem?_range (by rw [← c2]; exact hj)]
      exact (bc_z0_ok (c7 j hj) ad np).1
    · rw [← hsz]
      refine bc_on hsh hnq hF h0 (bc_R_push hR (bc_sh_of hsh) (fun i hi => bc_new_ne hi) ?_ ?_ hP hD) hS1 hL hV hA hnx hx
      · show Sum.inr (_, _) = Sum.inr (_, _)
        refine congrArg (fun z => Sum.inr (_, z)) (List.map_congr_left (fun j hj => ?_))
        rw [hat j]
        exact bc_cf_up (np := np) (fun i hi => bc_ad_lt hi) (bc_z0_ok (c7 j (by rw [c2]; exact List.mem_range.mp hj)) ad np).2
      · intro j hj
        rw [hat j]
        exact (bc_z0_ok (c7 j (by rw [c2]; exact hj)) ad (np + 1)).2
  · cases hm
end BCN
