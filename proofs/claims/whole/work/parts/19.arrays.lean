theorem bc_sh_small (i : Nat) : (bc_sh i).2 < 100000 := by
  have h : ∀ s ∈ bc_SH, s.2 < 100000 := by decide +kernel
  unfold bc_sh
  by_cases hi : i < bc_SH.length
  · rw [List.getD_eq_getElem?_getD, List.getElem?_eq_getElem hi]
    exact h _ (List.getElem_mem hi)
  · rw [List.getD_eq_getElem?_getD, List.getElem?_eq_none (by omega)]
    decide
/-- an array of the world -/
theorem bc_arr {g : bc_GG} {ad : Nat → Nat} {h : bc_H} {np : Nat} {sh : Nat × Nat} {r : Int} (hv : bc_vo np (.inr (.inr (sh, r)))) (hs : sh.1 < 7) : ∃ i : Nat, r = (i : Int) ∧ i < np ∧ bc_sh i = sh ∧ bc_cv g ad (.inr (.inr (sh, r))) = .ref (ad i) ∧ (bc_ws g ad h np)[i]? = some (ad i, bc_ce g ad sh (h i)) := by
  obtain ⟨i, rfl, h1, h2⟩ := bc_vo_r hv hs
  exact ⟨i, rfl, h1, h2, bc_cv_r ad hs _, h2 ▸ bc_ws_get h1⟩
theorem bc_ix {i : Int} {n : Nat} (hi : 0 ≤ i ∧ i < (n : Int)) (hn : n < 100000) : vp_in (Int32.ofInt i) n ∧ (Int32.ofInt i).toNatClampNeg = i.toNat ∧ ((i.toNat : Nat) : Int) = i ∧ i.toNat < n := by
  obtain ⟨a, b⟩ := bc_ci hi.1 hi.2 ⟨by omega, by omega⟩
  exact ⟨a, b, by omega, by omega⟩
theorem bc_up32 (h : bc_H) (r : Int) {i : Int} (hi : 0 ≤ i) (x : Int) : (fun j : Nat => Int32.ofInt (bc_upd h r i x r j)) = upd (fun j : Nat => Int32.ofInt (h r j)) i.toNat (Int32.ofInt x) := by
  funext j
  unfold upd
  rw [bc_upd_at]
  by_cases e : j = i.toNat
  · rw [if_pos e, if_pos (by omega)]
  · rw [if_neg e, if_neg (by omega)]
theorem bc_up64 (h : bc_H) (r : Int) {i : Int} (hi : 0 ≤ i) (x : Int) : (fun j : Nat => Int64.ofInt (bc_upd h r i x r j)) = vp_updL (fun j : Nat => Int64.ofInt (h r j)) i.toNat (Int64.ofInt x) := by
  funext j
  unfold vp_updL
  rw [bc_upd_at]
  by_cases e : j = i.toNat
  · rw [if_pos e, if_pos (by omega)]
  · rw [if_neg e, if_neg (by omega)]
theorem bc_upr (ad : Nat → Nat) (h : bc_H) (r : Int) {i : Int} {n : Nat} (hi : 0 ≤ i) (hn : i.toNat < n) {x : Int} (hx : 0 ≤ x) : (fun j : Nat => if j < n then bc_rr ad (bc_upd h r i x r j) else none) = va_up (fun j : Nat => if j < n then bc_rr ad (h r j) else none) i.toNat (some (ad x.toNat)) := by
  funext j
  unfold va_up
  rw [bc_upd_at]
  by_cases e : j = i.toNat
  · rw [if_pos e, if_pos (by omega), if_pos (by omega), bc_rr_pos ad hx]
  · rw [if_neg (show ¬ (j : Int) = i by omega), if_neg e]
theorem bc_cpy32 (h : bc_H) (r1 r2 : Int) {s1 d2 n : Int} (hs : 0 ≤ s1) (hd : 0 ≤ d2) (hn : 0 ≤ n) : (fun j : Nat => Int32.ofInt (bc_blk h r1 s1 r2 d2 n r2 j)) = va_cpy (fun j : Nat => Int32.ofInt (h r1 j)) (fun j : Nat => Int32.ofInt (h r2 j)) s1.toNat d2.toNat n.toNat := by
  funext j
  unfold va_cpy bc_blk
  by_cases e : d2.toNat ≤ j ∧ j < d2.toNat + n.toNat
  · rw [if_pos e, if_pos ⟨rfl, by omega, by omega⟩]
    congr 2
    omega
  · rw [if_neg e, if_neg (fun q => e (by omega))]
theorem bc_cpy64 (h : bc_H) (r1 r2 : Int) {s1 d2 n : Int} (hs : 0 ≤ s1) (hd : 0 ≤ d2) (hn : 0 ≤ n) : (fun j : Nat => Int64.ofInt (bc_blk h r1 s1 r2 d2 n r2 j)) = va_cpy (fun j : Nat => Int64.ofInt (h r1 j)) (fun j : Nat => Int64.ofInt (h r2 j)) s1.toNat d2.toNat n.toNat := by
  funext j
  unfold va_cpy bc_blk
  by_cases e : d2.toNat ≤ j ∧ j < d2.toNat + n.toNat
  · rw [if_pos e, if_pos ⟨rfl, by omega, by omega⟩]
    congr 2
    omega
  · rw [if_neg e, if_neg (fun q => e (by omega))]
theorem bc_blk_at (h : bc_H) (r1 s1 r2 d2 n j : Int) : bc_blk h r1 s1 r2 d2 n r2 j = if d2 ≤ j ∧ j < d2 + n then h r1 (s1 + (j - d2)) else h r2 j := by
  unfold bc_blk
  by_cases e : d2 ≤ j ∧ j < d2 + n
  · rw [if_pos e, if_pos ⟨rfl, e⟩]
  · rw [if_neg e, if_neg (fun q => e q.2)]
theorem bc_s7 {np : Nat} {n : Nat} {r : Int} : bc_vo np (.inr (.inr ((7, n), r))) := Or.inl rfl
section BCA
variable {g : bc_GG} {ph : Bool} {p : Program} {l : Launch} {e : Env} {R : Room} {s : State} {m : MethodId} {args : Array Value} {below : List Frame} {meth : Method} {c : Code} {Z : State → Prop} {k nq mc ms n0 : Nat} {ad0 : Nat → Nat} {idx np : Nat} {ls : bc_L} {st : bc_St} {h : bc_H}
theorem bc_bnA (hC : bc_Cx g p s m args meth c k) : ¬ bc_A g (bc_b g) := fun q => by
  have h1 := hC.2.2.2.2.2.2.2.1.2.1
  unfold bc_A at q
  omega
theorem bc_o_arraylength (hC : bc_Cx g p s m args meth c k) (hi : (bc_code k)[idx]? = some .arraylength) (hx : bc_wp (bc_s1 ph .arraylength ls st h) (fun ls st h => bc_At g ph p l e R s m args below meth c Z k nq mc ms n0 ad0 (idx + 1) np ls st h)) : bc_At g ph p l e R s m args below meth c Z k nq mc ms n0 ad0 idx np ls st h := by
  simp only [bc_s1] at hx
  split at hx
  · cases ph with
    | false => exact False.elim hx
    | true =>
    intro cells slots H locs ad lsc pcb hF h0 hR hS hL hV hA hp
    obtain ⟨hd, hx1⟩ := bc_row1 hC.2.2.2.2.2.2.2.2 hi hp (fun _ _ _ _ _ _ => rfl)
    have hX := hC.2.2.2.2.2.2.2.1
    refine va_slen hC.1 hC.2.1 hX.1 (Nat.lt_of_lt_of_le hX.2.1 hX.2.2.1) (bc_bnA hC) hS hd ?_
    rw [← Int32.ofInt_eq_ofNat, ← hR.2.2.2.2.2 rfl]
    refine hx cells slots H locs ad lsc (pcb + 1) hF h0 hR hS hL (bc_stcons ?_ (fun v hv => hV v (List.mem_cons_of_mem _ hv))) hA hx1
    rw [hR.2.2.2.2.2 rfl]
    have := hX.2.2.2.1
    exact ⟨by omega, by omega⟩
  · rename_i n r st
    intro cells slots H locs ad lsc pcb hF h0 hR hS hL hV hA hp
    obtain ⟨hd, hx1⟩ := bc_row1 hC.2.2.2.2.2.2.2.2 hi hp (fun _ _ _ _ _ _ => rfl)
    obtain ⟨i, rfl, hi1, hs, hc, hg⟩ := bc_arr (g := g) (ad := ad) (h := h) (hV _ List.mem_cons_self) (by show 1 < 7; decide)
    rw [List.map_cons, hc]
    refine va_alen (v := Int32.ofInt n) hC.1 hC.2.1 hC.2.2.2.2.2.2.1 hR.1 i 0 hg rfl Int32.ofInt_eq_ofNat.symm hd ?_
    have hsm := bc_sh_small i
    rw [hs] at hsm
    exact hx cells slots H locs ad lsc (pcb + 1) hF h0 hR hS hL (bc_stcons (v := .inl (n : Int)) ⟨by omega, by dsimp only at hsm; omega⟩ (fun v hv => hV v (List.mem_cons_of_mem _ hv))) hA hx1
  · rename_i n r st
    intro cells slots H locs ad lsc pcb hF h0 hR hS hL hV hA hp
    obtain ⟨hd, hx1⟩ := bc_row1 hC.2.2.2.2.2.2.2.2 hi hp (fun _ _ _ _ _ _ => rfl)
    obtain ⟨i, rfl, hi1, hs, hc, hg⟩ := bc_arr (g := g) (ad := ad) (h := h) (hV _ List.mem_cons_self) (by show 3 < 7; decide)
    rw [List.map_cons, hc]
    refine va_alen (v := Int32.ofInt n) hC.1 hC.2.1 hC.2.2.2.2.2.2.1 hR.1 i 2 hg rfl Int32.ofInt_eq_ofNat.symm hd ?_
    have hsm := bc_sh_small i
    rw [hs] at hsm
    exact hx cells slots H locs ad lsc (pcb + 1) hF h0 hR hS hL (bc_stcons (v := .inl (n : Int)) ⟨by omega, by dsimp only at hsm; omega⟩ (fun v hv => hV v (List.mem_cons_of_mem _ hv))) hA hx1
  · exact False.elim hx
theorem bc_o_iaload (hC : bc_Cx g p s m args meth c k) (hi : (bc_code k)[idx]? = some .iaload) (hx : bc_wp (bc_s1 ph .iaload ls st h) (fun ls st h => bc_At g ph p l e R s m args below meth c Z k nq mc ms n0 ad0 (idx + 1) np ls st h)) : bc_At g ph p l e R s m args below meth c Z k nq mc ms n0 ad0 idx np ls st h := by
  simp only [bc_s1] at hx
  split at hx
  · rename_i ix n r st
    intro cells slots H locs ad lsc pcb hF h0 hR hS hL hV hA hp
    obtain ⟨hd, hx1⟩ := bc_row1 hC.2.2.2.2.2.2.2.2 hi hp (fun _ _ _ _ _ _ => rfl)
    obtain ⟨i, rfl, hi1, hs, hc, hg⟩ := bc_arr (g := g) (ad := ad) (h := h) (hV _ (List.mem_cons_of_mem _ List.mem_cons_self)) (by show 1 < 7; decide)
    have hsm := bc_sh_small i
    rw [hs] at hsm
    obtain ⟨q1, q2, q3, q4⟩ := bc_ix hx.1 hsm
    rw [List.map_cons, List.map_cons, hc]
    refine va_iald hC.1 hC.2.1 hC.2.2.2.2.2.2.1 hR.1 i 0 hg rfl q1 hd ?_
    rw [q2, q3]
    have hck := hR.2.2.1 i hi1
    rw [hs] at hck
    have hv : bc_i (h i ix) := by have := hck _ q4; rw [q3] at this; exact this
    exact hx.2 cells slots H locs ad lsc (pcb + 1) hF h0 hR hS hL (bc_stcons (v := .inl (h i ix)) hv (fun v hv => hV v (List.mem_cons_of_mem _ (List.mem_cons_of_mem _ hv)))) hA hx1
  · rename_i ix n r st
    cases ph with
    | false => exact False.elim hx
    | true =>
    intro cells slots H locs ad lsc pcb hF h0 hR hS hL hV hA hp
    obtain ⟨hd, hx1⟩ := bc_row1 hC.2.2.2.2.2.2.2.2 hi hp (fun _ _ _ _ _ _ => rfl)
    have hX := hC.2.2.2.2.2.2.2.1
    have hix := hx.1
    rw [hR.2.2.2.2.2 rfl] at hix
    obtain ⟨q1, q2, q3, q4⟩ := bc_ix hix (by have := hX.2.2.2.1; omega)
    refine va_sld hC.1 hC.2.1 hX.1 (Nat.lt_of_lt_of_le hX.2.1 hX.2.2.1) (bc_bnA hC) hS q1 hd ?_
    have hv := hR.2.2.2.2.1 rfl _ q4
    rw [q3] at hv
    rw [q2, ← Int32.ofInt_toInt (bc_xs g ix.toNat), ← hv]
    refine hx.2 cells slots H locs ad lsc (pcb + 1) hF h0 hR hS hL (bc_stcons ?_ (fun v hv => hV v (List.mem_cons_of_mem _ (List.mem_cons_of_mem _ hv)))) hA hx1
    rw [hv]
    exact bc_ri _
  · exact False.elim hx
theorem bc_o_laload (hC : bc_Cx g p s m args meth c k) (hi : (bc_code k)[idx]? = some .laload) (hx : bc_wp (bc_s1 ph .laload ls st h) (fun ls st h => bc_At g ph p l e R s m args below meth c Z k nq mc ms n0 ad0 (idx + 1) np ls st h)) : bc_At g ph p l e R s m args below meth c Z k nq mc ms n0 ad0 idx np ls st h := by
  simp only [bc_s1] at hx
  split at hx
  · rename_i ix n r st
    intro cells slots H locs ad lsc pcb hF h0 hR hS hL hV hA hp
    obtain ⟨hd, hx1⟩ := bc_row1 hC.2.2.2.2.2.2.2.2 hi hp (fun _ _ _ _ _ _ => rfl)
    obtain ⟨i, rfl, hi1, hs, hc, hg⟩ := bc_arr (g := g) (ad := ad) (h := h) (hV _ (List.mem_cons_of_mem _ List.mem_cons_self)) (by show 3 < 7; decide)
    have hsm := bc_sh_small i
    rw [hs] at hsm
    obtain ⟨q1, q2, q3, q4⟩ := bc_ix hx.1 hsm
    rw [List.map_cons, List.map_cons, hc]
    refine va_lald hC.1 hC.2.1 hC.2.2.2.2.2.2.1 hR.1 i 2 hg rfl q1 hd ?_
    rw [q2, q3]
    have hck := hR.2.2.1 i hi1
    rw [hs] at hck
    have hv : bc_j (h i ix) := by have := hck _ q4; rw [q3] at this; exact this
    exact hx.2 cells slots H locs ad lsc (pcb + 1) hF h0 hR hS hL (bc_stcons (v := .inr (.inl (h i ix))) hv (fun v hv => hV v (List.mem_cons_of_mem _ (List.mem_cons_of_mem _ hv)))) hA hx1
  · exact False.elim hx
theorem bc_o_baload (hC : bc_Cx g p s m args meth c k) (hi : (bc_code k)[idx]? = some .baload) (hx : bc_wp (bc_s1 ph .baload ls st h) (fun ls st h => bc_At g ph p l e R s m args below meth c Z k nq mc ms n0 ad0 (idx + 1) np ls st h)) : bc_At g ph p l e R s m args below meth c Z k nq mc ms n0 ad0 idx np ls st h := by
  simp only [bc_s1] at hx
  split at hx
  · rename_i ix n r st
    intro cells slots H locs ad lsc pcb hF h0 hR hS hL hV hA hp
    obtain ⟨hd, hx1⟩ := bc_row1 hC.2.2.2.2.2.2.2.2 hi hp (fun _ _ _ _ _ _ => rfl)
    obtain ⟨i, rfl, hi1, hs, hc, hg⟩ := bc_arr (g := g) (ad := ad) (h := h) (hV _ (List.mem_cons_of_mem _ List.mem_cons_self)) (by show 2 < 7; decide)
    have hsm := bc_sh_small i
    rw [hs] at hsm
    obtain ⟨q1, q2, q3, q4⟩ := bc_ix hx.1 hsm
    rw [List.map_cons, List.map_cons, hc]
    refine va_bald hC.1 hC.2.1 hC.2.2.2.2.2.2.1 hR.1 i 1 hg rfl q1 hd ?_
    rw [q2, q3]
    have hck := hR.2.2.1 i hi1
    rw [hs] at hck
    have hv : bc_i (h i ix) := by have := hck _ q4; rw [q3] at this; exact ⟨by omega, by omega⟩
    exact hx.2 cells slots H locs ad lsc (pcb + 1) hF h0 hR hS hL (bc_stcons (v := .inl (h i ix)) hv (fun v hv => hV v (List.mem_cons_of_mem _ (List.mem_cons_of_mem _ hv)))) hA hx1
  · rename_i ix n r st
    intro cells slots H locs ad lsc pcb hF h0 hR hS hL hV hA hp
    obtain ⟨hd, hx1⟩ := bc_row1 hC.2.2.2.2.2.2.2.2 hi hp (fun _ _ _ _ _ _ => rfl)
    obtain ⟨i, rfl, hi1, hs, hc, hg⟩ := bc_arr (g := g) (ad := ad) (h := h) (hV _ (List.mem_cons_of_mem _ List.mem_cons_self)) (by show 4 < 7; decide)
    have hsm := bc_sh_small i
    rw [hs] at hsm
    obtain ⟨q1, q2, q3, q4⟩ := bc_ix hx.1 hsm
    rw [List.map_cons, List.map_cons, hc]
    refine va_zald hC.1 hC.2.1 hC.2.2.2.2.2.2.1 hR.1 i 3 hg rfl q1 hd ?_
    rw [q2, q3]
    have hck := hR.2.2.1 i hi1
    rw [hs] at hck
    have hv : bc_i (h i ix) := by have := hck _ q4; rw [q3] at this; exact ⟨by omega, by omega⟩
    exact hx.2 cells slots H locs ad lsc (pcb + 1) hF h0 hR hS hL (bc_stcons (v := .inl (h i ix)) hv (fun v hv => hV v (List.mem_cons_of_mem _ (List.mem_cons_of_mem _ hv)))) hA hx1
  · exact False.elim hx
theorem bc_o_aaload (hC : bc_Cx g p s m args meth c k) (hi : (bc_code k)[idx]? = some .aaload) (hx : bc_wp (bc_s1 ph .aaload ls st h) (fun ls st h => bc_At g ph p l e R s m args below meth c Z k nq mc ms n0 ad0 (idx + 1) np ls st h)) : bc_At g ph p l e R s m args below meth c Z k nq mc ms n0 ad0 idx np ls st h := by
  simp only [bc_s1] at hx
  split at hx
  · rename_i ix n r st
    intro cells slots H locs ad lsc pcb hF h0 hR hS hL hV hA hp
    obtain ⟨hd, hx1⟩ := bc_row1 hC.2.2.2.2.2.2.2.2 hi hp (fun _ _ _ _ _ _ => rfl)
    obtain ⟨i, rfl, hi1, hs, hc, hg⟩ := bc_arr (g := g) (ad := ad) (h := h) (hV _ (List.mem_cons_of_mem _ List.mem_cons_self)) (by show 5 < 7; decide)
    have hsm := bc_sh_small i
    rw [hs] at hsm
    obtain ⟨q1, q2, q3, q4⟩ := bc_ix hx.1.1 hsm
    rw [List.map_cons, List.map_cons, hc]
    refine va_aldq hC.1 hC.2.1 hC.2.2.2.2.2.2.1 hR.1 i 4 hg rfl q1 hd ?_
    rw [q2, if_pos q4, q3, bc_rr_pos ad hx.1.2]
    have hck := hR.2.2.1 i hi1
    rw [hs] at hck
    have hv := (bc_fk_r (by show 0 < 7; decide)).mp (hck _ q4)
    rw [q3] at hv
    have kk := hx.2 cells slots H locs ad lsc (pcb + 1) hF h0 hR hS hL (bc_stcons (v := .inr (.inr ((0, 2), h i ix))) (Or.inr (Or.inr ⟨by show 0 < 7; decide, hx.1.2, hv hx.1.2⟩)) (fun v hv => hV v (List.mem_cons_of_mem _ (List.mem_cons_of_mem _ hv)))) hA hx1
    rw [List.map_cons, bc_cv_r ad (by show 0 < 7; decide)] at kk
    exact kk
  · rename_i ix n r st
    intro cells slots H locs ad lsc pcb hF h0 hR hS hL hV hA hp
    obtain ⟨hd, hx1⟩ := bc_row1 hC.2.2.2.2.2.2.2.2 hi hp (fun _ _ _ _ _ _ => rfl)
    obtain ⟨i, rfl, hi1, hs, hc, hg⟩ := bc_arr (g := g) (ad := ad) (h := h) (hV _ (List.mem_cons_of_mem _ List.mem_cons_self)) (by show 6 < 7; decide)
    have hsm := bc_sh_small i
    rw [hs] at hsm
    obtain ⟨q1, q2, q3, q4⟩ := bc_ix hx.1.1 hsm
    rw [List.map_cons, List.map_cons, hc]
    refine va_aldq hC.1 hC.2.1 hC.2.2.2.2.2.2.1 hR.1 i 5 hg rfl q1 hd ?_
    rw [q2, if_pos q4, q3, bc_rr_pos ad hx.1.2]
    have hck := hR.2.2.1 i hi1
    rw [hs] at hck
    have hv := (bc_fk_r (by show 0 < 7; decide)).mp (hck _ q4)
    rw [q3] at hv
    have kk := hx.2 cells slots H locs ad lsc (pcb + 1) hF h0 hR hS hL (bc_stcons (v := .inr (.inr ((0, 3), h i ix))) (Or.inr (Or.inr ⟨by show 0 < 7; decide, hx.1.2, hv hx.1.2⟩)) (fun v hv => hV v (List.mem_cons_of_mem _ (List.mem_cons_of_mem _ hv)))) hA hx1
    rw [List.map_cons, bc_cv_r ad (by show 0 < 7; decide)] at kk
    exact kk
  · exact False.elim hx
/-- an element written: the relation behind it -/
theorem bc_R_el {ad : Nat → Nat} {H H1 : Heap} {i : Nat} {ix x : Int} (hR : bc_R g ph ad h np H) (hi : i < np) (hn : (bc_sh i).1 ≠ 0) (hk : bc_ck np (bc_sh i) (bc_upd h i ix x i))
    (hP : va_P (bc_D g) vwCl ((bc_ws g ad h np).set i (ad i, bc_ce g ad (bc_sh i) (bc_upd h i ix x i))) H1) (hD : va_D (bc_A g) ((bc_ws g ad h np).set i (ad i, bc_ce g ad (bc_sh i) (bc_upd h i ix x i)))) : bc_R g ph ad (bc_upd h i ix x) np H1 :=
  bc_R_row hR hi (fun _ ha => bc_upd_ne ha) hk (fun _ c hc => absurd (congrArg Prod.fst hc) hn) hP hD
theorem bc_o_iastore (hC : bc_Cx g p s m args meth c k) (hi : (bc_code k)[idx]? = some .iastore) (hx : bc_wp (bc_s1 ph .iastore ls st h) (fun ls st h => bc_At g ph p l e R s m args below meth c Z k nq mc ms n0 ad0 (idx + 1) np ls st h)) : bc_At g ph p l e R s m args below meth c Z k nq mc ms n0 ad0 idx np ls st h := by
  simp only [bc_s1] at hx
  split at hx
  · rename_i x ix n r st
    intro cells slots H locs ad lsc pcb hF h0 hR hS hL hV hA hp
    obtain ⟨hd, hx1⟩ := bc_row1 hC.2.2.2.2.2.2.2.2 hi hp (fun _ _ _ _ _ _ => rfl)
    have hv0 := hV _ List.mem_cons_self
    obtain ⟨i, rfl, hi1, hs, hc, hg⟩ := bc_arr (g := g) (ad := ad) (h := h) (hV _ (List.mem_cons_of_mem _ (List.mem_cons_of_mem _ List.mem_cons_self))) (by show 1 < 7; decide)
    have hsm := bc_sh_small i
    rw [hs] at hsm
    obtain ⟨q1, q2, q3, q4⟩ := bc_ix hx.1 hsm
    rw [List.map_cons, List.map_cons, List.map_cons, hc]
    refine va_iast hC.1 hC.2.1 hC.2.2.2.2.2.2.1 hR.1 hR.2.1 hS i 0 hg rfl q1 hd (fun H1 locs1 hP hD hS1 => ?_)
    rw [q2, ← bc_up32 h i hx.1.1 x] at hP hD
    refine hx.2 cells slots H1 locs1 ad lsc (pcb + 1) hF h0 (bc_R_el hR hi1 (by rw [hs]; show 1 ≠ 0; decide) ?_ (by rw [hs]; exact hP) (by rw [hs]; exact hD)) hS1 hL (fun v hv => hV v (List.mem_cons_of_mem _ (List.mem_cons_of_mem _ (List.mem_cons_of_mem _ hv)))) hA hx1
    have hck := hR.2.2.1 i hi1
    rw [hs] at hck ⊢
    intro j hj
    rw [bc_upd_at]
    split
    · exact hv0
    · exact hck j hj
  · exact False.elim hx
theorem bc_o_lastore (hC : bc_Cx g p s m args meth c k) (hi : (bc_code k)[idx]? = some .lastore) (hx : bc_wp (bc_s1 ph .lastore ls st h) (fun ls st h => bc_At g ph p l e R s m args below meth c Z k nq mc ms n0 ad0 (idx + 1) np ls st h)) : bc_At g ph p l e R s m args below meth c Z k nq mc ms n0 ad0 idx np ls st h := by
  simp only [bc_s1] at hx
  split at hx
  · rename_i x ix n r st
    intro cells slots H locs ad lsc pcb hF h0 hR hS hL hV hA hp
    obtain ⟨hd, hx1⟩ := bc_row1 hC.2.2.2.2.2.2.2.2 hi hp (fun _ _ _ _ _ _ => rfl)
    have hv0 := hV _ List.mem_cons_self
    obtain ⟨i, rfl, hi1, hs, hc, hg⟩ := bc_arr (g := g) (ad := ad) (h := h) (hV _ (List.mem_cons_of_mem _ (List.mem_cons_of_mem _ List.mem_cons_self))) (by show 3 < 7; decide)
    have hsm := bc_sh_small i
    rw [hs] at hsm
    obtain ⟨q1, q2, q3, q4⟩ := bc_ix hx.1 hsm
    rw [List.map_cons, List.map_cons, List.map_cons, hc]
    refine va_last hC.1 hC.2.1 hC.2.2.2.2.2.2.1 hR.1 hR.2.1 hS i 2 hg rfl q1 hd (fun H1 locs1 hP hD hS1 => ?_)
    rw [q2, ← bc_up64 h i hx.1.1 x] at hP hD
    refine hx.2 cells slots H1 locs1 ad lsc (pcb + 1) hF h0 (bc_R_el hR hi1 (by rw [hs]; show 3 ≠ 0; decide) ?_ (by rw [hs]; exact hP) (by rw [hs]; exact hD)) hS1 hL (fun v hv => hV v (List.mem_cons_of_mem _ (List.mem_cons_of_mem _ (List.mem_cons_of_mem _ hv)))) hA hx1
    have hck := hR.2.2.1 i hi1
    rw [hs] at hck ⊢
    intro j hj
    rw [bc_upd_at]
    split
    · exact hv0
    · exact hck j hj
  · exact False.elim hx
theorem bc_o_bastore (hC : bc_Cx g p s m args meth c k) (hi : (bc_code k)[idx]? = some .bastore) (hx : bc_wp (bc_s1 ph .bastore ls st h) (fun ls st h => bc_At g ph p l e R s m args below meth c Z k nq mc ms n0 ad0 (idx + 1) np ls st h)) : bc_At g ph p l e R s m args below meth c Z k nq mc ms n0 ad0 idx np ls st h := by
  simp only [bc_s1] at hx
  split at hx
  · rename_i x ix n r st
    intro cells slots H locs ad lsc pcb hF h0 hR hS hL hV hA hp
    obtain ⟨hd, hx1⟩ := bc_row1 hC.2.2.2.2.2.2.2.2 hi hp (fun _ _ _ _ _ _ => rfl)
    have hv0 : bc_i x := hV _ List.mem_cons_self
    obtain ⟨i, rfl, hi1, hs, hc, hg⟩ := bc_arr (g := g) (ad := ad) (h := h) (hV _ (List.mem_cons_of_mem _ (List.mem_cons_of_mem _ List.mem_cons_self))) (by show 2 < 7; decide)
    have hsm := bc_sh_small i
    rw [hs] at hsm
    obtain ⟨q1, q2, q3, q4⟩ := bc_ix hx.1 hsm
    rw [List.map_cons, List.map_cons, List.map_cons, hc]
    refine va_bast hC.1 hC.2.1 hC.2.2.2.2.2.2.1 hR.1 hR.2.1 hS i 1 hg rfl q1 hd (fun H1 locs1 hP hD hS1 => ?_)
    rw [q2, vp_nar_byte, bc_i2b hv0, ← bc_up32 h i hx.1.1 (bc_w8 x)] at hP hD
    refine hx.2 cells slots H1 locs1 ad lsc (pcb + 1) hF h0 (bc_R_el hR hi1 (by rw [hs]; show 2 ≠ 0; decide) ?_ (by rw [hs]; exact hP) (by rw [hs]; exact hD)) hS1 hL (fun v hv => hV v (List.mem_cons_of_mem _ (List.mem_cons_of_mem _ (List.mem_cons_of_mem _ hv)))) hA hx1
    have hck := hR.2.2.1 i hi1
    rw [hs] at hck ⊢
    intro j hj
    rw [bc_upd_at]
    split
    · unfold bc_w8; omega
    · exact hck j hj
  · rename_i x ix n r st
    intro cells slots H locs ad lsc pcb hF h0 hR hS hL hV hA hp
    obtain ⟨hd, hx1⟩ := bc_row1 hC.2.2.2.2.2.2.2.2 hi hp (fun _ _ _ _ _ _ => rfl)
    have hv0 : bc_i x := hV _ List.mem_cons_self
    obtain ⟨i, rfl, hi1, hs, hc, hg⟩ := bc_arr (g := g) (ad := ad) (h := h) (hV _ (List.mem_cons_of_mem _ (List.mem_cons_of_mem _ List.mem_cons_self))) (by show 4 < 7; decide)
    have hsm := bc_sh_small i
    rw [hs] at hsm
    obtain ⟨q1, q2, q3, q4⟩ := bc_ix hx.1.1 hsm
    rw [List.map_cons, List.map_cons, List.map_cons, hc]
    refine va_zast hC.1 hC.2.1 hC.2.2.2.2.2.2.1 hR.1 hR.2.1 hS i 3 hg rfl q1 hd (fun H1 locs1 hP hD hS1 => ?_)
    have hz : vp_nar .boolean (Int32.ofInt x) = Int32.ofInt x := by rcases hx.1.2 with z | z <;> rw [z] <;> rfl
    rw [q2, hz, ← bc_up32 h i hx.1.1.1 x] at hP hD
    refine hx.2 cells slots H1 locs1 ad lsc (pcb + 1) hF h0 (bc_R_el hR hi1 (by rw [hs]; show 4 ≠ 0; decide) ?_ (by rw [hs]; exact hP) (by rw [hs]; exact hD)) hS1 hL (fun v hv => hV v (List.mem_cons_of_mem _ (List.mem_cons_of_mem _ (List.mem_cons_of_mem _ hv)))) hA hx1
    have hck := hR.2.2.1 i hi1
    rw [hs] at hck ⊢
    intro j hj
    rw [bc_upd_at]
    split
    · exact hx.1.2
    · exact hck j hj
  · exact False.elim hx
theorem bc_o_aastore (hC : bc_Cx g p s m args meth c k) (hi : (bc_code k)[idx]? = some .aastore) (hx : bc_wp (bc_s1 ph .aastore ls st h) (fun ls st h => bc_At g ph p l e R s m args below meth c Z k nq mc ms n0 ad0 (idx + 1) np ls st h)) : bc_At g ph p l e R s m args below meth c Z k nq mc ms n0 ad0 idx np ls st h := by
  simp only [bc_s1] at hx
  split at hx
  · rename_i x ix n r st
    intro cells slots H locs ad lsc pcb hF h0 hR hS hL hV hA hp
    obtain ⟨hd, hx1⟩ := bc_row1 hC.2.2.2.2.2.2.2.2 hi hp (fun _ _ _ _ _ _ => rfl)
    obtain ⟨xi, rfl, hxi, hxs, hxc, hxg⟩ := bc_arr (g := g) (ad := ad) (h := h) (hV _ List.mem_cons_self) (by show 0 < 7; decide)
    obtain ⟨i, rfl, hi1, hs, hc, hg⟩ := bc_arr (g := g) (ad := ad) (h := h) (hV _ (List.mem_cons_of_mem _ (List.mem_cons_of_mem _ List.mem_cons_self))) (by show 5 < 7; decide)
    have hsm := bc_sh_small i
    rw [hs] at hsm
    obtain ⟨q1, q2, q3, q4⟩ := bc_ix hx.1 hsm
    rw [List.map_cons, List.map_cons, List.map_cons, hc, hxc]
    refine va_astq (r := (RX2, TX2, 15)) hC.1 hC.2.1 hC.2.2.2.2.2.2.1 hR.1 hR.2.1 hS i 4 xi 2 hg rfl hxg rfl q1 hd (fun H1 locs1 hP hD hS1 => ?_)
    have hu := bc_upr ad h i hx.1.1 q4 (x := (xi : Int)) (by omega)
    rw [Int.toNat_natCast] at hu
    rw [q2, ← hu] at hP hD
    refine hx.2 cells slots H1 locs1 ad lsc (pcb + 1) hF h0 (bc_R_el hR hi1 (by rw [hs]; show 5 ≠ 0; decide) ?_ (by rw [hs]; exact hP) (by rw [hs]; exact hD)) hS1 hL (fun v hv => hV v (List.mem_cons_of_mem _ (List.mem_cons_of_mem _ (List.mem_cons_of_mem _ hv)))) hA hx1
    have hck := hR.2.2.1 i hi1
    rw [hs] at hck ⊢
    intro j hj
    rw [bc_upd_at]
    split
    · exact (bc_fk_r (by show 0 < 7; decide)).mpr (fun _ => ⟨hxi, hxs⟩)
    · exact hck j hj
  · rename_i x ix n r st
    intro cells slots H locs ad lsc pcb hF h0 hR hS hL hV hA hp
    obtain ⟨hd, hx1⟩ := bc_row1 hC.2.2.2.2.2.2.2.2 hi hp (fun _ _ _ _ _ _ => rfl)
    obtain ⟨xi, rfl, hxi, hxs, hxc, hxg⟩ := bc_arr (g := g) (ad := ad) (h := h) (hV _ List.mem_cons_self) (by show 0 < 7; decide)
    obtain ⟨i, rfl, hi1, hs, hc, hg⟩ := bc_arr (g := g) (ad := ad) (h := h) (hV _ (List.mem_cons_of_mem _ (List.mem_cons_of_mem _ List.mem_cons_self))) (by show 6 < 7; decide)
    have hsm := bc_sh_small i
    rw [hs] at hsm
    obtain ⟨q1, q2, q3, q4⟩ := bc_ix hx.1 hsm
    rw [List.map_cons, List.map_cons, List.map_cons, hc, hxc]
    refine va_astq (r := (RX3, TX3, 8)) hC.1 hC.2.1 hC.2.2.2.2.2.2.1 hR.1 hR.2.1 hS i 5 xi 3 hg rfl hxg rfl q1 hd (fun H1 locs1 hP hD hS1 => ?_)
    have hu := bc_upr ad h i hx.1.1 q4 (x := (xi : Int)) (by omega)
    rw [Int.toNat_natCast] at hu
    rw [q2, ← hu] at hP hD
    refine hx.2 cells slots H1 locs1 ad lsc (pcb + 1) hF h0 (bc_R_el hR hi1 (by rw [hs]; show 6 ≠ 0; decide) ?_ (by rw [hs]; exact hP) (by rw [hs]; exact hD)) hS1 hL (fun v hv => hV v (List.mem_cons_of_mem _ (List.mem_cons_of_mem _ (List.mem_cons_of_mem _ hv)))) hA hx1
    have hck := hR.2.2.1 i hi1
    rw [hs] at hck ⊢
    intro j hj
    rw [bc_upd_at]
    split
    · exact (bc_fk_r (by show 0 < 7; decide)).mpr (fun _ => ⟨hxi, hxs⟩)
    · exact hck j hj
  · exact False.elim hx
end BCA
