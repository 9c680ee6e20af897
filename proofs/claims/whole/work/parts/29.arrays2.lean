section BCM
variable {g : bc_GG} {ph : Bool} {p : Program} {l : Launch} {e : Env} {R : Room} {s : State} {m : MethodId} {args : Array Value} {below : List Frame} {meth : Method} {c : Code} {Z : State → Prop} {d k nq mc ms n0 : Nat} {ad0 : Nat → Nat} {idx np : Nat} {ls : bc_L} {st : bc_St} {h : bc_H}
/-- one kind of arrays: its slot in the table of array classes, and what a new one holds -/
theorem bc_newA (hC : bc_Cx g p s m args meth c k) (hcs : mc ≤ R.cells ∧ ms ≤ R.slots) {aty : ArrayType} {ty : FieldType} {b n t0 : Nat} {A0 : vp_A} (hi : (bc_code k)[idx]? = some (.newarray aty)) (hsh : bc_SH[np]? = some (b, n)) (hnq : np + 1 ≤ nq)
    (hty : newarray.typeOf aty = ty) (ht0 : (bc_ty g)[t0]? = some (bc_cA g t0, ty)) (hra : ∀ cA, va_RA s cA ty → va_RA s (bc_cA g t0) ty → cA = bc_cA g t0) (hcb : componentBytes ty ≤ 8) (ha0 : ∀ cA : ClassId, vp_cell cA A0 = arrV cA n (fun _ => defaultValue ty)) (hbs : bc_sz (b, n) = n)
    (hce : ∀ ad' : Nat → Nat, bc_ce g ad' (b, n) (bc_new h np (b, n) np) = .inl (bc_cA g t0, A0)) (hck : bc_ck (np + 1) (b, n) (bc_new h np (b, n) np))
    (hx : bc_At g false p l e R s m args below meth c Z k nq mc ms n0 ad0 (idx + 1) (np + 1) ls (.inr (.inr ((b, n), (np : Int))) :: st) (bc_new h np (b, n))) : bc_At g false p l e R s m args below meth c Z k nq mc ms n0 ad0 idx np ls (.inl (n : Int) :: st) h := by
  intro cells slots H locs ad lsc pcb hF h0 hR hS hL hV hA hp
  obtain ⟨j, len, wi, hd, hr⟩ := bc_rw0 hC.2.2.2.2.2.2.2.2 hi hp
  unfold bc_rel at hr
  simp only [Bool.and_eq_true, decide_eq_true_eq] at hr
  obtain ⟨⟨⟨hnx, rfl⟩, rfl⟩, w1⟩ := hr
  have hts := hC.2.2.2.2.1
  have hfit := bc_fit hcs hsh hnq hF
  have hsm := bc_sh_small np
  rw [bc_sh_of hsh] at hsm
  have hsm : n < 100000 := hsm
  obtain ⟨q1, q2⟩ := bc_nn (z := (n : Int)) (Int.natCast_nonneg n) (Int.le_refl _) hsm
  rw [Int.toNat_natCast] at q2
  rw [hbs] at hfit
  have hb : n * componentBytes ty ≤ 536870912 := Nat.le_trans (Nat.mul_le_mul_left n hcb) (by omega)
  have hK := hC.2.2.2.2.2.2.1
  refine va_newa hC.1 hC.2.1 (hts _ (bc_wd_in w1)) hty hK hR.1 hR.2.1 hS (bc_hA hC.2.2.2.2.2.2.2.1) (a0 := A0) ha0 q1 q2 hb hfit.1 hfit.2 hd (fun q cA H1 hK1 hP hD hS1 => ?_)
  have hcA : cA = bc_cA g t0 := hra cA (hK1.2 6 (cA, ty) rfl).2 (hK.2 t0 _ ht0).2
  subst hcA
  rw [← hbs]
  exact bc_on hsh hnq hF h0 (bc_R_push hR (bc_sh_of hsh) (fun i hi => bc_new_ne hi) (hce _) hck hP hD) hS1 hL (fun v hv => hV v (List.mem_cons_of_mem _ hv)) hA hnx hx
theorem bc_new0 {h : bc_H} {np b n : Nat} (hb : b = 1 ∨ b = 2 ∨ b = 3 ∨ b = 4) : bc_new h np (b, n) np = fun _ => 0 := by
  rcases hb with rfl | rfl | rfl | rfl <;> (funext j; exact if_pos rfl)
theorem bc_new1 {h : bc_H} {np b n : Nat} (hb : b = 5 ∨ b = 6) : bc_new h np (b, n) np = fun _ => -1 := by
  rcases hb with rfl | rfl <;> (funext j; exact if_pos rfl)
theorem bc_o_newarray (hC : bc_Cx g p s m args meth c k) (hcs : mc ≤ R.cells ∧ ms ≤ R.slots) {aty : ArrayType} {b n : Nat} (hi : (bc_code k)[idx]? = some (.newarray aty)) (hsh : bc_SH[np]? = some (b, n)) (hnq : np + 1 ≤ nq) (hb : b = bc_ak aty)
    (hx : bc_At g false p l e R s m args below meth c Z k nq mc ms n0 ad0 (idx + 1) (np + 1) ls (.inr (.inr ((b, n), (np : Int))) :: st) (bc_new h np (b, n))) : bc_At g false p l e R s m args below meth c Z k nq mc ms n0 ad0 idx np ls (.inl (n : Int) :: st) h := by
  have hlt := bc_SH_lt hsh
  subst hb
  cases aty with
  | int => exact bc_newA (b := 1) hC hcs (ty := .int) (t0 := 0) (A0 := (n, .inl (fun _ => 0))) hi hsh hnq rfl rfl (fun cA h1 h2 => Option.some.inj (h1.symm.trans h2)) (by decide) (fun _ => rfl) rfl (fun ad' => by rw [bc_new0 (Or.inl rfl)]; rfl) (by rw [bc_new0 (Or.inl rfl)]; exact fun j _ => ⟨by show _ ≤ (0 : Int); decide, by show (0 : Int) < _; decide⟩) hx
  | byte => exact bc_newA (b := 2) hC hcs (ty := .byte) (t0 := 1) (A0 := (n, .inl (fun _ => 0))) hi hsh hnq rfl rfl (fun cA h1 h2 => Option.some.inj (h1.symm.trans h2)) (by decide) (fun _ => rfl) rfl (fun ad' => by rw [bc_new0 (Or.inr (Or.inl rfl))]; rfl) (by rw [bc_new0 (Or.inr (Or.inl rfl))]; exact fun j _ => ⟨by show _ ≤ (0 : Int); decide, by show (0 : Int) < _; decide⟩) hx
  | long => exact bc_newA (b := 3) hC hcs (ty := .long) (t0 := 2) (A0 := (n, .inr (.inl (fun _ => 0)))) hi hsh hnq rfl rfl (fun cA h1 h2 => Option.some.inj (h1.symm.trans h2)) (by decide) (fun _ => rfl) rfl (fun ad' => by rw [bc_new0 (Or.inr (Or.inr (Or.inl rfl)))]; rfl) (by rw [bc_new0 (Or.inr (Or.inr (Or.inl rfl)))]; exact fun j _ => ⟨by show _ ≤ (0 : Int); decide, by show (0 : Int) < _; decide⟩) hx
  | boolean => exact bc_newA (b := 4) hC hcs (ty := .boolean) (t0 := 3) (A0 := (n, .inl (fun _ => 0))) hi hsh hnq rfl rfl (fun cA h1 h2 => Option.some.inj (h1.symm.trans h2)) (by decide) (fun _ => rfl) rfl (fun ad' => by rw [bc_new0 (Or.inr (Or.inr (Or.inr rfl)))]; rfl) (by rw [bc_new0 (Or.inr (Or.inr (Or.inr rfl)))]; exact fun j _ => Or.inl rfl) hx
  | _ => exact absurd hlt (by show ¬ 9 < 7; decide)
theorem bc_o_anewarray (hC : bc_Cx g p s m args meth c k) (hcs : mc ≤ R.cells ∧ ms ≤ R.slots) {cn b n : Nat} (hi : (bc_code k)[idx]? = some (.anewarray cn)) (hsh : bc_SH[np]? = some (b, n)) (hnq : np + 1 ≤ nq) (hb : b = cn + 3)
    (hx : bc_At g false p l e R s m args below meth c Z k nq mc ms n0 ad0 (idx + 1) (np + 1) ls (.inr (.inr ((b, n), (np : Int))) :: st) (bc_new h np (b, n))) : bc_At g false p l e R s m args below meth c Z k nq mc ms n0 ad0 idx np ls (.inl (n : Int) :: st) h := by
  intro cells slots H locs ad lsc pcb hF h0 hR hS hL hV hA hp
  obtain ⟨j, len, wi, hd, hr⟩ := bc_rw0 hC.2.2.2.2.2.2.2.2 hi hp
  unfold bc_rel at hr
  simp only [Bool.and_eq_true, decide_eq_true_eq] at hr
  obtain ⟨⟨⟨hnx, rfl⟩, hcn⟩, hm⟩ := hr
  split at hm
  · rename_i q
    have hts := hC.2.2.2.2.1
    have hfit := bc_fit hcs hsh hnq hF
    have hsm := bc_sh_small np
    rw [bc_sh_of hsh] at hsm
    have hsm : n < 100000 := hsm
    obtain ⟨q1, q2⟩ := bc_nn (z := (n : Int)) (Int.natCast_nonneg n) (Int.le_refl _) hsm
    rw [Int.toNat_natCast] at q2
    have hK := hC.2.2.2.2.2.2.1
    have hX := hC.2.2.2.2.2.2.2.1
    rcases hcn with rfl | rfl
    · subst hb
      refine va_newq (C := RX2) hC.1 hC.2.1 hC.2.2.2.1 (hts _ (bc_wd_in hm)) hX.2.2.2.2.2.2.2.2.2.2.1 hK hR.1 hR.2.1 hS (bc_hA hX) q1 q2 (by omega) hfit.1 hfit.2 hd (fun q cA H1 hK1 hP hD hS1 => ?_)
      obtain ⟨_, _, _, _, _, z1⟩ := (hK1.2 6 (cA, .object RX2) rfl).2
      obtain ⟨_, _, _, _, _, z2⟩ := (hK.2 4 (bc_cA g 4, .object RX2) rfl).2
      have hcA : cA = bc_cA g 4 := Option.some.inj (z1.symm.trans z2)
      subst hcA
      refine bc_on hsh hnq hF h0 (bc_R_push hR (bc_sh_of hsh) (fun i hi => bc_new_ne hi) ?_ ?_ hP hD) hS1 hL (fun v hv => hV v (List.mem_cons_of_mem _ hv)) hA hnx hx
      · rw [bc_new1 (Or.inl rfl)]
        show Sum.inl (bc_cA g 4, n, Sum.inr (Sum.inr (Sum.inr (Sum.inr (fun j : Nat => if j < n then bc_rr _ (-1) else none))))) = _
        have e0 : (fun j : Nat => if j < n then bc_rr (bc_ad ad np q) (-1) else none) = (fun _ => none) := by funext j; split <;> rfl
        rw [e0]
      · rw [bc_new1 (Or.inl rfl)]
        exact fun j _ => (bc_fk_r (by show 0 < 7; decide)).mpr (fun z => absurd z (show ¬ (0 : Int) ≤ -1 by decide))
    · subst hb
      refine va_newq (C := RX3) hC.1 hC.2.1 hC.2.2.2.1 (hts _ (bc_wd_in hm)) hX.2.2.2.2.2.2.2.2.2.2.2 hK hR.1 hR.2.1 hS (bc_hA hX) q1 q2 (by omega) hfit.1 hfit.2 hd (fun q cA H1 hK1 hP hD hS1 => ?_)
      obtain ⟨_, _, _, _, _, z1⟩ := (hK1.2 6 (cA, .object RX3) rfl).2
      obtain ⟨_, _, _, _, _, z2⟩ := (hK.2 5 (bc_cA g 5, .object RX3) rfl).2
      have hcA : cA = bc_cA g 5 := Option.some.inj (z1.symm.trans z2)
      subst hcA
      refine bc_on hsh hnq hF h0 (bc_R_push hR (bc_sh_of hsh) (fun i hi => bc_new_ne hi) ?_ ?_ hP hD) hS1 hL (fun v hv => hV v (List.mem_cons_of_mem _ hv)) hA hnx hx
      · rw [bc_new1 (Or.inr rfl)]
        show Sum.inl (bc_cA g 5, n, Sum.inr (Sum.inr (Sum.inr (Sum.inr (fun j : Nat => if j < n then bc_rr _ (-1) else none))))) = _
        have e0 : (fun j : Nat => if j < n then bc_rr (bc_ad ad np q) (-1) else none) = (fun _ => none) := by funext j; split <;> rfl
        rw [e0]
      · rw [bc_new1 (Or.inr rfl)]
        exact fun j _ => (bc_fk_r (by show 0 < 7; decide)).mpr (fun z => absurd z (show ¬ (0 : Int) ≤ -1 by decide))
  · cases hm
end BCM
