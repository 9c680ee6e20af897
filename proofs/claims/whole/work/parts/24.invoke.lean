/-! the three kinds of calls -/
section BCI
variable {g : bc_GG} {ph : Bool} {p : Program} {l : Launch} {e : Env} {R : Room} {s : State} {m : MethodId} {args : Array Value} {below : List Frame} {meth : Method} {c : Code} {Z : State → Prop} {d k nq mc ms n0 : Nat} {ad0 : Nat → Nat} {idx np : Nat} {ls : bc_L} {st : bc_St} {h : bc_H}
/-- behind a call -/
theorem bc_call {H : Heap} {locs : List Loc} {cells slots mc1 ms1 n nr pcb : Nat} {ad : Nat → Nat} {lsc : Array Slot} {st0 rest : List Value} {a : Array Value} {M : bc_Q} (hr : va_Run p l e R s m args below meth c H locs cells slots mc1 ms1 (F0 m pcb lsc st0) rest (bc_Qc g ph ad n np nr M a) (bc_A g)) (hS : va_S (bc_A g) s.heap H locs)
    (kk : ∀ (v : Option bc_V) (h' : bc_H) (ad' : Nat → Nat) (H1 : Heap) (locs1 : List Loc), M v h' → (∀ x, v = some x → bc_vo nr x) → bc_R g ph ad' h' nr H1 → (∀ i, i < np → ad' i = ad i) → va_S (bc_A g) s.heap H1 locs1 → W p l e R s m args below meth c H1 locs1 (cells + mc1) (slots + ms1) Z (F0 m (pcb + 3) lsc ((v.map (bc_cv g ad')).toList ++ rest))) : W p l e R s m args below meth c H locs cells slots Z (F0 m pcb lsc st0) := by
  intro T hT X
  obtain ⟨v, st₀, t, T', L, h0, X', hL, e1, e2, ⟨⟨v', h', ad', hv, hM, ht, -, hR, hA⟩, hz, hk⟩, st⟩ := hr T hT X
  cases hv
  rw [h0] at hz hk
  obtain ⟨t2, a1, b1⟩ := kk v' h' ad' T'.heap (locs ++ L) hM ht (by rw [e1]; exact hR) hA
    ⟨Nat.le_trans hS.1 (by rw [e1]; exact hz), fun q h1 h2 => by rw [e1, hk q (Nat.lt_of_lt_of_le h1 hS.1) h2]; exact hS.2.1 q h1 h2, fun q hq => by
      rcases List.mem_append.mp hq with h | h
      · exact hS.2.2 q h
      · exact hL q h⟩ T' rfl X'
  exact ⟨t2, st t2 a1, b1⟩
theorem bc_blind {g : bc_GG} {ph : Bool} {ad : Nat → Nat} {h : bc_H} {np : Nat} {as : List Value} : FrameBlind (va_Pc as (fun U => bc_R g ph ad h np U.heap ∧ va_K (bc_D g) vwCl (bc_ty g) U ∧ bc_X g U U.heap)) := fun _ U _ _ q => ⟨q.1, q.2.1, va_K.moved (Vm.Alike.refl U.vm) q.2.2.1, bc_X_same rfl q.2.2.2⟩
theorem bc_pre {H : Heap} {locs : List Loc} {ad : Nat → Nat} {as : List Value} (hC : bc_Cx g p s m args meth c k) (hR : bc_R g ph ad h np H) (hS : va_S (bc_A g) s.heap H locs) : ∀ U : State, U.heap = H → s.WarmedH U.vm → va_Pc as (fun U => bc_R g ph ad h np U.heap ∧ va_K (bc_D g) vwCl (bc_ty g) U ∧ bc_X g U U.heap) as.toArray U := by
  intro U hU hW
  refine ⟨rfl, ?_, va_K.moved hW.alike hC.2.2.2.2.2.2.1, ?_⟩
  · rw [hU]; exact hR
  · rw [hU]; exact bc_X_warm hW (bc_X_S hC.2.2.2.2.2.2.2.1 hS)
theorem bc_cg_in {vt : Bool} {k : Nat} {as st : bc_St} (h : bc_cg vt k as st = true) : Nat.ble (bc_cat st) 8 = true ∧ Nat.ble (bc_cat as) (bc_mt k).2.2.1 = true ∧ (vt = true → bc_hd k as = true) := by
  unfold bc_cg at h
  cases h1 : Nat.ble (bc_cat st) 8 with
  | false => rw [h1] at h; cases h
  | true =>
    cases h2 : Nat.ble (bc_cat as) (bc_mt k).2.2.1 with
    | false => rw [h1, h2] at h; cases h
    | true =>
      rw [h1, h2] at h
      cases vt with
      | false => exact ⟨rfl, rfl, fun q => by cases q⟩
      | true => exact ⟨rfl, rfl, fun _ => h⟩
/-- what a call of the small machine says -/
theorem bc_cal_in {P : bc_P} {vt : Bool} {n : Nat} {K : Nat → bc_St → bc_H → Prop} (hx : bc_cal P vt d n nq np st h K) : ∃ (d' nr : Nat) (M : bc_Q) (as rest : bc_St), d = d' + 1 ∧ st = as.reverse ++ rest ∧ as.length = (bc_mt n).1 ∧ (np ≤ nr ∧ nr ≤ nq) ∧ bc_cat rest ≤ 8 ∧ bc_cat as ≤ (bc_mt n).2.2.1 ∧ (vt = true → bc_hd n as = true) ∧ P d' n 0 np (bc_pad (bc_ent as) (bc_mt n).2.2.1) [] h nr M ∧ ∀ r h', M r h' → K nr (bc_psh r rest) h' := by
  unfold bc_cal at hx
  split at hx
  · rename_i d' as rest htk
    split at hx
    · rename_i hcg
      obtain ⟨nr, M, h1, h2, h3⟩ := hx
      obtain ⟨pre, e1, e2, e3⟩ := bc_take_spec _ _ _ _ _ htk
      rw [List.append_nil] at e1
      subst e1
      refine ⟨d', nr, M, as, rest, rfl, e3, e2, h1, ?_, ?_, ?_, h2, h3⟩
      · exact Nat.le_of_ble_eq_true (bc_cg_in hcg).1
      · exact Nat.le_of_ble_eq_true (bc_cg_in hcg).2.1
      · exact (bc_cg_in hcg).2.2
    · exact hx.elim
  · exact hx.elim
theorem bc_room8 {g : bc_GG} {m : MethodId} {ad : Nat → Nat} {rest : bc_St} (h8 : bc_cat rest ≤ 8) {pcb : Nat} {lsc : Array Slot} {st0 : List Value} : 2 * (F0 m pcb lsc st0).monitorRoom + ((rest.map (bc_cv g ad)).map (fun v => v.category)).sum ≤ 8 := by
  rw [bc_catsum]
  show 2 * 0 + _ ≤ 8
  omega
/-- after the run: on -/
theorem bc_after {H : Heap} {locs : List Loc} {cells slots n nr pcb : Nat} {ad : Nat → Nat} {lsc : Array Slot} {st0 : List Value} {rest : bc_St} {a : Array Value} {M : bc_Q} (hr : va_Run p l e R s m args below meth c H locs cells slots (nr - np) (bc_SZ nr - bc_SZ np) (F0 m pcb lsc st0) (rest.map (bc_cv g ad)) (bc_Qc g ph ad n np nr M a) (bc_A g))
    (hn : np ≤ nr ∧ nr ≤ nq) (hF : np ≤ nq ∧ cells + (nq - np) = mc ∧ slots + (bc_SZ nq - bc_SZ np) = ms) (h0 : n0 ≤ np) (hS : va_S (bc_A g) s.heap H locs) (hL : bc_lh g ad np (bc_mi k).2.2.2.1 lsc ls) (hV : ∀ v ∈ rest, bc_vo np v) (hA : ∀ i, i < n0 → ad i = ad0 i) (hp : bc_pc k (idx + 1) = some (pcb + 3))
    (kk : ∀ r h', M r h' → bc_At g ph p l e R s m args below meth c Z k nq mc ms n0 ad0 (idx + 1) nr ls (bc_psh r rest) h') : W p l e R s m args below meth c H locs cells slots Z (F0 m pcb lsc st0) := by
  refine bc_call hr hS fun v h' ad' H1 locs1 hM ht hR' hag hS1 => ?_
  have e1 : (v.map (bc_cv g ad')).toList ++ rest.map (bc_cv g ad) = (bc_psh v rest).map (bc_cv g ad') := by
    rw [← bc_map_up hV hag]
    cases v <;> rfl
  rw [e1]
  have z1 := bc_SZ_mono hn.1
  have z2 := bc_SZ_mono hn.2
  refine kk v h' hM (cells + (nr - np)) (slots + (bc_SZ nr - bc_SZ np)) H1 locs1 ad' lsc (pcb + 3) ⟨hn.2, by omega, by omega⟩ (by omega) hR' hS1 (bc_lh_up hL hn.1 hag) (fun x hx => ?_) (fun i hi => by rw [hag i (by omega)]; exact hA i hi) hp
  cases v with
  | none => exact bc_vo_mono hn.1 (hV x hx)
  | some y =>
    rcases List.mem_cons.mp hx with rfl | hx
    · exact ht _ rfl
    · exact bc_vo_mono hn.1 (hV x hx)
end BCI
