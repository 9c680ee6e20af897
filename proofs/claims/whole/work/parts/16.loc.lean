theorem bc_cvr (g : bc_GG) (ad : Nat → Nat) (x : (Nat × Nat) × Int) : ∃ y, bc_cv g ad (.inr (.inr x)) = .ref y := by
  obtain ⟨sh, r⟩ := x
  show ∃ y, (if sh.1 = 7 then Value.ref (bc_b g) else if sh.1 = 8 then Value.ref (bc_aK g sh.2) else Value.ref (ad r.toNat)) = .ref y
  split
  · exact ⟨_, rfl⟩
  · split <;> exact ⟨_, rfl⟩
section BCO
variable {g : bc_GG} {ph : Bool} {p : Program} {l : Launch} {e : Env} {R : Room} {s : State} {m : MethodId} {args : Array Value} {below : List Frame} {meth : Method} {c : Code} {Z : State → Prop} {k nq mc ms n0 : Nat} {ad0 : Nat → Nat} {idx np : Nat} {ls : bc_L} {st : bc_St} {h : bc_H}
theorem bc_o_iconst {n : Int} (hC : bc_Cx g p s m args meth c k) (hi : (bc_code k)[idx]? = some (.iconst n)) (hx : bc_wp (bc_s1 ph (.iconst n) ls st h) (fun ls st h => bc_At g ph p l e R s m args below meth c Z k nq mc ms n0 ad0 (idx + 1) np ls st h)) : bc_At g ph p l e R s m args below meth c Z k nq mc ms n0 ad0 idx np ls st h := by
  have hx : bc_At g ph p l e R s m args below meth c Z k nq mc ms n0 ad0 (idx + 1) np ls (.inl n :: st) h := hx
  intro cells slots H locs ad lsc pcb hF h0 hR hS hL hV hA hp
  obtain ⟨j, len, wi, hd, hr⟩ := bc_rw0 hC.2.2.2.2.2.2.2.2 hi hp
  unfold bc_rel at hr
  simp only [Bool.and_eq_true, decide_eq_true_eq] at hr
  obtain ⟨⟨hn, hv⟩, hm⟩ := hr
  have kk : W p l e R s m args below meth c H locs cells slots Z (F0 m (pcb + len) lsc (.int (Int32.ofInt n) :: st.map (bc_cv g ad))) := hx cells slots H locs ad lsc (pcb + len) hF h0 hR hS hL (bc_stcons (v := .inl n) hv hV) hA hn
  split at hm
  · simp only [Bool.and_eq_true, decide_eq_true_eq] at hm
    obtain ⟨rfl, rfl⟩ := hm
    exact lv_iconst hC.1 hC.2.1 hd rfl kk
  · simp only [Bool.and_eq_true, decide_eq_true_eq] at hm
    obtain ⟨q, rfl⟩ := hm
    exact lv_bipush hC.1 hC.2.1 hd q kk
  · simp only [Bool.and_eq_true, decide_eq_true_eq] at hm
    obtain ⟨q, rfl⟩ := hm
    exact lv_sipush hC.1 hC.2.1 hd q kk
  · simp only [Bool.and_eq_true, decide_eq_true_eq] at hm
    obtain ⟨q, rfl⟩ := hm
    exact lv_ldc hC.1 hC.2.1 hC.2.2.2.1 (hC.2.2.2.2.1 _ (bc_wd_in q)) hd kk
  · simp only [Bool.and_eq_true, decide_eq_true_eq] at hm
    obtain ⟨q, rfl⟩ := hm
    exact lv_ldcw hC.1 hC.2.1 hC.2.2.2.1 (hC.2.2.2.2.1 _ (bc_wd_in q)) hd kk
  · cases hm
theorem bc_o_sipush {n : Int} (hC : bc_Cx g p s m args meth c k) (hi : (bc_code k)[idx]? = some (.sipush n)) (hx : bc_wp (bc_s1 ph (.sipush n) ls st h) (fun ls st h => bc_At g ph p l e R s m args below meth c Z k nq mc ms n0 ad0 (idx + 1) np ls st h)) : bc_At g ph p l e R s m args below meth c Z k nq mc ms n0 ad0 idx np ls st h := by
  have hx : bc_At g ph p l e R s m args below meth c Z k nq mc ms n0 ad0 (idx + 1) np ls (.inr (.inl n) :: st) h := hx
  intro cells slots H locs ad lsc pcb hF h0 hR hS hL hV hA hp
  obtain ⟨j, len, wi, hd, hr⟩ := bc_rw0 hC.2.2.2.2.2.2.2.2 hi hp
  unfold bc_rel at hr
  simp only [Bool.and_eq_true, decide_eq_true_eq] at hr
  obtain ⟨⟨hn, hv⟩, hm⟩ := hr
  have kk : W p l e R s m args below meth c H locs cells slots Z (F0 m (pcb + len) lsc (.long (Int64.ofInt n) :: st.map (bc_cv g ad))) := hx cells slots H locs ad lsc (pcb + len) hF h0 hR hS hL (bc_stcons (v := .inr (.inl n)) hv hV) hA hn
  split at hm
  · simp only [Bool.and_eq_true, decide_eq_true_eq] at hm
    obtain ⟨q, rfl⟩ := hm
    exact lv_lconst hC.1 hC.2.1 hd q kk
  · simp only [Bool.and_eq_true, decide_eq_true_eq] at hm
    obtain ⟨q, rfl⟩ := hm
    exact lv_ldc2 hC.1 hC.2.1 hC.2.2.2.1 (hC.2.2.2.2.1 _ (bc_wd_in q)) hd kk
  · cases hm
theorem bc_o_iload {n : Nat} (hC : bc_Cx g p s m args meth c k) (hi : (bc_code k)[idx]? = some (.iload n)) (hx : bc_wp (bc_s1 ph (.iload n) ls st h) (fun ls st h => bc_At g ph p l e R s m args below meth c Z k nq mc ms n0 ad0 (idx + 1) np ls st h)) : bc_At g ph p l e R s m args below meth c Z k nq mc ms n0 ad0 idx np ls st h := by
  simp only [bc_s1] at hx
  split at hx
  · rename_i x hg
    have hx : bc_At g ph p l e R s m args below meth c Z k nq mc ms n0 ad0 (idx + 1) np ls (.inl x :: st) h := hx
    intro cells slots H locs ad lsc pcb hF h0 hR hS hL hV hA hp
    obtain ⟨j, len, wi, hd, hr⟩ := bc_rw0 hC.2.2.2.2.2.2.2.2 hi hp
    unfold bc_rel at hr
    simp only [Bool.and_eq_true, decide_eq_true_eq] at hr
    obtain ⟨hn, hm⟩ := hr
    obtain ⟨hv, hg2⟩ := hL.2.2 _ _ hg
    have kk : W p l e R s m args below meth c H locs cells slots Z (F0 m (pcb + len) lsc (.int (Int32.ofInt x) :: st.map (bc_cv g ad))) := hx cells slots H locs ad lsc (pcb + len) hF h0 hR hS hL (bc_stcons hv hV) hA hn
    split at hm
    · simp only [Bool.and_eq_true, decide_eq_true_eq] at hm
      obtain ⟨rfl, rfl⟩ := hm
      exact lv_iload hC.1 hC.2.1 hd hg2 kk
    · simp only [Bool.and_eq_true, decide_eq_true_eq] at hm
      obtain ⟨q, rfl⟩ := hm
      exact lv_iload_n hC.1 hC.2.1 hd q hg2 kk
    · cases hm
  · exact False.elim hx
theorem bc_o_lload {n : Nat} (hC : bc_Cx g p s m args meth c k) (hi : (bc_code k)[idx]? = some (.lload n)) (hx : bc_wp (bc_s1 ph (.lload n) ls st h) (fun ls st h => bc_At g ph p l e R s m args below meth c Z k nq mc ms n0 ad0 (idx + 1) np ls st h)) : bc_At g ph p l e R s m args below meth c Z k nq mc ms n0 ad0 idx np ls st h := by
  simp only [bc_s1] at hx
  split at hx
  · rename_i x hg
    have hx : bc_At g ph p l e R s m args below meth c Z k nq mc ms n0 ad0 (idx + 1) np ls (.inr (.inl x) :: st) h := hx
    intro cells slots H locs ad lsc pcb hF h0 hR hS hL hV hA hp
    obtain ⟨j, len, wi, hd, hr⟩ := bc_rw0 hC.2.2.2.2.2.2.2.2 hi hp
    unfold bc_rel at hr
    simp only [Bool.and_eq_true, decide_eq_true_eq] at hr
    obtain ⟨hn, hm⟩ := hr
    obtain ⟨hv, hg2⟩ := hL.2.2 _ _ hg
    have kk : W p l e R s m args below meth c H locs cells slots Z (F0 m (pcb + len) lsc (.long (Int64.ofInt x) :: st.map (bc_cv g ad))) := hx cells slots H locs ad lsc (pcb + len) hF h0 hR hS hL (bc_stcons hv hV) hA hn
    split at hm
    · simp only [Bool.and_eq_true, decide_eq_true_eq] at hm
      obtain ⟨rfl, rfl⟩ := hm
      exact lv_lload hC.1 hC.2.1 hd hg2 kk
    · simp only [Bool.and_eq_true, decide_eq_true_eq] at hm
      obtain ⟨q, rfl⟩ := hm
      exact lv_lload_n hC.1 hC.2.1 hd q hg2 kk
    · cases hm
  · exact False.elim hx
theorem bc_o_aload {n : Nat} (hC : bc_Cx g p s m args meth c k) (hi : (bc_code k)[idx]? = some (.aload n)) (hx : bc_wp (bc_s1 ph (.aload n) ls st h) (fun ls st h => bc_At g ph p l e R s m args below meth c Z k nq mc ms n0 ad0 (idx + 1) np ls st h)) : bc_At g ph p l e R s m args below meth c Z k nq mc ms n0 ad0 idx np ls st h := by
  simp only [bc_s1] at hx
  split at hx
  · rename_i x hg
    have hx : bc_At g ph p l e R s m args below meth c Z k nq mc ms n0 ad0 (idx + 1) np ls (.inr (.inr x) :: st) h := hx
    intro cells slots H locs ad lsc pcb hF h0 hR hS hL hV hA hp
    obtain ⟨j, len, wi, hd, hr⟩ := bc_rw0 hC.2.2.2.2.2.2.2.2 hi hp
    unfold bc_rel at hr
    simp only [Bool.and_eq_true, decide_eq_true_eq] at hr
    obtain ⟨hn, hm⟩ := hr
    obtain ⟨hv, hg2⟩ := hL.2.2 _ _ hg
    have kk : W p l e R s m args below meth c H locs cells slots Z (F0 m (pcb + len) lsc (bc_cv g ad (.inr (.inr x)) :: st.map (bc_cv g ad))) := hx cells slots H locs ad lsc (pcb + len) hF h0 hR hS hL (bc_stcons hv hV) hA hn
    obtain ⟨y, hy⟩ := bc_cvr g ad x
    rw [hy] at hg2 kk
    split at hm
    · simp only [Bool.and_eq_true, decide_eq_true_eq] at hm
      obtain ⟨rfl, rfl⟩ := hm
      exact lv_aload hC.1 hC.2.1 hd hg2 kk
    · simp only [Bool.and_eq_true, decide_eq_true_eq] at hm
      obtain ⟨q, rfl⟩ := hm
      exact lv_aload_n hC.1 hC.2.1 hd q hg2 kk
    · cases hm
  · exact False.elim hx
theorem bc_o_istore {n : Nat} (hC : bc_Cx g p s m args meth c k) (hi : (bc_code k)[idx]? = some (.istore n)) (hx : bc_wp (bc_s1 ph (.istore n) ls st h) (fun ls st h => bc_At g ph p l e R s m args below meth c Z k nq mc ms n0 ad0 (idx + 1) np ls st h)) : bc_At g ph p l e R s m args below meth c Z k nq mc ms n0 ad0 idx np ls st h := by
  simp only [bc_s1] at hx
  split at hx
  · rename_i x st
    have hx : bc_At g ph p l e R s m args below meth c Z k nq mc ms n0 ad0 (idx + 1) np (bc_sto ls n (.inl x)) st h := hx
    intro cells slots H locs ad lsc pcb hF h0 hR hS hL hV hA hp
    obtain ⟨j, len, wi, hd, hr⟩ := bc_rw0 hC.2.2.2.2.2.2.2.2 hi hp
    unfold bc_rel at hr
    simp only [Bool.and_eq_true, decide_eq_true_eq] at hr
    obtain ⟨⟨hn, hlt⟩, hm⟩ := hr
    have hv := hV _ List.mem_cons_self
    have kk : ∀ ls1 : Array Slot, lv_has ls1 (bc_mi k).2.2.2.1 ((n, bc_cv g ad (.inl x)) :: (bc_lv g ad (bc_mi k).2.2.2.1 ls).filter (fun q => !(q.1 == n) && !(q.1 + 1 == n && q.2.category == 2))) → W p l e R s m args below meth c H locs cells slots Z (F0 m (pcb + len) ls1 (st.map (bc_cv g ad))) := fun ls1 h1 => hx cells slots H locs ad ls1 (pcb + len) hF h0 hR hS (bc_lh_sto hL hv h1) (fun v hv => hV v (List.mem_cons_of_mem _ hv)) hA hn
    split at hm
    · simp only [Bool.and_eq_true, decide_eq_true_eq] at hm
      obtain ⟨rfl, rfl⟩ := hm
      exact lv_istore hC.1 hC.2.1 hd (bc_lh_has hL) hlt rfl kk
    · simp only [Bool.and_eq_true, decide_eq_true_eq] at hm
      obtain ⟨q, rfl⟩ := hm
      exact lv_istore_n hC.1 hC.2.1 hd q (bc_lh_has hL) hlt rfl kk
    · cases hm
  · exact False.elim hx
theorem bc_o_lstore {n : Nat} (hC : bc_Cx g p s m args meth c k) (hi : (bc_code k)[idx]? = some (.lstore n)) (hx : bc_wp (bc_s1 ph (.lstore n) ls st h) (fun ls st h => bc_At g ph p l e R s m args below meth c Z k nq mc ms n0 ad0 (idx + 1) np ls st h)) : bc_At g ph p l e R s m args below meth c Z k nq mc ms n0 ad0 idx np ls st h := by
  simp only [bc_s1] at hx
  split at hx
  · rename_i x st
    have hx : bc_At g ph p l e R s m args below meth c Z k nq mc ms n0 ad0 (idx + 1) np (bc_sto2 ls n (.inr (.inl x))) st h := hx
    intro cells slots H locs ad lsc pcb hF h0 hR hS hL hV hA hp
    obtain ⟨j, len, wi, hd, hr⟩ := bc_rw0 hC.2.2.2.2.2.2.2.2 hi hp
    unfold bc_rel at hr
    simp only [Bool.and_eq_true, decide_eq_true_eq] at hr
    obtain ⟨⟨hn, hlt⟩, hm⟩ := hr
    have hv := hV _ List.mem_cons_self
    have kk : ∀ ls1 : Array Slot, lv_has ls1 (bc_mi k).2.2.2.1 ((n, bc_cv g ad (.inr (.inl x))) :: (bc_lv g ad (bc_mi k).2.2.2.1 ls).filter (fun q => !(q.1 == n) && (!(q.1 == n + 1) && !(q.1 + 1 == n && q.2.category == 2)))) → W p l e R s m args below meth c H locs cells slots Z (F0 m (pcb + len) ls1 (st.map (bc_cv g ad))) := fun ls1 h1 => hx cells slots H locs ad ls1 (pcb + len) hF h0 hR hS (bc_lh_sto2 hL hv h1) (fun v hv => hV v (List.mem_cons_of_mem _ hv)) hA hn
    split at hm
    · simp only [Bool.and_eq_true, decide_eq_true_eq] at hm
      obtain ⟨rfl, rfl⟩ := hm
      exact lv_lstore hC.1 hC.2.1 hd (bc_lh_has hL) hlt rfl kk
    · simp only [Bool.and_eq_true, decide_eq_true_eq] at hm
      obtain ⟨q, rfl⟩ := hm
      exact lv_lstore_n hC.1 hC.2.1 hd q (bc_lh_has hL) hlt rfl kk
    · cases hm
  · exact False.elim hx
theorem bc_o_astore {n : Nat} (hC : bc_Cx g p s m args meth c k) (hi : (bc_code k)[idx]? = some (.astore n)) (hx : bc_wp (bc_s1 ph (.astore n) ls st h) (fun ls st h => bc_At g ph p l e R s m args below meth c Z k nq mc ms n0 ad0 (idx + 1) np ls st h)) : bc_At g ph p l e R s m args below meth c Z k nq mc ms n0 ad0 idx np ls st h := by
  simp only [bc_s1] at hx
  split at hx
  · rename_i x st
    have hx : bc_At g ph p l e R s m args below meth c Z k nq mc ms n0 ad0 (idx + 1) np (bc_sto ls n (.inr (.inr x))) st h := hx
    intro cells slots H locs ad lsc pcb hF h0 hR hS hL hV hA hp
    obtain ⟨j, len, wi, hd, hr⟩ := bc_rw0 hC.2.2.2.2.2.2.2.2 hi hp
    unfold bc_rel at hr
    simp only [Bool.and_eq_true, decide_eq_true_eq] at hr
    obtain ⟨⟨hn, hlt⟩, hm⟩ := hr
    have hv := hV _ List.mem_cons_self
    have kk : ∀ ls1 : Array Slot, lv_has ls1 (bc_mi k).2.2.2.1 ((n, bc_cv g ad (.inr (.inr x))) :: (bc_lv g ad (bc_mi k).2.2.2.1 ls).filter (fun q => !(q.1 == n) && !(q.1 + 1 == n && q.2.category == 2))) → W p l e R s m args below meth c H locs cells slots Z (F0 m (pcb + len) ls1 (st.map (bc_cv g ad))) := fun ls1 h1 => hx cells slots H locs ad ls1 (pcb + len) hF h0 hR hS (bc_lh_sto hL hv h1) (fun v hv => hV v (List.mem_cons_of_mem _ hv)) hA hn
    obtain ⟨y, hy⟩ := bc_cvr g ad x
    rw [hy] at kk
    split at hm
    · simp only [Bool.and_eq_true, decide_eq_true_eq] at hm
      obtain ⟨rfl, rfl⟩ := hm
      rw [List.map_cons, hy]; exact lv_astore hC.1 hC.2.1 hd (bc_lh_has hL) hlt rfl kk
    · simp only [Bool.and_eq_true, decide_eq_true_eq] at hm
      obtain ⟨q, rfl⟩ := hm
      rw [List.map_cons, hy]; exact lv_astore_n hC.1 hC.2.1 hd q (bc_lh_has hL) hlt rfl kk
    · cases hm
  · exact False.elim hx
theorem bc_o_iinc {n : Nat} {q : Int} (hC : bc_Cx g p s m args meth c k) (hi : (bc_code k)[idx]? = some (.iinc n q)) (hx : bc_wp (bc_s1 ph (.iinc n q) ls st h) (fun ls st h => bc_At g ph p l e R s m args below meth c Z k nq mc ms n0 ad0 (idx + 1) np ls st h)) : bc_At g ph p l e R s m args below meth c Z k nq mc ms n0 ad0 idx np ls st h := by
  simp only [bc_s1] at hx
  split at hx
  · rename_i x hg
    have hx : bc_At g ph p l e R s m args below meth c Z k nq mc ms n0 ad0 (idx + 1) np (bc_sto ls n (.inl (bc_w32 (x + q)))) st h := hx
    intro cells slots H locs ad lsc pcb hF h0 hR hS hL hV hA hp
    obtain ⟨j, len, wi, hd, hr⟩ := bc_rw0 hC.2.2.2.2.2.2.2.2 hi hp
    unfold bc_rel at hr
    simp only [Bool.and_eq_true, decide_eq_true_eq] at hr
    obtain ⟨⟨⟨hn, hlt⟩, rfl⟩, rfl⟩ := hr
    obtain ⟨k1, hk1⟩ := List.getElem?_of_mem (bc_lv_mem.mpr ⟨hlt, _, hg, rfl⟩ : (n, bc_cv g ad (.inl x)) ∈ bc_lv g ad (bc_mi k).2.2.2.1 ls)
    exact lv_iinc (v := Int32.ofInt (bc_w32 (x + q))) hC.1 hC.2.1 hd (bc_lh_has hL) hk1 (by rw [bc_o32, Int32.ofInt_add]) hlt rfl (fun ls1 h1 => hx cells slots H locs ad ls1 (pcb + 3) hF h0 hR hS (bc_lh_sto (v := .inl (bc_w32 (x + q))) hL (bc_w32_i _) h1) hV hA hn)
  · exact False.elim hx
theorem bc_o_ldc {n : Nat} (hC : bc_Cx g p s m args meth c k) (hi : (bc_code k)[idx]? = some (.ldc n)) (hx : bc_wp (bc_s1 ph (.ldc n) ls st h) (fun ls st h => bc_At g ph p l e R s m args below meth c Z k nq mc ms n0 ad0 (idx + 1) np ls st h)) : bc_At g ph p l e R s m args below meth c Z k nq mc ms n0 ad0 idx np ls st h := by
  have hx : bc_At g ph p l e R s m args below meth c Z k nq mc ms n0 ad0 (idx + 1) np ls (.inr (.inr ((8, n), -10)) :: st) h := hx
  intro cells slots H locs ad lsc pcb hF h0 hR hS hL hV hA hp
  obtain ⟨j, len, wi, hd, hr⟩ := bc_rw0 hC.2.2.2.2.2.2.2.2 hi hp
  unfold bc_rel at hr
  simp only [Bool.and_eq_true, decide_eq_true_eq] at hr
  obtain ⟨⟨hn, rfl⟩, hm⟩ := hr
  obtain ⟨-, -, -, -, -, hz0, hz1, -⟩ := hC.2.2.2.2.2.2.2.1
  have hk2 := hC.2.2.2.1
  split at hm
  · simp only [Bool.and_eq_true, decide_eq_true_eq] at hm
    obtain ⟨q, rfl⟩ := hm
    rw [q] at hk2
    exact va_ldcS hC.1 hC.2.1 hk2 hz0 hd (hx cells slots H locs ad lsc (pcb + 2) hF h0 hR hS hL (bc_stcons (Or.inr (Or.inl ⟨rfl, by decide⟩)) hV) hA hn)
  · simp only [Bool.and_eq_true, decide_eq_true_eq] at hm
    obtain ⟨q, rfl⟩ := hm
    rw [q] at hk2
    exact va_ldcS hC.1 hC.2.1 hk2 hz1 hd (hx cells slots H locs ad lsc (pcb + 2) hF h0 hR hS hL (bc_stcons (Or.inr (Or.inl ⟨rfl, by decide⟩)) hV) hA hn)
  · cases hm
end BCO
