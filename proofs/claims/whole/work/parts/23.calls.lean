/-! calls -/
theorem bc_take_spec : ∀ (n : Nat) (st acc as rest : bc_St), bc_take n st acc = some (as, rest) → ∃ pre : bc_St, as = pre ++ acc ∧ pre.length = n ∧ st = pre.reverse ++ rest
  | 0, st, acc, as, rest, h => by
    simp only [bc_take, Option.some.injEq, Prod.mk.injEq] at h
    exact ⟨[], by rw [← h.1]; rfl, rfl, by rw [← h.2]; rfl⟩
  | n + 1, [], acc, as, rest, h => by simp [bc_take] at h
  | n + 1, v :: st, acc, as, rest, h => by
    simp only [bc_take] at h
    obtain ⟨pre, h1, h2, h3⟩ := bc_take_spec n st (v :: acc) as rest h
    exact ⟨pre ++ [v], by rw [h1]; simp, by simp [h2], by rw [h3]; simp⟩
theorem bc_lget_pad : ∀ (l : bc_L) (n i : Nat), bc_lget (bc_pad l n) i = bc_lget l i
  | l, 0, i => by cases l <;> rfl
  | [], n + 1, 0 => rfl
  | [], n + 1, i + 1 => by show bc_lget (bc_pad [] n) i = none; rw [bc_lget_pad [] n i]; rfl
  | a :: l, n + 1, 0 => rfl
  | a :: l, n + 1, i + 1 => by show bc_lget (bc_pad l n) i = bc_lget l i; exact bc_lget_pad l n i
theorem bc_ent_mem {g : bc_GG} {ad : Nat → Nat} : ∀ (as : bc_St) (o i : Nat) (v : bc_V), bc_lget (bc_ent as) i = some v → v ∈ as ∧ (o + i, bc_cv g ad v) ∈ lv_args o (as.map (bc_cv g ad))
  | [], o, i, v, h => by cases i <;> cases h
  | .inl x :: as, o, i, v, h => by
    cases i with
    | zero => cases h; exact ⟨List.mem_cons_self, List.mem_cons_self⟩
    | succ i =>
      obtain ⟨h1, h2⟩ := bc_ent_mem (g := g) (ad := ad) as (o + 1) i v h
      refine ⟨List.mem_cons_of_mem _ h1, List.mem_cons_of_mem _ ?_⟩
      rw [show o + (i + 1) = o + 1 + i by omega]
      exact h2
  | .inr (.inr x) :: as, o, i, v, h => by
    cases i with
    | zero => cases h; exact ⟨List.mem_cons_self, List.mem_cons_self⟩
    | succ i =>
      obtain ⟨h1, h2⟩ := bc_ent_mem (g := g) (ad := ad) as (o + 1) i v h
      refine ⟨List.mem_cons_of_mem _ h1, ?_⟩
      rw [List.map_cons, lv_args, bc_catr, if_neg (by decide), show o + (i + 1) = o + 1 + i by omega]
      exact List.mem_cons_of_mem _ h2
  | .inr (.inl x) :: as, o, i, v, h => by
    cases i with
    | zero => cases h; exact ⟨List.mem_cons_self, List.mem_cons_self⟩
    | succ i =>
      cases i with
      | zero => cases h
      | succ i =>
        obtain ⟨h1, h2⟩ := bc_ent_mem (g := g) (ad := ad) as (o + 2) i v h
        refine ⟨List.mem_cons_of_mem _ h1, List.mem_cons_of_mem _ ?_⟩
        rw [show o + (i + 1 + 1) = o + 2 + i by omega]
        exact h2
theorem bc_sl_len {g : bc_GG} {ad : Nat → Nat} : ∀ as : bc_St, (lg_sl (as.map (bc_cv g ad))).length = bc_cat as
  | [] => rfl
  | .inl x :: as => by
    have ih := bc_sl_len (g := g) (ad := ad) as
    unfold lg_sl at ih ⊢
    rw [List.map_cons, List.flatMap_cons, List.length_append, ih]
    rfl
  | .inr (.inl x) :: as => by
    have ih := bc_sl_len (g := g) (ad := ad) as
    unfold lg_sl at ih ⊢
    rw [List.map_cons, List.flatMap_cons, List.length_append, ih]
    rfl
  | .inr (.inr x) :: as => by
    have ih := bc_sl_len (g := g) (ad := ad) as
    unfold lg_sl at ih ⊢
    rw [List.map_cons, List.flatMap_cons, List.length_append, ih, bc_catr]
    rfl
theorem bc_SZ_mono {a b : Nat} (h : a ≤ b) : bc_SZ a ≤ bc_SZ b := by
  unfold bc_SZ
  obtain ⟨c, rfl⟩ := Nat.exists_eq_add_of_le h
  rw [List.take_add, List.map_append, List.sum_append]
  omega
theorem bc_cv_eq {g : bc_GG} {ad ad' : Nat → Nat} {np : Nat} {v : bc_V} (hv : bc_vo np v) (ha : ∀ i, i < np → ad' i = ad i) : bc_cv g ad' v = bc_cv g ad v := by
  rcases v with x | x | ⟨sh, r⟩
  · rfl
  · rfl
  · unfold bc_cv
    dsimp only
    by_cases e7 : sh.1 = 7
    · rw [if_pos e7, if_pos e7]
    · rw [if_neg e7, if_neg e7]
      by_cases e8 : sh.1 = 8
      · rw [if_pos e8, if_pos e8]
      · rw [if_neg e8, if_neg e8]
        rcases hv with h | h | h
        · exact absurd h e7
        · exact absurd h.1 e8
        · rw [ha _ h.2.2.1]
theorem bc_lh_up {g : bc_GG} {ad ad' : Nat → Nat} {np nr nL : Nat} {lsc : Array Slot} {ls : bc_L} (h : bc_lh g ad np nL lsc ls) (hn : np ≤ nr) (ha : ∀ i, i < np → ad' i = ad i) : bc_lh g ad' nr nL lsc ls :=
  ⟨h.1, h.2.1, fun i v q => ⟨bc_vo_mono hn (h.2.2 i v q).1, by rw [bc_cv_eq (h.2.2 i v q).1 ha]; exact (h.2.2 i v q).2⟩⟩
theorem bc_map_up {g : bc_GG} {ad ad' : Nat → Nat} {np : Nat} {st : bc_St} (hv : ∀ v ∈ st, bc_vo np v) (ha : ∀ i, i < np → ad' i = ad i) : st.map (bc_cv g ad') = st.map (bc_cv g ad) := List.map_congr_left (fun v q => bc_cv_eq (hv v q) ha)
/-- what a method gives, by its kind -/
def bc_rv (k : Nat) (v : Option bc_V) : Prop := match (bc_mt k).2.1, v with
  | 0, none => True
  | 1, some (.inl _) => True
  | 2, some (.inr (.inl _)) => True
  | 3, some (.inl x) => x = 0 ∨ x = 1
  | _, _ => False
def bc_rd (v : Option bc_V) : Instr := match v with
  | none => .return_
  | some (.inl _) => .ireturn
  | some (.inr (.inl _)) => .lreturn
  | some (.inr (.inr _)) => .areturn
/-- what is known where the frame ends -/
def bc_Hr (g : bc_GG) (ph : Bool) (p : Program) (l : Launch) (e : Env) (R : Room) (s : State) (m : MethodId) (args : Array Value) (below : List Frame) (meth : Method) (c : Code) (Z : State → Prop) (k nq mc ms n0 : Nat) (ad0 : Nat → Nat) (Q : bc_Q) : Prop :=
  ∀ (v : Option bc_V) (h' : bc_H) (H : Heap) (locs : List Loc) (ad : Nat → Nat) (lsc : Array Slot) (pcb : Nat), Q v h' → (∀ x, v = some x → bc_vo nq x) → bc_rv k v → bc_R g ph ad h' nq H → va_S (bc_A g) s.heap H locs → (∀ i, i < n0 → ad i = ad0 i) → decode (bc_mi k).2.2.1 pcb = .ok (bc_rd v, 1) → W p l e R s m args below meth c H locs mc ms Z (F0 m pcb lsc ((v.map (bc_cv g ad)).toList))
/-- sound from a point on -/
def bc_Snd (g : bc_GG) (ph : Bool) : bc_P := fun d k pc np ls st h nq Q => ∀ (p : Program) (l : Launch) (e : Env) (R : Room) (s : State) (m : MethodId) (args : Array Value) (below : List Frame) (meth : Method) (c : Code) (Z : State → Prop) (mc ms n0 : Nat) (ad0 : Nat → Nat),
  bc_Cx g p s m args meth c k → (d + 8 ≤ R.frames ∧ 50 * d + 400 ≤ R.locals) → (mc ≤ R.cells ∧ ms ≤ R.slots) → bc_Hr g ph p l e R s m args below meth c Z k nq mc ms n0 ad0 Q → bc_At g ph p l e R s m args below meth c Z k nq mc ms n0 ad0 pc np ls st h
def bc_Qc (g : bc_GG) (ph : Bool) (ad : Nat → Nat) (n np nr : Nat) (M : bc_Q) : Array Value → State → Outcome → State → Prop := fun _ st o t => (∃ (v : Option bc_V) (h' : bc_H) (ad' : Nat → Nat), o = .returned (v.map (bc_cv g ad')) ∧ M v h' ∧ (∀ x, v = some x → bc_vo nr x) ∧ bc_rv n v ∧ bc_R g ph ad' h' nr t.heap ∧ ∀ i, i < np → ad' i = ad i) ∧ va_F (bc_A g) st t
theorem bc_rcd_inv (r : Option FieldType) : (bc_rcd r = 0 → r = none) ∧ (bc_rcd r = 1 → r = some .int) ∧ (bc_rcd r = 2 → r = some .long) ∧ (bc_rcd r = 3 → r = some .boolean) := by
  rcases r with _ | t
  · exact ⟨fun _ => rfl, fun h => (by cases h), fun h => (by cases h), fun h => (by cases h)⟩
  · cases t <;> exact ⟨fun h => (by cases h), fun h => (by first | rfl | cases h), fun h => (by first | rfl | cases h), fun h => (by first | rfl | cases h)⟩
theorem bc_ck_all {n : Nat} (h : bc_ckM n = true) : bc_pc n 0 = some 0 ∧ (bc_mt n).2.1 = bc_rcd (bc_mi n).2.2.2.2 ∧ (bc_mt n).2.2.1 = (bc_mi n).2.2.2.1 ∧ (bc_mi n).2.1.cls = (bc_mi n).1 ∧ plainName (bc_mi n).2.1.cls = true ∧ (bc_mi n).2.1.cls ≠ "java/lang/invoke/MethodHandle" ∧ (bc_mi n).2.1.cls ≠ "java/lang/invoke/VarHandle" ∧ (bc_mi n).2.2.2.1 ≤ 31 ∧ (parseMethodDescriptor (bc_mi n).2.1.desc).map (fun d => d.parameters.length) = some (bc_mt n).2.2.2.1 := by
  unfold bc_ckM at h
  simp only [Bool.and_eq_true, decide_eq_true_eq] at h
  obtain ⟨⟨⟨⟨⟨⟨⟨⟨⟨-, h1⟩, h2⟩, h3⟩, h4⟩, h5⟩, h6⟩, h7⟩, h8⟩, h9⟩ := h
  exact ⟨h1, h2, h3, h4, h5, h6, h7, h8, h9⟩
def bc_cc (n : Nat) : Cond := .code (bc_mi n).2.1 (bc_mi n).2.2.1 (bc_mi n).2.2.2.1 (bc_mi n).2.2.2.2
/-- a method that is sound, called -/
theorem bc_met {g : bc_GG} {ph : Bool} {d n np nr : Nat} {as : bc_St} {h : bc_H} {M : bc_Q} (l : Launch) (ad : Nat → Nat) (hS : bc_Snd g ph d n 0 np (bc_pad (bc_ent as) (bc_mt n).2.2.1) [] h nr M) (hck : bc_ckM n = true) (hnp : np ≤ nr) (hcat : bc_cat as ≤ (bc_mt n).2.2.1) (hv : ∀ v ∈ as, bc_vo np v) :
    Met l (bc_mi n).2.1 (bc_cc n :: bc_T) ({ frames := d + 8, cells := nr - np, slots := bc_SZ nr - bc_SZ np, locals := 50 * d + 400 }) (va_Pc (as.map (bc_cv g ad)) (fun U => bc_R g ph ad h np U.heap ∧ va_K (bc_D g) vwCl (bc_ty g) U ∧ bc_X g U U.heap)) (bc_Qc g ph ad n np nr M) (nr - np) (bc_SZ nr - bc_SZ np) (bc_A g) := by
  obtain ⟨k1, k2, k3, k4, k5, k6, k7, k8, k9⟩ := bc_ck_all hck
  refine Met.ofW (cc := (bc_mi n).2.2.1) (maxL := (bc_mi n).2.2.2.1) (ret := (bc_mi n).2.2.2.2) k5 rfl ?_
  intro p e s m args below meth c s₁ B hml hv0
  obtain ⟨rfl, hR, hK, hX⟩ := hv0
  have hts0 := atoms_spec (ws := bc_cc n :: bc_T) B.pre
  have hown : s.vm.findClass (bc_mi n).2.1.cls = some m.cls := findClass_of_methodNamed B.named
  have hlocks := B.notSynchronized
  have hr := B.returns
  have hC : bc_Cx g p s m (as.map (bc_cv g ad)).toArray meth c n := ⟨B.exec, B.bytes, hml, k4 ▸ hown, fun w h => hts0 w (List.mem_cons_of_mem _ h), fun q => (name_of_methodNamed B.named B.method).1.trans q, hK, hX, hck⟩
  have hcat' : (lg_sl (as.map (bc_cv g ad))).length ≤ (bc_mi n).2.2.2.1 := by rw [bc_sl_len, ← k3]; exact hcat
  obtain ⟨l1, l2, l3⟩ := lv_entry (as.map (bc_cv g ad)) hcat'
  rw [lg_entry_eq]
  refine hS p l e _ s m _ below meth c _ (nr - np) (bc_SZ nr - bc_SZ np) np ad hC ⟨Nat.le_refl _, Nat.le_refl _⟩ ⟨Nat.le_refl _, Nat.le_refl _⟩ ?_ 0 0 s.heap [] ad _ 0 ⟨hnp, Nat.zero_add _, Nat.zero_add _⟩ (Nat.le_refl _) hR va_S.rf ⟨l1, l2, fun i v q => ?_⟩ (fun v q => by cases q) (fun _ _ => rfl) k1
  · intro v h' H locs ad' lsc pcb hM ht hrv hR' hS' hA hd
    have hQ : ∀ t : State, t.heap = H → bc_Qc g ph ad n np nr M (as.map (bc_cv g ad)).toArray s (.returned (v.map (bc_cv g ad'))) t := fun t hT => ⟨⟨v, h', ad', rfl, hM, ht, hrv, hT ▸ hR', hA⟩, hS'.F hT⟩
    have hi := bc_rcd_inv (bc_mi n).2.2.2.2
    rw [← k2] at hi
    unfold bc_rv at hrv
    split at hrv
    · rename_i q
      exact W.vret B.exec B.bytes (hr.trans (hi.1 q)) (fun t hT _ => hQ t hT) hS'.2.2 hd
    · rename_i x q
      exact W.iret B.exec B.bytes (hr.trans (hi.2.1 q)) (fun t hT _ => hQ t hT) hS'.2.2 hd
    · rename_i x q
      exact W.lret B.exec B.bytes (hr.trans (hi.2.2.1 q)) (fun t hT _ => hQ t hT) hS'.2.2 hd
    · rename_i x q
      refine W.zret B.exec B.bytes (hr.trans (hi.2.2.2 q)) ?_ (fun t hT _ => hQ t hT) hS'.2.2 hd
      rcases hrv with rfl | rfl <;> decide
    · exact hrv.elim
  · rw [bc_lget_pad] at q
    obtain ⟨h1, h2⟩ := bc_ent_mem (g := g) (ad := ad) as 0 i v q
    exact ⟨hv v h1, by have := l3 _ h2; rwa [Nat.zero_add] at this⟩
