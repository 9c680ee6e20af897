def bc_sz (sh : Nat × Nat) : Nat := match sh with
  | (0, c) => bc_nf c
  | (_, n) => n
def bc_SZ (np : Nat) : Nat := ((bc_SH.take np).map bc_sz).sum
/-- what lies outside the world: the script, the String constants, statics, links of nest mates, arrays of references -/
def bc_lenS : List Nat := [bc_st0.length, bc_st1.length]
def bc_bytS : List (List Int32) := [bc_st0.map Int32.ofInt, bc_st1.map Int32.ofInt]
def bc_tx0 : String := "lamp odds beast wall of pulls way long visitor self at figure style over follows weight minute lead wake fill any when turned dark loop end stop "
def bc_tx1 : String := " lamp odds beast wall way visitor figure over follows of pulls long self at style weight minute lead wake fill any when loop end stop turned dark "
def bc_X (g : bc_GG) (U : State) (H : Heap) : Prop :=
  va_X (bc_b g) (bc_len g) (bc_xs g) U H ∧ bc_b g < bc_q0 g ∧ bc_q0 g ≤ H.size ∧ bc_len g ≤ 3072 ∧
  vk_S 2 bc_lenS bc_bytS (bc_aK g) (bc_aV g) (bc_A g) U H ∧ vk_R "BeastCave$Text" 29 bc_tx0 (bc_aK g 0) U ∧ vk_R "BeastCaveModel" 211 bc_tx1 (bc_aK g 1) U ∧
  va_Z "java/lang/String" "COMPACT_STRINGS" "Z" (.int 1) (bc_A g) U H ∧ va_Zq "jdk/internal/util/Preconditions" "SIOOBE_FORMATTER" "Ljava/util/function/BiFunction;" (bc_A g) U H ∧
  (∀ q ∈ bc_nest, va_Nw (.methodLinkNest q.1 q.2.1 q.2.2 "BeastCave") U) ∧ va_AO RX2 U ∧ va_AO RX3 U
/-- a method's frame -/
def bc_Cx (g : bc_GG) (p : Program) (s : State) (m : MethodId) (args : Array Value) (meth : Method) (c : Code) (k : Nat) : Prop :=
  p.tables.exec = Jvm.exec ∧ c.code = (bc_mi k).2.2.1 ∧ c.maxLocals = (bc_mi k).2.2.2.1 ∧ s.vm.findClass (bc_mi k).1 = some m.cls ∧ (∀ w ∈ bc_T, w.before args s = true) ∧ ((bc_mi k).2.1.name = "<init>" → meth.name = "<init>") ∧
  va_K (bc_D g) vwCl (bc_ty g) s ∧ bc_X g s s.heap ∧ bc_ckM k = true
/-- sound from a place of a frame on -/
def bc_At (g : bc_GG) (ph : Bool) (p : Program) (l : Launch) (e : Env) (R : Room) (s : State) (m : MethodId) (args : Array Value) (below : List Frame) (meth : Method) (c : Code) (Z : State → Prop) (k nq mc ms n0 : Nat) (ad0 : Nat → Nat) (idx np : Nat) (ls : bc_L) (st : bc_St) (h : bc_H) : Prop :=
  ∀ (cells slots : Nat) (H : Heap) (locs : List Loc) (ad : Nat → Nat) (lsc : Array Slot) (pcb : Nat),
    (np ≤ nq ∧ cells + (nq - np) = mc ∧ slots + (bc_SZ nq - bc_SZ np) = ms) → n0 ≤ np → bc_R g ph ad h np H → va_S (bc_A g) s.heap H locs → bc_lh g ad np (bc_mi k).2.2.2.1 lsc ls → (∀ v ∈ st, bc_vo np v) → (∀ i, i < n0 → ad i = ad0 i) → bc_pc k idx = some pcb →
    W p l e R s m args below meth c H locs cells slots Z (F0 m pcb lsc (st.map (bc_cv g ad)))
theorem bc_rw0 {k idx pcb : Nat} {i : Instr} (hk : bc_ckM k = true) (hi : (bc_code k)[idx]? = some i) (hp : bc_pc k idx = some pcb) : ∃ (j : Instr) (len : Nat) (wi : List Nat), decode (bc_mi k).2.2.1 pcb = .ok (j, len) ∧ bc_rel k pcb (bc_pc k (idx + 1)) wi j len i = true := by
  unfold bc_ckM at hk
  simp only [Bool.and_eq_true] at hk
  have h1 := hk.1.1.1.1.1.1.1.1.1
  unfold bc_pc at hp ⊢
  rw [bc_nth_e] at hp ⊢
  cases hw : (bc_pw k)[idx]? with
  | none => rw [hw] at hp; cases hp
  | some q =>
    obtain ⟨pc, wi⟩ := q
    rw [hw] at hp
    cases hp
    obtain ⟨j, len, h2, h3⟩ := bc_ckL_at _ _ h1 idx i pc wi hi hw
    exact ⟨j, len, wi, h2, h3⟩
/-- rows of one byte that stand alike on both sides -/
def bc_pl (i : Instr) : Prop := ∀ k pc nx wi j len, bc_rel k pc nx wi j len i = (decide (j = i) && decide (len = 1) && decide (nx = some (pc + 1)))
theorem bc_row1 {k idx pcb : Nat} {i : Instr} (hk : bc_ckM k = true) (hi : (bc_code k)[idx]? = some i) (hp : bc_pc k idx = some pcb) (hl : bc_pl i) : decode (bc_mi k).2.2.1 pcb = .ok (i, 1) ∧ bc_pc k (idx + 1) = some (pcb + 1) := by
  obtain ⟨j, len, wi, h1, h2⟩ := bc_rw0 hk hi hp
  rw [hl] at h2
  simp only [Bool.and_eq_true, decide_eq_true_eq] at h2
  obtain ⟨⟨rfl, rfl⟩, h3⟩ := h2
  exact ⟨h1, h3⟩
section BCP
variable {g : bc_GG} {ph : Bool} {p : Program} {l : Launch} {e : Env} {R : Room} {s : State} {m : MethodId} {args : Array Value} {below : List Frame} {meth : Method} {c : Code} {Z : State → Prop} {k nq mc ms n0 : Nat} {ad0 : Nat → Nat} {idx np : Nat} {ls : bc_L} {st : bc_St} {h : bc_H}
/-- an int of two ints -/
theorem bc_ebin (hC : bc_Cx g p s m args meth c k) {i : Instr} (hi : (bc_code k)[idx]? = some i) (hl : bc_pl i) (f : Int → Int → Int) (F : Int32 → Int32 → Int32) {a b : Int} (hf : bc_i a → bc_i b → Int32.ofInt (f a b) = F (Int32.ofInt a) (Int32.ofInt b) ∧ bc_i (f a b))
    (row : ∀ {H : Heap} {locs : List Loc} {cells slots : Nat} {lsc : Array Slot} {pcb : Nat} {rest : List Value}, decode (bc_mi k).2.2.1 pcb = .ok (i, 1) → bc_i a → bc_i b → W p l e R s m args below meth c H locs cells slots Z (F0 m (pcb + 1) lsc (.int (F (Int32.ofInt a) (Int32.ofInt b)) :: rest)) → W p l e R s m args below meth c H locs cells slots Z (F0 m pcb lsc (.int (Int32.ofInt b) :: .int (Int32.ofInt a) :: rest)))
    (hn : bc_At g ph p l e R s m args below meth c Z k nq mc ms n0 ad0 (idx + 1) np ls (.inl (f a b) :: st) h) : bc_At g ph p l e R s m args below meth c Z k nq mc ms n0 ad0 idx np ls (.inl b :: .inl a :: st) h := by
  intro cells slots H locs ad lsc pcb hF h0 hR hS hL hV hA hp
  obtain ⟨hd, hx⟩ := bc_row1 hC.2.2.2.2.2.2.2.2 hi hp hl
  have vb : bc_i b := hV (.inl b) List.mem_cons_self
  have va : bc_i a := hV (.inl a) (List.mem_cons_of_mem _ List.mem_cons_self)
  obtain ⟨q1, q2⟩ := hf va vb
  have kk : W p l e R s m args below meth c H locs cells slots Z (F0 m (pcb + 1) lsc (.int (Int32.ofInt (f a b)) :: st.map (bc_cv g ad))) := hn cells slots H locs ad lsc (pcb + 1) hF h0 hR hS hL (fun v hv => by
    rcases List.mem_cons.mp hv with rfl | hv
    · exact q2
    · exact hV v (List.mem_cons_of_mem _ (List.mem_cons_of_mem _ hv))) hA hx
  rw [q1] at kk
  exact row hd va vb kk
/-- a long of two longs -/
theorem bc_elbin (hC : bc_Cx g p s m args meth c k) {i : Instr} (hi : (bc_code k)[idx]? = some i) (hl : bc_pl i) (f : Int → Int → Int) (F : Int64 → Int64 → Int64) {a b : Int} (hf : bc_j a → bc_j b → Int64.ofInt (f a b) = F (Int64.ofInt a) (Int64.ofInt b) ∧ bc_j (f a b))
    (row : ∀ {H : Heap} {locs : List Loc} {cells slots : Nat} {lsc : Array Slot} {pcb : Nat} {rest : List Value}, decode (bc_mi k).2.2.1 pcb = .ok (i, 1) → bc_j a → bc_j b → W p l e R s m args below meth c H locs cells slots Z (F0 m (pcb + 1) lsc (.long (F (Int64.ofInt a) (Int64.ofInt b)) :: rest)) → W p l e R s m args below meth c H locs cells slots Z (F0 m pcb lsc (.long (Int64.ofInt b) :: .long (Int64.ofInt a) :: rest)))
    (hn : bc_At g ph p l e R s m args below meth c Z k nq mc ms n0 ad0 (idx + 1) np ls (.inr (.inl (f a b)) :: st) h) : bc_At g ph p l e R s m args below meth c Z k nq mc ms n0 ad0 idx np ls (.inr (.inl b) :: .inr (.inl a) :: st) h := by
  intro cells slots H locs ad lsc pcb hF h0 hR hS hL hV hA hp
  obtain ⟨hd, hx⟩ := bc_row1 hC.2.2.2.2.2.2.2.2 hi hp hl
  have vb : bc_j b := hV (.inr (.inl b)) List.mem_cons_self
  have va : bc_j a := hV (.inr (.inl a)) (List.mem_cons_of_mem _ List.mem_cons_self)
  obtain ⟨q1, q2⟩ := hf va vb
  have kk : W p l e R s m args below meth c H locs cells slots Z (F0 m (pcb + 1) lsc (.long (Int64.ofInt (f a b)) :: st.map (bc_cv g ad))) := hn cells slots H locs ad lsc (pcb + 1) hF h0 hR hS hL (fun v hv => by
    rcases List.mem_cons.mp hv with rfl | hv
    · exact q2
    · exact hV v (List.mem_cons_of_mem _ (List.mem_cons_of_mem _ hv))) hA hx
  rw [q1] at kk
  exact row hd va vb kk
/-- a long of a long and an int -/
theorem bc_elsh (hC : bc_Cx g p s m args meth c k) {i : Instr} (hi : (bc_code k)[idx]? = some i) (hl : bc_pl i) (f : Int → Int → Int) (F : Int64 → Int32 → Int64) {a b : Int} (hf : bc_j a → bc_i b → Int64.ofInt (f a b) = F (Int64.ofInt a) (Int32.ofInt b) ∧ bc_j (f a b))
    (row : ∀ {H : Heap} {locs : List Loc} {cells slots : Nat} {lsc : Array Slot} {pcb : Nat} {rest : List Value}, decode (bc_mi k).2.2.1 pcb = .ok (i, 1) → W p l e R s m args below meth c H locs cells slots Z (F0 m (pcb + 1) lsc (.long (F (Int64.ofInt a) (Int32.ofInt b)) :: rest)) → W p l e R s m args below meth c H locs cells slots Z (F0 m pcb lsc (.int (Int32.ofInt b) :: .long (Int64.ofInt a) :: rest)))
    (hn : bc_At g ph p l e R s m args below meth c Z k nq mc ms n0 ad0 (idx + 1) np ls (.inr (.inl (f a b)) :: st) h) : bc_At g ph p l e R s m args below meth c Z k nq mc ms n0 ad0 idx np ls (.inl b :: .inr (.inl a) :: st) h := by
  intro cells slots H locs ad lsc pcb hF h0 hR hS hL hV hA hp
  obtain ⟨hd, hx⟩ := bc_row1 hC.2.2.2.2.2.2.2.2 hi hp hl
  have vb : bc_i b := hV (.inl b) List.mem_cons_self
  have va : bc_j a := hV (.inr (.inl a)) (List.mem_cons_of_mem _ List.mem_cons_self)
  obtain ⟨q1, q2⟩ := hf va vb
  have kk : W p l e R s m args below meth c H locs cells slots Z (F0 m (pcb + 1) lsc (.long (Int64.ofInt (f a b)) :: st.map (bc_cv g ad))) := hn cells slots H locs ad lsc (pcb + 1) hF h0 hR hS hL (fun v hv => by
    rcases List.mem_cons.mp hv with rfl | hv
    · exact q2
    · exact hV v (List.mem_cons_of_mem _ (List.mem_cons_of_mem _ hv))) hA hx
  rw [q1] at kk
  exact row hd kk
/-- one value of one: F of what it is -/
theorem bc_eun (hC : bc_Cx g p s m args meth c k) {i : Instr} (hi : (bc_code k)[idx]? = some i) (hl : bc_pl i) {v w : bc_V} (hw : bc_vo np v → bc_vo np w)
    (row : ∀ {H : Heap} {locs : List Loc} {cells slots : Nat} {lsc : Array Slot} {pcb : Nat} {rest : List Value} {ad : Nat → Nat}, decode (bc_mi k).2.2.1 pcb = .ok (i, 1) → bc_vo np v → W p l e R s m args below meth c H locs cells slots Z (F0 m (pcb + 1) lsc (bc_cv g ad w :: rest)) → W p l e R s m args below meth c H locs cells slots Z (F0 m pcb lsc (bc_cv g ad v :: rest)))
    (hn : bc_At g ph p l e R s m args below meth c Z k nq mc ms n0 ad0 (idx + 1) np ls (w :: st) h) : bc_At g ph p l e R s m args below meth c Z k nq mc ms n0 ad0 idx np ls (v :: st) h := by
  intro cells slots H locs ad lsc pcb hF h0 hR hS hL hV hA hp
  obtain ⟨hd, hx⟩ := bc_row1 hC.2.2.2.2.2.2.2.2 hi hp hl
  have va : bc_vo np v := hV v List.mem_cons_self
  refine row hd va (hn cells slots H locs ad lsc (pcb + 1) hF h0 hR hS hL (fun v hv => ?_) hA hx)
  rcases List.mem_cons.mp hv with rfl | hv
  · exact hw va
  · exact hV v (List.mem_cons_of_mem _ hv)
/-- a new stack of the old one's values, by a row of one byte -/
theorem bc_estk (hC : bc_Cx g p s m args meth c k) {i : Instr} (hi : (bc_code k)[idx]? = some i) (hl : bc_pl i) {st2 : bc_St} (hv2 : ∀ v ∈ st2, v ∈ st)
    (row : ∀ {H : Heap} {locs : List Loc} {cells slots : Nat} {lsc : Array Slot} {pcb : Nat} {ad : Nat → Nat}, decode (bc_mi k).2.2.1 pcb = .ok (i, 1) → (∀ v ∈ st, bc_vo np v) → W p l e R s m args below meth c H locs cells slots Z (F0 m (pcb + 1) lsc (st2.map (bc_cv g ad))) → W p l e R s m args below meth c H locs cells slots Z (F0 m pcb lsc (st.map (bc_cv g ad))))
    (hn : bc_At g ph p l e R s m args below meth c Z k nq mc ms n0 ad0 (idx + 1) np ls st2 h) : bc_At g ph p l e R s m args below meth c Z k nq mc ms n0 ad0 idx np ls st h := by
  intro cells slots H locs ad lsc pcb hF h0 hR hS hL hV hA hp
  obtain ⟨hd, hx⟩ := bc_row1 hC.2.2.2.2.2.2.2.2 hi hp hl
  exact row hd hV (hn cells slots H locs ad lsc (pcb + 1) hF h0 hR hS hL (fun v hv => hV v (hv2 v hv)) hA hx)
end BCP
