/-! THE CLAIM OUT OF ONE WALK OF THE LAW'S BODY. Your part is whole_start (and what it stands on); all else here is the same for every law, but numbers. -/
def R_law : String := "BeastCaveLaw"
def lw_P (b : Addr) (xs : List Int32) (args : Array Value) (s : State) : Prop := args = #[.ref b] ∧ s.IntsAt b xs ∧ xs.length ≤ 3072 ∧ (Jvm.Cond.and given_1 narrow_1).before args s = true
def lw_Q (_ : Array Value) (s : State) (o : Outcome) (t : State) : Prop := o = .returned (some (.int 1)) ∧ Framed s o t [] 600000 7302250
def lw_Z (below : List Frame) (a : Array Value) (s : State) : State → Prop := fun t => ∃ o, t.status = .running ∧ Ended t below o ∧ lw_Q a s o t
/-- the law's own end, with 1 on the stack, nothing written that was there before, its room as the claim has it -/
theorem lw_ret {p : Program} {l : Launch} {e : Env} {s : State} {m : MethodId} {below : List Frame} {meth : Method} {c : Code} {b : Nat} (hx : p.tables.exec = Jvm.exec) (hb : c.code = code) (hr : meth.sig.returnType = ret) (hlocks : meth.locks = false) {pc : Nat} {H : Heap} {ls : Array Slot} (hdg : decode code pc = .ok (.ireturn, 1)) : W p l e room_1 s m #[Value.ref b] below meth c H [] 600000 7302250 (lw_Z below #[Value.ref b] s) (F0 m pc ls [.int 1]) := by
  intro T hT X
  obtain ⟨fs, hret, hrun, hended, hW, hframe⟩ := X.leave (v := some (.int 1)) (hlocks := hlocks) (fun h => by rw [hr] at h; cases h)
  have hmeth' : T.vm.method? m = some meth := X.method'
  refine ⟨T.setFrames fs, ?_, .returned (some (.int 1)), hrun, hended, rfl, ⟨_, rfl⟩, hW, hframe⟩
  jvm_step X.here [X.here.top, hx, hb, hdg, hmeth', hr, ret, narrow_b1]
  (try refine ⟨rfl, ?_⟩); (try refine ⟨rfl, ?_⟩)
  first | (intro acts; rw [hret _ acts rfl rfl rfl]) | rw [hret _ _ rfl rfl rfl]
  exact Steps.refl _
/-- what holds at the law's entry: the machine, the code, the tables' words (any of lw_tbl by 'hts w (by decide +kernel)'), the script of L ints xs at the cell b, what the Statement gives of the start (any of its parts by flat_of_before) -/
def lw_At (p : Program) (s : State) (m : MethodId) (meth : Method) (c : Code) (b L : Nat) (xs : Nat → Int32) : Prop :=
  p.tables.exec = Jvm.exec ∧ c.code = code ∧ meth.sig.returnType = ret ∧ c.maxLocals = 4 ∧ s.vm.findClass R_law = some m.cls ∧ (∀ w ∈ lw_tbl, w.before #[Value.ref b] s = true) ∧ va_X b L xs s s.heap ∧ b < s.heap.size ∧ meth.locks = false ∧ (Jvm.Cond.and given_1 narrow_1).before #[Value.ref b] s = true
theorem bc_ws_eq {g : bc_GG} {ad : Nat → Nat} {h h' : bc_H} {np : Nat} (hh : ∀ a : Int, 0 ≤ a → h' a = h a) : bc_ws g ad h' np = bc_ws g ad h np := by
  unfold bc_ws
  exact List.map_congr_left (fun i _ => by rw [hh i (Int.natCast_nonneg i)])
/-- from the constructors' memory to the main phase's -/
theorem bc_phase {g : bc_GG} {d k pc : Nat} {ls : bc_L} {st : bc_St} {h : bc_H} {nq : Nat} {Q : bc_Q} {np : Nat} (hf : bc_fin h np) (hx : bc_Snd g true d k pc np ls st (bc_mrg h (bc_len g) (bc_xs g)) nq Q) : bc_Snd g false d k pc np ls st h nq Q := by
  intro p l e R s m args below meth c Z mc ms n0 ad0 hC hRm hcs hr cells slots H locs ad lsc pcb hF h0 hR hS hL hV hA hp
  refine hx p l e R s m args below meth c Z mc ms n0 ad0 hC hRm hcs (fun v h' H locs ad lsc pcb a1 a2 a3 a4 a5 a6 a7 => hr v h' H locs ad lsc pcb a1 a2 a3 ⟨a4.1, a4.2.1, a4.2.2.1, fun z => (by cases z), fun z => (by cases z), fun z => (by cases z)⟩ a5 a6 a7) cells slots H locs ad lsc pcb hF h0 ?_ hS hL hV hA hp
  have e := bc_ws_eq (g := g) (ad := ad) (np := np) (h := h) (h' := bc_mrg h (bc_len g) (bc_xs g)) (fun a ha => bc_mrg_at ha)
  refine ⟨by rw [e]; exact hR.1, by rw [e]; exact hR.2.1, fun i hi => ?_, fun _ => bc_fin_of (fun a b ha => congrFun (bc_mrg_at ha) b) hf, fun _ j hj => ?_, fun _ => ?_⟩
  · rw [bc_mrg_at (Int.natCast_nonneg i)]
    exact hR.2.2.1 i hi
  · unfold bc_mrg
    rw [if_pos rfl, Int.toNat_natCast]
  · unfold bc_mrg
    rw [if_neg (by decide), if_pos rfl]
theorem bc_SZ_all : bc_SZ 185 ≤ 7302250 := by decide +kernel
/-- from the entry to the end, if the law's loop is sound in the small machine -/
theorem bc_start (hall : ∀ n, (0 < n ∧ n < 362) → ¬ (357 < n ∧ n < 361) → bc_ckM n = true ∧ bc_cc n ∈ bc_T) (hk0 : bc_ckM 0 = true) (hmain : ∀ (h : bc_H) (L : Nat), bc_Init h L → bc_OK true 100 0 10 185 (bc_lsL 0) [] h 185 (fun v _ => v = some (.inl 1)))
    {p : Program} {e : Env} {s : State} {m : MethodId} {below : List Frame} {meth : Method} {c : Code} (l : Launch) {b L : Nat} {xs : Nat → Int32} (hL : L ≤ 3072) (C0 : lw_At p s m meth c b L xs) : W p l e room_1 s m #[Value.ref b] below meth c s.heap [] 0 0 (lw_Z below #[Value.ref b] s) (entryFrame m ([Value.ref b] : List Value).toArray 4) := by
  obtain ⟨hx, hb, hr, hml, hown, hts, hX, hbl, hlocks, hgv⟩ := C0
  obtain ⟨g, g1, g2, hK, hXg⟩ := bc_given hL hts hX hbl hgv
  have e0 : bc_q0 g = s.heap.size := by unfold bc_q0; rw [g1]
  have e1 : bc_b g = b := by unfold bc_b; rw [g1]
  have e2 : bc_len g = L := by unfold bc_len; rw [g1]
  have hC : bc_Cx g p s m #[Value.ref b] meth c 0 := ⟨hx, hb, hml, hown, fun w h => hts w (List.mem_filter.mp h).1, fun q => absurd q (by decide), hK, hXg, hk0⟩
  have hHr : bc_Hr g false p l e room_1 s m #[Value.ref b] below meth c (lw_Z below #[Value.ref b] s) 0 185 185 (bc_SZ 185) 0 (fun _ => 0) (fun v _ => v = some (.inl 1)) := by
    intro v h' H locs ad lsc pcb hv _ _ _ hS _ hd
    subst hv
    refine va_forget (fun q hq => by have h1 : bc_q0 g ≤ q.base := hS.2.2 q hq; omega) ?_
    refine W.widen (k := 600000) (n := 7302250) (Nat.le_of_ble_eq_true rfl) bc_SZ_all ?_
    exact lw_ret hx hb hr hlocks hd
  have ha1 : bc_Snd g false 99 119 0 1 (bc_pad (bc_ent [.inr (.inr ((0, 11), 0))]) (bc_mt 119).2.2.1) [] bc_h0 156 (bc_E none bc_hC1) := bc_sound hall (bc_x_run bc_r1_eq).2
  have ha2 : bc_Snd g false 99 194 0 157 (bc_pad (bc_ent [.inr (.inr ((0, 12), 156))]) (bc_mt 194).2.2.1) [] bc_hC2 185 (bc_E none bc_hB) := bc_sound hall (bc_x_run bc_r2_eq).2
  have hinit : bc_Init (bc_mrg bc_hB (bc_len g) (bc_xs g)) L := by
    refine ⟨fun a b ha => congrFun (bc_mrg_at ha) b, ?_, hL, fun j hj => ?_⟩
    · unfold bc_mrg
      rw [if_neg (by decide), if_pos rfl, e2]
    · unfold bc_mrg
      rw [if_pos rfl]
      exact bc_ri _
  have ha3 : bc_Snd g false 100 0 10 185 (bc_lsL 0) [] bc_hB 185 (fun v _ => v = some (.inl 1)) := bc_phase (bc_finB_in (Bool.and_eq_true_iff.mp bc_run2).2) (bc_sound hall (hmain _ _ hinit))
  have hrun := bc_lw_run (P := bc_Snd g false) ha1 ha2 ha3
  have hRm : 100 + 8 ≤ room_1.frames ∧ 50 * 100 + 400 ≤ room_1.locals := ⟨Nat.le_of_ble_eq_true rfl, Nat.le_of_ble_eq_true rfl⟩
  have hcs : 185 ≤ room_1.cells ∧ bc_SZ 185 ≤ room_1.slots := ⟨Nat.le_of_ble_eq_true rfl, bc_SZ_all⟩
  have hAt := bc_walk hall hC (d := 100) hRm hcs hHr [.goto ((10 : Nat) : Int)] 10 (fun np ls st h q => q p l e room_1 s m _ below meth c _ 185 (bc_SZ 185) 0 (fun _ => 0) hC hRm hcs hHr) bc_lw 0 0 _ [] _ bc_lw_ok rfl hrun
  have hcv : ([.inr (.inr ((7, 0), -1))] : bc_St).map (bc_cv g (fun _ => 0)) = [Value.ref b] := by
    show [Value.ref (bc_b g)] = [Value.ref b]
    rw [e1]
  obtain ⟨l1, l2, l3⟩ := lv_entry ([Value.ref b] : List Value) (n := 4) (Nat.le_of_ble_eq_true rfl)
  rw [lg_entry_eq]
  refine hAt 0 0 s.heap [] (fun _ => 0) _ 0 ⟨Nat.zero_le _, Nat.zero_add _, ?_⟩ (Nat.le_refl _) ⟨fun k q hq => ?_, ⟨fun i j x y hx _ _ => ?_, fun k q hq => ?_⟩, fun i hi => absurd hi (Nat.not_lt_zero i), fun z => (by cases z), fun z => (by cases z), fun z => (by cases z)⟩ va_S.rf ⟨l1, l2, fun i v q => ?_⟩ (fun v q => by cases q) (fun _ _ => rfl) (bc_ck_all hk0).1
  · show 0 + (bc_SZ 185 - bc_SZ 0) = bc_SZ 185
    have : bc_SZ 0 = 0 := rfl
    omega
  · cases hq
  · cases hx
  · cases hq
  · rw [bc_lget_pad] at q
    obtain ⟨h1, h2⟩ := bc_ent_mem (g := g) (ad := fun _ => 0) [.inr (.inr ((7, 0), -1))] 0 i v q
    rw [hcv] at h2
    refine ⟨?_, by have := l3 _ h2; rwa [Nat.zero_add] at this⟩
    rcases List.mem_cons.mp h1 with rfl | h1
    · exact Or.inl rfl
    · cases h1
