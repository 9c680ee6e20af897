theorem bc_len3 {i n : Int32} {f : Value} (hf : f = .null ∨ ∃ t, f = .ref t) : (lg_sl [.int i, .int n, f]).length ≤ 3 := by
  rcases hf with rfl | ⟨t, rfl⟩ <;> exact Nat.le_of_ble_eq_true rfl
theorem bc_callVoid {p : Program} {l : Launch} {e : Env} {R : Room} {s : State} {m : MethodId} {args : Array Value} {below : List Frame} {meth : Method} {c : Code} {H : Heap} {locs : List Loc} {cells slots : Nat} {Q : State → Prop} {g : JFrame} {rest : List Value} {a : Array Value}
    (hr : CallRun p l e R s m args below meth c H locs cells slots 0 0 g rest (bc_QR none a) (fun _ => False)) (kk : W p l e R s m args below meth c H locs cells slots Q { g with pc := g.pc + 3, stack := rest }) : W p l e R s m args below meth c H locs cells slots Q g := by
  intro T hT X
  obtain ⟨v, st₀, t, T', L, h0, X', hL, e1, ⟨hv, hh⟩, st⟩ := hr T hT X
  cases hv
  obtain ⟨t2, a1, b1⟩ := kk T' (by rw [e1, hh, h0]) (Stand.forget X' (fun q h => (hL q h).elim))
  exact ⟨t2, st t2 a1, b1⟩
theorem bc_bytes : ∀ j, j < 2 → (bc_bytS.getD j []).all (fun b => decide (b &&& 255 = b) && decide ((b.toUInt32 % 65536).toInt32 = b) && decide (narrow .char (.int b) = .int b)) = true := by decide +kernel
theorem bc_lens : ∀ j, j < 2 → bc_lenS.getD j 0 = (bc_bytS.getD j []).length := by decide +kernel
theorem bc_chi {j i : Nat} (hj : j < 2) (hi : i < bc_lenS.getD j 0) : (bc_bytS.getD j []).getD i 0 ∈ bc_bytS.getD j [] := by
  rw [bc_lens j hj] at hi
  generalize bc_bytS.getD j [] = L at hi ⊢
  rw [List.getD_eq_getElem?_getD, List.getElem?_eq_getElem hi]
  exact List.getElem_mem hi
theorem bc_chr {j i : Nat} (hj : j < 2) (hi : i < bc_lenS.getD j 0) : (bc_bytS.getD j []).getD i 0 &&& 255 = (bc_bytS.getD j []).getD i 0 ∧ (((bc_bytS.getD j []).getD i 0).toUInt32 % 65536).toInt32 = (bc_bytS.getD j []).getD i 0 := by
  have h := List.all_eq_true.mp (bc_bytes j hj) _ (bc_chi hj hi)
  simp only [Bool.and_eq_true, decide_eq_true_eq] at h
  exact h.1
theorem bc_chn {j i : Nat} (hj : j < 2) (hi : i < bc_lenS.getD j 0) : narrow .char (.int ((bc_bytS.getD j []).getD i 0)) = .int ((bc_bytS.getD j []).getD i 0) := by
  have h := List.all_eq_true.mp (bc_bytes j hj) _ (bc_chi hj hi)
  simp only [Bool.and_eq_true, decide_eq_true_eq] at h
  exact h.2
theorem bc_dLen_0 : decode bc_bLen 0 = .ok (.aload_n 0, 1) := by decide +kernel
theorem bc_dLen_1 : decode bc_bLen 1 = .ok (.getfield 9, 3) := by decide +kernel
theorem bc_dLen_4 : decode bc_bLen 4 = .ok (.arraylength, 1) := by decide +kernel
theorem bc_dLen_5 : decode bc_bLen 5 = .ok (.aload_n 0, 1) := by decide +kernel
theorem bc_dLen_6 : decode bc_bLen 6 = .ok (.invokevirtual 335, 3) := by decide +kernel
theorem bc_dLen_9 : decode bc_bLen 9 = .ok (.ishr, 1) := by decide +kernel
theorem bc_dLen_10 : decode bc_bLen 10 = .ok (.ireturn, 1) := by decide +kernel
theorem bc_dCoder_0 : decode bc_bCoder 0 = .ok (.getstatic 38, 3) := by decide +kernel
theorem bc_dCoder_3 : decode bc_bCoder 3 = .ok (.ifCond .eq (10), 3) := by decide +kernel
theorem bc_dCoder_6 : decode bc_bCoder 6 = .ok (.aload_n 0, 1) := by decide +kernel
theorem bc_dCoder_7 : decode bc_bCoder 7 = .ok (.getfield 15, 3) := by decide +kernel
theorem bc_dCoder_10 : decode bc_bCoder 10 = .ok (.goto (4), 3) := by decide +kernel
theorem bc_dCoder_13 : decode bc_bCoder 13 = .ok (.iconst 1, 1) := by decide +kernel
theorem bc_dCoder_14 : decode bc_bCoder 14 = .ok (.ireturn, 1) := by decide +kernel
theorem bc_dChar_0 : decode bc_bChar 0 = .ok (.aload_n 0, 1) := by decide +kernel
theorem bc_dChar_1 : decode bc_bChar 1 = .ok (.invokevirtual 492, 3) := by decide +kernel
theorem bc_dChar_4 : decode bc_bChar 4 = .ok (.ifCond .eq (12), 3) := by decide +kernel
theorem bc_dChar_7 : decode bc_bChar 7 = .ok (.aload_n 0, 1) := by decide +kernel
theorem bc_dChar_8 : decode bc_bChar 8 = .ok (.getfield 9, 3) := by decide +kernel
theorem bc_dChar_11 : decode bc_bChar 11 = .ok (.iload_n 1, 1) := by decide +kernel
theorem bc_dChar_12 : decode bc_bChar 12 = .ok (.invokestatic 495, 3) := by decide +kernel
theorem bc_dChar_15 : decode bc_bChar 15 = .ok (.ireturn, 1) := by decide +kernel
theorem bc_dChar_16 : decode bc_bChar 16 = .ok (.aload_n 0, 1) := by decide +kernel
theorem bc_dChar_17 : decode bc_bChar 17 = .ok (.getfield 9, 3) := by decide +kernel
theorem bc_dChar_20 : decode bc_bChar 20 = .ok (.iload_n 1, 1) := by decide +kernel
theorem bc_dChar_21 : decode bc_bChar 21 = .ok (.invokestatic 498, 3) := by decide +kernel
theorem bc_dChar_24 : decode bc_bChar 24 = .ok (.ireturn, 1) := by decide +kernel
theorem bc_dIs1_0 : decode bc_bIs1 0 = .ok (.getstatic 38, 3) := by decide +kernel
theorem bc_dIs1_3 : decode bc_bIs1 3 = .ok (.ifCond .eq (14), 3) := by decide +kernel
theorem bc_dIs1_6 : decode bc_bIs1 6 = .ok (.aload_n 0, 1) := by decide +kernel
theorem bc_dIs1_7 : decode bc_bIs1 7 = .ok (.getfield 15, 3) := by decide +kernel
theorem bc_dIs1_10 : decode bc_bIs1 10 = .ok (.ifCond .ne (7), 3) := by decide +kernel
theorem bc_dIs1_13 : decode bc_bIs1 13 = .ok (.iconst 1, 1) := by decide +kernel
theorem bc_dIs1_14 : decode bc_bIs1 14 = .ok (.goto (4), 3) := by decide +kernel
theorem bc_dIs1_17 : decode bc_bIs1 17 = .ok (.iconst 0, 1) := by decide +kernel
theorem bc_dIs1_18 : decode bc_bIs1 18 = .ok (.ireturn, 1) := by decide +kernel
theorem bc_dL1_0 : decode bc_bL1 0 = .ok (.iload_n 1, 1) := by decide +kernel
theorem bc_dL1_1 : decode bc_bL1 1 = .ok (.aload_n 0, 1) := by decide +kernel
theorem bc_dL1_2 : decode bc_bL1 2 = .ok (.arraylength, 1) := by decide +kernel
theorem bc_dL1_3 : decode bc_bL1 3 = .ok (.invokestatic 9, 3) := by decide +kernel
theorem bc_dL1_6 : decode bc_bL1 6 = .ok (.aload_n 0, 1) := by decide +kernel
theorem bc_dL1_7 : decode bc_bL1 7 = .ok (.iload_n 1, 1) := by decide +kernel
theorem bc_dL1_8 : decode bc_bL1 8 = .ok (.baload, 1) := by decide +kernel
theorem bc_dL1_9 : decode bc_bL1 9 = .ok (.sipush 255, 3) := by decide +kernel
theorem bc_dL1_12 : decode bc_bL1 12 = .ok (.iand, 1) := by decide +kernel
theorem bc_dL1_13 : decode bc_bL1 13 = .ok (.i2c, 1) := by decide +kernel
theorem bc_dL1_14 : decode bc_bL1 14 = .ok (.ireturn, 1) := by decide +kernel
theorem bc_dCkS_0 : decode bc_bCkS 0 = .ok (.iload_n 0, 1) := by decide +kernel
theorem bc_dCkS_1 : decode bc_bCkS 1 = .ok (.iload_n 1, 1) := by decide +kernel
theorem bc_dCkS_2 : decode bc_bCkS 2 = .ok (.getstatic 1053, 3) := by decide +kernel
theorem bc_dCkS_5 : decode bc_bCkS 5 = .ok (.invokestatic 1059, 3) := by decide +kernel
theorem bc_dCkS_8 : decode bc_bCkS 8 = .ok (.pop, 1) := by decide +kernel
theorem bc_dCkS_9 : decode bc_bCkS 9 = .ok (.return_, 1) := by decide +kernel
theorem bc_dCkP_0 : decode bc_bCkP 0 = .ok (.iload_n 0, 1) := by decide +kernel
theorem bc_dCkP_1 : decode bc_bCkP 1 = .ok (.ifCond .lt (8), 3) := by decide +kernel
theorem bc_dCkP_4 : decode bc_bCkP 4 = .ok (.iload_n 0, 1) := by decide +kernel
theorem bc_dCkP_5 : decode bc_bCkP 5 = .ok (.iload_n 1, 1) := by decide +kernel
theorem bc_dCkP_6 : decode bc_bCkP 6 = .ok (.if_icmp .lt (10), 3) := by decide +kernel
theorem bc_dCkP_16 : decode bc_bCkP 16 = .ok (.iload_n 0, 1) := by decide +kernel
theorem bc_dCkP_17 : decode bc_bCkP 17 = .ok (.ireturn, 1) := by decide +kernel
set_option maxHeartbeats 4000000 in
set_option maxRecDepth 100000 in
theorem bc_jCkP (l : Launch) (g : bc_GG) {i n : Int32} {f : Value} (hf : f = .null ∨ ∃ t, f = .ref t) (h0 : ¬ i < 0) (h1 : i < n) : Met l bc_yCkP (Cond.code bc_yCkP bc_bCkP 3 (some .int) :: bc_T) ({ frames := 0, cells := 0, slots := 0, locals := 0 }) (va_Pc ([.int i, .int n, f]) (fun U => bc_X g U U.heap)) (bc_QR (some (.int i))) 0 0 (fun _ => False) := by
  refine Met.ofW (cc := bc_bCkP) (maxL := 3) (ret := some .int) (by decide) rfl ?_
  intro p e s m args below meth c s₁ B hml hv
  obtain ⟨rfl, hX⟩ := hv
  have hx := B.exec
  have hb := B.bytes
  have hr := B.returns
  have hts0 := atoms_spec (ws := Cond.code bc_yCkP bc_bCkP 3 (some .int) :: bc_T) B.pre
  have hts : ∀ w ∈ bc_T, w.before ([.int i, .int n, f] : List Value).toArray s = true := fun w h => hts0 w (List.mem_cons_of_mem _ h)
  have hown : s.vm.findClass "jdk/internal/util/Preconditions" = some m.cls := findClass_of_methodNamed B.named
  have hlocks := B.notSynchronized
  have hS : va_S (bc_A g) s.heap s.heap [] := va_S.rf
  have hl := lv_entry ([.int i, .int n, f]) (n := 3) (bc_len3 hf)
  rw [lg_entry_eq]
  generalize (lg_sl ([.int i, .int n, f]) ++ List.replicate (3 - (lg_sl ([.int i, .int n, f])).length) Slot.unset).toArray = ls at hl ⊢
  have hl : lv_has ls 3 [(0, .int i), (1, .int n), (2, f)] := hl
  refine lv_iload_n hx hb bc_dCkP_0 rfl (lv_at hl 0 rfl) ?_
  refine lv_if_lt (tgt := 9) hx hb bc_dCkP_1 (by decide) (fun q => absurd q h0) (fun _ => ?_)
  refine lv_iload_n hx hb bc_dCkP_4 rfl (lv_at hl 0 rfl) ?_
  refine lv_iload_n hx hb bc_dCkP_5 rfl (lv_at hl 1 rfl) ?_
  refine lv_icmp_lt (tgt := 16) hx hb bc_dCkP_6 (by decide) (fun _ => ?_) (fun q => absurd h1 q)
  refine lv_iload_n hx hb bc_dCkP_16 rfl (lv_at hl 0 rfl) ?_
  exact W.iret hx hb hr (fun t ht hW => ⟨rfl, ht⟩) (fun _ h => by cases h) bc_dCkP_17
set_option maxHeartbeats 4000000 in
set_option maxRecDepth 100000 in
theorem bc_jCkS (l : Launch) (g : bc_GG) {i n : Int32} (h0 : ¬ i < 0) (h1 : i < n) : Met l bc_yCkS (Cond.code bc_yCkS bc_bCkS 2 (none) :: bc_T) ({ frames := 1, cells := 0, slots := 0, locals := 40 }) (va_Pc ([.int i, .int n]) (fun U => bc_X g U U.heap)) (bc_QR (none)) 0 0 (fun _ => False) := by
  refine Met.ofW (cc := bc_bCkS) (maxL := 2) (ret := none) (by decide) rfl ?_
  intro p e s m args below meth c s₁ B hml hv
  obtain ⟨rfl, hX⟩ := hv
  have hx := B.exec
  have hb := B.bytes
  have hr := B.returns
  have hts0 := atoms_spec (ws := Cond.code bc_yCkS bc_bCkS 2 (none) :: bc_T) B.pre
  have hts : ∀ w ∈ bc_T, w.before ([.int i, .int n] : List Value).toArray s = true := fun w h => hts0 w (List.mem_cons_of_mem _ h)
  have hown : s.vm.findClass "java/lang/String" = some m.cls := findClass_of_methodNamed B.named
  have hlocks := B.notSynchronized
  have hS : va_S (bc_A g) s.heap s.heap [] := va_S.rf
  have hl := lv_entry ([.int i, .int n]) (n := 2) (Nat.le_of_ble_eq_true rfl)
  rw [lg_entry_eq]
  generalize (lg_sl ([.int i, .int n]) ++ List.replicate (2 - (lg_sl ([.int i, .int n])).length) Slot.unset).toArray = ls at hl ⊢
  have hl : lv_has ls 2 [(0, .int i), (1, .int n)] := hl
  refine lv_iload_n hx hb bc_dCkS_0 rfl (lv_at hl 0 rfl) ?_
  refine lv_iload_n hx hb bc_dCkS_1 rfl (lv_at hl 1 rfl) ?_
  have fin : ∀ f : Value, (f = .null ∨ ∃ t, f = .ref t) → W p l e (headSpec (Cond.code bc_yCkS bc_bCkS 2 none :: bc_T) { frames := 1, cells := 0, slots := 0, locals := 40 }).room s m ([.int i, .int n] : List Value).toArray below meth c s.heap [] 0 0 (MQ below (bc_QR none) ([.int i, .int n] : List Value).toArray s 0 0 (fun _ => False)) (F0 m 5 ls [f, .int n, .int i]) := by
    intro f hf
    refine W.callR (r := i) (W.runS (As := [.int i, .int n, f]) (rest := []) (own := "java/lang/String") (n := 3) ⟨hx, hb, hml, hown, hts⟩ (bc_jCkP l g hf h0 h1) ⟨callB_of (own := "java/lang/String") (index := 1059) 3 hts (bc_goodC bc_m84) rfl rfl rfl (hts _ bc_m6) (hts _ bc_m82) (by decide +kernel) ⟨Nat.le_of_ble_eq_true rfl, Nat.le_of_ble_eq_true rfl⟩, hts _ bc_m83⟩ ⟨fun a U g2 mk q => ⟨q.1, bc_X_same rfl q.2⟩, fun U hU hW => ⟨rfl, by show bc_X g U U.heap; rw [hU]; exact bc_X_warm hW hX⟩⟩ rfl rfl hl.1 rfl (lv_room (Nat.le_of_ble_eq_true rfl)) bc_dCkS_5 ⟨Nat.le_refl 0, Nat.le_refl 0⟩) ?_
    refine W.eq (g2 := F0 m 8 ls [.int i]) rfl ?_
    refine lv_pop hx hb bc_dCkS_8 rfl ?_
    exact W.vret hx hb hr (fun t ht hW => ⟨rfl, ht⟩) (fun _ h => by cases h) bc_dCkS_9
  have hZ := hX.2.2.2.2.2.2.2.2.1
  rcases hZ with hZ | ⟨t, hZ⟩
  · exact va_gets hx hb hZ hS hown (hts _ bc_m80) (fun _ h => h) bc_dCkS_2 (fin .null (Or.inl rfl))
  · exact va_gets hx hb hZ hS hown (hts _ bc_m80) (fun _ h => h) bc_dCkS_2 (fin (.ref t) (Or.inr ⟨t, rfl⟩))
set_option maxHeartbeats 4000000 in
set_option maxRecDepth 100000 in
theorem bc_jCoder (l : Launch) (g : bc_GG) {j : Nat} (hj : j < 2) : Met l bc_yCoder (Cond.code bc_yCoder bc_bCoder 1 (some .byte) :: bc_T) ({ frames := 0, cells := 0, slots := 0, locals := 0 }) (va_Pc ([.ref (bc_aK g j)]) (fun U => bc_X g U U.heap)) (bc_QR (some (.int 0))) 0 0 (fun _ => False) := by
  refine Met.ofW (cc := bc_bCoder) (maxL := 1) (ret := some .byte) (by decide) rfl ?_
  intro p e s m args below meth c s₁ B hml hv
  obtain ⟨rfl, hX⟩ := hv
  have hx := B.exec
  have hb := B.bytes
  have hr := B.returns
  have hts0 := atoms_spec (ws := Cond.code bc_yCoder bc_bCoder 1 (some .byte) :: bc_T) B.pre
  have hts : ∀ w ∈ bc_T, w.before ([.ref (bc_aK g j)] : List Value).toArray s = true := fun w h => hts0 w (List.mem_cons_of_mem _ h)
  have hown : s.vm.findClass "java/lang/String" = some m.cls := findClass_of_methodNamed B.named
  have hlocks := B.notSynchronized
  have hS : va_S (bc_A g) s.heap s.heap [] := va_S.rf
  have hl := lv_entry ([.ref (bc_aK g j)]) (n := 1) (Nat.le_of_ble_eq_true rfl)
  rw [lg_entry_eq]
  generalize (lg_sl ([.ref (bc_aK g j)]) ++ List.replicate (1 - (lg_sl ([.ref (bc_aK g j)])).length) Slot.unset).toArray = ls at hl ⊢
  have hl : lv_has ls 1 [(0, .ref (bc_aK g j))] := hl
  have hZ := hX.2.2.2.2.2.2.2.1
  have hE := (hX.2.2.2.2.1.1 j hj).2.1
  refine va_gets hx hb hZ hS hown (hts _ bc_m64) (fun _ h => h) bc_dCoder_0 ?_
  refine lv_if_eq (tgt := 13) hx hb bc_dCoder_3 (by decide) (fun q => absurd q (by decide)) (fun _ => ?_)
  refine lv_aload_n hx hb bc_dCoder_6 rfl (lv_at hl 0 rfl) ?_
  refine vk_getf hx hb hE hS hown (hts _ bc_m9016) (fun _ h => h) bc_dCoder_7 ?_
  refine lv_goto (tgt := 14) hx hb bc_dCoder_10 (by decide) ?_
  exact W.zret hx hb hr rfl (fun t ht hW => ⟨rfl, ht⟩) (fun _ h => by cases h) bc_dCoder_14
set_option maxHeartbeats 4000000 in
set_option maxRecDepth 100000 in
theorem bc_jIs1 (l : Launch) (g : bc_GG) {j : Nat} (hj : j < 2) : Met l bc_yIs1 (Cond.code bc_yIs1 bc_bIs1 1 (some .boolean) :: bc_T) ({ frames := 0, cells := 0, slots := 0, locals := 0 }) (va_Pc ([.ref (bc_aK g j)]) (fun U => bc_X g U U.heap)) (bc_QR (some (.int 1))) 0 0 (fun _ => False) := by
  refine Met.ofW (cc := bc_bIs1) (maxL := 1) (ret := some .boolean) (by decide) rfl ?_
  intro p e s m args below meth c s₁ B hml hv
  obtain ⟨rfl, hX⟩ := hv
  have hx := B.exec
  have hb := B.bytes
  have hr := B.returns
  have hts0 := atoms_spec (ws := Cond.code bc_yIs1 bc_bIs1 1 (some .boolean) :: bc_T) B.pre
  have hts : ∀ w ∈ bc_T, w.before ([.ref (bc_aK g j)] : List Value).toArray s = true := fun w h => hts0 w (List.mem_cons_of_mem _ h)
  have hown : s.vm.findClass "java/lang/String" = some m.cls := findClass_of_methodNamed B.named
  have hlocks := B.notSynchronized
  have hS : va_S (bc_A g) s.heap s.heap [] := va_S.rf
  have hl := lv_entry ([.ref (bc_aK g j)]) (n := 1) (Nat.le_of_ble_eq_true rfl)
  rw [lg_entry_eq]
  generalize (lg_sl ([.ref (bc_aK g j)]) ++ List.replicate (1 - (lg_sl ([.ref (bc_aK g j)])).length) Slot.unset).toArray = ls at hl ⊢
  have hl : lv_has ls 1 [(0, .ref (bc_aK g j))] := hl
  have hZ := hX.2.2.2.2.2.2.2.1
  have hE := (hX.2.2.2.2.1.1 j hj).2.1
  refine va_gets hx hb hZ hS hown (hts _ bc_m64) (fun _ h => h) bc_dIs1_0 ?_
  refine lv_if_eq (tgt := 17) hx hb bc_dIs1_3 (by decide) (fun q => absurd q (by decide)) (fun _ => ?_)
  refine lv_aload_n hx hb bc_dIs1_6 rfl (lv_at hl 0 rfl) ?_
  refine vk_getf hx hb hE hS hown (hts _ bc_m9016) (fun _ h => h) bc_dIs1_7 ?_
  refine lv_if_ne (tgt := 17) hx hb bc_dIs1_10 (by decide) (fun q => absurd rfl q) (fun _ => ?_)
  refine lv_iconst (v := 1) hx hb bc_dIs1_13 (by decide) ?_
  refine lv_goto (tgt := 18) hx hb bc_dIs1_14 (by decide) ?_
  exact W.zret hx hb hr rfl (fun t ht hW => ⟨rfl, ht⟩) (fun _ h => by cases h) bc_dIs1_18
set_option maxHeartbeats 4000000 in
set_option maxRecDepth 100000 in
theorem bc_jLen (l : Launch) (g : bc_GG) {j : Nat} (hj : j < 2) : Met l bc_yLen (Cond.code bc_yLen bc_bLen 1 (some .int) :: bc_T) ({ frames := 1, cells := 0, slots := 0, locals := 40 }) (va_Pc ([.ref (bc_aK g j)]) (fun U => bc_X g U U.heap)) (bc_QR (some (.int (Int32.ofNat (bc_lenS.getD j 0))))) 0 0 (fun _ => False) := by
  refine Met.ofW (cc := bc_bLen) (maxL := 1) (ret := some .int) (by decide) rfl ?_
  intro p e s m args below meth c s₁ B hml hv
  obtain ⟨rfl, hX⟩ := hv
  have hx := B.exec
  have hb := B.bytes
  have hr := B.returns
  have hts0 := atoms_spec (ws := Cond.code bc_yLen bc_bLen 1 (some .int) :: bc_T) B.pre
  have hts : ∀ w ∈ bc_T, w.before ([.ref (bc_aK g j)] : List Value).toArray s = true := fun w h => hts0 w (List.mem_cons_of_mem _ h)
  have hown : s.vm.findClass "java/lang/String" = some m.cls := findClass_of_methodNamed B.named
  have hlocks := B.notSynchronized
  have hS : va_S (bc_A g) s.heap s.heap [] := va_S.rf
  have hl := lv_entry ([.ref (bc_aK g j)]) (n := 1) (Nat.le_of_ble_eq_true rfl)
  rw [lg_entry_eq]
  generalize (lg_sl ([.ref (bc_aK g j)]) ++ List.replicate (1 - (lg_sl ([.ref (bc_aK g j)])).length) Slot.unset).toArray = ls at hl ⊢
  have hl : lv_has ls 1 [(0, .ref (bc_aK g j))] := hl
  have hE := hX.2.2.2.2.1.1 j hj
  refine lv_aload_n hx hb bc_dLen_0 rfl (lv_at hl 0 rfl) ?_
  refine vk_getf hx hb hE.2.2.1 hS hown (hts _ bc_m9015) (fun _ h => h) bc_dLen_1 ?_
  refine va_tlen hx hb hE.2.2.2 hS rfl bc_dLen_4 ?_
  refine lv_aload_n hx hb bc_dLen_5 rfl (lv_at hl 0 rfl) ?_
  refine W.callR (r := 0) (W.runV (As := []) (rest := [.int (Int32.ofNat (bc_lenS.getD j 0))]) (own := "java/lang/String") (C := "java/lang/String") (n := 0) ⟨hx, hb, hml, hown, hts⟩ (bc_jCoder l g hj) ⟨callB_of (own := "java/lang/String") (index := 335) 0 hts (bc_goodC bc_m63) rfl rfl rfl (hts _ bc_m4) (hts _ bc_m60) (by decide +kernel) ⟨Nat.le_of_ble_eq_true rfl, Nat.le_of_ble_eq_true rfl⟩, hts _ bc_m61, hts _ bc_m62⟩ ⟨fun a U g2 mk q => ⟨q.1, bc_X_same rfl q.2⟩, vk_recv hX.2.2.2.2.1 hj hS, fun U hU hW => ⟨rfl, by show bc_X g U U.heap; rw [hU]; exact bc_X_warm hW hX⟩⟩ rfl rfl hl.1 rfl (lv_room (Nat.le_of_ble_eq_true rfl)) bc_dLen_6 ⟨Nat.le_refl 0, Nat.le_refl 0⟩) ?_
  refine W.eq (g2 := F0 m 9 ls [.int 0, .int (Int32.ofNat (bc_lenS.getD j 0))]) rfl ?_
  refine lv_ishr hx hb bc_dLen_9 ?_
  rw [sb_shr0]
  exact W.iret hx hb hr (fun t ht hW => ⟨rfl, ht⟩) (fun _ h => by cases h) bc_dLen_10
set_option maxHeartbeats 4000000 in
set_option maxRecDepth 100000 in
theorem bc_jL1 (l : Launch) (g : bc_GG) {j i : Nat} (hj : j < 2) (hi : i < bc_lenS.getD j 0) : Met l bc_yL1 (Cond.code bc_yL1 bc_bL1 2 (some .char) :: bc_T) ({ frames := 2, cells := 0, slots := 0, locals := 80 }) (va_Pc ([.ref (bc_aV g j), .int (nI i)]) (fun U => bc_X g U U.heap)) (bc_QR (some (.int ((bc_bytS.getD j []).getD i 0)))) 0 0 (fun _ => False) := by
  refine Met.ofW (cc := bc_bL1) (maxL := 2) (ret := some .char) (by decide) rfl ?_
  intro p e s m args below meth c s₁ B hml hv
  obtain ⟨rfl, hX⟩ := hv
  have hx := B.exec
  have hb := B.bytes
  have hr := B.returns
  have hts0 := atoms_spec (ws := Cond.code bc_yL1 bc_bL1 2 (some .char) :: bc_T) B.pre
  have hts : ∀ w ∈ bc_T, w.before ([.ref (bc_aV g j), .int (nI i)] : List Value).toArray s = true := fun w h => hts0 w (List.mem_cons_of_mem _ h)
  have hown : s.vm.findClass "java/lang/StringLatin1" = some m.cls := findClass_of_methodNamed B.named
  have hlocks := B.notSynchronized
  have hS : va_S (bc_A g) s.heap s.heap [] := va_S.rf
  have hl := lv_entry ([.ref (bc_aV g j), .int (nI i)]) (n := 2) (Nat.le_of_ble_eq_true rfl)
  rw [lg_entry_eq]
  generalize (lg_sl ([.ref (bc_aV g j), .int (nI i)]) ++ List.replicate (2 - (lg_sl ([.ref (bc_aV g j), .int (nI i)])).length) Slot.unset).toArray = ls at hl ⊢
  have hl : lv_has ls 2 [(0, .ref (bc_aV g j)), (1, .int (nI i))] := hl
  have hE := hX.2.2.2.2.1.1 j hj
  have hn : bc_lenS.getD j 0 < 2 ^ 31 := by
    match j, hj with
    | 0, _ => decide +kernel
    | 1, _ => decide +kernel
  have h0 : ¬ nI i < 0 := nI_pos (by omega)
  have h1 : nI i < Int32.ofNat (bc_lenS.getD j 0) := nI_lt hi hn
  refine lv_iload_n hx hb bc_dL1_0 rfl (lv_at hl 1 rfl) ?_
  refine lv_aload_n hx hb bc_dL1_1 rfl (lv_at hl 0 rfl) ?_
  refine va_tlen hx hb hE.2.2.2 hS rfl bc_dL1_2 ?_
  refine bc_callVoid (W.runS (As := [.int (nI i), .int (Int32.ofNat (bc_lenS.getD j 0))]) (rest := []) (own := "java/lang/StringLatin1") (n := 2) ⟨hx, hb, hml, hown, hts⟩ (bc_jCkS l g h0 h1) ⟨callB_of (own := "java/lang/StringLatin1") (index := 9) 2 hts (bc_goodC bc_m79) rfl rfl rfl (hts _ bc_m4) (hts _ bc_m77) (by decide +kernel) ⟨Nat.le_of_ble_eq_true rfl, Nat.le_of_ble_eq_true rfl⟩, hts _ bc_m78⟩ ⟨fun a U g2 mk q => ⟨q.1, bc_X_same rfl q.2⟩, fun U hU hW => ⟨rfl, by show bc_X g U U.heap; rw [hU]; exact bc_X_warm hW hX⟩⟩ rfl rfl hl.1 rfl (lv_room (Nat.le_of_ble_eq_true rfl)) bc_dL1_3 ⟨Nat.le_refl 0, Nat.le_refl 0⟩) ?_
  refine W.eq (g2 := F0 m 6 ls []) rfl ?_
  refine lv_aload_n hx hb bc_dL1_6 rfl (lv_at hl 0 rfl) ?_
  refine lv_iload_n hx hb bc_dL1_7 rfl (lv_at hl 1 rfl) ?_
  refine va_tb hx hb hE.2.2.2 hS (vp_in_nI hi hn) rfl bc_dL1_8 ?_
  rw [nI_clamp (by omega)]
  refine lv_sipush (v := 255) hx hb bc_dL1_9 (by decide) ?_
  refine lv_iand hx hb bc_dL1_12 ?_
  obtain ⟨q1, q2⟩ := bc_chr hj hi
  rw [q1]
  refine lv_i2c hx hb bc_dL1_13 q2 ?_
  refine W.zret hx hb hr ?_ (fun t ht hW => ⟨rfl, ht⟩) (fun _ h => by cases h) bc_dL1_14
  exact bc_chn hj hi
set_option maxHeartbeats 4000000 in
set_option maxRecDepth 100000 in
theorem bc_jChar (l : Launch) (g : bc_GG) {j i : Nat} (hj : j < 2) (hi : i < bc_lenS.getD j 0) : Met l bc_yChar (Cond.code bc_yChar bc_bChar 2 (some .char) :: bc_T) ({ frames := 3, cells := 0, slots := 0, locals := 120 }) (va_Pc ([.ref (bc_aK g j), .int (nI i)]) (fun U => bc_X g U U.heap)) (bc_QR (some (.int ((bc_bytS.getD j []).getD i 0)))) 0 0 (fun _ => False) := by
  refine Met.ofW (cc := bc_bChar) (maxL := 2) (ret := some .char) (by decide) rfl ?_
  intro p e s m args below meth c s₁ B hml hv
  obtain ⟨rfl, hX⟩ := hv
  have hx := B.exec
  have hb := B.bytes
  have hr := B.returns
  have hts0 := atoms_spec (ws := Cond.code bc_yChar bc_bChar 2 (some .char) :: bc_T) B.pre
  have hts : ∀ w ∈ bc_T, w.before ([.ref (bc_aK g j), .int (nI i)] : List Value).toArray s = true := fun w h => hts0 w (List.mem_cons_of_mem _ h)
  have hown : s.vm.findClass "java/lang/String" = some m.cls := findClass_of_methodNamed B.named
  have hlocks := B.notSynchronized
  have hS : va_S (bc_A g) s.heap s.heap [] := va_S.rf
  have hl := lv_entry ([.ref (bc_aK g j), .int (nI i)]) (n := 2) (Nat.le_of_ble_eq_true rfl)
  rw [lg_entry_eq]
  generalize (lg_sl ([.ref (bc_aK g j), .int (nI i)]) ++ List.replicate (2 - (lg_sl ([.ref (bc_aK g j), .int (nI i)])).length) Slot.unset).toArray = ls at hl ⊢
  have hl : lv_has ls 2 [(0, .ref (bc_aK g j)), (1, .int (nI i))] := hl
  have hE := hX.2.2.2.2.1.1 j hj
  refine lv_aload_n hx hb bc_dChar_0 rfl (lv_at hl 0 rfl) ?_
  refine W.callR (r := 1) (W.runV (As := []) (rest := []) (own := "java/lang/String") (C := "java/lang/String") (n := 0) ⟨hx, hb, hml, hown, hts⟩ (bc_jIs1 l g hj) ⟨callB_of (own := "java/lang/String") (index := 492) 0 hts (bc_goodC bc_m73) rfl rfl rfl (hts _ bc_m4) (hts _ bc_m70) (by decide +kernel) ⟨Nat.le_of_ble_eq_true rfl, Nat.le_of_ble_eq_true rfl⟩, hts _ bc_m71, hts _ bc_m72⟩ ⟨fun a U g2 mk q => ⟨q.1, bc_X_same rfl q.2⟩, vk_recv hX.2.2.2.2.1 hj hS, fun U hU hW => ⟨rfl, by show bc_X g U U.heap; rw [hU]; exact bc_X_warm hW hX⟩⟩ rfl rfl hl.1 rfl (lv_room (Nat.le_of_ble_eq_true rfl)) bc_dChar_1 ⟨Nat.le_refl 0, Nat.le_refl 0⟩) ?_
  refine W.eq (g2 := F0 m 4 ls [.int 1]) rfl ?_
  refine lv_if_eq (tgt := 16) hx hb bc_dChar_4 (by decide) (fun q => absurd q (by decide)) (fun _ => ?_)
  refine lv_aload_n hx hb bc_dChar_7 rfl (lv_at hl 0 rfl) ?_
  refine vk_getf hx hb hE.2.2.1 hS hown (hts _ bc_m9015) (fun _ h => h) bc_dChar_8 ?_
  refine lv_iload_n hx hb bc_dChar_11 rfl (lv_at hl 1 rfl) ?_
  refine W.callR (r := (bc_bytS.getD j []).getD i 0) (W.runS (As := [.ref (bc_aV g j), .int (nI i)]) (rest := []) (own := "java/lang/String") (n := 2) ⟨hx, hb, hml, hown, hts⟩ (bc_jL1 l g hj hi) ⟨callB_of (own := "java/lang/String") (index := 495) 2 hts (bc_goodC bc_m76) rfl rfl rfl (hts _ bc_m5) (hts _ bc_m74) (by decide +kernel) ⟨Nat.le_of_ble_eq_true rfl, Nat.le_of_ble_eq_true rfl⟩, hts _ bc_m75⟩ ⟨fun a U g2 mk q => ⟨q.1, bc_X_same rfl q.2⟩, fun U hU hW => ⟨rfl, by show bc_X g U U.heap; rw [hU]; exact bc_X_warm hW hX⟩⟩ rfl rfl hl.1 rfl (lv_room (Nat.le_of_ble_eq_true rfl)) bc_dChar_12 ⟨Nat.le_refl 0, Nat.le_refl 0⟩) ?_
  refine W.eq (g2 := F0 m 15 ls [.int ((bc_bytS.getD j []).getD i 0)]) rfl ?_
  exact W.zret hx hb hr (bc_chn hj hi) (fun t ht hW => ⟨rfl, ht⟩) (fun _ h => by cases h) bc_dChar_15
