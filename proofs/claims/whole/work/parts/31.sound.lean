section BCS
variable {g : bc_GG} {ph : Bool} {p : Program} {l : Launch} {e : Env} {R : Room} {s : State} {m : MethodId} {args : Array Value} {below : List Frame} {meth : Method} {c : Code} {Z : State → Prop} {d k nq mc ms n0 : Nat} {ad0 : Nat → Nat} {idx np : Nat} {ls : bc_L} {st : bc_St} {h : bc_H}
theorem bc_plain (hC : bc_Cx g p s m args meth c k) (hRm : 8 ≤ R.frames ∧ 400 ≤ R.locals) (hcs : mc ≤ R.cells ∧ ms ≤ R.slots) {i : Instr} (hi : (bc_code k)[idx]? = some i) (hx : bc_wp (bc_s1 ph i ls st h) (fun ls st h => bc_At g ph p l e R s m args below meth c Z k nq mc ms n0 ad0 (idx + 1) np ls st h)) : bc_At g ph p l e R s m args below meth c Z k nq mc ms n0 ad0 idx np ls st h := by
  cases i with
  | iadd => exact bc_o_iadd hC hi hx
  | isub => exact bc_o_isub hC hi hx
  | imul => exact bc_o_imul hC hi hx
  | iand => exact bc_o_iand hC hi hx
  | ior => exact bc_o_ior hC hi hx
  | ixor => exact bc_o_ixor hC hi hx
  | ishl => exact bc_o_ishl hC hi hx
  | ishr => exact bc_o_ishr hC hi hx
  | iushr => exact bc_o_iushr hC hi hx
  | idiv => exact bc_o_idiv hC hi hx
  | irem => exact bc_o_irem hC hi hx
  | ladd => exact bc_o_ladd hC hi hx
  | lsub => exact bc_o_lsub hC hi hx
  | lmul => exact bc_o_lmul hC hi hx
  | land => exact bc_o_land hC hi hx
  | lor => exact bc_o_lor hC hi hx
  | ldiv => exact bc_o_ldiv hC hi hx
  | lrem => exact bc_o_lrem hC hi hx
  | lshl => exact bc_o_lshl hC hi hx
  | lshr => exact bc_o_lshr hC hi hx
  | lushr => exact bc_o_lushr hC hi hx
  | ineg => exact bc_o_ineg hC hi hx
  | i2l => exact bc_o_i2l hC hi hx
  | l2i => exact bc_o_l2i hC hi hx
  | i2b => exact bc_o_i2b hC hi hx
  | i2s => exact bc_o_i2s hC hi hx
  | lcmp => exact bc_o_lcmp hC hi hx
  | dup => exact bc_o_dup hC hi hx
  | dup2 => exact bc_o_dup2 hC hi hx
  | pop => exact bc_o_pop hC hi hx
  | arraylength => exact bc_o_arraylength hC hi hx
  | iaload => exact bc_o_iaload hC hi hx
  | laload => exact bc_o_laload hC hi hx
  | baload => exact bc_o_baload hC hi hx
  | aaload => exact bc_o_aaload hC hi hx
  | iastore => exact bc_o_iastore hC hi hx
  | lastore => exact bc_o_lastore hC hi hx
  | bastore => exact bc_o_bastore hC hi hx
  | aastore => exact bc_o_aastore hC hi hx
  | iconst n => exact bc_o_iconst hC hi hx
  | sipush n => exact bc_o_sipush hC hi hx
  | iload n => exact bc_o_iload hC hi hx
  | lload n => exact bc_o_lload hC hi hx
  | aload n => exact bc_o_aload hC hi hx
  | istore n => exact bc_o_istore hC hi hx
  | lstore n => exact bc_o_lstore hC hi hx
  | astore n => exact bc_o_astore hC hi hx
  | ldc n => exact bc_o_ldc hC hi hx
  | getfield n => exact bc_o_getfield hC hi hx
  | putfield n => exact bc_o_putfield hC hi hx
  | iinc n q => exact bc_o_iinc hC hi hx
  | ret n =>
    match n with
    | 0 => exact bc_o_ret0 hC hRm hi hx
    | 1 => exact bc_o_ret1 hC hRm hi hx
    | 2 => exact bc_o_ret2 hC hRm hi hx hcs
    | 3 => exact bc_o_ret3 hC hRm hi hx hcs
    | 4 => exact bc_o_ret4 hC hRm hi hx hcs
    | 5 => exact bc_o_ret5 hC hRm hi hx hcs
    | 6 => exact bc_o_ret6 hC hRm hi hx hcs
    | n + 7 =>
      simp only [bc_s1] at hx
      cases hcat : Nat.ble (bc_cat st) (bc_lim (n + 7)) with
      | false => rw [hcat] at hx; exact False.elim hx
      | true => rw [hcat] at hx; exact False.elim hx
  | _ => exact False.elim hx
end BCS
theorem bc_walk {g : bc_GG} {ph : Bool} (hall : ∀ n, (0 < n ∧ n < 362) → ¬ (357 < n ∧ n < 361) → bc_ckM n = true ∧ bc_cc n ∈ bc_T) {d k nq : Nat} {Q : bc_Q} {p : Program} {l : Launch} {e : Env} {R : Room} {s : State} {m : MethodId} {args : Array Value} {below : List Frame} {meth : Method} {c : Code} {Z : State → Prop} {mc ms n0 : Nat} {ad0 : Nat → Nat}
    (hC : bc_Cx g p s m args meth c k) (hRm : d + 8 ≤ R.frames ∧ 50 * d + 400 ≤ R.locals) (hcs : mc ≤ R.cells ∧ ms ≤ R.slots) (hr : bc_Hr g ph p l e R s m args below meth c Z k nq mc ms n0 ad0 Q) (tl : List Instr) (ie : Nat)
    (htl : ∀ np ls st h, bc_seg ph (bc_Snd g ph) d k nq Q tl np ls st h → bc_At g ph p l e R s m args below meth c Z k nq mc ms n0 ad0 ie np ls st h) :
    ∀ (is : List Instr) (idx np : Nat) (ls : bc_L) (st : bc_St) (h : bc_H), (∀ n i, is[n]? = some i → (bc_code k)[idx + n]? = some i) → ie = idx + is.length → bc_seg ph (bc_Snd g ph) d k nq Q (is ++ tl) np ls st h → bc_At g ph p l e R s m args below meth c Z k nq mc ms n0 ad0 idx np ls st h := by
  have J : ∀ t np ls st h, bc_Snd g ph d k t np ls st h nq Q → bc_At g ph p l e R s m args below meth c Z k nq mc ms n0 ad0 t np ls st h := fun t np ls st h q => q p l e R s m args below meth c Z mc ms n0 ad0 hC hRm hcs hr
  intro is
  induction is with
  | nil => intro idx np ls st h _ he hx; subst he; exact htl _ _ _ _ hx
  | cons i is ih =>
    intro idx np ls st h hcd he hx
    have hi : (bc_code k)[idx]? = some i := hcd 0 i rfl
    have hcd' : ∀ n i, is[n]? = some i → (bc_code k)[idx + 1 + n]? = some i := fun n i q => by
      have := hcd (n + 1) i q
      rwa [show idx + (n + 1) = idx + 1 + n by omega] at this
    have he' : ie = idx + 1 + is.length := by rw [he, List.length_cons]; omega
    have ih' := fun np ls st h q => ih (idx + 1) np ls st h hcd' he' q
    rw [List.cons_append] at hx
    unfold bc_seg at hx
    split at hx
    · exact bc_o_goto hC hi (J _ _ _ _ _ hx)
    · split at hx
      · exact bc_o_if hC hi (fun z => J _ _ _ _ _ (hx.1 z)) (fun z => ih' _ _ _ _ (hx.2 z))
      · exact hx.elim
    · split at hx
      · exact bc_o_icmp hC hi (fun z => J _ _ _ _ _ (hx.1 z)) (fun z => ih' _ _ _ _ (hx.2 z))
      · exact hx.elim
    · split at hx
      · exact bc_o_switch hC hi (bc_sw_mono (fun t q => J t _ _ _ _ q) _ hx)
      · exact hx.elim
    · split at hx
      · exact bc_o_rt hC hi rfl (fun _ _ _ _ _ _ => rfl) rfl hr hx
      · exact hx.elim
    · split at hx
      · exact bc_o_rt hC hi rfl (fun _ _ _ _ _ _ => rfl) rfl hr hx
      · exact hx.elim
    · split at hx
      · exact bc_o_rt hC hi rfl (fun _ _ _ _ _ _ => rfl) rfl hr hx
      · exact hx.elim
    · exact bc_o_static hall hC hRm hcs hi (bc_cal_mono (fun _ _ _ _ _ _ _ _ _ q => q) (fun n st h q => ih' n _ st h q) hx)
    · exact bc_o_virtual hall hC hRm hcs hi (bc_cal_mono (fun _ _ _ _ _ _ _ _ _ q => q) (fun n st h q => ih' n _ st h q) hx)
    · exact bc_o_special hall hC hRm hcs hi (bc_cal_mono (fun _ _ _ _ _ _ _ _ _ q => q) (fun n st h q => ih' n _ st h q) hx)
    · split at hx
      · rename_i hsh
        obtain ⟨⟨rfl, h2⟩, h3⟩ := hx
        exact bc_o_new hC hcs hi hsh h2 (ih' _ _ _ _ h3)
      · exact hx.elim
    · split at hx
      · rename_i hsh
        obtain ⟨⟨⟨h1, rfl⟩, h2⟩, h3⟩ := hx
        exact bc_o_newarray hC hcs hi hsh h2 h1 (ih' _ _ _ _ h3)
      · exact hx.elim
    · split at hx
      · rename_i hsh
        obtain ⟨⟨⟨h1, rfl⟩, h2⟩, h3⟩ := hx
        exact bc_o_anewarray hC hcs hi hsh h2 h1 (ih' _ _ _ _ h3)
      · exact hx.elim
    · exact bc_plain hC ⟨by omega, by omega⟩ hcs hi (bc_wp_mono (fun _ _ _ q => ih' _ _ _ _ q) hx)
theorem bc_step {g : bc_GG} {ph : Bool} (hall : ∀ n, (0 < n ∧ n < 362) → ¬ (357 < n ∧ n < 361) → bc_ckM n = true ∧ bc_cc n ∈ bc_T) {d k pc np : Nat} {ls : bc_L} {st : bc_St} {h : bc_H} {nq : Nat} {Q : bc_Q} (hx : bc_F ph (bc_Snd g ph) d k pc np ls st h nq Q) : bc_Snd g ph d k pc np ls st h nq Q := by
  intro p l e R s m args below meth c Z mc ms n0 ad0 hC hRm hcs hr
  refine bc_walk hall hC hRm hcs hr [] (pc + ((bc_code k).drop pc).length) (fun np ls st h q => q.elim) ((bc_code k).drop pc) pc np ls st h (fun n i q => ?_) rfl ?_
  · rw [List.getElem?_drop] at q
    exact q
  · rw [List.append_nil]
    exact hx
/-- what the small machine says is so of the JVM -/
theorem bc_sound {g : bc_GG} {ph : Bool} (hall : ∀ n, (0 < n ∧ n < 362) → ¬ (357 < n ∧ n < 361) → bc_ckM n = true ∧ bc_cc n ∈ bc_T) {d k pc np : Nat} {ls : bc_L} {st : bc_St} {h : bc_H} {nq : Nat} {Q : bc_Q} (hx : bc_OK ph d k pc np ls st h nq Q) : bc_Snd g ph d k pc np ls st h nq Q :=
  hx (bc_Snd g ph) (fun _ _ _ _ _ _ _ _ _ q => bc_step hall q)
