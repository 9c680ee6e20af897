/-- what is so from a point on: the least predicate of points that is closed under 'bc_seg' -/
def bc_F (ph : Bool) (P : bc_P) : bc_P := fun d k pc np ls st h nq Q => bc_seg ph P d k nq Q ((bc_code k).drop pc) np ls st h
def bc_OK (ph : Bool) : bc_P := fun d k pc np ls st h nq Q => ∀ P : bc_P, (∀ d k pc np ls st h nq Q, bc_F ph P d k pc np ls st h nq Q → P d k pc np ls st h nq Q) → P d k pc np ls st h nq Q
theorem bc_wp_mono {x : Option (bc_G × bc_L × bc_St × bc_H)} {K K' : bc_L → bc_St → bc_H → Prop} (hK : ∀ ls st h, K ls st h → K' ls st h) (hx : bc_wp x K) : bc_wp x K' := by
  unfold bc_wp at hx ⊢
  split at hx
  · exact hK _ _ _ hx
  · exact ⟨hx.1, hK _ _ _ hx.2⟩
  · exact hx
theorem bc_sw_mono {J J' : Nat → Prop} (hJ : ∀ t, J t → J' t) {x : Int} {d : Nat} : ∀ l, bc_sw J x d l → bc_sw J' x d l
  | [], h => hJ _ h
  | (v, t) :: l, h => ⟨fun e => hJ _ (h.1 e), fun e => bc_sw_mono hJ l (h.2 e)⟩
theorem bc_cal_mono {P P' : bc_P} (hP : ∀ d k pc np ls st h nq Q, P d k pc np ls st h nq Q → P' d k pc np ls st h nq Q) {vt : Bool} {d k nq np : Nat} {st : bc_St} {h : bc_H} {K K' : Nat → bc_St → bc_H → Prop} (hK : ∀ n st h, K n st h → K' n st h) (hx : bc_cal P vt d k nq np st h K) : bc_cal P' vt d k nq np st h K' := by
  unfold bc_cal at hx ⊢
  split at hx
  · split at hx
    · obtain ⟨nr, M, h1, h2, h3⟩ := hx
      exact ⟨nr, M, h1, hP _ _ _ _ _ _ _ _ _ h2, fun r h' hm => hK _ _ _ (h3 r h' hm)⟩
    · exact hx
  · exact hx
theorem bc_seg_mono {ph : Bool} {P P' : bc_P} (hP : ∀ d k pc np ls st h nq Q, P d k pc np ls st h nq Q → P' d k pc np ls st h nq Q) {d k nq : Nat} {Q : bc_Q} :
    ∀ (is : List Instr) (np : Nat) (ls : bc_L) (st : bc_St) (h : bc_H), bc_seg ph P d k nq Q is np ls st h → bc_seg ph P' d k nq Q is np ls st h := by
  intro is
  induction is with
  | nil => intro np ls st h hx; exact hx
  | cons i is ih =>
    intro np ls st h hx
    unfold bc_seg at hx ⊢
    split at hx
    all_goals first
      | exact hP _ _ _ _ _ _ _ _ _ hx
      | exact bc_cal_mono hP (fun _ _ _ q => ih _ _ _ _ q) hx
      | exact bc_wp_mono (fun _ _ _ q => ih _ _ _ _ q) hx
      | exact hx
      | (split at hx
         all_goals first
           | exact hx
           | exact ⟨fun e => hP _ _ _ _ _ _ _ _ _ (hx.1 e), fun e => ih _ _ _ _ (hx.2 e)⟩
           | exact bc_sw_mono (fun _ q => hP _ _ _ _ _ _ _ _ _ q) _ hx
           | exact ⟨hx.1, ih _ _ _ _ hx.2⟩)
theorem bc_ok {ph : Bool} {d k pc np : Nat} {ls : bc_L} {st : bc_St} {h : bc_H} {nq : Nat} {Q : bc_Q} (hx : bc_F ph (bc_OK ph) d k pc np ls st h nq Q) : bc_OK ph d k pc np ls st h nq Q := by
  intro P hP
  exact hP _ _ _ _ _ _ _ _ _ (bc_seg_mono (fun _ _ _ _ _ _ _ _ _ q => q P hP) _ _ _ _ _ hx)
/-- on from here, the code at hand -/
theorem bc_go {ph : Bool} {d k pc np : Nat} {ls : bc_L} {st : bc_St} {h : bc_H} {nq : Nat} {Q : bc_Q} (is : List Instr) (e : (bc_code k).drop pc = is) (hx : bc_seg ph (bc_OK ph) d k nq Q is np ls st h) : bc_OK ph d k pc np ls st h nq Q :=
  bc_ok (by unfold bc_F; rw [e]; exact hx)
