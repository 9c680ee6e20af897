/-! ===== walking a method: calls in passing style, joins, what is dead is forgotten ===== -/
def bc_I (K : Int → bc_H → Prop) : bc_Q := fun r h => match r with
  | some (.inl x) => K x h
  | _ => False
def bc_J (K : Int → bc_H → Prop) : bc_Q := fun r h => match r with
  | some (.inr (.inl x)) => K x h
  | _ => False
def bc_U (K : bc_H → Prop) : bc_Q := fun r h => match r with
  | none => K h
  | _ => False
def bc_B (A B : bc_H → Prop) : bc_Q := fun r h => (r = some (.inl 1) ∧ A h) ∨ (r = some (.inl 0) ∧ B h)
def bc_C (d k : Nat) (as : bc_St) (h : bc_H) (Q : bc_Q) : Prop := bc_OK true d k 0 185 (bc_pad (bc_ent as) (bc_mt k).2.2.1) [] h 185 Q
theorem bc_cC {d k : Nat} {ls : bc_L} {h : bc_H} {M : bc_Q} {G : Nat → Option bc_V → bc_H → Prop} (H : bc_OK true d k 0 185 ls [] h 185 M) (HK : ∀ r h', M r h' → G 185 r h') : ∃ (nr : Nat) (M : bc_Q), (185 ≤ nr ∧ nr ≤ 185) ∧ bc_OK true d k 0 185 ls [] h nr M ∧ ∀ r h', M r h' → G nr r h' :=
  ⟨185, M, ⟨Nat.le_refl _, Nat.le_refl _⟩, H, HK⟩
theorem bc_cI {d k : Nat} {ls : bc_L} {h : bc_H} {KK : Int → bc_H → Prop} {G : Nat → Option bc_V → bc_H → Prop} (H : bc_OK true d k 0 185 ls [] h 185 (bc_I KK)) (HK : ∀ x h', KK x h' → G 185 (some (.inl x)) h') : ∃ (nr : Nat) (M : bc_Q), (185 ≤ nr ∧ nr ≤ 185) ∧ bc_OK true d k 0 185 ls [] h nr M ∧ ∀ r h', M r h' → G nr r h' :=
  bc_cC H (fun r h' q => by
    unfold bc_I at q
    split at q
    · exact HK _ _ q
    · exact q.elim)
theorem bc_cJ {d k : Nat} {ls : bc_L} {h : bc_H} {KK : Int → bc_H → Prop} {G : Nat → Option bc_V → bc_H → Prop} (H : bc_OK true d k 0 185 ls [] h 185 (bc_J KK)) (HK : ∀ x h', KK x h' → G 185 (some (.inr (.inl x))) h') : ∃ (nr : Nat) (M : bc_Q), (185 ≤ nr ∧ nr ≤ 185) ∧ bc_OK true d k 0 185 ls [] h nr M ∧ ∀ r h', M r h' → G nr r h' :=
  bc_cC H (fun r h' q => by
    unfold bc_J at q
    split at q
    · exact HK _ _ q
    · exact q.elim)
theorem bc_cU {d k : Nat} {ls : bc_L} {h : bc_H} {KK : bc_H → Prop} {G : Nat → Option bc_V → bc_H → Prop} (H : bc_OK true d k 0 185 ls [] h 185 (bc_U KK)) (HK : ∀ h', KK h' → G 185 none h') : ∃ (nr : Nat) (M : bc_Q), (185 ≤ nr ∧ nr ≤ 185) ∧ bc_OK true d k 0 185 ls [] h nr M ∧ ∀ r h', M r h' → G nr r h' :=
  bc_cC H (fun r h' q => by
    unfold bc_U at q
    split at q
    · exact HK _ q
    · exact q.elim)
theorem bc_cB {d k : Nat} {ls : bc_L} {h : bc_H} {A B : bc_H → Prop} {G : Nat → Option bc_V → bc_H → Prop} (H : bc_OK true d k 0 185 ls [] h 185 (bc_B A B)) (H1 : ∀ h', A h' → G 185 (some (.inl 1)) h') (H0 : ∀ h', B h' → G 185 (some (.inl 0)) h') : ∃ (nr : Nat) (M : bc_Q), (185 ≤ nr ∧ nr ≤ 185) ∧ bc_OK true d k 0 185 ls [] h nr M ∧ ∀ r h', M r h' → G nr r h' :=
  bc_cC H (fun r h' q => by
    rcases q with ⟨rfl, q⟩ | ⟨rfl, q⟩
    · exact H1 _ q
    · exact H0 _ q)
theorem bc_cW {d k : Nat} {ls : bc_L} {h : bc_H} {G : Nat → Option bc_V → bc_H → Prop} (H : bc_OK true d k 0 185 ls [] h 185 (fun r h' => G 185 r h')) : ∃ (nr : Nat) (M : bc_Q), (185 ≤ nr ∧ nr ≤ 185) ∧ bc_OK true d k 0 185 ls [] h nr M ∧ ∀ r h', M r h' → G nr r h' :=
  bc_cC H (fun _ _ q => q)
theorem bc_cS {d k : Nat} {ls : bc_L} {h : bc_H} {p : Prop} {G : Nat → Option bc_V → bc_H → Prop} (hs : ∀ A B : bc_H → Prop, (p → A h) ∧ (¬ p → B h) → bc_OK true d k 0 185 ls [] h 185 (bc_B A B)) (H1 : p → G 185 (some (.inl 1)) h) (H0 : ¬ p → G 185 (some (.inl 0)) h) : ∃ (nr : Nat) (M : bc_Q), (185 ≤ nr ∧ nr ≤ 185) ∧ bc_OK true d k 0 185 ls [] h nr M ∧ ∀ r h', M r h' → G nr r h' :=
  bc_cB (hs (fun h' => G 185 (some (.inl 1)) h') (fun h' => G 185 (some (.inl 0)) h') ⟨H1, H0⟩) (fun _ q => q) (fun _ q => q)
theorem bc_gx {d k pc : Nat} (ls : bc_L) (st : bc_St) (h : bc_H) {Q : bc_Q} (is : List Instr) (e : (bc_code k).drop pc = is) (hx : bc_seg true (bc_OK true) d k 185 Q is 185 ls st h) : bc_OK true d k pc 185 ls st h 185 Q := bc_go is e hx
theorem bc_un {ph : Bool} {d k pc np : Nat} {ls : bc_L} {st : bc_St} {h : bc_H} {nq : Nat} {Q : bc_Q} (hx : bc_OK ph d k pc np ls st h nq Q) : bc_seg ph (bc_OK ph) d k nq Q ((bc_code k).drop pc) np ls st h :=
  hx (fun d k pc np ls st h nq Q => bc_seg ph (bc_OK ph) d k nq Q ((bc_code k).drop pc) np ls st h) (fun _ _ _ _ _ _ _ _ _ q => bc_seg_mono (fun _ _ _ _ _ _ _ _ _ q => bc_ok q) _ _ _ _ _ q)
theorem bc_ifp {c : Prop} [Decidable c] {a b : Int} (P : Int → Prop) (hc : c) (H : P (if c then a else b)) : P a := by rwa [if_pos hc] at H
theorem bc_ifx {c : Prop} [Decidable c] {a b : Int} (P : Int → Prop) (hc : ¬ c) (H : P (if c then a else b)) : P b := by rwa [if_neg hc] at H
/-! what is dead is forgotten -/
def bc_le (ls ls' : bc_L) : Prop := ∀ n v, bc_lget ls n = some v → bc_lget ls' n = some v
theorem bc_le_refl (ls : bc_L) : bc_le ls ls := fun _ _ h => h
theorem bc_le_nil (ls : bc_L) : bc_le [] ls := fun n v h => by cases n <;> cases h
theorem bc_le_no {l l' : bc_L} {b : Option bc_V} (h : bc_le l l') : bc_le (none :: l) (b :: l')
  | 0, _, q => by cases q
  | n + 1, v, q => h n v q
theorem bc_le_so {l l' : bc_L} {a : Option bc_V} (h : bc_le l l') : bc_le (a :: l) (a :: l')
  | 0, _, q => q
  | n + 1, v, q => h n v q
theorem bc_lget_cl2 {l : bc_L} {n j : Nat} {w : bc_V} (h : bc_lget l j = some w) (h2 : ¬ (j + 1 = n ∧ ∃ x, w = .inr (.inl x))) : bc_lget (bc_cl l n) j = some w := by
  cases n with
  | zero => exact h
  | succ n =>
    simp only [bc_cl]
    split
    · rename_i x q
      rw [bc_lget_set]
      by_cases e : j = n
      · subst e
        rw [q] at h
        cases h
        exact absurd ⟨rfl, _, rfl⟩ h2
      · rw [if_neg e]; exact h
    · exact h
theorem bc_le_cl {ls ls' : bc_L} (hl : bc_le ls ls') (n : Nat) : bc_le (bc_cl ls n) (bc_cl ls' n) := fun j w q => by
  obtain ⟨h1, h2⟩ := bc_lget_cl q
  exact bc_lget_cl2 (hl _ _ h1) h2
theorem bc_le_set {ls ls' : bc_L} (hl : bc_le ls ls') (n : Nat) (v : Option bc_V) : bc_le (bc_lset ls n v) (bc_lset ls' n v) := fun j w q => by
  rw [bc_lget_set] at q ⊢
  split
  · rename_i e; rw [if_pos e] at q; exact q
  · rename_i e; rw [if_neg e] at q; exact hl _ _ q
def bc_nl (i : Instr) : Prop := match i with
  | .iload _ => False | .lload _ => False | .aload _ => False | .istore _ => False | .lstore _ => False | .astore _ => False | .iinc _ _ => False
  | _ => True
set_option maxHeartbeats 4000000 in
theorem bc_s1_nl {ph : Bool} (i : Instr) (hi : bc_nl i) (st : bc_St) (h : bc_H) (ls : bc_L) : bc_s1 ph i ls st h = ((bc_s1 ph i [] st h).map (fun x => (x.1, x.2.2))).map (fun x => (x.1, ls, x.2)) := by
  cases i
  all_goals first
    | rfl
    | exact hi.elim
    | (simp only [bc_s1, bc_bt, bc_b0, bc_b1, bc_b2, bc_b3, bc_b4, bc_b5, bc_b6]; repeat' (first | rfl | split))
theorem bc_wp_le {x : Option (bc_G × bc_St × bc_H)} {ls ls' : bc_L} (hl : bc_le ls ls') {K K' : bc_L → bc_St → bc_H → Prop} (hK : ∀ a a' st h, bc_le a a' → K a st h → K' a' st h) (hx : bc_wp (x.map (fun x => (x.1, ls, x.2))) K) : bc_wp (x.map (fun x => (x.1, ls', x.2))) K' := by
  match x, hx with
  | none, hx => exact hx
  | some (none, st, h), hx => exact hK _ _ _ _ hl hx
  | some (some g, st, h), hx => exact ⟨hx.1, hK _ _ _ _ hl hx.2⟩
theorem bc_s1_le {ph : Bool} {ls ls' : bc_L} (hl : bc_le ls ls') (i : Instr) (st : bc_St) (h : bc_H) {K K' : bc_L → bc_St → bc_H → Prop} (hK : ∀ a a' st h, bc_le a a' → K a st h → K' a' st h) (hx : bc_wp (bc_s1 ph i ls st h) K) : bc_wp (bc_s1 ph i ls' st h) K' := by
  by_cases hn : bc_nl i
  · rw [bc_s1_nl i hn] at hx ⊢
    exact bc_wp_le hl hK hx
  · cases i with
    | iload n =>
      simp only [bc_s1] at hx ⊢
      split at hx
      · rename_i q; rw [hl _ _ q]; exact hK _ _ _ _ hl hx
      · exact hx.elim
    | lload n =>
      simp only [bc_s1] at hx ⊢
      split at hx
      · rename_i q; rw [hl _ _ q]; exact hK _ _ _ _ hl hx
      · exact hx.elim
    | aload n =>
      simp only [bc_s1] at hx ⊢
      split at hx
      · rename_i q; rw [hl _ _ q]; exact hK _ _ _ _ hl hx
      · exact hx.elim
    | iinc n v =>
      simp only [bc_s1] at hx ⊢
      split at hx
      · rename_i q; rw [hl _ _ q]; exact hK _ _ _ _ (bc_le_set (bc_le_cl hl _) _ _) hx
      · exact hx.elim
    | istore n =>
      simp only [bc_s1] at hx ⊢
      split at hx
      · exact hK _ _ _ _ (bc_le_set (bc_le_cl hl _) _ _) hx
      · exact hx.elim
    | lstore n =>
      simp only [bc_s1] at hx ⊢
      split at hx
      · exact hK _ _ _ _ (bc_le_set (bc_le_set (bc_le_cl hl _) _ _) _ _) hx
      · exact hx.elim
    | astore n =>
      simp only [bc_s1] at hx ⊢
      split at hx
      · exact hK _ _ _ _ (bc_le_set (bc_le_cl hl _) _ _) hx
      · exact hx.elim
    | _ => exact absurd trivial hn
theorem bc_seg_le {ph : Bool} {P P' : bc_P} (hP : ∀ d k pc np ls ls' st h nq Q, bc_le ls ls' → P d k pc np ls st h nq Q → P' d k pc np ls' st h nq Q) {d k nq : Nat} {Q : bc_Q} :
    ∀ (is : List Instr) (np : Nat) (ls ls' : bc_L) (st : bc_St) (h : bc_H), bc_le ls ls' → bc_seg ph P d k nq Q is np ls st h → bc_seg ph P' d k nq Q is np ls' st h := by
  intro is
  induction is with
  | nil => intro np ls ls' st h _ hx; exact hx
  | cons i is ih =>
    intro np ls ls' st h hl hx
    unfold bc_seg at hx ⊢
    split at hx
    all_goals first
      | exact hP _ _ _ _ _ _ _ _ _ _ hl hx
      | exact bc_cal_mono (fun _ _ _ _ _ _ _ _ _ q => hP _ _ _ _ _ _ _ _ _ _ (bc_le_refl _) q) (fun _ _ _ q => ih _ _ _ _ _ hl q) hx
      | exact bc_s1_le hl _ _ _ (fun _ _ _ _ a q => ih _ _ _ _ _ a q) hx
      | exact hx
      | (split at hx
         all_goals first
           | exact hx
           | exact ⟨fun e => hP _ _ _ _ _ _ _ _ _ _ hl (hx.1 e), fun e => ih _ _ _ _ _ hl (hx.2 e)⟩
           | exact bc_sw_mono (fun _ q => hP _ _ _ _ _ _ _ _ _ _ hl q) _ hx
           | exact ⟨hx.1, ih _ _ _ _ _ hl hx.2⟩)
theorem bc_fg {ph : Bool} {d k pc np : Nat} {ls ls' : bc_L} {st : bc_St} {h : bc_H} {nq : Nat} {Q : bc_Q} (hl : bc_le ls ls') (hx : bc_OK ph d k pc np ls st h nq Q) : bc_OK ph d k pc np ls' st h nq Q :=
  hx (fun d k pc np ls st h nq Q => ∀ ls', bc_le ls ls' → bc_OK ph d k pc np ls' st h nq Q) (fun _ _ _ _ _ _ _ _ _ q ls' hl => bc_ok (bc_seg_le (fun _ _ _ _ _ _ _ _ _ _ hl q => q _ hl) _ _ _ _ _ _ hl q)) ls' hl
theorem bc_rB {v : Int} {A B : bc_H → Prop} {h : bc_H} (H : (v = 1 → A h) ∧ (v = 0 → B h) ∧ (v = 0 ∨ v = 1)) : (v = 0 ∨ v = 1) ∧ bc_B A B (some (.inl v)) h := by
  refine ⟨H.2.2, ?_⟩
  rcases H.2.2 with rfl | rfl
  · exact Or.inr ⟨rfl, H.2.1 rfl⟩
  · exact Or.inl ⟨rfl, H.1 rfl⟩
theorem bc_lcy {c : ClassFile.Cond} {a b : Int} (h : bc_yes c (bc_lcmp a b) 0) : bc_yes c a b := by
  unfold bc_lcmp at h
  cases c <;> simp only [bc_yes] at h ⊢ <;> (split at h) <;> (try split at h) <;> omega
theorem bc_lcn {c : ClassFile.Cond} {a b : Int} (h : bc_not c (bc_lcmp a b) 0) : bc_not c a b := by
  unfold bc_lcmp at h
  cases c <;> simp only [bc_not] at h ⊢ <;> (split at h) <;> (try split at h) <;> omega
theorem bc_let {p g : Prop} (H : p) (f : p → g) : g := f H
theorem bc_al (G P : bc_H → Prop) (m : bc_H) (H : ∀ hN, hN = m → P hN) (f : ∀ hN, P hN → G hN) : G m := f m (H m rfl)
