/-! ===== runs that have no choice: the small machine as a program ===== -/
def bc_dyes (c : ClassFile.Cond) (a b : Int) : Decidable (bc_yes c a b) := match c with
  | .eq => (inferInstance : Decidable (a = b)) | .ne => (inferInstance : Decidable (a ≠ b)) | .lt => (inferInstance : Decidable (a < b)) | .ge => (inferInstance : Decidable (b ≤ a)) | .gt => (inferInstance : Decidable (b < a)) | .le => (inferInstance : Decidable (a ≤ b))
theorem bc_yn {c : ClassFile.Cond} {a b : Int} (h : bc_yes c a b) : ¬ bc_not c a b := by
  cases c <;> simp only [bc_yes, bc_not] at h ⊢ <;> omega
theorem bc_ny {c : ClassFile.Cond} {a b : Int} (h : ¬ bc_yes c a b) : bc_not c a b := by
  cases c <;> simp only [bc_yes, bc_not] at h ⊢ <;> omega
abbrev bc_Z : Type := Option (Option bc_V × Nat × bc_H)
def bc_xw (x : Option (bc_G × bc_L × bc_St × bc_H)) (K : bc_L → bc_St → bc_H → bc_Z) : bc_Z := match x with
  | some (none, ls, st, h) => K ls st h
  | some (some g, ls, st, h) => match g.2 with
    | .isTrue _ => K ls st h
    | .isFalse _ => none
  | none => none
def bc_xc (call : Nat → Nat → bc_L → bc_Z) (go : Nat → bc_St → bc_H → bc_Z) (vt : Bool) (d n : Nat) (st : bc_St) : bc_Z := match d, bc_take (bc_mt n).1 st [] with
  | d + 1, some (as, st) => match bc_cg vt n as st with
    | true => match call d n (bc_pad (bc_ent as) (bc_mt n).2.2.1) with
      | some (r, nr, h) => go nr (bc_psh r st) h
      | none => none
    | false => none
  | _, _ => none
def bc_xr (k np : Nat) (v : Option bc_V) (h : bc_H) : bc_Z := match (bc_mt k).2.1, v with
  | 0, none => some (none, np, h)
  | 1, some (.inl x) => some (some (.inl x), np, h)
  | 2, some (.inr (.inl x)) => some (some (.inr (.inl x)), np, h)
  | _, _ => none
def bc_x : Nat → Nat → Nat → List Instr → Nat → bc_L → bc_St → bc_H → bc_Z
  | 0, _, _, _, _, _, _, _ => none
  | f + 1, d, k, is, np, ls, st, h => match is with
    | [] => none
    | i :: is => match i with
      | .goto t => bc_x f d k ((bc_code k).drop t.toNat) np ls st h
      | .ifCond c t => match st with
        | .inl a :: st => match bc_dyes c a 0 with
          | .isTrue _ => bc_x f d k ((bc_code k).drop t.toNat) np ls st h
          | .isFalse _ => bc_x f d k is np ls st h
        | _ => none
      | .if_icmp c t => match st with
        | .inl b :: .inl a :: st => match bc_dyes c a b with
          | .isTrue _ => bc_x f d k ((bc_code k).drop t.toNat) np ls st h
          | .isFalse _ => bc_x f d k is np ls st h
        | _ => none
      | .lookupswitch _ _ => none
      | .ireturn => match st with
        | [.inl x] => bc_xr k np (some (.inl x)) h
        | _ => none
      | .lreturn => none
      | .return_ => match st with
        | [] => bc_xr k np none h
        | _ => none
      | .invokestatic n => bc_xc (fun d n ls => bc_x f d n (bc_code n) np ls [] h) (fun nr st h => bc_x f d k is nr ls st h) false d n st
      | .invokevirtual n => bc_xc (fun d n ls => bc_x f d n (bc_code n) np ls [] h) (fun nr st h => bc_x f d k is nr ls st h) true d n st
      | .invokespecial n => bc_xc (fun d n ls => bc_x f d n (bc_code n) np ls [] h) (fun nr st h => bc_x f d k is nr ls st h) true d n st
      | .new c => match bc_SH[np]? with
        | some (0, c2) => match Nat.beq c c2 with
          | true => bc_x f d k is (np + 1) ls (.inr (.inr ((0, c), (np : Int))) :: st) (bc_new h np (0, c))
          | false => none
        | _ => none
      | .newarray a => match st, bc_SH[np]? with
        | .inl n :: st, some (b, m) => match Nat.beq b (bc_ak a), (inferInstance : Decidable (n = (m : Int))) with
          | true, .isTrue _ => bc_x f d k is (np + 1) ls (.inr (.inr ((b, m), (np : Int))) :: st) (bc_new h np (b, m))
          | _, _ => none
        | _, _ => none
      | .anewarray c => match st, bc_SH[np]? with
        | .inl n :: st, some (b, m) => match Nat.beq b (c + 3), (inferInstance : Decidable (n = (m : Int))) with
          | true, .isTrue _ => bc_x f d k is (np + 1) ls (.inr (.inr ((b, m), (np : Int))) :: st) (bc_new h np (b, m))
          | _, _ => none
        | _, _ => none
      | i => bc_xw (bc_s1 false i ls st h) (fun ls st h => bc_x f d k is np ls st h)
def bc_E (v : Option bc_V) (h : bc_H) : bc_Q := fun v' h' => v' = v ∧ h' = h
theorem bc_xw_in {x : Option (bc_G × bc_L × bc_St × bc_H)} {K : bc_L → bc_St → bc_H → bc_Z} {r : Option bc_V × Nat × bc_H} (hx : bc_xw x K = some r) {C : bc_L → bc_St → bc_H → Prop} {m : Prop} (hm : ∀ ls st h, K ls st h = some r → m ∧ C ls st h) : m ∧ bc_wp x C := by
  unfold bc_xw at hx
  unfold bc_wp
  split at hx
  · exact hm _ _ _ hx
  · split at hx
    · rename_i hg _
      exact ⟨(hm _ _ _ hx).1, hg, (hm _ _ _ hx).2⟩
    · cases hx
  · cases hx
theorem bc_xr_in {k np nr : Nat} {v v' : Option bc_V} {h h' : bc_H} (hx : bc_xr k np v h = some (v', nr, h')) : np = nr ∧ bc_rt k nr np (bc_E v' h') v h := by
  unfold bc_xr at hx
  split at hx
  · rename_i q
    cases hx
    refine ⟨rfl, ?_⟩
    unfold bc_rt
    rw [q, show Nat.beq np np = true from Nat.beq_refl np]
    exact ⟨rfl, rfl⟩
  · rename_i q
    cases hx
    refine ⟨rfl, ?_⟩
    unfold bc_rt
    rw [q, show Nat.beq np np = true from Nat.beq_refl np]
    exact ⟨rfl, rfl⟩
  · rename_i q
    cases hx
    refine ⟨rfl, ?_⟩
    unfold bc_rt
    rw [q, show Nat.beq np np = true from Nat.beq_refl np]
    exact ⟨rfl, rfl⟩
  · cases hx
theorem bc_x_ok : ∀ (f d k : Nat) (is : List Instr) (np : Nat) (ls : bc_L) (st : bc_St) (h : bc_H) (v : Option bc_V) (nr : Nat) (h' : bc_H), bc_x f d k is np ls st h = some (v, nr, h') → np ≤ nr ∧ bc_seg false (bc_OK false) d k nr (bc_E v h') is np ls st h := by
  intro f
  induction f with
  | zero => intro d k is np ls st h v nr h' hx; cases hx
  | succ f ih =>
    intro d k is np ls st h v nr h' hx
    have hcall : ∀ (vt : Bool) (n : Nat) (is : List Instr), bc_xc (fun d n ls => bc_x f d n (bc_code n) np ls [] h) (fun nr st h => bc_x f d k is nr ls st h) vt d n st = some (v, nr, h') → np ≤ nr ∧ bc_cal (bc_OK false) vt d n nr np st h (fun n2 st h => bc_seg false (bc_OK false) d k nr (bc_E v h') is n2 ls st h) := by
      intro vt n is hx
      unfold bc_xc at hx
      unfold bc_cal
      cases d with
      | zero => cases hx
      | succ d =>
        cases htk : bc_take (bc_mt n).1 st [] with
        | none => rw [htk] at hx; cases hx
        | some q =>
          obtain ⟨as, st'⟩ := q
          rw [htk] at hx
          dsimp only at hx ⊢
          cases hcg : bc_cg vt n as st' with
          | false => rw [hcg] at hx; cases hx
          | true =>
            rw [hcg] at hx
            dsimp only at hx ⊢
            split at hx
            · rename_i r n1 h1 hc
              obtain ⟨a1, a2⟩ := ih _ _ _ _ _ _ _ _ _ _ hc
              obtain ⟨b1, b2⟩ := ih _ _ _ _ _ _ _ _ _ _ hx
              exact ⟨Nat.le_trans a1 b1, n1, bc_E r h1, ⟨a1, b1⟩, bc_ok (by unfold bc_F; rw [List.drop_zero]; exact a2), fun r' h2 q => by obtain ⟨rfl, rfl⟩ := q; exact b2⟩
            · cases hx
    cases is with
    | nil => cases hx
    | cons i is =>
      cases i with
      | goto t =>
        have hx : bc_x f d k ((bc_code k).drop t.toNat) np ls st h = some (v, nr, h') := hx
        obtain ⟨a1, a2⟩ := ih _ _ _ _ _ _ _ _ _ _ hx
        exact ⟨a1, bc_ok a2⟩
      | ifCond c t =>
        simp only [bc_x] at hx
        split at hx
        · split at hx
          · rename_i hy _
            obtain ⟨a1, a2⟩ := ih _ _ _ _ _ _ _ _ _ _ hx
            refine ⟨a1, ?_⟩
            exact And.intro (fun _ => bc_ok a2) (fun q => absurd q (bc_yn hy))
          · rename_i hy _
            obtain ⟨a1, a2⟩ := ih _ _ _ _ _ _ _ _ _ _ hx
            refine ⟨a1, ?_⟩
            exact And.intro (fun q => absurd q hy) (fun _ => a2)
        · cases hx
      | if_icmp c t =>
        simp only [bc_x] at hx
        split at hx
        · split at hx
          · rename_i hy _
            obtain ⟨a1, a2⟩ := ih _ _ _ _ _ _ _ _ _ _ hx
            refine ⟨a1, ?_⟩
            exact And.intro (fun _ => bc_ok a2) (fun q => absurd q (bc_yn hy))
          · rename_i hy _
            obtain ⟨a1, a2⟩ := ih _ _ _ _ _ _ _ _ _ _ hx
            refine ⟨a1, ?_⟩
            exact And.intro (fun q => absurd q hy) (fun _ => a2)
        · cases hx
      | lookupswitch t ps => cases hx
      | ireturn =>
        simp only [bc_x] at hx
        split at hx
        · obtain ⟨rfl, a2⟩ := bc_xr_in hx
          exact ⟨Nat.le_refl _, a2⟩
        · cases hx
      | lreturn => cases hx
      | return_ =>
        simp only [bc_x] at hx
        split at hx
        · obtain ⟨rfl, a2⟩ := bc_xr_in hx
          exact ⟨Nat.le_refl _, a2⟩
        · cases hx
      | invokestatic n => exact hcall false n is hx
      | invokevirtual n => exact hcall true n is hx
      | invokespecial n => exact hcall true n is hx
      | new c =>
        simp only [bc_x] at hx
        split at hx
        · rename_i hsh
          split at hx
          · rename_i hc
            obtain ⟨a1, a2⟩ := ih _ _ _ _ _ _ _ _ _ _ hx
            have hc := Nat.eq_of_beq_eq_true hc
            simp only [bc_seg, hsh]
            exact ⟨by omega, ⟨hc, a1⟩, a2⟩
          · cases hx
        · cases hx
      | newarray a =>
        simp only [bc_x] at hx
        split at hx
        · rename_i hsh
          split at hx
          · rename_i hn hc _
            obtain ⟨a1, a2⟩ := ih _ _ _ _ _ _ _ _ _ _ hx
            have hc := Nat.eq_of_beq_eq_true hc
            simp only [bc_seg, hsh]
            exact ⟨by omega, ⟨⟨hc, hn⟩, a1⟩, a2⟩
          · cases hx
        · cases hx
      | anewarray c =>
        simp only [bc_x] at hx
        split at hx
        · rename_i hsh
          split at hx
          · rename_i hn hc _
            obtain ⟨a1, a2⟩ := ih _ _ _ _ _ _ _ _ _ _ hx
            have hc := Nat.eq_of_beq_eq_true hc
            simp only [bc_seg, hsh]
            exact ⟨by omega, ⟨⟨hc, hn⟩, a1⟩, a2⟩
          · cases hx
        · cases hx
      | iconst n =>
        have hx : bc_x f d k is np ls (.inl n :: st) h = some (v, nr, h') := hx
        have q := ih _ _ _ _ _ _ _ _ _ _ hx
        exact q
      | ldc n =>
        have hx : bc_x f d k is np ls (.inr (.inr ((8, n), -10)) :: st) h = some (v, nr, h') := hx
        have q := ih _ _ _ _ _ _ _ _ _ _ hx
        exact q
      | sipush n =>
        have hx : bc_x f d k is np ls (.inr (.inl n) :: st) h = some (v, nr, h') := hx
        have q := ih _ _ _ _ _ _ _ _ _ _ hx
        exact q
      | _ => first | exact bc_xw_in hx (fun ls st h q => ih _ _ _ _ _ _ _ _ _ _ q) | cases hx
/-- a whole method, run -/
theorem bc_x_run {f d k np nr : Nat} {ls : bc_L} {h h' : bc_H} {v : Option bc_V} (hx : bc_x f d k (bc_code k) np ls [] h = some (v, nr, h')) : np ≤ nr ∧ bc_OK false d k 0 np ls [] h nr (bc_E v h') := by
  obtain ⟨a1, a2⟩ := bc_x_ok _ _ _ _ _ _ _ _ _ _ _ hx
  exact ⟨a1, bc_ok (by unfold bc_F; rw [List.drop_zero]; exact a2)⟩
