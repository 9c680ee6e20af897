/-! ===== the small machine's code against the bytecode: what a program checks ===== -/
/-- a list's place, by the recursor alone -/
noncomputable def bc_nth {α : Type} (l : List α) : Nat → Option α := @List.rec α (fun _ => Nat → Option α) (fun _ => none) (fun a _ ih n => @Nat.rec (fun _ => Option α) (some a) (fun m _ => ih m) n) l
theorem bc_nth_e {α : Type} (l : List α) (n : Nat) : bc_nth l n = l[n]? := by
  induction l generalizing n with
  | nil => rfl
  | cons a l ih => cases n with
    | zero => rfl
    | succ n => exact ih n
noncomputable def bc_pc (k n : Nat) : Option Nat := (bc_nth (bc_pw k) n).map (·.1)
noncomputable def bc_pce (q : Nat) : List Jvm.Cond := match q with
  | 0 => tables_1_1 | 1 => tables_1_2 | 2 => tables_1_3 | 3 => tables_1_4 | 4 => tables_1_5 | 5 => tables_1_6 | 6 => tables_1_7 | 7 => tables_1_8 | 8 => tables_1_9 | 9 => tables_1_10 | _ => []
def bc_prv (q : Nat) : List (MethodName × Nat) := match q with
  | 20 => lw_privs_1 | 21 => lw_privs_2 | 22 => lw_privs_3 | 23 => lw_privs_4 | 24 => lw_privs_5 | 25 => lw_privs_6 | 26 => lw_privs_7 | 27 => lw_privs_8 | 28 => lw_privs_9 | _ => []
/-- the word of that number -/
noncomputable def bc_lk (q : Nat) : Option Jvm.Cond := match Nat.ble 20000 q with
  | false => bc_nth (bc_pce (q / 1000)) (q % 1000)
  | true => (bc_nth (bc_prv (q / 1000)) (q % 1000)).map (fun r => Cond.selects r.1.cls r.1 r.1)
theorem bc_pce_in {q : Nat} {w : Jvm.Cond} (h : w ∈ bc_pce q) : w ∈ lw_tbl := by
  unfold bc_pce at h
  unfold lw_tbl tables_1
  simp only [List.mem_append]
  split at h
  all_goals first
    | exact absurd h List.not_mem_nil
    | simp only [h, or_true, true_or]
theorem bc_prv_in {q : Nat} {r : MethodName × Nat} (h : r ∈ bc_prv q) : Cond.selects r.1.cls r.1 r.1 ∈ lw_tbl := by
  have h1 : r ∈ lw_privs := by
    unfold bc_prv at h
    unfold lw_privs
    simp only [List.mem_append]
    split at h
    all_goals first
      | exact absurd h List.not_mem_nil
      | simp only [h, or_true, true_or]
  unfold lw_tbl k2_sels
  exact List.mem_append_left _ (List.mem_map.mpr ⟨r, h1, rfl⟩)
theorem bc_lk_in {q : Nat} {w : Jvm.Cond} (h : bc_lk q = some w) : w ∈ lw_tbl := by
  unfold bc_lk at h
  split at h
  · rw [bc_nth_e] at h
    exact bc_pce_in (List.mem_of_getElem? h)
  · rw [bc_nth_e] at h
    cases hr : (bc_prv (q / 1000))[q % 1000]? with
    | none => rw [hr] at h; cases h
    | some r =>
      rw [hr] at h
      cases h
      exact bc_prv_in (List.mem_of_getElem? hr)
/-- the word at that place of a row's words, if it is that one -/
noncomputable def bc_wd (wi : List Nat) (n : Nat) (w : Jvm.Cond) : Bool := match bc_nth wi n with
  | some q => match bc_lk q with
    | some v => decide (v = w) && goodWord w
    | none => false
  | none => false
def bc_T : List Jvm.Cond := lw_tbl.filter goodWord
theorem bc_wd_in {wi : List Nat} {n : Nat} {w : Jvm.Cond} (h : bc_wd wi n w = true) : w ∈ bc_T := by
  unfold bc_wd at h
  split at h
  · split at h
    · rename_i v hv
      simp only [Bool.and_eq_true, decide_eq_true_eq] at h
      obtain ⟨rfl, h2⟩ := h
      exact List.mem_filter.mpr ⟨bc_lk_in hv, h2⟩
    · cases h
  · cases h
noncomputable def bc_to (k : Nat) (pc : Nat) (off t : Int) : Bool := decide (0 ≤ t) && match bc_pc k t.toNat with
  | some q => decide ((pc : Int) + off = (q : Int))
  | none => false
def bc_cF (c f : Nat) : String × String × String × Bool := match vwCl[c]? with
  | some q => if f < q.2.2 then q.2.1 f else ("", "", "", false)
  | none => ("", "", "", false)
/-- one row: what is decoded, and what stands in the small machine's code -/
noncomputable def bc_rel (k : Nat) (pc : Nat) (nx : Option Nat) (wi : List Nat) (j : Instr) (len : Nat) (i : Instr) : Bool :=
  match i with
  | .iconst n => decide (nx = some (pc + len)) && decide (bc_i n) && match j with
    | .iconst m => decide (m = n) && decide (len = 1)
    | .bipush m => decide ((Int8.ofInt m).toInt32 = Int32.ofInt n) && decide (len = 2)
    | .sipush m => decide ((Int16.ofInt m).toInt32 = Int32.ofInt n) && decide (len = 3)
    | .ldc q => bc_wd wi 0 (.constant (bc_mi k).1 q (Int32.ofInt n)) && decide (len = 2)
    | .ldc_w q => bc_wd wi 0 (.constant (bc_mi k).1 q (Int32.ofInt n)) && decide (len = 3)
    | _ => false
  | .sipush n => decide (nx = some (pc + len)) && decide (bc_j n) && match j with
    | .lconst f => decide (Int64.ofNat f.val = Int64.ofInt n) && decide (len = 1)
    | .ldc2_w q => bc_wd wi 0 (.constantLong (bc_mi k).1 q (Int64.ofInt n)) && decide (len = 3)
    | _ => false
  | .ldc n => decide (nx = some (pc + 2)) && decide (len = 2) && match n with
    | 0 => decide ((bc_mi k).1 = "BeastCave$Text") && decide (j = .ldc 29)
    | 1 => decide ((bc_mi k).1 = "BeastCaveModel") && decide (j = .ldc 211)
    | _ => false
  | .iload n => decide (nx = some (pc + len)) && match j with
    | .iload m => decide (m = n) && decide (len = 2)
    | .iload_n f => decide (f.val = n) && decide (len = 1)
    | _ => false
  | .lload n => decide (nx = some (pc + len)) && match j with
    | .lload m => decide (m = n) && decide (len = 2)
    | .lload_n f => decide (f.val = n) && decide (len = 1)
    | _ => false
  | .aload n => decide (nx = some (pc + len)) && match j with
    | .aload m => decide (m = n) && decide (len = 2)
    | .aload_n f => decide (f.val = n) && decide (len = 1)
    | _ => false
  | .istore n => decide (nx = some (pc + len)) && decide (n < (bc_mi k).2.2.2.1) && match j with
    | .istore m => decide (m = n) && decide (len = 2)
    | .istore_n f => decide (f.val = n) && decide (len = 1)
    | _ => false
  | .lstore n => decide (nx = some (pc + len)) && decide (n + 1 < (bc_mi k).2.2.2.1) && match j with
    | .lstore m => decide (m = n) && decide (len = 2)
    | .lstore_n f => decide (f.val = n) && decide (len = 1)
    | _ => false
  | .astore n => decide (nx = some (pc + len)) && decide (n < (bc_mi k).2.2.2.1) && match j with
    | .astore m => decide (m = n) && decide (len = 2)
    | .astore_n f => decide (f.val = n) && decide (len = 1)
    | _ => false
  | .iinc n q => decide (nx = some (pc + 3)) && decide (n < (bc_mi k).2.2.2.1) && decide (j = .iinc n q) && decide (len = 3)
  | .goto t => match j with
    | .goto off => bc_to k pc off t && decide (len = 3)
    | _ => false
  | .ifCond c t => decide (nx = some (pc + 3)) && match j with
    | .ifCond c2 off => decide (c = c2) && bc_to k pc off t && decide (len = 3)
    | _ => false
  | .if_icmp c t => decide (nx = some (pc + 3)) && match j with
    | .if_icmp c2 off => decide (c = c2) && bc_to k pc off t && decide (len = 3)
    | _ => false
  | .lookupswitch t ps => match j with
    | .tableswitch d lo hi offs => bc_to k pc d t && decide (hi = lo + offs.size - 1) && (List.range offs.size).all (fun n => match offs[n]? with
        | some off => match ps.toList.find? (fun q => q.1 == lo + n) with
          | some q => bc_to k pc off q.2
          | none => bc_to k pc off t
        | none => false) && ps.toList.all (fun q => decide (lo ≤ q.1 ∧ q.1 ≤ hi))
    | .lookupswitch d qs => bc_to k pc d t && (qs.toList.zip (qs.toList.drop 1)).all (fun (a, next) => a.1 < next.1) && decide (qs.size = ps.size) && (List.range qs.size).all (fun n => match qs[n]?, ps[n]? with
        | some a, some b => decide (a.1 = b.1) && bc_to k pc a.2 b.2
        | _, _ => false)
    | _ => false
  | .getfield n => decide (nx = some (pc + 3)) && decide (n / 64 < 13) && decide (n % 64 < (vwCl.getD (n / 64) ("", TX0, 0)).2.2) && match j with
    | .getfield q => bc_wd wi 0 (.fieldLink (bc_mi k).1 q (bc_cF (n / 64) (n % 64)).1 (bc_cF (n / 64) (n % 64)).2.1 (bc_cF (n / 64) (n % 64)).2.2.1) && decide (len = 3)
    | _ => false
  | .putfield n => decide (nx = some (pc + 3)) && decide (n / 64 < 13) && decide (n % 64 < (vwCl.getD (n / 64) ("", TX0, 0)).2.2) && ((!(bc_cF (n / 64) (n % 64)).2.2.2) || (decide ((bc_mi k).2.1.name = "<init>") && decide ((bc_mi k).1 = (bc_cF (n / 64) (n % 64)).1))) && match j with
    | .putfield q => bc_wd wi 0 (.fieldLink (bc_mi k).1 q (bc_cF (n / 64) (n % 64)).1 (bc_cF (n / 64) (n % 64)).2.1 (bc_cF (n / 64) (n % 64)).2.2.1) && decide (len = 3)
    | _ => false
  | .invokestatic n => decide (nx = some (pc + 3)) && decide (len = 3) && decide ((0 < n ∧ n < 362) ∧ ¬ (357 < n ∧ n < 361)) && decide ((bc_mt n).1 = (bc_mt n).2.2.2.1) && match j with
    | .invokestatic q => (bc_wd wi 0 (.methodLink (bc_mi k).1 q (bc_mi n).2.1) || decide (((bc_mi k).1, q, (bc_mi n).2.1) ∈ bc_nest)) && bc_wd wi 1 (.static (bc_mi n).2.1) && bc_wd wi 2 (.initialized (bc_mi n).2.1.cls)
    | _ => false
  | .invokevirtual n => decide (nx = some (pc + 3)) && decide (len = 3) && decide ((0 < n ∧ n < 362) ∧ ¬ (357 < n ∧ n < 361)) && decide ((bc_mt n).1 = (bc_mt n).2.2.2.1 + 1) && decide ((vwCl.getD (bc_mt n).2.2.2.2 ("", TX0, 0)).1 = (bc_mi n).2.1.cls) && decide ((bc_mt n).2.2.2.2 < 13) && match j with
    | .invokevirtual q => bc_wd wi 0 (.methodLink (bc_mi k).1 q (bc_mi n).2.1) && bc_wd wi 1 (.instanceMethod (bc_mi n).2.1) && bc_wd wi 2 (.selects (bc_mi n).2.1.cls (bc_mi n).2.1 (bc_mi n).2.1) && bc_wd wi 3 (.initialized (bc_mi n).2.1.cls)
    | _ => false
  | .invokespecial n => decide (nx = some (pc + 3)) && decide (len = 3) && decide ((0 < n ∧ n < 362) ∧ ¬ (357 < n ∧ n < 361)) && decide ((bc_mt n).1 = (bc_mt n).2.2.2.1 + 1) && decide ((vwCl.getD (bc_mt n).2.2.2.2 ("", TX0, 0)).1 = (bc_mi n).2.1.cls) && decide ((bc_mt n).2.2.2.2 < 13) && decide ((bc_mi n).2.1.name = "<init>") && decide ((bc_mi n).2.2.2.2 = none) && match j with
    | .invokespecial q => (bc_wd wi 0 (.methodLink (bc_mi k).1 q (bc_mi n).2.1) || decide (((bc_mi k).1, q, (bc_mi n).2.1) ∈ bc_nest)) && bc_wd wi 1 (.instanceMethod (bc_mi n).2.1) && bc_wd wi 2 (.initialized (bc_mi n).2.1.cls)
    | _ => false
  | .ret 0 => decide (nx = some (pc + 3)) && decide (len = 3) && match j with
    | .invokespecial q => bc_wd wi 0 (.methodLink (bc_mi k).1 q Lib.objectInit) && bc_wd wi 1 (.instanceMethod Lib.objectInit) && bc_wd wi 2 (.code Lib.objectInit ⟨#[0xb1]⟩ 1 none)
    | _ => false
  | .ret 1 => decide (nx = some (pc + 3)) && decide (len = 3) && match j with
    | .invokestatic q => bc_wd wi 0 (.methodLink (bc_mi k).1 q arraycopyName) && bc_wd wi 1 (.native arraycopyName) && bc_wd wi 2 (.static arraycopyName) && bc_wd wi 3 (.initialized "java/lang/System")
    | _ => false
  | .ret 2 => decide (nx = some (pc + 3)) && decide (len = 3) && match j with
    | .invokevirtual q => bc_wd wi 0 (.methodLink (bc_mi k).1 q ⟨"java/lang/String", "length", "()I"⟩)
    | _ => false
  | .ret 3 => decide (nx = some (pc + 3)) && decide (len = 3) && match j with
    | .invokevirtual q => bc_wd wi 0 (.methodLink (bc_mi k).1 q ⟨"java/lang/String", "charAt", "(I)C"⟩)
    | _ => false
  | .ret 4 => decide (nx = some (pc + 3)) && decide (len = 3) && match j with
    | .invokestatic q => bc_wd wi 0 (.methodLink (bc_mi k).1 q Lib.Math.abs.name) && bc_wd wi 1 (.static Lib.Math.abs.name) && bc_wd wi 2 (.initialized "java/lang/Math") && bc_wd wi 3 (.code Lib.Math.abs.name Lib.Math.abs.code 1 (some .int))
    | _ => false
  | .ret 5 => decide (nx = some (pc + 3)) && decide (len = 3) && match j with
    | .invokestatic q => bc_wd wi 0 (.methodLink (bc_mi k).1 q Lib.Math.max.name) && bc_wd wi 1 (.static Lib.Math.max.name) && bc_wd wi 2 (.initialized "java/lang/Math") && bc_wd wi 3 (.code Lib.Math.max.name Lib.Math.max.code 2 (some .int))
    | _ => false
  | .ret 6 => decide (nx = some (pc + 3)) && decide (len = 3) && match j with
    | .invokestatic q => bc_wd wi 0 (.methodLink (bc_mi k).1 q Lib.Math.min.name) && bc_wd wi 1 (.static Lib.Math.min.name) && bc_wd wi 2 (.initialized "java/lang/Math") && bc_wd wi 3 (.code Lib.Math.min.name Lib.Math.min.code 2 (some .int))
    | _ => false
  | .new c => decide (nx = some (pc + 3)) && decide (len = 3) && decide (c < 13) && match j with
    | .new q => bc_wd wi 0 (.classLink (bc_mi k).1 q (vwCl.getD c ("", TX0, 0)).1) && bc_wd wi 1 (.instantiable (vwCl.getD c ("", TX0, 0)).1 (vwCl.getD c ("", TX0, 0)).2.2) && bc_wd wi 2 (.initialized (vwCl.getD c ("", TX0, 0)).1)
    | _ => false
  | .newarray a => decide (nx = some (pc + 2)) && decide (len = 2) && decide (j = .newarray a) && bc_wd wi 0 (.arrayClass (newarray.typeOf a))
  | .anewarray c => decide (nx = some (pc + 3)) && decide (len = 3) && decide (c = 2 ∨ c = 3) && match j with
    | .anewarray q => bc_wd wi 0 (.classLink (bc_mi k).1 q (vwCl.getD c ("", TX0, 0)).1)
    | _ => false
  | .ireturn => decide (j = .ireturn) && decide (len = 1)
  | .lreturn => decide (j = .lreturn) && decide (len = 1)
  | .return_ => decide (j = .return_) && decide (len = 1)
  | i => decide (j = i) && decide (len = 1) && decide (nx = some (pc + 1))
noncomputable def bc_ckL (k : Nat) : List Instr → List (Nat × List Nat) → Bool
  | [], [] => true
  | i :: is, (pc, wi) :: ps => (match decode (bc_mi k).2.2.1 pc with
    | .ok (j, len) => bc_rel k pc (ps.head?.map (·.1)) wi j len i
    | .error _ => false) && bc_ckL k is ps
  | _, _ => false
theorem bc_ckL_at {k : Nat} : ∀ (is : List Instr) (ps : List (Nat × List Nat)), bc_ckL k is ps = true → ∀ (n : Nat) (i : Instr) (pc : Nat) (wi : List Nat), is[n]? = some i → ps[n]? = some (pc, wi) →
    ∃ (j : Instr) (len : Nat), decode (bc_mi k).2.2.1 pc = .ok (j, len) ∧ bc_rel k pc ((ps[n + 1]?).map (·.1)) wi j len i = true
  | [], ps, _, n, i, pc, wi, h1, _ => by simp at h1
  | i0 :: is, [], h, n, i, pc, wi, _, h2 => by simp at h2
  | i0 :: is, (pc0, wi0) :: ps, h, n, i, pc, wi, h1, h2 => by
    unfold bc_ckL at h
    simp only [Bool.and_eq_true] at h
    cases n with
    | zero =>
      simp only [List.getElem?_cons_zero, Option.some.injEq, Prod.mk.injEq] at h1 h2
      obtain ⟨rfl, rfl⟩ := h2
      subst h1
      have h3 := h.1
      split at h3
      · rename_i j len hd
        refine ⟨j, len, hd, ?_⟩
        rw [List.getElem?_cons_succ, ← List.head?_eq_getElem?]
        exact h3
      · cases h3
    | succ n =>
      rw [List.getElem?_cons_succ] at h1 h2
      rw [List.getElem?_cons_succ]
      exact bc_ckL_at is ps h.2 n i pc wi h1 h2
/-- a whole method -/
def bc_rcd (r : Option FieldType) : Nat := match r with
  | none => 0 | some .int => 1 | some .long => 2 | some .boolean => 3 | _ => 9
noncomputable def bc_ckM (k : Nat) : Bool := bc_ckL k (bc_code k) (bc_pw k) && decide (bc_pc k 0 = some 0) &&
  decide ((bc_mt k).2.1 = bc_rcd (bc_mi k).2.2.2.2) && decide ((bc_mt k).2.2.1 = (bc_mi k).2.2.2.1) && decide ((bc_mi k).2.1.cls = (bc_mi k).1) && plainName (bc_mi k).2.1.cls &&
  decide ((bc_mi k).2.1.cls ≠ "java/lang/invoke/MethodHandle") && decide ((bc_mi k).2.1.cls ≠ "java/lang/invoke/VarHandle") && decide ((bc_mi k).2.2.2.1 ≤ 31) && decide ((parseMethodDescriptor (bc_mi k).2.1.desc).map (fun d => d.parameters.length) = some (bc_mt k).2.2.2.1)
