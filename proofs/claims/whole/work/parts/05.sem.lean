def bc_lim : Nat → Nat
  | 1 => 13
  | 4 => 10
  | 5 => 10
  | 6 => 10
  | _ => 8
/-- what is built in: Object's constructor, arraycopy, length and charAt of a String constant -/
def bc_b0 (ls : bc_L) (st : bc_St) (h : bc_H) : Option (bc_G × bc_L × bc_St × bc_H) := match st with
  | .inr (.inr ((0, _), _)) :: st => some (none, ls, st, h)
  | _ => none
def bc_b1 (ls : bc_L) (st : bc_St) (h : bc_H) : Option (bc_G × bc_L × bc_St × bc_H) := match st with
  | .inl n :: .inl d :: .inr (.inr ((1, n2), r2)) :: .inl s :: .inr (.inr ((1, n1), r1)) :: st => some (bc_g ((0 ≤ s ∧ 0 ≤ d ∧ 0 ≤ n) ∧ s + n ≤ (n1 : Int) ∧ d + n ≤ (n2 : Int)), ls, st, bc_blk h r1 s r2 d n)
  | .inl n :: .inl d :: .inr (.inr ((3, n2), r2)) :: .inl s :: .inr (.inr ((3, n1), r1)) :: st => some (bc_g ((0 ≤ s ∧ 0 ≤ d ∧ 0 ≤ n) ∧ s + n ≤ (n1 : Int) ∧ d + n ≤ (n2 : Int)), ls, st, bc_blk h r1 s r2 d n)
  | _ => none
def bc_b2 (ls : bc_L) (st : bc_St) (h : bc_H) : Option (bc_G × bc_L × bc_St × bc_H) := match st with
  | .inr (.inr ((8, j), _)) :: st => some (none, ls, .inl ((bc_str j).length : Int) :: st, h)
  | _ => none
def bc_b3 (ls : bc_L) (st : bc_St) (h : bc_H) : Option (bc_G × bc_L × bc_St × bc_H) := match st with
  | .inl i :: .inr (.inr ((8, j), _)) :: st => some (bc_g (0 ≤ i ∧ i < ((bc_str j).length : Int)), ls, .inl ((bc_str j).getD i.toNat 0) :: st, h)
  | _ => none
def bc_b4 (ls : bc_L) (st : bc_St) (h : bc_H) : Option (bc_G × bc_L × bc_St × bc_H) := match st with
  | .inl a :: st => some (none, ls, .inl (if 0 ≤ a then a else bc_w32 (0 - a)) :: st, h)
  | _ => none
def bc_b5 (ls : bc_L) (st : bc_St) (h : bc_H) : Option (bc_G × bc_L × bc_St × bc_H) := match st with
  | .inl b :: .inl a :: st => some (none, ls, .inl (if a < b then b else a) :: st, h)
  | _ => none
def bc_b6 (ls : bc_L) (st : bc_St) (h : bc_H) : Option (bc_G × bc_L × bc_St × bc_H) := match st with
  | .inl b :: .inl a :: st => some (none, ls, .inl (if b < a then b else a) :: st, h)
  | _ => none
def bc_bt (b : Nat) (ls : bc_L) (st : bc_St) (h : bc_H) : Option (bc_G × bc_L × bc_St × bc_H) := match b with
  | 0 => bc_b0 ls st h
  | 1 => bc_b1 ls st h
  | 2 => bc_b2 ls st h
  | 3 => bc_b3 ls st h
  | 4 => bc_b4 ls st h
  | 5 => bc_b5 ls st h
  | 6 => bc_b6 ls st h
  | _ => none
/-- one instruction that neither branches, calls, ends nor makes a cell: what must hold, and what is then -/
def bc_s1 (ph : Bool) (i : Instr) (ls : bc_L) (st : bc_St) (h : bc_H) : Option (bc_G × bc_L × bc_St × bc_H) :=
  match i with
  | .iconst n => some (none, ls, .inl n :: st, h)
  | .sipush n => some (none, ls, .inr (.inl n) :: st, h)
  | .ldc j => some (none, ls, .inr (.inr ((8, j), -10)) :: st, h)
  | .iload j => match bc_lget ls j with | some (.inl x) => some (none, ls, .inl x :: st, h) | _ => none
  | .lload j => match bc_lget ls j with | some (.inr (.inl x)) => some (none, ls, .inr (.inl x) :: st, h) | _ => none
  | .aload j => match bc_lget ls j with | some (.inr (.inr x)) => some (none, ls, .inr (.inr x) :: st, h) | _ => none
  | .istore j => match st with | .inl x :: st => some (none, bc_sto ls j (.inl x), st, h) | _ => none
  | .lstore j => match st with | .inr (.inl x) :: st => some (none, bc_sto2 ls j (.inr (.inl x)), st, h) | _ => none
  | .astore j => match st with | .inr (.inr x) :: st => some (none, bc_sto ls j (.inr (.inr x)), st, h) | _ => none
  | .iinc j n => match bc_lget ls j with | some (.inl x) => some (none, bc_sto ls j (.inl (bc_w32 (x + n))), st, h) | _ => none
  | .iadd => match st with | .inl b :: .inl a :: st => some (none, ls, .inl (bc_w32 (a + b)) :: st, h) | _ => none
  | .isub => match st with | .inl b :: .inl a :: st => some (none, ls, .inl (bc_w32 (a - b)) :: st, h) | _ => none
  | .imul => match st with | .inl b :: .inl a :: st => some (none, ls, .inl (bc_w32 (a * b)) :: st, h) | _ => none
  | .idiv => match st with | .inl b :: .inl a :: st => some (bc_g (b ≠ 0), ls, .inl (bc_w32 (a.tdiv b)) :: st, h) | _ => none
  | .irem => match st with | .inl b :: .inl a :: st => some (bc_g (b ≠ 0), ls, .inl (a.tmod b) :: st, h) | _ => none
  | .ineg => match st with | .inl a :: st => some (none, ls, .inl (bc_w32 (-a)) :: st, h) | _ => none
  | .iand => match st with | .inl b :: .inl a :: st => some (none, ls, .inl (bc_and a b) :: st, h) | _ => none
  | .ior => match st with | .inl b :: .inl a :: st => some (none, ls, .inl (bc_or a b) :: st, h) | _ => none
  | .ixor => match st with | .inl b :: .inl a :: st => some (none, ls, .inl (bc_xor a b) :: st, h) | _ => none
  | .ishl => match st with | .inl b :: .inl a :: st => some (none, ls, .inl (bc_shl a b) :: st, h) | _ => none
  | .ishr => match st with | .inl b :: .inl a :: st => some (none, ls, .inl (bc_shr a b) :: st, h) | _ => none
  | .iushr => match st with | .inl b :: .inl a :: st => some (none, ls, .inl (bc_ushr a b) :: st, h) | _ => none
  | .ladd => match st with | .inr (.inl b) :: .inr (.inl a) :: st => some (none, ls, .inr (.inl (bc_w64 (a + b))) :: st, h) | _ => none
  | .lsub => match st with | .inr (.inl b) :: .inr (.inl a) :: st => some (none, ls, .inr (.inl (bc_w64 (a - b))) :: st, h) | _ => none
  | .lmul => match st with | .inr (.inl b) :: .inr (.inl a) :: st => some (none, ls, .inr (.inl (bc_w64 (a * b))) :: st, h) | _ => none
  | .ldiv => match st with | .inr (.inl b) :: .inr (.inl a) :: st => some (bc_g (b ≠ 0), ls, .inr (.inl (bc_w64 (a.tdiv b))) :: st, h) | _ => none
  | .lrem => match st with | .inr (.inl b) :: .inr (.inl a) :: st => some (bc_g (b ≠ 0), ls, .inr (.inl (a.tmod b)) :: st, h) | _ => none
  | .land => match st with | .inr (.inl b) :: .inr (.inl a) :: st => some (none, ls, .inr (.inl (bc_landL a b)) :: st, h) | _ => none
  | .lor => match st with | .inr (.inl b) :: .inr (.inl a) :: st => some (none, ls, .inr (.inl (bc_lorL a b)) :: st, h) | _ => none
  | .lshl => match st with | .inl b :: .inr (.inl a) :: st => some (none, ls, .inr (.inl (bc_lshl a b)) :: st, h) | _ => none
  | .lshr => match st with | .inl b :: .inr (.inl a) :: st => some (none, ls, .inr (.inl (bc_lshr a b)) :: st, h) | _ => none
  | .lushr => match st with | .inl b :: .inr (.inl a) :: st => some (none, ls, .inr (.inl (bc_lushr a b)) :: st, h) | _ => none
  | .lcmp => match st with | .inr (.inl b) :: .inr (.inl a) :: st => some (none, ls, .inl (bc_lcmp a b) :: st, h) | _ => none
  | .i2l => match st with | .inl a :: st => some (none, ls, .inr (.inl a) :: st, h) | _ => none
  | .l2i => match st with | .inr (.inl a) :: st => some (none, ls, .inl (bc_w32 a) :: st, h) | _ => none
  | .i2b => match st with | .inl a :: st => some (none, ls, .inl (bc_w8 a) :: st, h) | _ => none
  | .i2s => match st with | .inl a :: st => some (none, ls, .inl (bc_w16 a) :: st, h) | _ => none
  | .dup => match st with
    | .inl a :: st => some (none, ls, .inl a :: .inl a :: st, h)
    | .inr (.inr a) :: st => some (none, ls, .inr (.inr a) :: .inr (.inr a) :: st, h)
    | _ => none
  | .dup2 => match st with
    | .inl a :: .inr (.inr b) :: st => some (none, ls, .inl a :: .inr (.inr b) :: .inl a :: .inr (.inr b) :: st, h)
    | .inr (.inl a) :: st => some (none, ls, .inr (.inl a) :: .inr (.inl a) :: st, h)
    | _ => none
  | .pop => match st with
    | .inl _ :: st => some (none, ls, st, h)
    | .inr (.inr _) :: st => some (none, ls, st, h)
    | _ => none
  | .getfield n => match st with
    | .inr (.inr ((0, c), r)) :: st => match Nat.beq c (n / 64) with
      | true => match bc_ft (n / 64) (n % 64) with
        | (10, _) => some (none, ls, .inl (h r (n % 64 : Nat)) :: st, h)
        | (11, _) => some (none, ls, .inr (.inl (h r (n % 64 : Nat))) :: st, h)
        | (12, _) => some (none, ls, .inl (h r (n % 64 : Nat)) :: st, h)
        | sh => match ph, bc_fo (n / 64) (n % 64) with
          | true, some o => some (none, ls, .inr (.inr (sh, r + o)) :: st, h)
          | _, _ => some (bc_g (0 ≤ h r (n % 64 : Nat)), ls, .inr (.inr (sh, h r (n % 64 : Nat))) :: st, h)
      | false => none
    | _ => none
  | .putfield n => match st with
    | v :: .inr (.inr ((0, c), r)) :: st => match Nat.beq c (n / 64) with
      | true => match v, bc_ft (n / 64) (n % 64) with
        | .inl x, (10, _) => some (none, ls, st, bc_upd h r (n % 64 : Nat) x)
        | .inl x, (12, _) => some (bc_g (x = 0 ∨ x = 1), ls, st, bc_upd h r (n % 64 : Nat) x)
        | .inr (.inl x), (11, _) => some (none, ls, st, bc_upd h r (n % 64 : Nat) x)
        | .inr (.inr ((a, b), x)), (k, m) => match ph, bc_fo (n / 64) (n % 64) with
          | true, some _ => none
          | _, _ => match Nat.beq a k, Nat.beq b m with
            | true, true => some (none, ls, st, bc_upd h r (n % 64 : Nat) x)
            | _, _ => none
        | _, _ => none
      | false => none
    | _ => none
  | .arraylength => match st with
    | .inr (.inr ((7, _), _)) :: st => match ph with
      | true => some (none, ls, .inl (h (-3) 0) :: st, h)
      | false => none
    | .inr (.inr ((1, n), _)) :: st => some (none, ls, .inl (n : Int) :: st, h)
    | .inr (.inr ((3, n), _)) :: st => some (none, ls, .inl (n : Int) :: st, h)
    | _ => none
  | .iaload => match st with
    | .inl i :: .inr (.inr ((1, n), r)) :: st => some (bc_g (0 ≤ i ∧ i < (n : Int)), ls, .inl (h r i) :: st, h)
    | .inl i :: .inr (.inr ((7, _), _)) :: st => match ph with
      | true => some (bc_g (0 ≤ i ∧ i < h (-3) 0), ls, .inl (h (-2) i) :: st, h)
      | false => none
    | _ => none
  | .laload => match st with
    | .inl i :: .inr (.inr ((3, n), r)) :: st => some (bc_g (0 ≤ i ∧ i < (n : Int)), ls, .inr (.inl (h r i)) :: st, h)
    | _ => none
  | .baload => match st with
    | .inl i :: .inr (.inr ((2, n), r)) :: st => some (bc_g (0 ≤ i ∧ i < (n : Int)), ls, .inl (h r i) :: st, h)
    | .inl i :: .inr (.inr ((4, n), r)) :: st => some (bc_g (0 ≤ i ∧ i < (n : Int)), ls, .inl (h r i) :: st, h)
    | _ => none
  | .aaload => match st with
    | .inl i :: .inr (.inr ((5, n), r)) :: st => some (bc_g ((0 ≤ i ∧ i < (n : Int)) ∧ 0 ≤ h r i), ls, .inr (.inr ((0, 2), h r i)) :: st, h)
    | .inl i :: .inr (.inr ((6, n), r)) :: st => some (bc_g ((0 ≤ i ∧ i < (n : Int)) ∧ 0 ≤ h r i), ls, .inr (.inr ((0, 3), h r i)) :: st, h)
    | _ => none
  | .iastore => match st with
    | .inl x :: .inl i :: .inr (.inr ((1, n), r)) :: st => some (bc_g (0 ≤ i ∧ i < (n : Int)), ls, st, bc_upd h r i x)
    | _ => none
  | .lastore => match st with
    | .inr (.inl x) :: .inl i :: .inr (.inr ((3, n), r)) :: st => some (bc_g (0 ≤ i ∧ i < (n : Int)), ls, st, bc_upd h r i x)
    | _ => none
  | .bastore => match st with
    | .inl x :: .inl i :: .inr (.inr ((2, n), r)) :: st => some (bc_g (0 ≤ i ∧ i < (n : Int)), ls, st, bc_upd h r i (bc_w8 x))
    | .inl x :: .inl i :: .inr (.inr ((4, n), r)) :: st => some (bc_g ((0 ≤ i ∧ i < (n : Int)) ∧ (x = 0 ∨ x = 1)), ls, st, bc_upd h r i x)
    | _ => none
  | .aastore => match st with
    | .inr (.inr ((0, 2), x)) :: .inl i :: .inr (.inr ((5, n), r)) :: st => some (bc_g (0 ≤ i ∧ i < (n : Int)), ls, st, bc_upd h r i x)
    | .inr (.inr ((0, 3), x)) :: .inl i :: .inr (.inr ((6, n), r)) :: st => some (bc_g (0 ≤ i ∧ i < (n : Int)), ls, st, bc_upd h r i x)
    | _ => none
  | .ret b => match Nat.ble (bc_cat st) (bc_lim b) with
    | true => bc_bt b ls st h
    | false => none
  | _ => none
def bc_wp (x : Option (bc_G × bc_L × bc_St × bc_H)) (K : bc_L → bc_St → bc_H → Prop) : Prop :=
  match x with
  | some (none, ls, st, h) => K ls st h
  | some (some g, ls, st, h) => g.1 ∧ K ls st h
  | none => False
/-- what a new cell holds: 0; nothing, where something is named -/
def bc_new (h : bc_H) (np : Nat) (sh : Nat × Nat) : bc_H := match sh with
  | (0, c) => bc_row h np (fun j => match bc_ft c j.toNat with | (10, _) => 0 | (11, _) => 0 | (12, _) => 0 | _ => -1)
  | (5, _) => bc_row h np (fun _ => -1)
  | (6, _) => bc_row h np (fun _ => -1)
  | _ => bc_row h np (fun _ => 0)
abbrev bc_Q : Type := Option bc_V → bc_H → Prop
/-- a predicate of points: depth, method, place, cells made, locals, operands, memory, cells at the end, what is to hold then -/
abbrev bc_P : Type := Nat → Nat → Nat → Nat → bc_L → bc_St → bc_H → Nat → bc_Q → Prop
def bc_sw (J : Nat → Prop) (x : Int) (d : Nat) : List (Int × Int) → Prop
  | [] => J d
  | (v, t) :: l => (x = v → J t.toNat) ∧ (x ≠ v → bc_sw J x d l)
def bc_rt (k nq np : Nat) (Q : bc_Q) (v : Option bc_V) (h : bc_H) : Prop := match Nat.beq np nq, (bc_mt k).2.1, v with
  | true, 0, none => Q none h
  | true, 1, some (.inl x) => Q (some (.inl x)) h
  | true, 2, some (.inr (.inl x)) => Q (some (.inr (.inl x))) h
  | true, 3, some (.inl x) => (x = 0 ∨ x = 1) ∧ Q (some (.inl x)) h
  | _, _, _ => False
def bc_psh (r : Option bc_V) (st : bc_St) : bc_St := match r with
  | some v => v :: st
  | none => st
/-- the receiver is of the method's class -/
def bc_hd (k : Nat) (as : bc_St) : Bool := match as with
  | .inr (.inr ((0, c), _)) :: _ => Nat.beq c (bc_mt k).2.2.2.2
  | _ => false
def bc_cg (vt : Bool) (k : Nat) (as st : bc_St) : Bool := match Nat.ble (bc_cat st) 8, Nat.ble (bc_cat as) (bc_mt k).2.2.1, vt with
  | true, true, true => bc_hd k as
  | true, true, false => true
  | _, _, _ => false
/-- a call: the callee's end, and on -/
def bc_cal (P : bc_P) (vt : Bool) (d k nq : Nat) (np : Nat) (st : bc_St) (h : bc_H) (K : Nat → bc_St → bc_H → Prop) : Prop := match d, bc_take (bc_mt k).1 st [] with
  | d + 1, some (as, st) => match bc_cg vt k as st with
    | true => ∃ (nr : Nat) (M : bc_Q), (np ≤ nr ∧ nr ≤ nq) ∧ P d k 0 np (bc_pad (bc_ent as) (bc_mt k).2.2.1) [] h nr M ∧ ∀ r h', M r h' → K nr (bc_psh r st) h'
    | false => False
  | _, _ => False
def bc_ak : ArrayType → Nat
  | .int => 1 | .byte => 2 | .long => 3 | .boolean => 4 | _ => 9
/-- from here on, up to the next places that are come to by a jump -/
def bc_seg (ph : Bool) (P : bc_P) (d k nq : Nat) (Q : bc_Q) : List Instr → Nat → bc_L → bc_St → bc_H → Prop
  | [], _, _, _, _ => False
  | i :: is, np, ls, st, h => match i with
    | .goto t => P d k t.toNat np ls st h nq Q
    | .ifCond c t => match st with
      | .inl a :: st => (bc_yes c a 0 → P d k t.toNat np ls st h nq Q) ∧ (bc_not c a 0 → bc_seg ph P d k nq Q is np ls st h)
      | _ => False
    | .if_icmp c t => match st with
      | .inl b :: .inl a :: st => (bc_yes c a b → P d k t.toNat np ls st h nq Q) ∧ (bc_not c a b → bc_seg ph P d k nq Q is np ls st h)
      | _ => False
    | .lookupswitch t ps => match st with
      | .inl a :: st => bc_sw (fun t => P d k t np ls st h nq Q) a t.toNat ps.toList
      | _ => False
    | .ireturn => match st with
      | [.inl x] => bc_rt k nq np Q (some (.inl x)) h
      | _ => False
    | .lreturn => match st with
      | [.inr (.inl x)] => bc_rt k nq np Q (some (.inr (.inl x))) h
      | _ => False
    | .return_ => match st with
      | [] => bc_rt k nq np Q none h
      | _ => False
    | .invokestatic n => bc_cal P false d n nq np st h (fun nr st h => bc_seg ph P d k nq Q is nr ls st h)
    | .invokevirtual n => bc_cal P true d n nq np st h (fun nr st h => bc_seg ph P d k nq Q is nr ls st h)
    | .invokespecial n => bc_cal P true d n nq np st h (fun nr st h => bc_seg ph P d k nq Q is nr ls st h)
    | .new c => match ph, bc_SH[np]? with
      | false, some (0, c2) => (c = c2 ∧ np + 1 ≤ nq) ∧ bc_seg ph P d k nq Q is (np + 1) ls (.inr (.inr ((0, c), (np : Int))) :: st) (bc_new h np (0, c))
      | _, _ => False
    | .newarray a => match ph, st, bc_SH[np]? with
      | false, .inl n :: st, some (b, m) => ((b = bc_ak a ∧ n = (m : Int)) ∧ np + 1 ≤ nq) ∧ bc_seg ph P d k nq Q is (np + 1) ls (.inr (.inr ((b, m), (np : Int))) :: st) (bc_new h np (b, m))
      | _, _, _ => False
    | .anewarray c => match ph, st, bc_SH[np]? with
      | false, .inl n :: st, some (b, m) => ((b = c + 3 ∧ n = (m : Int)) ∧ np + 1 ≤ nq) ∧ bc_seg ph P d k nq Q is (np + 1) ls (.inr (.inr ((b, m), (np : Int))) :: st) (bc_new h np (b, m))
      | _, _, _ => False
    | i => bc_wp (bc_s1 ph i ls st h) (fun ls st h => bc_seg ph P d k nq Q is np ls st h)
